/**
 * Counts answers that are not as due; a test ends with done(). What is asked behind says(..) is due
 * by that sentence of the document, and each sentence that is told must have been asked about.
 */
final class Check {
    private String sentence = "";
    private int askedAhead;
    private int sentences;
    private int wrong;
    private int asked;

    void says(String words) {
        endSentence();
        sentence = words;
        sentences++;
        askedAhead = asked;
    }

    private void endSentence() {
        if (!sentence.isEmpty() && asked == askedAhead) {
            wrong++;
            System.out.println("nothing was asked about: " + sentence);
        }
    }

    void due(String call, long got, long want) {
        asked++;
        if (got != want) {
            wrong++;
            System.out.println("[" + sentence + "] " + call + " answered " + got + ", due is " + want);
        }
    }

    /** The FILE breaks this RULE at this PLACE; it passes if the RULE is 0. */
    void judged(String what, byte[] file, int rule, int place) {
        CodeGate gate = fed(file);
        due(what + ": judge()", gate.judge(), rule == 0 ? 0 : 1 + place);
        due(what + ": rule()", gate.rule(), rule);
    }

    void breaks(String what, byte[] file, int rule, int place) {
        judged(what, file, rule, place);
    }

    void passes(String what, byte[] file) {
        judged(what, file, 0, 0);
    }

    /** The FILE has just these bytes; of a long one not each is asked, to keep to 512 calls. */
    void holds(String what, CodeGate gate, byte[] file) {
        int step = Math.max(1, file.length / 40);
        for (int i = 0; i < file.length; i += step) {
            due(what + ": byteAt(" + i + ")", gate.byteAt(i), file[i] & 255);
        }
        if (file.length > 0) {
            due(what + ": the last byte", gate.byteAt(file.length - 1), file[file.length - 1] & 255);
        }
        due(what + ": behind the last byte", gate.byteAt(file.length), CodeGate.BAD);
    }

    /** A new object that has been fed with these bytes. */
    static CodeGate fed(byte[] file) {
        CodeGate gate = new CodeGate();
        feedAll(gate, file);
        return gate;
    }

    static void feedAll(CodeGate gate, byte[] file) {
        for (int at = 0; at < file.length; at += 16) {
            int n = Math.min(16, file.length - at);
            int[] words = new int[4];
            for (int i = 0; i < n; i++) {
                words[i / 4] |= (file[at + i] & 255) << (24 - 8 * (i % 4));
            }
            gate.feed(words[0], words[1], words[2], words[3], n);
        }
    }

    void done() {
        endSentence();
        String told = sentences == 0 ? "" : " of " + sentences + " sentences";
        System.out.println(wrong == 0 ? asked + " answers as due" + told : wrong + " of " + asked + " answers not as due");
        if (wrong != 0) {
            System.exit(1);
        }
    }
}

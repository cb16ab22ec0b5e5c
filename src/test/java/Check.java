/** Counts answers that are not as due; a test ends with done(). */
final class Check {
    private int wrong;
    private int asked;

    void due(String call, long got, long want) {
        asked++;
        if (got != want) {
            wrong++;
            System.out.println(call + " answered " + got + ", due is " + want);
        }
    }

    /** The FILE breaks this RULE at this PLACE. */
    void breaks(String what, byte[] file, int rule, int place) {
        CodeGate gate = fed(file);
        due(what + ": judge()", gate.judge(), 1 + place);
        due(what + ": rule()", gate.rule(), rule);
    }

    void passes(String what, byte[] file) {
        CodeGate gate = fed(file);
        due(what + ": judge()", gate.judge(), 0);
        due(what + ": rule()", gate.rule(), 0);
    }

    /** A new object that has been fed with these bytes. */
    static CodeGate fed(byte[] file) {
        CodeGate gate = new CodeGate();
        feedAll(gate, file);
        return gate;
    }

    static void feedAll(CodeGate gate, byte[] file) {
        for (int at = 0; at < file.length; at += 16) {
            int n = Math.min(16, file.length - at);
            int[] words = new int[4];
            for (int i = 0; i < n; i++) {
                words[i / 4] |= (file[at + i] & 255) << (24 - 8 * (i % 4));
            }
            gate.feed(words[0], words[1], words[2], words[3], n);
        }
    }

    void done() {
        System.out.println(wrong == 0 ? asked + " answers as due" : wrong + " of " + asked + " answers not as due");
        if (wrong != 0) {
            System.exit(1);
        }
    }
}

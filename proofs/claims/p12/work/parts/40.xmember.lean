/-! LINKS in the class: members -/
theorem sAll_ok {c : Nat → P Unit} (hc : ∀ k i q, c k i = .ok q → q.2 = i) : ∀ (m k i : Nat) (q : Unit × Nat), sAll c m k i = .ok q → q.2 = i ∧ ∀ t, k ≤ t → t < k + m → c t i = .ok ((), i) := by
  intro m
  induction m with
  | zero =>
    intro k i q h
    cases h
    exact ⟨rfl, fun t h1 h2 => by omega⟩
  | succ m ih =>
    intro k i q h
    rw [sAll] at h
    cases hr : c k i with
    | error e => rw [pb_x hr] at h; cases h
    | ok p =>
      have hp := hc k i p hr
      obtain ⟨x, j⟩ := p
      dsimp only at hp
      subst hp
      rw [pb_s hr] at h
      obtain ⟨g1, g2⟩ := ih (k + 1) j q h
      refine ⟨g1, fun t h1 h2 => ?_⟩
      by_cases e : t = k
      · subst e; exact hr
      · exact g2 t (by omega) (by omega)
theorem pn_ok {b : Bool} {r w i : Nat} {q : Unit × Nat} (h : pn b r w i = .ok q) : b = true ∧ q = ((), i) := by
  unfold pn at h
  split at h
  · rename_i z
    cases h
    exact ⟨z, rfl⟩
  · cases h
theorem pb_ok {α β : Type} {p : P α} {f : α → P β} {i : Nat} {q : β × Nat} (h : pb p f i = .ok q) : ∃ a j, p i = .ok (a, j) ∧ f a j = .ok q := by
  unfold pb at h
  split at h
  · rename_i z hz
    exact ⟨z.1, z.2, hz, h⟩
  · cases h
theorem sLk1_i {F : Nat → Nat} {c : Nat} {K B : Nat → Nat} (k i : Nat) (q : Unit × Nat) (h : sLk1 F c K B k i = .ok q) : q.2 = i := by
  unfold sLk1 at h
  split at h
  · obtain ⟨a, j, h1, h2⟩ := pb_ok h
    have := (pn_ok h1).2
    cases this
    split at h2
    · obtain ⟨a, j, h3, h4⟩ := pb_ok h2
      have := (pn_ok h3).2
      cases this
      rw [(pn_ok h4).2]
    · rw [(pn_ok h2).2]
  · split at h
    · rw [(pn_ok h).2]
    · split at h
      · obtain ⟨a, j, h1, h2⟩ := pb_ok h
        have := (pn_ok h1).2
        cases this
        obtain ⟨a, j, h3, h4⟩ := pb_ok h2
        have := (pn_ok h3).2
        cases this
        obtain ⟨a, j, h5, h6⟩ := pb_ok h4
        have := (pn_ok h5).2
        cases this
        obtain ⟨a, j, h7, h8⟩ := pb_ok h6
        have := (pn_ok h7).2
        cases this
        rw [(pn_ok h8).2]
      · cases h; rfl
theorem sLk1_i_o {F : Nat → Nat} {c : Nat} {K B : Nat → Nat} (k i : Nat) (q : Unit × Nat) (h : sLk1_o F c K B k i = .ok q) : q.2 = i := by
  unfold sLk1_o at h
  split at h
  · obtain ⟨a, j, h1, h2⟩ := pb_ok h
    have := (pn_ok h1).2
    cases this
    split at h2
    · obtain ⟨a, j, h3, h4⟩ := pb_ok h2
      have := (pn_ok h3).2
      cases this
      rw [(pn_ok h4).2]
    · rw [(pn_ok h2).2]
  · split at h
    · rw [(pn_ok h).2]
    · split at h
      · obtain ⟨a, j, h1, h2⟩ := pb_ok h
        have := (pn_ok h1).2
        cases this
        obtain ⟨a, j, h3, h4⟩ := pb_ok h2
        have := (pn_ok h3).2
        cases this
        obtain ⟨a, j, h5, h6⟩ := pb_ok h4
        have := (pn_ok h5).2
        cases this
        obtain ⟨a, j, h7, h8⟩ := pb_ok h6
        have := (pn_ok h7).2
        cases this
        rw [(pn_ok h8).2]
      · cases h; rfl
theorem sLk2_i {F : Nat → Nat} {c : Nat} {K B : Nat → Nat} (k i : Nat) (q : Unit × Nat) (h : sLk2 F c K B k i = .ok q) : q.2 = i := by
  unfold sLk2 at h
  split at h
  · obtain ⟨a, j, h1, h2⟩ := pb_ok h
    have := (pn_ok h1).2
    cases this
    obtain ⟨a, j, h3, h4⟩ := pb_ok h2
    have := (pn_ok h3).2
    cases this
    rw [(pn_ok h4).2]
  · cases h; rfl
theorem sLk2_i_o {F : Nat → Nat} {c : Nat} {K B : Nat → Nat} (k i : Nat) (q : Unit × Nat) (h : sLk2_o F c K B k i = .ok q) : q.2 = i := by
  unfold sLk2_o at h
  split at h
  · obtain ⟨a, j, h1, h2⟩ := pb_ok h
    have := (pn_ok h1).2
    cases this
    obtain ⟨a, j, h3, h4⟩ := pb_ok h2
    have := (pn_ok h3).2
    cases this
    rw [(pn_ok h4).2]
  · cases h; rfl
/-- what the first round leaves of a NAMED -/
def NmOK (F : Nat → Nat) (c : Nat) (K B : Nat → Nat) : Prop := ∀ m, isK c K m 12 = true → isK c K (n2 F (B m + 1)) 1 = true ∧ isK c K (n2 F (B m + 3)) 1 = true ∧ (dsT F B (n2 F (B m + 3))).isSome = true ∧ (plT F B (n2 F (B m + 1)) || wT F B 0 (n2 F (B m + 1)) || wT F B 1 (n2 F (B m + 1))) = true ∧ (dsT F B (n2 F (B m + 3)) != some true) = true
/-- what the first round leaves of a NAMED -/
def NmOK_o (F : Nat → Nat) (c : Nat) (K B : Nat → Nat) : Prop := ∀ m, isK c K m 12 = true → isK c K (n2 F (B m + 1)) 1 = true ∧ isK c K (n2 F (B m + 3)) 1 = true ∧ (dsT_o F B (n2 F (B m + 3))).isSome = true ∧ (plT F B (n2 F (B m + 1)) || wT F B 0 (n2 F (B m + 1)) || wT F B 1 (n2 F (B m + 1))) = true ∧ (dsT_o F B (n2 F (B m + 3)) != some true) = true
theorem NmOK_of {F : Nat → Nat} {c i : Nat} {K B : Nat → Nat} {q : Unit × Nat} (h : sAll (sLk1 F c K B) (c - 1) 1 i = .ok q) : NmOK F c K B := by
  intro m hm
  obtain ⟨m1, m2, m3⟩ := isK_t.mp hm
  have e := (sAll_ok sLk1_i _ _ _ _ h).2 m m1 (by omega)
  unfold sLk1 at e
  rw [if_neg (by omega), if_neg (by omega), if_pos m3] at e
  obtain ⟨a, j, h1, h2⟩ := pb_ok e
  obtain ⟨a2, j2, h3, h4⟩ := pb_ok h2
  obtain ⟨a3, j3, h5, h6⟩ := pb_ok h4
  obtain ⟨a4, j4, h7, h8⟩ := pb_ok h6
  exact ⟨(pn_ok h1).1, (pn_ok h5).1, (pn_ok h7).1, (pn_ok h3).1, (pn_ok h8).1⟩
theorem NmOK_of_o {F : Nat → Nat} {c i : Nat} {K B : Nat → Nat} {q : Unit × Nat} (h : sAll (sLk1_o F c K B) (c - 1) 1 i = .ok q) : NmOK_o F c K B := by
  intro m hm
  obtain ⟨m1, m2, m3⟩ := isK_t.mp hm
  have e := (sAll_ok sLk1_i_o _ _ _ _ h).2 m m1 (by omega)
  unfold sLk1_o at e
  rw [if_neg (by omega), if_neg (by omega), if_pos m3] at e
  obtain ⟨a, j, h1, h2⟩ := pb_ok e
  obtain ⟨a2, j2, h3, h4⟩ := pb_ok h2
  obtain ⟨a3, j3, h5, h6⟩ := pb_ok h4
  obtain ⟨a4, j4, h7, h8⟩ := pb_ok h6
  exact ⟨(pn_ok h1).1, (pn_ok h5).1, (pn_ok h7).1, (pn_ok h3).1, (pn_ok h8).1⟩
theorem fits_eq (u : St) {kd : Nat} (hk : kd = 9 ∨ kd = 10 ∨ kd = 11) {nf tf : Int32} {p w f m v : Bool} (h1 : (nf &&& 1 = 0) ↔ p = false) (h4 : (nf &&& 4 = 0) ↔ w = false) (h16 : (tf &&& 16 = 0) ↔ f = false) (h32 : (tf &&& 32 = 0) ↔ m = false) (h128 : (tf &&& 128 = 0) ↔ v = false) : f_P_fits u (nI kd) nf tf = some (if (if kd = 9 then p && f else if kd = 11 then p && m else m && (p || (w && v))) then 1 else 0, u) := by
  unfold f_P_fits
  simp only [bnd_s]
  rcases hk with rfl | rfl | rfl
  · rw [if_pos (show nI 9 = 9 from rfl)]
    cases p <;> cases f <;> simp_all [gb_0, gb_1]
  · rw [if_neg (show ¬ nI 10 = 9 by decide), if_pos (show nI 10 = 10 from rfl)]
    cases p <;> cases m <;> cases w <;> cases v <;> simp_all [gb_0, gb_1]
  · rw [if_neg (show ¬ nI 11 = 9 by decide), if_neg (show ¬ nI 11 = 10 by decide)]
    cases p <;> cases m <;> simp_all [gb_0, gb_1]
theorem fits_any (u : St) (a b d : Int32) : ∃ z, f_P_fits u a b d = some (z, u) := by
  unfold f_P_fits
  simp only [bnd_s]
  repeat' split
  all_goals first | exact ⟨_, gb_0⟩ | exact ⟨_, gb_1⟩

/-! THE CLASS'S POOL: leaf functions. Scalar 6 count; arrays 4 kinds, 5 places, 6 facts, 7 measures, 8 sums -/
def tfR (F : Nat → Nat) (n a : Nat) : Int32 := if n = 0 then 0 else if F a = 40 then mfR (mdE F (n - 1) (a + 1)) else match tyE F n a with
  | none => 0
  | some t => if t = n then (if isR (F (a + n - 1)) then 80 else 16) else 0
def tfR_o (F : Nat → Nat) (n a : Nat) : Int32 := if n = 0 then 0 else if F a = 40 then mfR (mdE_o F (n - 1) (a + 1)) else match tyE F n a with
  | none => 0
  | some t => if t = n then (if isR (F (a + n - 1)) then 80 else 16) else 0
theorem typeFacts_eq_o {u : St} (hb : bn (u.2 0)) {a n : Nat} (h4 : a + n ≤ 4000) : f_D_typeFacts u (nI a) (nI (a + n)) = some (tfR_o (xF u) n a, u) := by
  unfold f_D_typeFacts tfR_o
  by_cases h0 : n = 0
  · subst h0
    rw [if_neg (show ¬ nI a < nI (a + 0) from nI_nlt (Nat.le_refl _) (by omega)), if_pos rfl]
  · rw [if_pos (nI_lt (by omega) (by omega)), if_neg h0, gd_in (by omega) (by decide), ncl (by omega)]
    have h1 : u.2 0 a = 40 ↔ xF u a = 40 := bn_l hb _ 40 (by decide)
    by_cases c1 : xF u a = 40
    · have hm := methodFacts_eq_o hb (a := a + 1) (n := n - 1) (by omega)
      rw [show a + 1 + (n - 1) = a + n by omega] at hm
      rw [if_pos (h1.mpr c1), if_pos c1, nI_1, hm, cI_s]
    · rw [if_neg (fun z => c1 (h1.mp z)), if_neg c1, typeEnd_eq hb h4, cI_s]
      cases ht : tyE (xF u) n a with
      | none =>
        have : ¬ teR a none = nI (a + n) := by
          show ¬ (-1 : Int32) = nI (a + n)
          intro z
          have z2 := congrArg Int32.toInt z
          rw [nI_toInt (by omega)] at z2
          have : (-1 : Int32).toInt = -1 := by decide
          omega
        rw [if_neg this, cT_s]
      | some t =>
        have hl := tyE_le ht
        rw [show teR a (some t) = nI (a + t) from rfl]
        by_cases c5 : t = n
        · rw [if_pos ((nI_eq (by omega) (by omega)).mpr (by omega)), float_eq hb (by omega) (by omega), cI_s, cT_s]
          simp only [c5, if_true]
          split <;> rfl
        · rw [if_neg (fun z => c5 (by have := (nI_eq (by omega) (by omega)).mp z; omega)), cT_s]
          simp only [c5, if_false]
/-- the class's file and pool bounds: length N, count c -/
def XI (N c : Nat) (u : St) : Prop := N ≤ 4000 ∧ u.1 0 = nI N ∧ bn (u.2 0) ∧ u.1 6 = nI c ∧ c ≤ 300
theorem kindOf_eq {N c : Nat} {u : St} (h : XI N c u) {k : Nat} (hk : k < 65536) : f_P_kindOf u (nI k) = some (if 1 ≤ k ∧ k < c then u.2 4 k else 0, u) := by
  obtain ⟨-, -, -, h6, hc⟩ := h
  unfold f_P_kindOf
  rw [h6]
  by_cases c1 : k < 1
  · rw [if_pos (show nI k < 1 from nI_lt (b := 1) c1 (by decide)), if_neg (by omega), cT_s]
  · rw [if_neg (show ¬ nI k < 1 from nI_nlt (b := 1) (by omega) (by omega))]
    by_cases c2 : k < c
    · rw [if_neg (nI_ge c2 (by omega)), if_neg (show ¬ 300 ≤ nI k from nI_ge (b := 300) (by omega) (by decide)), gd_in (by omega) (by decide), ncl (by omega), if_pos (by omega), cT_s]
    · rw [if_pos (nI_le (by omega) (by omega)), if_neg (by omega), cT_s]
theorem factsOf_eq {N c : Nat} {u : St} (h : XI N c u) {k : Nat} (hk : k < 65536) : f_P_factsOf u (nI k) = some (if 1 ≤ k ∧ k < c then u.2 6 k else 0, u) := by
  obtain ⟨-, -, -, h6, hc⟩ := h
  unfold f_P_factsOf
  rw [h6]
  by_cases c1 : k < 1
  · rw [if_pos (show nI k < 1 from nI_lt (b := 1) c1 (by decide)), if_neg (by omega), cT_s]
  · rw [if_neg (show ¬ nI k < 1 from nI_nlt (b := 1) (by omega) (by omega))]
    by_cases c2 : k < c
    · rw [if_neg (nI_ge c2 (by omega)), if_neg (show ¬ 300 ≤ nI k from nI_ge (b := 300) (by omega) (by decide)), gd_in (by omega) (by decide), ncl (by omega), if_pos (by omega), cT_s]
    · rw [if_pos (nI_le (by omega) (by omega)), if_neg (by omega), cT_s]
theorem measureOf_eq {N c : Nat} {u : St} (h : XI N c u) {k : Nat} (hk : k < 65536) : f_P_measureOf u (nI k) = some (if 1 ≤ k ∧ k < c then u.2 7 k else 0, u) := by
  obtain ⟨-, -, -, h6, hc⟩ := h
  unfold f_P_measureOf
  rw [h6]
  by_cases c1 : k < 1
  · rw [if_pos (show nI k < 1 from nI_lt (b := 1) c1 (by decide)), if_neg (by omega), cT_s]
  · rw [if_neg (show ¬ nI k < 1 from nI_nlt (b := 1) (by omega) (by omega))]
    by_cases c2 : k < c
    · rw [if_neg (nI_ge c2 (by omega)), if_neg (show ¬ 300 ≤ nI k from nI_ge (b := 300) (by omega) (by decide)), gd_in (by omega) (by decide), ncl (by omega), if_pos (by omega), cT_s]
    · rw [if_pos (nI_le (by omega) (by omega)), if_neg (by omega), cT_s]
theorem within_eq {N c : Nat} {u : St} (h : XI N c u) {k : Nat} (hk : k < 65536) : f_P_within u (nI k) = some (if 1 ≤ k ∧ k < c then 1 else 0, u) := by
  obtain ⟨-, -, -, h6, hc⟩ := h
  unfold f_P_within
  rw [h6, bnd_s]
  by_cases c1 : k < 1
  · rw [if_pos (show nI k < 1 from nI_lt (b := 1) c1 (by decide)), if_neg (by omega), gb_0]
  · rw [if_neg (show ¬ nI k < 1 from nI_nlt (b := 1) (by omega) (by omega))]
    by_cases c2 : k < c
    · rw [if_neg (nI_ge c2 (by omega)), if_neg (show ¬ 300 ≤ nI k from nI_ge (b := 300) (by omega) (by decide)), if_pos (by omega), gb_1]
    · rw [if_pos (nI_le (by omega) (by omega)), if_neg (by omega), gb_0]
theorem firstOf_eq {N c : Nat} {u : St} (h : XI N c u) {k p : Nat} (hk : 1 ≤ k ∧ k < c) (hp : u.2 5 k = nI p) (hN : p + 3 ≤ N) : f_P_firstOf u (nI k) = some (nI (be (xF u) (p + 1) 2), u) := by
  have hc := h.2.2.2.2
  have h4 := h.1
  unfold f_P_firstOf
  rw [within_eq h (by omega), cI_s, if_pos hk, if_neg (by decide), gd_in (by omega) (by decide), ncl (by omega), hp, nI_1, show (2 : Int32) = nI 2 from rfl, num_in u h.2.1 h.1 (by decide) (by omega), cI_s, cT_s]
theorem secondOf_eq {N c : Nat} {u : St} (h : XI N c u) {k p : Nat} (hk : 1 ≤ k ∧ k < c) (hp : u.2 5 k = nI p) (hN : p + 5 ≤ N) : f_P_secondOf u (nI k) = some (nI (be (xF u) (p + 3) 2), u) := by
  have hc := h.2.2.2.2
  have h4 := h.1
  unfold f_P_secondOf
  rw [within_eq h (by omega), cI_s, if_pos hk, if_neg (by decide), gd_in (by omega) (by decide), ncl (by omega), hp, show nI p + 3 = nI (p + 3) from nI_add p 3, show (2 : Int32) = nI 2 from rfl, num_in u h.2.1 h.1 (by decide) (by omega), cI_s, cT_s]
theorem firstOf_out {N c : Nat} {u : St} (h : XI N c u) {k : Nat} (hk : k < 65536) (hn : ¬ (1 ≤ k ∧ k < c)) : f_P_firstOf u (nI k) = some (0, u) := by
  unfold f_P_firstOf
  rw [within_eq h hk, cI_s, if_neg hn, if_pos rfl, cT_s]
theorem secondOf_out {N c : Nat} {u : St} (h : XI N c u) {k : Nat} (hk : k < 65536) (hn : ¬ (1 ≤ k ∧ k < c)) : f_P_secondOf u (nI k) = some (0, u) := by
  unfold f_P_secondOf
  rw [within_eq h hk, cI_s, if_neg hn, if_pos rfl, cT_s]
theorem firstOf_any {N c : Nat} {u : St} (h : XI N c u) {k : Nat} (hk : k < 65536) : ∃ v : Nat, v < 65536 ∧ (v ≠ 0 → 1 ≤ k ∧ k < c) ∧ f_P_firstOf u (nI k) = some (nI v, u) := by
  by_cases hn : 1 ≤ k ∧ k < c
  · have hc := h.2.2.2.2
    obtain ⟨v, hv, e⟩ := num_any u (k := 2) (u.2 5 k + 1) h.2.1 h.1 (by decide)
    refine ⟨v, hv, fun _ => hn, ?_⟩
    unfold f_P_firstOf
    rw [within_eq h hk, cI_s, if_pos hn, if_neg (by decide), gd_in (by omega) (by decide), ncl (by omega), show (2 : Int32) = nI 2 from rfl, e, cI_s, cT_s]
  · exact ⟨0, by omega, fun h => absurd rfl h, firstOf_out h hk hn⟩
theorem secondOf_any {N c : Nat} {u : St} (h : XI N c u) {k : Nat} (hk : k < 65536) : ∃ v : Nat, v < 65536 ∧ (v ≠ 0 → 1 ≤ k ∧ k < c) ∧ f_P_secondOf u (nI k) = some (nI v, u) := by
  by_cases hn : 1 ≤ k ∧ k < c
  · have hc := h.2.2.2.2
    obtain ⟨v, hv, e⟩ := num_any u (k := 2) (u.2 5 k + 3) h.2.1 h.1 (by decide)
    refine ⟨v, hv, fun _ => hn, ?_⟩
    unfold f_P_secondOf
    rw [within_eq h hk, cI_s, if_pos hn, if_neg (by decide), gd_in (by omega) (by decide), ncl (by omega), show (2 : Int32) = nI 2 from rfl, e, cI_s, cT_s]
  · exact ⟨0, by omega, fun h => absurd rfl h, secondOf_out h hk hn⟩

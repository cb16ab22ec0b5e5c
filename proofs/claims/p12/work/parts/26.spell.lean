/-! WORDS, BRACKETS, EQUAL TEXTS in the class -/
def wrd : List (List Nat) := [[60, 105, 110, 105, 116, 62], [60, 99, 108, 105, 110, 105, 116, 62], [106, 97, 118, 97, 47, 108, 97, 110, 103, 47, 79, 98, 106, 101, 99, 116], [67, 111, 100, 101], [67, 111, 110, 115, 116, 97, 110, 116, 86, 97, 108, 117, 101], [69, 120, 99, 101, 112, 116, 105, 111, 110, 115], [83, 111, 117, 114, 99, 101, 70, 105, 108, 101], [74], [76, 106, 97, 118, 97, 47, 108, 97, 110, 103, 47, 83, 116, 114, 105, 110, 103, 59], [40, 41, 86]]
def chN (j i : Nat) : Nat := (wrd.getD j []).getD i 0
theorem chN_ok : ∀ j, j < 10 → ∀ i, i < lnS j → chS j (nI i) = nI (chN j i) ∧ chN j i < 128 := by decide +kernel
theorem lnS_ok : ∀ j, j < 10 → 1 ≤ lnS j ∧ lnS j ≤ 18 := by decide +kernel
/-- m letters of word j from its i-th on stand at a .. -/
def spN (F : Nat → Nat) (j : Nat) : Nat → Nat → Nat → Bool
  | 0, _, _ => true
  | m + 1, i, a => (F a == chN j i) && spN F j m (i + 1) (a + 1)
/-- the text of n letters at a is word j -/
def isW (F : Nat → Nat) (j n a : Nat) : Bool := (n == lnS j) && spN F j n 0 a
theorem spL_eq {N c : Nat} {u : St} (h : XI N c u) {k p j : Nat} (hk : 1 ≤ k ∧ k < c) (hj : j < 10) (hp : u.2 5 k = nI p) (K : St → Option (Int32 × St)) : ∀ (m i f : Nat), m < f → i + m = lnS j → p + 3 + i + m ≤ N → f_P_spells_L16 K (nI k) j f u (nI i) = if spN (xF u) j m i (p + 3 + i) then K u else some (0, u)
  | 0, i, f + 1, _, hi, hN => by
    have hl := lnS_ok j hj
    rw [f_P_spells_L16, if_pos (show lenS j ≤ nI i from nI_le (by omega) (by omega))]
    rfl
  | m + 1, i, f + 1, hf, hi, hN => by
    have hl := lnS_ok j hj
    have h4 := h.1
    have hc := h.2.2.2.2
    rw [f_P_spells_L16, if_neg (show ¬ lenS j ≤ nI i from nI_ge (by omega) (by omega)), gd_in (by omega) (by decide), ncl (by omega), hp, show nI p + 3 = nI (p + 3) from nI_add p 3, nI_add, show (1 : Int32) = nI 1 from rfl, num_in u h.2.1 h.1 (by decide) (by omega), cI_s, gd_in (by omega) (by omega)]
    obtain ⟨e1, e2⟩ := chN_ok j hj i (by omega)
    have hb : be (xF u) (p + 3 + i) 1 = xF u (p + 3 + i) := by simp [be]
    have hlt : xF u (p + 3 + i) < 256 := by8_lt _ _
    rw [e1, hb, spN]
    by_cases q : xF u (p + 3 + i) = chN j i
    · rw [if_pos (by rw [q])]
      have ih := spL_eq h hk hj hp K m (i + 1) f (by omega) (by omega) (by omega)
      rw [show nI i + nI 1 = nI (i + 1) from nI_add i 1, ih]
      simp [q, show p + 3 + (i + 1) = p + 3 + i + 1 by omega]
    · rw [if_neg (fun z => q ((nI_eq (by omega) (by omega)).mp z)), gb_0]
      simp [q]
theorem spells_eq {N c : Nat} {u : St} (h : XI N c u) {k p j : Nat} (hk : 1 ≤ k ∧ k < c) (hj : j < 10) (hp : u.2 5 k = nI p) (hN : p + 3 + be (xF u) (p + 1) 2 ≤ N) : f_P_spells u (nI k) j = some (if isW (xF u) j (be (xF u) (p + 1) 2) (p + 3) then 1 else 0, u) := by
  have hl := lnS_ok j hj
  have h4 := h.1
  unfold f_P_spells gk
  rw [if_pos hj, firstOf_eq h hk hp (by omega), cI_s]
  generalize hn : be (xF u) (p + 1) 2 = n at hN ⊢
  by_cases q : n = lnS j
  · rw [if_pos (show nI n = lenS j by rw [q]; rfl)]
    have e := spL_eq h hk hj hp (fun u7 => gb 1 (some (1, u7))) n 0 FU (by unfold FU; omega) (by omega) (by omega)
    rw [nI_0] at e
    rw [e]
    unfold isW
    simp only [q, beq_self_eq_true, Bool.true_and, Nat.add_zero]
    split <;> simp [gb_1, gb_0]
  · rw [if_neg (show ¬ nI n = lenS j from fun z => q ((nI_eq (b := lnS j) (by omega) (by omega)).mp z)), gb_0]
    simp [isW, q]
theorem spL_any {N c : Nat} {u : St} (h : XI N c u) {k j : Nat} (hk : 1 ≤ k ∧ k < c) (hj : j < 10) : ∀ (m i f : Nat), m < f → i + m = lnS j → ∃ r : Int32, (r = 0 ∨ r = 1) ∧ f_P_spells_L16 (fun u7 => gb 1 (some (1, u7))) (nI k) j f u (nI i) = some (r, u)
  | 0, i, f + 1, _, hi => by
    have hl := lnS_ok j hj
    rw [f_P_spells_L16, if_pos (show lenS j ≤ nI i from nI_le (by omega) (by omega)), gb_1]
    exact ⟨1, Or.inr rfl, rfl⟩
  | m + 1, i, f + 1, hf, hi => by
    have hl := lnS_ok j hj
    have hc := h.2.2.2.2
    obtain ⟨v, hv, e⟩ := num_any u (k := 1) (((u.2 5 k) + 3) + nI i) h.2.1 h.1 (by decide)
    rw [f_P_spells_L16, if_neg (show ¬ lenS j ≤ nI i from nI_ge (by omega) (by omega)), gd_in (by omega) (by decide), ncl (by omega), show (1 : Int32) = nI 1 from rfl, e, cI_s, gd_in (by omega) (by omega)]
    split
    · rw [show nI i + nI 1 = nI (i + 1) from nI_add i 1]
      exact spL_any h hk hj m (i + 1) f (by omega) (by omega)
    · rw [gb_0]
      exact ⟨0, Or.inl rfl, rfl⟩
theorem spells_any {N c : Nat} {u : St} (h : XI N c u) {k j : Nat} (hk : k < 65536) (hj : j < 10) : ∃ r : Int32, (r = 0 ∨ r = 1) ∧ f_P_spells u (nI k) j = some (r, u) := by
  have hl := lnS_ok j hj
  obtain ⟨v, hv, hw, e⟩ := firstOf_any h hk
  unfold f_P_spells gk
  rw [if_pos hj, e, cI_s]
  by_cases q : v = lnS j
  · rw [if_pos (show nI v = lenS j by rw [q]; rfl)]
    exact spL_any h (hw (by omega)) hj (lnS j) 0 FU (by unfold FU; omega) (by omega)
  · rw [if_neg (show ¬ nI v = lenS j from fun z => q ((nI_eq (b := lnS j) (by omega) (by omega)).mp z)), gb_0]
    exact ⟨0, Or.inl rfl, rfl⟩
theorem bracL_eq {N c : Nat} {u : St} (h : XI N c u) {k p n : Nat} (hk : 1 ≤ k ∧ k < c) (hp : u.2 5 k = nI p) : ∀ (m i f : Nat), m < f → i + m = n → p + 3 + i + m ≤ N → f_P_bracketsOf_L8 (nI k) (nI n) f u (nI i) = some (u, nI (i + br (xF u) m (p + 3 + i)))
  | 0, i, f + 1, _, hi, hN => by
    have h4 := h.1
    rw [f_P_bracketsOf_L8, if_pos (nI_le (by omega) (by omega))]
    rfl
  | m + 1, i, f + 1, hf, hi, hN => by
    have h4 := h.1
    have hc := h.2.2.2.2
    rw [f_P_bracketsOf_L8, if_neg (nI_ge (by omega) (by omega)), gd_in (by omega) (by decide), ncl (by omega), hp, show nI p + 3 = nI (p + 3) from nI_add p 3, nI_add, show (1 : Int32) = nI 1 from rfl, num_in u h.2.1 h.1 (by decide) (by omega), cI_s]
    have hb : be (xF u) (p + 3 + i) 1 = xF u (p + 3 + i) := by simp [be]
    have hlt : xF u (p + 3 + i) < 256 := by8_lt _ _
    rw [hb, br]
    by_cases q : xF u (p + 3 + i) = 91
    · have ih := bracL_eq (n := n) h hk hp m (i + 1) f (by omega) (by omega) (by omega)
      rw [if_pos (show nI (xF u (p + 3 + i)) = 91 by rw [q]; rfl), if_pos q, show nI i + nI 1 = nI (i + 1) from nI_add i 1, ih, show p + 3 + (i + 1) = p + 3 + i + 1 by omega, show i + 1 + br (xF u) m (p + 3 + i + 1) = i + (br (xF u) m (p + 3 + i + 1) + 1) by omega]
    · rw [if_neg (show ¬ nI (xF u (p + 3 + i)) = 91 from fun z => q ((nI_eq (b := 91) (by omega) (by omega)).mp z)), if_neg q]
      rfl
theorem brackets_eq {N c : Nat} {u : St} (h : XI N c u) {k p : Nat} (hk : 1 ≤ k ∧ k < c) (hp : u.2 5 k = nI p) (hN : p + 3 + be (xF u) (p + 1) 2 ≤ N) : f_P_bracketsOf u (nI k) = some (nI (br (xF u) (be (xF u) (p + 1) 2) (p + 3)), u) := by
  have h4 := h.1
  unfold f_P_bracketsOf
  rw [firstOf_eq h hk hp (by omega), cI_s]
  have e := bracL_eq h hk hp (n := be (xF u) (p + 1) 2) (be (xF u) (p + 1) 2) 0 FU (by unfold FU; omega) (by omega) (by omega)
  rw [nI_0] at e
  rw [e, cT_s]
  simp
theorem bracL_any {N c : Nat} {u : St} (h : XI N c u) {k n : Nat} (hn : n < 65536) (hk : 1 ≤ k ∧ k < c) : ∀ (m i f : Nat), m < f → i + m = n → ∃ v : Nat, v ≤ n ∧ f_P_bracketsOf_L8 (nI k) (nI n) f u (nI i) = some (u, nI v)
  | 0, i, f + 1, _, hi => by
    rw [f_P_bracketsOf_L8, if_pos (nI_le (by omega) (by omega))]
    exact ⟨i, by omega, rfl⟩
  | m + 1, i, f + 1, hf, hi => by
    have hc := h.2.2.2.2
    obtain ⟨v, hv, e⟩ := num_any u (k := 1) (((u.2 5 k) + 3) + nI i) h.2.1 h.1 (by decide)
    rw [f_P_bracketsOf_L8, if_neg (nI_ge (by omega) (by omega)), gd_in (by omega) (by decide), ncl (by omega), show (1 : Int32) = nI 1 from rfl, e, cI_s]
    split
    · rw [show nI i + nI 1 = nI (i + 1) from nI_add i 1]
      exact bracL_any h hn hk m (i + 1) f (by omega) (by omega)
    · exact ⟨i, by omega, rfl⟩
theorem brackets_any {N c : Nat} {u : St} (h : XI N c u) {k : Nat} (hk : k < 65536) : ∃ v : Nat, v < 65536 ∧ f_P_bracketsOf u (nI k) = some (nI v, u) := by
  obtain ⟨n, hn, hw, e⟩ := firstOf_any h hk
  unfold f_P_bracketsOf
  rw [e, cI_s]
  by_cases q : n = 0
  · subst q
    refine ⟨0, by omega, ?_⟩
    rw [show FU = 69999 + 1 from rfl, f_P_bracketsOf_L8, if_pos (show nI 0 ≤ 0 from nI_le (Nat.le_refl 0) (by decide)), cT_s]
    rfl
  · obtain ⟨v, h1, h2⟩ := bracL_any h hn (hw q) n 0 FU (by unfold FU; omega) (by omega)
    rw [nI_0] at h2
    rw [h2, cT_s]
    exact ⟨v, by omega, rfl⟩

/-! THE CLASS: CODE, one INSTRUCTION of a fixed width -/
section COD
variable {F : Nat → Nat} {N c i r w b sz lo ver pc : Nat} {K B : Nat → Nat} {z u : St} {jl : List (Nat × Int32)}
/-- the CODE at hand -/
def CI (N b sz lo ver : Nat) (u : St) : Prop := u.1 13 = nI b ∧ u.1 9 = nI sz ∧ u.1 8 = nI lo ∧ u.1 14 = nI ver ∧ b + sz ≤ N ∧ sz ≤ 2000 ∧ lo ≤ 255 ∧ ver < 65536
theorem CI_ko {s t : List Nat} {v : St} (h : CI N b sz lo ver u) (hk : ko s t u v) (hs : 13 ∉ s ∧ 9 ∉ s ∧ 8 ∉ s ∧ 14 ∉ s) : CI N b sz lo ver v := by
  obtain ⟨a1, a2, a3, a4, a5⟩ := h
  exact ⟨(hk.1 13 hs.1).trans a1, (hk.1 9 hs.2.1).trans a2, (hk.1 8 hs.2.2.1).trans a3, (hk.1 14 hs.2.2.2).trans a4, a5⟩
def JL (jl : List (Nat × Int32)) (u : St) : Prop := u.1 11 = nI jl.length ∧ ∀ j q, jl[j]? = some q → u.2 10 j = nI q.1 ∧ u.2 11 j = nI q.1 + q.2
theorem SO_ko {s t : List Nat} {v : St} (h : SO N i z u) (hk : ko s t u v) (hs : 0 ∉ s ∧ 1 ∉ s ∧ 2 ∉ s ∧ 4 ∉ s ∧ 5 ∉ s) (ht : 0 ∉ t ∧ 1 ∉ t ∧ 2 ∉ t ∧ 3 ∉ t) (h11 : ¬ v.1 11 < 0) : SO N i z v := by
  obtain ⟨a, b1, b2, b3, b4, b5, b6, b7⟩ := h
  exact ⟨XO_ko a hk ⟨hs.1, hs.2.1, hs.2.2.1⟩ ht.1, h11, (hk.1 4 hs.2.2.2.1).trans b2, (hk.1 5 hs.2.2.2.2).trans b3, (hk.2 0 ht.1).trans b4, (hk.2 1 ht.2.1).trans b5, (hk.2 2 ht.2.2.1).trans b6, (hk.2 3 ht.2.2.2).trans b7⟩
theorem addJump_eq {x : Int32} (hJ : JL jl u) (hl : jl.length < 667) : ∃ v, f_C_addJump u (nI pc) x = some v ∧ JL (jl ++ [(pc, x)]) v ∧ ko [11] [10, 11] u v ∧ ¬ v.1 11 < 0 := by
  obtain ⟨e, f⟩ := hJ
  refine ⟨sv (sa (sa u 10 jl.length (nI pc)) 11 jl.length (nI pc + x)) 11 (nI (jl.length + 1)), ?_, ⟨?_, ?_⟩, ?_, ?_⟩
  · unfold f_C_addJump
    rw [e, if_neg (show ¬ (667 : Int32) ≤ nI jl.length from nI_ge (b := 667) (by omega) (by omega)), gd_in (by omega) (by decide), bnd_s, ncl (by omega)]
    rw [show (sa u 10 jl.length (nI pc)).1 11 = nI jl.length from e, gd_in (by omega) (by decide), ncl (by omega), bnd_s, bnd_s, cT_s]
    rw [show (sa (sa u 10 jl.length (nI pc)) 11 jl.length (nI pc + x)).1 11 = nI jl.length from e, nI_1]
  · rw [List.length_append]; rfl
  · intro j q hj
    by_cases h : j < jl.length
    · rw [List.getElem?_append_left h] at hj
      rw [sv_a, sa_ne (by omega), sa_ne (by omega), sa_ne (by omega), sa_ne (by omega)]
      exact f j q hj
    · by_cases h : j = jl.length
      · subst h
        rw [List.getElem?_append_right (Nat.le_refl _)] at hj
        simp at hj
        subst hj
        exact ⟨by simp [sv_a, sa_a, upd], by simp [sv_a, sa_a, upd]⟩
      · rw [List.getElem?_eq_none (by simp; omega)] at hj
        cases hj
  · exact ko_tr (ko_tr (ko_sa (by decide)) (ko_sa (by decide))) (ko_sv (by decide))
  · show ¬ nI (jl.length + 1) < 0
    exact nI_pos (by omega)
theorem b_localInCode {x : Int32} (h : SB N r w z u) : wp (f_C_localInCode u x) (fun p => SB N r w z p.2) := ⟨_, rfl, h⟩
theorem ws_need {γ : Type} {x y v : Int32} {k : St → Option γ} {Q : γ → Prop} (hO : SO N i z u) (hy : y = nI r) (hv : v = nI w) (hr : 1 ≤ r ∧ r ≤ 29) (h1 : ¬ x = 0 → wp (k u) Q) (h2 : x = 0 → ∀ u, SB N r w z u → wp (k u) Q) : wp (cV (f_W_need u x y v) k) Q := by
  by_cases h : x = 0
  · rw [h, hy, hv, nd_f hO.1, cV_s]
    exact h2 h _ (SO_B hO hr.1 hr.2)
  · rw [nd_t h, cV_s]
    exact h1 h
/-- a step's outcome -/
def XS (N i : Nat) (z : St) (res : Except Er (Nat × List Int32)) (pc : Nat) (jl : List (Nat × Int32)) (u : St) (q : Int32 × St) : Prop := match res with
  | .error e => SB N e.1 e.2 z q.2
  | .ok y => q.1 = nI y.1 ∧ SO N i z q.2 ∧ JL (jl ++ y.2.map fun x => (pc, x)) q.2 ∧ ko [11] [10, 11] u q.2
theorem XS_0 {y : Nat} {x : Int32} (hx : x = nI y) (hO : SO N i z u) (hJ : JL jl u) : XS N i z (.ok (y, [])) pc jl u (x, u) := ⟨hx, hO, by rw [List.map_nil, List.append_nil]; exact hJ, ko_rf⟩
theorem PW_o.kindA (h : PW_o F N c K B u) (hO : SO N i z u) {t : Nat} (ht : t < 65536) : ∃ x, f_P_kindOf u (nI t) = some (x, u) ∧ ∀ kd, 1 ≤ kd → kd < 256 → (x = nI kd ↔ isK c K t kd = true) := by
  obtain ⟨x, e, -⟩ := h.kind hO ht (kd := 1) (by decide)
  refine ⟨x, e, fun kd h1 h2 => ?_⟩
  obtain ⟨y, e', hy⟩ := h.kind hO ht (kd := kd) ⟨h1, h2⟩
  rw [e] at e'
  cases e'
  exact hy
theorem kfit_eq {fm op n : Nat} {x : Int32} (hx : ∀ kd, 1 ≤ kd → kd < 256 → (x = nI kd ↔ isK c K n kd = true)) (h14 : u.1 14 = nI ver) (hv : ver < 65536) (hfm : fm < 23) (hop : op < 256) : f_C_kindFits u (nI fm) (nI op) x = some (if kfit c K fm op ver n then 1 else 0, u) := by
  have k3 : (x = 3) = (isK c K n 3 = true) := propext (hx 3 (by decide) (by decide))
  have k5 : (x = 5) = (isK c K n 5 = true) := propext (hx 5 (by decide) (by decide))
  have k7 : (x = 7) = (isK c K n 7 = true) := propext (hx 7 (by decide) (by decide))
  have k8 : (x = 8) = (isK c K n 8 = true) := propext (hx 8 (by decide) (by decide))
  have k9 : (x = 9) = (isK c K n 9 = true) := propext (hx 9 (by decide) (by decide))
  have k10 : (x = 10) = (isK c K n 10 = true) := propext (hx 10 (by decide) (by decide))
  have k11 : (x = 11) = (isK c K n 11 = true) := propext (hx 11 (by decide) (by decide))
  have q4 : (nI fm = 4) = (fm = 4) := neq (b := 4) (by omega) (by decide)
  have q5 : (nI fm = 5) = (fm = 5) := neq (b := 5) (by omega) (by decide)
  have q6 : (nI fm = 6) = (fm = 6) := neq (b := 6) (by omega) (by decide)
  have q16 : (nI fm = 16) = (fm = 16) := neq (b := 16) (by omega) (by decide)
  have q17 : (nI fm = 17) = (fm = 17) := neq (b := 17) (by omega) (by decide)
  have q18 : (nI fm = 18) = (fm = 18) := neq (b := 18) (by omega) (by decide)
  have o182 : (nI op = 182) = (op = 182) := neq (b := 182) (by omega) (by decide)
  have v52 : (nI ver < 52) = (ver < 52) := nlt (b := 52) (by omega) (by decide)
  unfold f_C_kindFits kfit
  simp only [bnd_s, h14, k3, k5, k7, k8, k9, k10, k11, q4, q5, q6, q16, q17, q18, o182, v52]
  have g3 : ∀ A B C : Bool, (if A = true then (1 : Int32) else if B = true then 1 else if C = true then 1 else 0) = if (A || B || C) = true then 1 else 0 := by decide
  by_cases c1 : fm = 4 ∨ fm = 5
  · rw [if_pos c1, if_pos c1, g3, gbB]
  · rw [if_neg c1, if_neg c1]
    by_cases c2 : fm = 6
    · rw [if_pos c2, if_pos c2, gbB]
    · rw [if_neg c2, if_neg c2]
      by_cases c3 : fm = 16
      · rw [if_pos c3, if_pos c3, gbB]
      · rw [if_neg c3, if_neg c3]
        by_cases c4 : fm = 17
        · rw [if_pos c4, if_pos c4]
          have g4 : (if isK c K n 10 = true then (1 : Int32) else if (if op = 182 then (0 : Int32) else if ver < 52 then 0 else 1) = 0 then 0 else if isK c K n 11 = true then 1 else 0) = if (isK c K n 10 || (decide (op ≠ 182) && decide (52 ≤ ver) && isK c K n 11)) = true then 1 else 0 := by
            by_cases d1 : op = 182
            · rw [if_pos d1, decide_eq_false (fun q => q d1)]
              cases isK c K n 10 <;> cases isK c K n 11 <;> first | rfl | decide
            · rw [if_neg d1, decide_eq_true d1]
              by_cases d2 : ver < 52
              · rw [if_pos d2, decide_eq_false (by omega)]
                cases isK c K n 10 <;> cases isK c K n 11 <;> first | rfl | decide
              · rw [if_neg d2, decide_eq_true (by omega)]
                cases isK c K n 10 <;> cases isK c K n 11 <;> first | rfl | decide
          rw [g4, gbB]
        · rw [if_neg c4, if_neg c4]
          by_cases c5 : fm = 18
          · rw [if_pos c5, if_pos c5, gbB]
          · rw [if_neg c5, if_neg c5, gbB]
theorem rfit_eq_o {fm op n p : Nat} (hO : SO N i z u) (hP : PW_o F N c K B u) (hfm : fm < 23) (hop : op < 256) (hk : kfit c K fm op ver n = true) (hw : fm = 18 → p + 5 ≤ N) (hw' : fm = 21 → p + 4 ≤ N) (hp : p ≤ N) : f_C_restFits u (nI fm) (nI op) (nI n) (nI p) = some (if rfit_o F B fm op n p then 1 else 0, u) := by
  have q17 : (nI fm = 17) = (fm = 17) := neq (b := 17) (by omega) (by decide)
  have q18 : (nI fm = 18) = (fm = 18) := neq (b := 18) (by omega) (by decide)
  have q19 : (nI fm = 19) = (fm = 19) := neq (b := 19) (by omega) (by decide)
  have q21 : (nI fm = 21) = (fm = 21) := neq (b := 21) (by omega) (by decide)
  have o183 : (nI op = 183) = (op = 183) := neq (b := 183) (by omega) (by decide)
  have o187 : (nI op = 187) = (op = 187) := neq (b := 187) (by omega) (by decide)
  have hN := hO.1.1
  unfold f_C_restFits rfit_o
  simp only [q17, q18, q19, q21, o183, o187]
  unfold kfit at hk
  by_cases c1 : fm = 17
  · rw [if_pos c1, if_pos c1]
    rw [if_neg (by omega), if_neg (by omega), if_neg (by omega), if_pos c1] at hk
    by_cases d1 : op = 183
    · rw [if_pos d1, cT_s, decide_eq_true d1, gb_1]; rfl
    · rw [if_neg d1, decide_eq_false d1, Bool.false_or]
      have hf : f_P_factsOf u (nI n) = some (if wT F B 0 (nmM F B n) then 4 else 0, u) := by
        cases h10 : isK c K n 10 with
        | true => exact hP.factM hO h10 (by decide)
        | false =>
          rw [h10, Bool.false_or, Bool.and_eq_true] at hk
          exact hP.factM hO hk.2 (by decide)
      rw [hf, cI_s]
      cases wT F B 0 (nmM F B n)
      · rw [if_neg (show ¬ (false = true) by decide), if_pos (by decide), cT_s, gb_1]; rfl
      · rw [if_pos (show true = true from rfl), if_neg (by decide), cT_s, gb_0]; rfl
  · rw [if_neg c1, if_neg c1]
    by_cases c2 : fm = 18
    · rw [if_pos c2, if_pos c2]
      rw [if_neg (by omega), if_neg (by omega), if_neg (by omega), if_neg c1, if_pos c2] at hk
      have n2 : f_W_numberAt u (nI (p + 3)) 2 = some (nI (be F (p + 3) 2), u) := by rw [← hP.1]; exact num_in u (k := 2) hO.1.2.1 hN (by decide) (by have := hw c2; omega)
      rw [show nI p + 3 = nI (p + 3) from nI_add p 3, n2, cI_s, hP.measM hO hk (by decide), cI_s, nI_1]
      have hs := (ms_sl_o F B (tyM F B n)).2
      have hb := be2_lt_o hP (p + 3)
      rw [show nI (slT_o F B (tyM F B n) + 1) <<< ((8 : Int32) &&& 31) = nI ((slT_o F B (tyM F B n) + 1) * 256) from nshl8 (by omega)]
      rw [bnd_s]
      simp only [show (nI (be F (p + 3) 2) = nI ((slT_o F B (tyM F B n) + 1) * 256)) = (be F (p + 3) 2 = (slT_o F B (tyM F B n) + 1) * 256) from neq (by omega) (by omega)]
      by_cases d : be F (p + 3) 2 = (slT_o F B (tyM F B n) + 1) * 256
      · rw [if_pos d, gb_1, decide_eq_true d]; rfl
      · rw [if_neg d, gb_0, decide_eq_false d]; rfl
    · rw [if_neg c2, if_neg c2]
      by_cases c3 : fm = 19
      · rw [if_pos c3, if_pos c3]
        rw [if_neg (by omega), if_neg (by omega), if_neg (by omega), if_neg c1, if_neg c2] at hk
        have hb : bkC F B n < 65536 := Nat.lt_of_le_of_lt (br_le F _ _) (n2_lt_o hP _)
        by_cases d1 : op = 187
        · rw [if_pos d1, decide_eq_false (fun q => q d1), Bool.false_or, hP.measC hO hk, cI_s]; simp only [show (nI (bkC F B n) = 0) = (bkC F B n = 0) from neq (b := 0) (by omega) (by decide)]
          by_cases d : bkC F B n = 0
          · rw [if_pos d, cT_s, gb_1, decide_eq_true d]; rfl
          · rw [if_neg d, cT_s, gb_0, decide_eq_false d]; rfl
        · rw [if_neg d1, decide_eq_true d1, cT_s, gb_1]; rfl
      · rw [if_neg c3, if_neg c3]
        by_cases c4 : fm = 21
        · rw [if_pos c4, if_pos c4]
          rw [if_neg (by omega), if_neg (by omega), if_neg (by omega), if_neg c1, if_neg c2] at hk
          have hb : bkC F B n < 65536 := Nat.lt_of_le_of_lt (br_le F _ _) (n2_lt_o hP _)
          have h8 : F (p + 3) < 256 := PW_F_o hP _
          have n1 : f_W_numberAt u (nI (p + 3)) 1 = some (nI (F (p + 3)), u) := by
            have := num_in u (k := 1) (w := p + 3) hO.1.2.1 hN (by decide) (by have := hw' c4; omega)
            rw [be1, hP.1] at this
            exact this
          rw [show nI p + 3 = nI (p + 3) from nI_add p 3, n1, cI_s, hP.measC hO hk, cI_s]; simp only [show (nI (F (p + 3)) < 1) = (F (p + 3) < 1) from nlt (b := 1) (by omega) (by decide), show (nI (bkC F B n) < nI (F (p + 3))) = (bkC F B n < F (p + 3)) from nlt (by omega) (by omega)]
          by_cases d1 : F (p + 3) < 1
          · rw [if_pos d1, cT_s, gb_0, decide_eq_false (by omega)]; rfl
          · rw [if_neg d1, decide_eq_true (by omega), Bool.true_and]
            by_cases d2 : bkC F B n < F (p + 3)
            · rw [if_pos d2, cT_s, gb_0, decide_eq_false (by omega)]; rfl
            · rw [if_neg d2, cT_s, gb_1, decide_eq_true (by omega)]; rfl
        · rw [if_neg c4, if_neg c4, gb_1]; rfl
theorem tab_ok : ∀ fm : Fin 23, tab_WIDTHS fm.val = nI (wdN fm.val) ∧ tab_NUMBERS fm.val = nI (nmN fm.val) ∧ nmN fm.val ≤ 4 ∧ wdN fm.val ≤ 5 := by decide +kernel
theorem tab_ok2 : ∀ fm : Fin 23, fm.val ≠ 0 → fm.val ≠ 14 → fm.val ≠ 15 → fm.val ≠ 22 → nmN fm.val + 1 ≤ wdN fm.val ∧ ((fm.val ≠ 12 ∧ fm.val ≠ 13) ∨ 3 ≤ wdN fm.val) ∧ (fm.val = 13 ∨ nmN fm.val ≤ 2) ∧ (fm.val = 18 → wdN fm.val = 5) ∧ (fm.val = 21 → wdN fm.val = 4) ∧ ((fm.val ≠ 7 ∧ fm.val ≠ 8 ∧ fm.val ≠ 11 ∧ fm.val ≠ 20) ∨ nmN fm.val = 1) := by decide +kernel
theorem lic_ok : ∀ op : Fin 202, fmN op.val = 9 ∨ fmN op.val = 10 → ((if 54 ≤ nI op.val then (nI op.val - 59) else (nI op.val - 26)) &&& 3 = nI (lic op.val)) ∧ lic op.val < 4 := by decide +kernel
theorem fm_ok : ∀ op : Fin 202, tab_FORMS op.val = nI (fmN op.val) ∧ fmN op.val < 23 := by decide +kernel
theorem fm_0 {op : Nat} (h : ¬ op < 202) : fmN op = 0 := if_neg h
theorem fm_lt (op : Nat) : fmN op < 23 := by
  by_cases h : op < 202
  · exact (fm_ok ⟨op, h⟩).2
  · rw [fm_0 h]; decide
end COD

/-! THE REFERENCE: methods -/
section MME
variable {F : Nat → Nat} {N c i r w ver cf : Nat} {K B : Nat → Nat} {z u : St}
theorem b_dpM {l : List (Nat × Nat)} {n : Nat} {x3 x4 x10 : Int32} (hn : n < 60) (hl : n < l.length) : ∀ (m j g : Nat) (u : St), j + m = n → m < g → RB N r w z u → MW F N c K B u → NM l u → MK c K l → wp (f_M_methods_L501 (nI n) x3 x4 x10 g u (nI j)) (fun v => RB N r w z v)
  | 0, j, g + 1, u, h1, _, h, hW, hT, hK => by
    rw [f_M_methods_L501, if_pos (nI_le (by omega) (by omega))]
    exact wp_some h
  | m + 1, j, g + 1, u, h1, h2, h, hW, hT, hK => by
    have hN := h.1.1
    obtain ⟨e1, e2⟩ := hT j _ (List.getElem?_eq_getElem (show j < l.length by omega))
    obtain ⟨e3, e4⟩ := hT n _ (List.getElem?_eq_getElem hl)
    obtain ⟨q1, q2⟩ := hK _ (List.getElem_mem (show j < l.length by omega))
    obtain ⟨q3, q4⟩ := hK _ (List.getElem_mem hl)
    rw [f_M_methods_L501, if_neg (nI_ge (by omega) (by omega)), gd_in (by omega) (by decide), gd_in (by omega) (by decide), ncl (by omega), ncl (by omega), e1, e3, same_eq (hW.tx hN q1) (hW.tx hN q3), cI_s, gd_in (by omega) (by decide), gd_in (by omega) (by decide), e2, e4, same_eq (hW.tx hN q2) (hW.tx hN q4), cI_s, nI_1]
    have fin : ∀ x : Int32, wp (cI (f_M_must u x 16 x3) fun r57 u55 => f_M_methods_L501 (nI n) x3 x4 x10 g u55 (nI (j + 1))) (fun v => RB N r w z v) := fun x => by
      rw [must_b h, cI_s]
      exact b_dpM hn hl m (j + 1) g u (by omega) (by omega) h hW hT hK
    refine wp_cT (wp_ite (fun _ => wp_some (fin _)) (fun _ => wp_ite (fun _ => wp_some (fin _)) (fun _ => wp_some (fin _))))
theorem dpM {l : List (Nat × Nat)} {nm ty n w : Nat} {x4 x10 : Int32} (hn : n < 60) (hl : l.length = n) (hO : RO N i z u) (hW : MW F N c K B u) (hT : NM (l ++ [(nm, ty)]) u) (hK : MK c K (l ++ [(nm, ty)])) : ∀ (m j g : Nat), j + m = n → m < g → wp (f_M_methods_L501 (nI n) (nI w) x4 x10 g u (nI j)) (fun v => if dupM F B (l.drop j) nm ty = true then RB N 16 w z v else v = u)
  | 0, j, g + 1, h1, _ => by
    rw [f_M_methods_L501, if_pos (nI_le (by omega) (by omega)), List.drop_eq_nil_of_le (by omega)]
    exact wp_some rfl
  | m + 1, j, g + 1, h1, h2 => by
    have hN := hO.1.1
    have hj : j < l.length := by omega
    have ht : (l ++ [(nm, ty)])[n]? = some (nm, ty) := by
      rw [List.getElem?_append_right (by omega), show n - l.length = 0 by omega]
      rfl
    have hjl : (l ++ [(nm, ty)])[j]? = some l[j] := by rw [List.getElem?_append_left hj]; exact List.getElem?_eq_getElem hj
    obtain ⟨e1, e2⟩ := hT j _ hjl
    obtain ⟨e3, e4⟩ := hT n _ ht
    obtain ⟨q1, q2⟩ := hK _ (List.mem_of_getElem? hjl)
    obtain ⟨q3, q4⟩ := hK _ (List.mem_of_getElem? ht)
    have ds : dupM F B (l.drop j) nm ty = ((smT F B l[j].1 nm && smT F B l[j].2 ty) || dupM F B (l.drop (j + 1)) nm ty) := by
      unfold dupM
      rw [List.drop_eq_getElem_cons hj, List.any_cons]
    dsimp only at e3 e4 q3 q4
    rw [ds, f_M_methods_L501, if_neg (nI_ge (by omega) (by omega)), gd_in (by omega) (by decide), gd_in (by omega) (by decide), ncl (by omega), ncl (by omega), e1, e3, same_eq (hW.tx hN q1) (hW.tx hN q3), cI_s, gd_in (by omega) (by decide), gd_in (by omega) (by decide), e2, e4, same_eq (hW.tx hN q2) (hW.tx hN q4), cI_s, nI_1]
    have ec : (if (if smT F B l[j].1 nm = true then (1 : Int32) else 0) = 0 then some ((1 : Int32), u) else (if (if smT F B l[j].2 ty = true then (1 : Int32) else 0) = 0 then some (1, u) else some (0, u))) = some (if (smT F B l[j].1 nm && smT F B l[j].2 ty) = true then 0 else 1, u) := by
      cases smT F B l[j].1 nm <;> cases smT F B l[j].2 ty <;> rfl
    rw [ec, cT_s]
    dsimp only
    cases hs : (smT F B l[j].1 nm && smT F B l[j].2 ty) with
    | true =>
      rw [if_pos (show true = true from rfl), must_fl 16 (r := 16) rfl hO (by decide) (by decide), cI_s]
      have kb : ko [3, 4] [] u (rbk u 16 w) := rbk_ko (by decide) (by decide)
      refine wp_mono (b_dpM (l := l ++ [(nm, ty)]) hn (by simp; omega) m (j + 1) g _ (by omega) (by omega) (RO_B hO (by decide) (by decide)) (MW_ko hW kb (by decide) (by decide)) (NM_ko hT kb (by decide)) hK) fun v hv => ?_
      simp only [Bool.true_or, if_true]
      exact hv
    | false =>
      rw [if_neg (show ¬ (false = true) by decide), must_t hO (by decide), cI_s]
      simp only [Bool.false_or]
      exact dpM hn hl hO hW hT hK m (j + 1) g (by omega) (by omega)
theorem bits5 : ∀ m : Fin 32, (!decide (m.val &&& 7 = 0 ∨ m.val &&& 7 = 1 ∨ m.val &&& 7 = 2 ∨ m.val &&& 7 = 4) || ((!decide (m.val &&& 3 = 0) && !decide (m.val &&& 3 = 3) && decide (m.val &&& 20 = 0)) == (!decide (m.val &&& 3 = 0) && decide (m.val &&& 16 = 0)))) = true := by decide +kernel
/-- the flags, step by step -/
theorem mfl_m {f : Nat} (hf : f < 65536) (hcf : cf < 65536) : ((if (nI f &&& (-1056)) = 0 then (cI (f_M_oneOf u (nI f)) fun r136 u134 => if r136 = 0 then (some ((0 : Int32), u134)) else (if (nI f &&& 1024) = 0 then (some (1, u134)) else (if (nI f &&& 26) = 0 then (some (1, u134)) else (some (0, u134))))) else (some (0, u))) = some (if (decide (f &&& 4294966240 = 0) && one7 f && (decide (f &&& 1024 = 0) || decide (f &&& 26 = 0))) = true then 1 else 0, u)) ∧ ∃ W : Int32, (if (if cf &&& 512 = 0 then (0 : Int32) else 1) = 0 then (some (if (decide (f &&& 4294966240 = 0) && one7 f && (decide (f &&& 1024 = 0) || decide (f &&& 26 = 0))) = true then (1 : Int32) else 0)) else (bnd (if (nI f &&& 3) = 0 then (0) else (if (nI f &&& 3) = 3 then (0) else (if (nI f &&& 20) = 0 then (1) else (0)))) fun (z131 : Int32) => some ((if (decide (f &&& 4294966240 = 0) && one7 f && (decide (f &&& 1024 = 0) || decide (f &&& 26 = 0))) = true then (1 : Int32) else 0) &&& z131))) = some W ∧ (W &&& (if (nI cf &&& 1024) = 0 then (if (nI f &&& 1024) = 0 then (1 : Int32) else (0)) else (1))) = if mfl cf f then 1 else 0 := by
  have e1 : (nI f &&& (-1056) = 0) = (f &&& 4294966240 = 0) := propext (msk (x := -1056) (m := 4294966240) hf (by decide))
  have e3 : (nI cf &&& 1024 = 0) = (cf &&& 1024 = 0) := propext (mskL hcf)
  have e4 : (nI f &&& 1024 = 0) = (f &&& 1024 = 0) := propext (mskL hf)
  have e5 : (nI f &&& 26 = 0) = (f &&& 26 = 0) := propext (mskL hf)
  have e6 : (nI f &&& 3 = 0) = (f &&& 3 = 0) := propext (mskL hf)
  have e7 : (nI f &&& 3 = 3) = (f &&& 3 = 3) := by
    rw [show (3 : Int32) = nI 3 from rfl, nand]
    exact propext (nI_inj (by have : f &&& 3 < 65536 := and_lt hf; omega) (by decide))
  have e8 : (nI f &&& 20 = 0) = (f &&& 20 = 0) := propext (mskL hf)
  have eA : (if (nI f &&& (-1056)) = 0 then (cI (f_M_oneOf u (nI f)) fun r136 u134 => if r136 = 0 then (some ((0 : Int32), u134)) else (if (nI f &&& 1024) = 0 then (some (1, u134)) else (if (nI f &&& 26) = 0 then (some (1, u134)) else (some (0, u134))))) else (some (0, u))) = some (if (decide (f &&& 4294966240 = 0) && one7 f && (decide (f &&& 1024 = 0) || decide (f &&& 26 = 0))) = true then 1 else 0, u) := by
    rw [one_m, cI_s]
    simp only [e1, e4, e5]
    by_cases a : f &&& 4294966240 = 0
    · rw [if_pos a, decide_eq_true a]
      by_cases b : f &&& 1024 = 0
      · rw [if_pos b, decide_eq_true b]
        cases one7 f <;> rfl
      · rw [if_neg b, decide_eq_false b]
        by_cases d : f &&& 26 = 0
        · rw [if_pos d, decide_eq_true d]
          cases one7 f <;> rfl
        · rw [if_neg d, decide_eq_false d]
          cases one7 f <;> rfl
    · rw [if_neg a, decide_eq_false a]; rfl
  have m5 : ∀ m, m < 32 → f &&& m = (f % 32) &&& m := fun m hm => by
    rw [show f % 32 = f &&& 31 from (Nat.and_two_pow_sub_one_eq_mod f 5).symm, Nat.and_assoc]
    have : ∀ m : Fin 32, 31 &&& m.val = m.val := by decide +kernel
    rw [this ⟨m, hm⟩]
  have b5 := bits5 ⟨f % 32, Nat.mod_lt _ (by decide)⟩
  dsimp only at b5
  rw [← m5 7 (by decide), ← m5 3 (by decide), ← m5 20 (by decide), ← m5 16 (by decide)] at b5
  have face : one7 f = true → (!decide (f &&& 3 = 0) && !decide (f &&& 3 = 3) && decide (f &&& 20 = 0)) = (decide (f &&& 3 ≠ 0) && decide (f &&& 16 = 0)) := by
    intro h
    have h' : decide (f &&& 7 = 0 ∨ f &&& 7 = 1 ∨ f &&& 7 = 2 ∨ f &&& 7 = 4) = true := by
      unfold one7 at h
      rw [decide_eq_true_eq]
      simp only [Bool.or_eq_true, decide_eq_true_eq] at h
      omega
    rw [h'] at b5
    have : (!decide (f &&& 3 = 0)) = decide (f &&& 3 ≠ 0) := by simp
    rw [← this]
    simpa using b5
  have eB : (if (nI f &&& 3) = 0 then (0 : Int32) else (if (nI f &&& 3) = 3 then (0) else (if (nI f &&& 20) = 0 then (1) else (0)))) = if (!decide (f &&& 3 = 0) && !decide (f &&& 3 = 3) && decide (f &&& 20 = 0)) = true then 1 else 0 := by
    simp only [e6, e7, e8]
    by_cases a : f &&& 3 = 0 <;> by_cases b : f &&& 3 = 3 <;> by_cases d : f &&& 20 = 0 <;> simp [a, b, d]
  have eC : (if (nI cf &&& 1024) = 0 then (if (nI f &&& 1024) = 0 then (1 : Int32) else (0)) else (1)) = if (decide (f &&& 1024 = 0) || decide (cf &&& 1024 ≠ 0)) = true then 1 else 0 := by
    simp only [e3, e4]
    by_cases a : cf &&& 1024 = 0 <;> by_cases b : f &&& 1024 = 0 <;> simp [a, b]
  refine ⟨eA, ?_⟩
  rw [eB, eC]
  by_cases d : cf &&& 512 = 0
  · rw [if_pos d, if_pos rfl]
    refine ⟨_, rfl, ?_⟩
    rw [and01]
    congr 1
    unfold mfl
    rw [decide_eq_true d, Bool.true_or, Bool.and_true]
    cases decide (f &&& 4294966240 = 0) <;> cases one7 f <;> cases decide (f &&& 1024 = 0) <;> cases decide (f &&& 26 = 0) <;> cases decide (cf &&& 1024 ≠ 0) <;> rfl
  · rw [if_neg d, if_neg (by decide), bnd_s]
    refine ⟨_, rfl, ?_⟩
    rw [and01, and01]
    congr 1
    unfold mfl
    rw [decide_eq_false d, Bool.false_or]
    cases h1 : one7 f with
    | false => cases decide (f &&& 4294966240 = 0) <;> rfl
    | true =>
      rw [face h1]
      cases decide (f &&& 4294966240 = 0) <;> cases decide (f &&& 1024 = 0) <;> cases decide (f &&& 26 = 0) <;> cases decide (cf &&& 1024 ≠ 0) <;> cases decide (f &&& 3 ≠ 0) <;> cases decide (f &&& 16 = 0) <;> rfl
theorem clr6 {x3 x4 x10 : Int32} {k : Nat} (hk : k < 60) : ∀ (m j g : Nat) (u : St), j + m = 6 → m < g → ∃ v, f_M_methods_L569 (nI k) x3 x4 x10 g u (nI j) = some v ∧ ko [] [3] u v ∧ (∀ t, 6 * k + j ≤ t → t < 6 * k + 6 → v.2 3 t = 0) ∧ ∀ t, t < 6 * k + j ∨ 6 * k + 6 ≤ t → v.2 3 t = u.2 3 t
  | 0, j, g + 1, u, h1, _ => by
    refine ⟨u, ?_, ko_rf, fun t a b => by omega, fun _ _ => rfl⟩
    rw [f_M_methods_L569, if_pos (show (6 : Int32) ≤ nI j from nI_le (a := 6) (by omega) (by omega))]
  | m + 1, j, g + 1, u, h1, h2 => by
    obtain ⟨v, e1, e2, e3, e4⟩ := clr6 (x3 := x3) (x4 := x4) (x10 := x10) hk m (j + 1) g (sa u 3 (6 * k + j) 0) (by omega) (by omega)
    refine ⟨v, ?_, ko_tr (ko_sa (by decide)) e2, fun t a b => ?_, fun t a => ?_⟩
    · rw [f_M_methods_L569, if_neg (show ¬ (6 : Int32) ≤ nI j from nI_ge (b := 6) (by omega) (by decide)), show (6 : Int32) * nI k = nI (6 * k) from nmul 6 k, nI_add, gd_in (by omega) (by decide), bnd_s, ncl (by omega), nI_1]
      exact e1
    · by_cases e : t = 6 * k + j
      · rw [e4 t (by omega), e, sa_a, if_pos rfl, upd, if_pos rfl]
      · exact e3 t (by omega) b
    · rw [e4 t (by omega), sa_ne (by omega)]
end MME

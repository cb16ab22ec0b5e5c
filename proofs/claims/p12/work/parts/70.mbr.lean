/-! THE REFERENCE: CODE, the switches, one INSTRUCTION -/
theorem op_c : ∀ op : Fin 256, (op.val = 170 ↔ fmN op.val = 14) ∧ (op.val = 171 ↔ fmN op.val = 15) ∧ (op.val = 196 ↔ fmN op.val = 22) ∧ (op.val = 132 ↔ fmN op.val = 11) ∧ ((op.val = 21 ∨ op.val = 22 ∨ op.val = 25 ∨ op.val = 54 ∨ op.val = 55 ∨ op.val = 58 ∨ op.val = 132) ↔ (fmN op.val = 7 ∨ fmN op.val = 8 ∨ fmN op.val = 11)) ∧ ((op.val = 22 ∨ op.val = 55) ↔ fmN op.val = 8) := by decide +kernel
theorem ways32 {a b : Int32} {n : Nat} (hn : n < 2 ^ 31) (h : a.toInt - b.toInt + 1 = n) : a - b + 1 = nI n := by
  apply Int32.toInt_inj.mp
  have h1 := Int32.le_toInt a
  have h2 := Int32.toInt_lt a
  have h3 := Int32.le_toInt b
  have h4 := Int32.toInt_lt b
  rw [Int32.toInt_add, Int32.toInt_sub, nI_toInt hn, show (1 : Int32).toInt = 1 from rfl]
  have e : (a.toInt - b.toInt).bmod (2 ^ 32) = a.toInt - b.toInt := bm32 (by omega) (by omega)
  rw [e, bm32 (by omega) (by omega), h]
theorem j32 {x : Int64} {n : Nat} (hn : n < 2 ^ 31) (h : x.toInt = n) : x.toInt32 = nI n := by
  apply Int32.toInt_inj.mp
  rw [Int64.toInt_toInt32, h, nI_toInt hn, bm32 (by omega) (by omega)]
section MBR2
variable {F : Nat → Nat} {N c i r w b sz lo ver pc : Nat} {K B : Nat → Nat} {z u : St}
theorem nums_m (hC : CM N b sz lo ver u) (hN : N ≤ 4000) (hpc : pc < sz) : f_M_numbersOf u (nI (b + pc)) = some (nI (b + pst pc), u) := by
  have := hC.2.2.2.2.1
  have := hC.2.2.2.2.2.1
  unfold f_M_numbersOf
  rw [hC.1, nI_sub (show b ≤ b + pc by omega), show b + pc - b = pc by omega, show nI pc / 4 = nI (pc / 4) from div4 ⟨pc, by omega⟩, show nI (pc / 4) * 4 = nI (pc / 4 * 4) from nmul _ 4, nI_sub (by omega), show nI (b + pc) + 4 = nI (b + pc + 4) from nI_add _ 4, nI_sub (by omega), show b + pc + 4 - (pc - pc / 4 * 4) = b + pst pc by unfold pst; omega]
theorem padM {kx : St → Option St} {x2 : Int32} {Q : St → Prop} {e : Nat} (he : e ≤ sz + 4) (hO : RO N i z u) (hF : xF u = F) (hC : CM N b sz lo ver u) : ∀ (m a g : Nat), a + m = e → m < g → (sPad F b sz m a = none → wp (kx u) Q) → (∀ r v, sPad F b sz m a = some r → RB N r (b + pc) z v → Q v) → wp (f_M_branches_L11 kx (nI (b + pc)) x2 (nI (b + e)) g u (nI (b + a))) Q
  | 0, a, g + 1, h1, _, k1, k2 => by
    have hN := hO.1.1
    have := hC.2.2.2.2.1
    rw [f_M_branches_L11, if_pos (nI_le (by omega) (by omega))]
    exact k1 rfl
  | m + 1, a, g + 1, h1, h2, k1, k2 => by
    have hN := hO.1.1
    have h5 := hC.2.2.2.2.1
    rw [sPad] at k1 k2
    rw [f_M_branches_L11, if_neg (nI_ge (by omega) (by omega)), nI_1]
    by_cases d : sz ≤ a
    · rw [if_pos d] at k2
      rw [there_x hO hC (by omega) (by omega), cI_s, if_pos rfl]
      exact wp_some (k2 _ _ rfl (RO_B hO (by decide) (by decide)))
    · rw [if_neg d] at k1 k2
      have hb0 : (u.2 0 (b + a) = 0) = (F (b + a) = 0) := by
        rw [← hF]
        exact propext (bn_l hO.1.2.2.1 (b + a) 0 (by decide))
      rw [there_o hO hC (by omega), cI_s, if_neg (by decide), gd_in (by omega) (by decide), ncl (by omega)]; simp only [hb0]; rw [bnd_s]
      by_cases d2 : F (b + a) = 0
      · rw [if_neg (fun q => q d2)] at k1 k2
        rw [if_pos d2, must_t hO (by decide), cI_s, if_neg (by decide), show b + a + 1 = b + (a + 1) by omega]
        exact padM he hO hF hC m (a + 1) g (by omega) (by omega) k1 k2
      · rw [if_pos d2] at k2
        rw [if_neg d2, must_fl 24 (r := 24) rfl hO (by decide) (by decide), cI_s, if_pos rfl]
        exact wp_some (k2 _ _ rfl (RO_B hO (by decide) (by decide)))
theorem four_m {a : Nat} (hF : xF u = F) (h : b + a + 4 ≤ 4000) : f_M_four u (nI (b + a)) = some (nI (be F (b + a) 4), u) := by rw [four_in h, hF]
theorem tab_m (hO : RO N i z u) (hF : xF u = F) (hC : CM N b sz lo ver u) (hpc : pc < sz) : wp (f_M_branches u (nI (b + pc)) 1) (MC N i z (sTab F b sz pc) u) := by
  have hN := hO.1.1
  have h5 := hC.2.2.2.2.1
  have hs := hC.2.2.2.2.2.1
  have hp := pst_lt (pc := pc)
  unfold f_M_branches
  rw [nums_m hC hN hpc, cI_s, nI_1, show b + pc + 1 = b + (pc + 1) by omega]
  refine padM (by omega) hO hF hC (pst pc - (pc + 1)) (pc + 1) FU (by omega) (by unfold FU; omega) (fun hpd => ?_) (fun r v hpd h => ?_)
  · unfold sTab
    rw [hpd]
    dsimp only
    rw [if_neg (show ¬ (1 : Int32) = 0 by decide), bnd_s, show nI (b + pst pc) + 12 = nI (b + (pst pc + 12)) by rw [show nI (b + pst pc) + 12 = nI (b + pst pc + 12) from nI_add _ 12]; rfl, show nI (b + pst pc) + 4 = nI (b + (pst pc + 4)) by rw [show nI (b + pst pc) + 4 = nI (b + pst pc + 4) from nI_add _ 4]; rfl, show nI (b + pst pc) + 8 = nI (b + (pst pc + 8)) by rw [show nI (b + pst pc) + 8 = nI (b + pst pc + 8) from nI_add _ 8]; rfl]
    by_cases d : sz < pst pc + 12
    · rw [if_pos d, there_x hO hC (by omega) (by omega), cI_s, if_pos rfl]
      exact wp_some (RO_B hO (by decide) (by decide))
    · rw [if_neg d, there_o hO hC (by omega), cI_s, if_neg (by decide), four_m hF (by omega), cI_s, if_neg (show ¬ (1 : Int32) = 0 by decide), four_m hF (by omega), cI_s]
      have hw := ways_eq (nI (be F (b + (pst pc + 8)) 4)) (nI (be F (b + (pst pc + 4)) 4))
      generalize ((nI (be F (b + (pst pc + 8)) 4)).toInt64 - (nI (be F (b + (pst pc + 4)) 4)).toInt64) + 1 = x5 at hw ⊢
      have hw' : x5.toInt = sx (be F (b + (pst pc + 8)) 4) - sx (be F (b + (pst pc + 4)) 4) + 1 := hw
      generalize sx (be F (b + (pst pc + 8)) 4) - sx (be F (b + (pst pc + 4)) 4) + 1 = W at hw' ⊢
      have g1 : (lg_cmp x5 1 < 0) = (W < 1) := by
        apply propext
        rw [lg_cmp_lt, Int64.lt_iff_toInt_lt, hw', show (1 : Int64).toInt = 1 from rfl]
      have g2 : (0 < lg_cmp x5 500) = (500 < W) := by
        apply propext
        rw [lg_cmp_gt, Int64.lt_iff_toInt_lt, hw', show (500 : Int64).toInt = 500 from rfl]
      simp only [g1, g2]; rw [bnd_s]
      by_cases d4 : W < 1 ∨ 500 < W
      · rw [if_pos d4]
        have e0 : (if W < 1 then (0 : Int32) else if 500 < W then 0 else 1) = 0 := by
          repeat' split
          all_goals first | rfl | omega
        rw [e0, must_fl 24 (r := 24) rfl hO (by decide) (by decide), cI_s, if_pos rfl, cT_s]
        exact wp_some (RO_B hO (by decide) (by decide))
      · rw [if_neg d4]
        have e0 : (if W < 1 then (0 : Int32) else if 500 < W then 0 else 1) = 1 := by
          repeat' split
          all_goals first | rfl | omega
        obtain ⟨n, rfl⟩ : ∃ n : Nat, W = n := ⟨W.toNat, by omega⟩
        rw [e0, must_t hO (by decide), cI_s, if_neg (by decide), Int.toNat_natCast, j32 (by omega) hw', show (4 : Int32) * nI n = nI (4 * n) from nmul 4 n, nI_add]
        by_cases d5 : sz < pst pc + 12 + 4 * n
        · rw [if_pos d5, there_x hO hC (by omega) (by omega), cI_s, cT_s]
          exact wp_some (RO_B hO (by decide) (by decide))
        · rw [if_neg d5, there_o hO hC (by omega), cI_s, cT_s]
          exact wp_some ⟨hO, ko_rf⟩
  · unfold sTab
    rw [hpd]
    exact h
def pvM (F : Nat → Nat) (a j : Nat) : Option Int := if j = 0 then none else some (sx (be F (a - 8) 4))
theorem prM {n q : Nat} {Q : St → Prop} (hn : n ≤ 250) (hq : q ≤ sz) (hO : RO N i z u) (hF : xF u = F) (hC : CM N b sz lo ver u) : ∀ (m j g : Nat), j + m = n → m < g → q + 8 + 8 * j ≤ sz → (sPrs F b sz m (q + 8 + 8 * j) (pvM F (b + (q + 8 + 8 * j)) j) = none → Q u) → (∀ r v, sPrs F b sz m (q + 8 + 8 * j) (pvM F (b + (q + 8 + 8 * j)) j) = some r → RB N r (b + pc) z v → Q v) → wp (f_M_branches_L193 (fun u44 => some u44) (nI (b + pc)) (nI (b + q)) (nI n) g u (nI j)) Q
  | 0, j, g + 1, h1, _, h3, k1, k2 => by
    rw [f_M_branches_L193, if_pos (nI_le (by omega) (by omega))]
    exact wp_some (k1 rfl)
  | m + 1, j, g + 1, h1, h2, h3, k1, k2 => by
    have hN := hO.1.1
    have h5 := hC.2.2.2.2.1
    have hs := hC.2.2.2.2.2.1
    rw [f_M_branches_L193, if_neg (nI_ge (by omega) (by omega)), nI_1, show nI (b + q) + 8 = nI (b + q + 8) from nI_add _ 8, show (8 : Int32) * nI j = nI (8 * j) from nmul 8 j, nI_add, show b + q + 8 + 8 * j = b + (q + 8 + 8 * j) by omega, show nI (b + (q + 8 + 8 * j)) + 4 = nI (b + (q + 8 + 8 * j) + 4) from nI_add _ 4, show nI (b + (q + 8 + 8 * j)) + 8 = nI (b + (q + 8 + 8 * j) + 8) from nI_add _ 8]
    rw [sPrs_s] at k1 k2
    by_cases d1 : sz < q + 8 + 8 * j + 4
    · rw [if_pos d1] at k2
      rw [there_x hO hC (by omega) (by omega), cI_s, if_pos rfl]
      exact wp_some (k2 _ _ rfl (RO_B hO (by decide) (by decide)))
    · rw [if_neg d1] at k1 k2
      rw [there_o hO hC (by omega), cI_s, if_neg (by decide)]; simp only [show (nI j ≤ 0) = (j ≤ 0) from nle (b := 0) (by omega) (by decide)]
      have nxt : (sz < q + 8 + 8 * j + 8 → ∀ r v, some 25 = some r → RB N r (b + pc) z v → Q v) → (¬ sz < q + 8 + 8 * j + 8 → (sPrs F b sz m (q + 8 + 8 * j + 8) (some (sx (be F (b + (q + 8 + 8 * j)) 4))) = none → Q u) ∧ (∀ r v, sPrs F b sz m (q + 8 + 8 * j + 8) (some (sx (be F (b + (q + 8 + 8 * j)) 4))) = some r → RB N r (b + pc) z v → Q v)) → wp (cI (f_M_isThere u (nI (b + pc)) (nI (b + (q + 8 + 8 * j) + 8))) fun r29 u27 => if r29 = 0 then (some u27) else (f_M_branches_L193 (fun u44 => some u44) (nI (b + pc)) (nI (b + q)) (nI n) g u27 (nI (j + 1)))) Q := by
        intro a1 a2
        by_cases d2 : sz < q + 8 + 8 * j + 8
        · rw [there_x hO hC (by omega) (by omega), cI_s, if_pos rfl]
          exact wp_some (a1 d2 _ _ rfl (RO_B hO (by decide) (by decide)))
        · obtain ⟨b1, b2⟩ := a2 d2
          rw [there_o hO hC (by omega), cI_s, if_neg (by decide)]
          have ep : pvM F (b + (q + 8 + 8 * (j + 1))) (j + 1) = some (sx (be F (b + (q + 8 + 8 * j)) 4)) := by
            unfold pvM
            rw [if_neg (by omega), show b + (q + 8 + 8 * (j + 1)) - 8 = b + (q + 8 + 8 * j) by omega]
          refine prM hn hq hO hF hC m (j + 1) g (by omega) (by omega) (by omega) ?_ ?_
          · rw [ep, show q + 8 + 8 * (j + 1) = q + 8 + 8 * j + 8 by omega]; exact b1
          · rw [ep, show q + 8 + 8 * (j + 1) = q + 8 + 8 * j + 8 by omega]; exact b2
      by_cases j0 : j ≤ 0
      · have ep : pvM F (b + (q + 8 + 8 * j)) j = none := if_pos (by omega)
        rw [ep] at k1 k2
        dsimp only at k1 k2
        rw [if_neg (show ¬ (false = true) by decide)] at k1 k2
        rw [if_pos j0]
        refine nxt (fun d2 r v e h => ?_) (fun d2 => ?_)
        · rw [if_pos d2] at k2; exact k2 r v e h
        · rw [if_neg d2] at k1 k2; exact ⟨k1, k2⟩
      · have ep : pvM F (b + (q + 8 + 8 * j)) j = some (sx (be F (b + (q + 8 + 8 * j) - 8) 4)) := if_neg (by omega)
        rw [ep] at k1 k2
        dsimp only at k1 k2
        rw [if_neg j0, show nI (b + (q + 8 + 8 * j)) - 8 = nI (b + (q + 8 + 8 * j - 8)) by rw [show nI (b + (q + 8 + 8 * j)) - 8 = nI (b + (q + 8 + 8 * j) - 8) from nI_sub (b := 8) (by omega), show b + (q + 8 + 8 * j) - 8 = b + (q + 8 + 8 * j - 8) by omega], four_m hF (by omega), cI_s, four_m hF (by omega), cI_s, bnd_s]
        rw [show b + (q + 8 + 8 * j) - 8 = b + (q + 8 + 8 * j - 8) by omega] at k1 k2
        have ec : (nI (be F (b + (q + 8 + 8 * j)) 4) ≤ nI (be F (b + (q + 8 + 8 * j - 8)) 4)) = (sx (be F (b + (q + 8 + 8 * j)) 4) ≤ sx (be F (b + (q + 8 + 8 * j - 8)) 4)) := propext Int32.le_iff_toInt_le
        simp only [ec]
        by_cases d3 : sx (be F (b + (q + 8 + 8 * j)) 4) ≤ sx (be F (b + (q + 8 + 8 * j - 8)) 4)
        · rw [if_pos (decide_eq_true d3)] at k2
          rw [if_pos d3, must_fl 24 (r := 24) rfl hO (by decide) (by decide), cI_s, if_pos rfl]
          exact wp_some (k2 _ _ rfl (RO_B hO (by decide) (by decide)))
        · rw [if_neg (by rw [decide_eq_false d3]; decide)] at k1 k2
          rw [if_neg d3, must_t hO (by decide), cI_s, if_neg (by decide)]
          refine nxt (fun d2 r v e h => ?_) (fun d2 => ?_)
          · rw [if_pos d2] at k2; exact k2 r v e h
          · rw [if_neg d2] at k1 k2; exact ⟨k1, k2⟩
theorem pai_m (hO : RO N i z u) (hF : xF u = F) (hC : CM N b sz lo ver u) (hpc : pc < sz) : wp (f_M_branches u (nI (b + pc)) 0) (MC N i z (sPai F b sz pc) u) := by
  have hN := hO.1.1
  have h5 := hC.2.2.2.2.1
  have hs := hC.2.2.2.2.2.1
  have hp := pst_lt (pc := pc)
  unfold f_M_branches
  rw [nums_m hC hN hpc, cI_s, nI_1, show b + pc + 1 = b + (pc + 1) by omega]
  refine padM (by omega) hO hF hC (pst pc - (pc + 1)) (pc + 1) FU (by omega) (by unfold FU; omega) (fun hpd => ?_) (fun r v hpd h => ?_)
  · unfold sPai
    rw [hpd]
    dsimp only
    rw [if_pos (show (0 : Int32) = 0 from rfl), bnd_s, show nI (b + pst pc) + 4 = nI (b + (pst pc + 4)) by rw [show nI (b + pst pc) + 4 = nI (b + pst pc + 4) from nI_add _ 4]; rfl, show nI (b + pst pc) + 8 = nI (b + (pst pc + 8)) by rw [show nI (b + pst pc) + 8 = nI (b + pst pc + 8) from nI_add _ 8]; rfl]
    by_cases d : sz < pst pc + 8
    · rw [if_pos d, there_x hO hC (by omega) (by omega), cI_s, if_pos rfl]
      exact wp_some (RO_B hO (by decide) (by decide))
    · rw [if_neg d, there_o hO hC (by omega), cI_s, if_neg (by decide), four_m hF (by omega), cI_s, if_pos (show (0 : Int32) = 0 from rfl)]
      generalize hx : nI (be F (b + (pst pc + 4)) 4) = x
      have hx' : sx (be F (b + (pst pc + 4)) 4) = x.toInt := by rw [← hx]; rfl
      rw [hx', bnd_s]
      have g1 : (x < 0) = (x.toInt < 0) := propext Int32.lt_iff_toInt_lt
      have g2 : (250 < x) = (250 < x.toInt) := propext Int32.lt_iff_toInt_lt
      by_cases d4 : x.toInt < 0 ∨ 250 < x.toInt
      · rw [if_pos d4]; simp only [g1, g2]
        have e0 : (if x.toInt < 0 then (0 : Int32) else if 250 < x.toInt then 0 else 1) = 0 := by
          repeat' split
          all_goals first | rfl | omega
        rw [e0, must_fl 24 (r := 24) rfl hO (by decide) (by decide), cI_s, if_pos rfl]
        exact wp_some (RO_B hO (by decide) (by decide))
      · rw [if_neg d4]; simp only [g1, g2]
        have e0 : (if x.toInt < 0 then (0 : Int32) else if 250 < x.toInt then 0 else 1) = 1 := by
          repeat' split
          all_goals first | rfl | omega
        rw [e0, must_t hO (by decide), cI_s, if_neg (by decide)]
        obtain ⟨n, hn, en⟩ := nI_of (x := x) (fun q => d4 (Or.inl (Int32.lt_iff_toInt_lt.mp q)))
        have hxn : x.toInt = n := by rw [en, nI_toInt hn]
        rw [hxn] at d4 ⊢
        rw [en, Int.toNat_natCast]
        have e8 : pst pc + 8 + 8 * 0 = pst pc + 8 := by omega
        refine prM (q := pst pc) (n := n) (by omega) (by omega) hO hF hC n 0 FU (by omega) (by unfold FU; omega) (by omega) (fun hk => ?_) (fun r v hk h => ?_)
        · rw [e8] at hk
          have hk' : sPrs F b sz n (pst pc + 8) none = none := hk
          rw [hk']
          exact ⟨hO, ko_rf⟩
        · rw [e8] at hk
          have hk' : sPrs F b sz n (pst pc + 8) none = some r := hk
          rw [hk']
          exact h
  · unfold sPai
    rw [hpd]
    exact h
theorem after_m {y : Nat × List Int32} (hF : xF u = F) (hC : CM N b sz lo ver u) (hN : N ≤ 4000) (hpc : pc < sz) (hst : stp F c K B ver lo b sz pc = .ok y) : f_M_after u (nI (b + pc)) = some (nI (b + pc + y.1), u) := by
  have h5 := hC.2.2.2.2.1
  have hs := hC.2.2.2.2.2.1
  have hp := pst_lt (pc := pc)
  have f8 : ∀ j, F j < 256 := fun j => by rw [← hF]; exact F8 u j
  obtain ⟨o1, o2, o3, -⟩ := op_c ⟨F (b + pc), f8 _⟩
  dsimp only at o1 o2 o3
  obtain ⟨w1, w2, -⟩ := stp_ok hpc hst
  unfold f_M_after
  rw [byteOf_in (by omega), cI_s, hF]; simp only [show (nI (F (b + pc)) = 196) = (F (b + pc) = 196) from neq (b := 196) (by have := f8 (b + pc); omega) (by decide), show (nI (F (b + pc)) = 170) = (F (b + pc) = 170) from neq (b := 170) (by have := f8 (b + pc); omega) (by decide), show (nI (F (b + pc)) = 171) = (F (b + pc) = 171) from neq (b := 171) (by have := f8 (b + pc); omega) (by decide)]; rw [nums_m hC hN hpc, cI_s]
  unfold stp at hst
  by_cases d0 : fmN (F (b + pc)) = 0
  · rw [if_pos d0] at hst; cases hst
  · rw [if_neg d0] at hst
    by_cases d22 : F (b + pc) = 196
    · have e22 := o3.mp d22
      rw [if_neg (by omega), if_neg (by omega), if_neg (by omega), if_pos e22] at hst
      unfold sWid at hst
      by_cases a1 : sz ≤ pc + 1
      · rw [if_pos a1] at hst; cases hst
      · rw [if_neg a1] at hst
        by_cases a2 : ¬ (fmN (F (b + pc + 1)) = 7 ∨ fmN (F (b + pc + 1)) = 8 ∨ fmN (F (b + pc + 1)) = 11)
        · rw [if_pos a2] at hst; cases hst
        · rw [if_neg a2] at hst
          by_cases a3 : sz < pc + (if fmN (F (b + pc + 1)) = 11 then 6 else 4)
          · rw [if_pos a3] at hst; cases hst
          · rw [if_neg a3] at hst
            by_cases a4 : lo < be F (b + pc + 2) 2 + (if fmN (F (b + pc + 1)) = 8 then 2 else 1)
            · rw [if_pos a4] at hst; cases hst
            · rw [if_neg a4] at hst
              cases hst
              obtain ⟨-, -, -, o4, -⟩ := op_c ⟨F (b + pc + 1), f8 _⟩
              dsimp only at o4
              rw [if_pos d22, nI_1, byteOf_in (by omega), cI_s, hF, bnd_s]; simp only [show (nI (F (b + pc + 1)) = 132) = (F (b + pc + 1) = 132) from neq (b := 132) (by have := f8 (b + pc + 1); omega) (by decide)]
              by_cases d : F (b + pc + 1) = 132
              · rw [if_pos d, if_pos (o4.mp d)]
                exact congrArg (fun x => some (x, u)) (nI_add (b + pc) 6)
              · rw [if_neg d, if_neg (fun q => d (o4.mpr q))]
                exact congrArg (fun x => some (x, u)) (nI_add (b + pc) 4)
    · rw [if_neg d22]
      by_cases d170 : F (b + pc) = 170
      · have e14 := o1.mp d170
        rw [if_neg (by omega), if_pos e14] at hst
        unfold sTab at hst
        split at hst
        · cases hst
        · split at hst
          · cases hst
          · split at hst
            · cases hst
            · rename_i hW
              split at hst
              · cases hst
              · cases hst
                have hx : (nI (be F (b + (pst pc + 8)) 4)).toInt - (nI (be F (b + (pst pc + 4)) 4)).toInt + 1 = ((sx (be F (b + (pst pc + 8)) 4) - sx (be F (b + (pst pc + 4)) 4) + 1).toNat : Int) := by
                  show sx (be F (b + (pst pc + 8)) 4) - sx (be F (b + (pst pc + 4)) 4) + 1 = _
                  omega
                dsimp only at w1 w2 ⊢
                rw [if_pos d170, show nI (b + pst pc) + 8 = nI (b + (pst pc + 8)) by rw [show nI (b + pst pc) + 8 = nI (b + pst pc + 8) from nI_add _ 8]; rfl, show nI (b + pst pc) + 4 = nI (b + (pst pc + 4)) by rw [show nI (b + pst pc) + 4 = nI (b + pst pc + 4) from nI_add _ 4]; rfl, four_m hF (by omega), cI_s, four_m hF (by omega), cI_s, ways32 (by omega) hx, show (4 : Int32) * nI ((sx (be F (b + (pst pc + 8)) 4) - sx (be F (b + (pst pc + 4)) 4) + 1).toNat) = nI (4 * (sx (be F (b + (pst pc + 8)) 4) - sx (be F (b + (pst pc + 4)) 4) + 1).toNat) from nmul 4 _, show nI (b + pst pc) + 12 = nI (b + pst pc + 12) from nI_add _ 12, nI_add]
                congr 3
                omega
      · rw [if_neg d170]
        by_cases d171 : F (b + pc) = 171
        · have e15 := o2.mp d171
          rw [if_neg (by omega), if_neg (by omega), if_pos e15] at hst
          unfold sPai at hst
          split at hst
          · cases hst
          · split at hst
            · cases hst
            · split at hst
              · cases hst
              · rename_i hW
                split at hst
                · cases hst
                · cases hst
                  dsimp only at w1 w2 ⊢
                  have hx : nI (be F (b + (pst pc + 4)) 4) = nI (sx (be F (b + (pst pc + 4)) 4)).toNat := by
                    apply Int32.toInt_inj.mp
                    rw [nI_toInt (show (sx (be F (b + (pst pc + 4)) 4)).toNat < 2 ^ 31 by omega)]
                    show sx (be F (b + (pst pc + 4)) 4) = _
                    omega
                  rw [if_pos d171, show nI (b + pst pc) + 4 = nI (b + (pst pc + 4)) by rw [show nI (b + pst pc) + 4 = nI (b + pst pc + 4) from nI_add _ 4]; rfl, four_m hF (by omega), cI_s, hx, show (8 : Int32) * nI ((sx (be F (b + (pst pc + 4)) 4)).toNat) = nI (8 * (sx (be F (b + (pst pc + 4)) 4)).toNat) from nmul 8 _, show nI (b + pst pc) + 8 = nI (b + pst pc + 8) from nI_add _ 8, nI_add]
                  congr 3
                  omega
        · rw [if_neg d171, lenX_eq, cI_s]
          have n14 : ¬ fmN (F (b + pc)) = 14 := fun q => d170 (o1.mpr q)
          have n15 : ¬ fmN (F (b + pc)) = 15 := fun q => d171 (o2.mpr q)
          have n22 : ¬ fmN (F (b + pc)) = 22 := fun q => d22 (o3.mpr q)
          have h202 : F (b + pc) < 202 := Nat.lt_of_not_le fun q => d0 (fm_0 (by omega))
          rw [len_t ⟨F (b + pc), h202⟩ d0 n14 n15 n22, nI_add]
          dsimp only
          have : y.1 = wdN (fmN (F (b + pc))) := by
            by_cases d1 : fmN (F (b + pc)) = 1
            · rw [if_pos d1] at hst
              cases hst
              rw [d1]
              decide
            · rw [if_neg d1, if_neg n14, if_neg n15, if_neg n22] at hst
              unfold sFix at hst
              split at hst
              · cases hst
              · repeat' split at hst
                all_goals first | (cases hst; done) | (cases hst; rfl)
          rw [this]
end MBR2

/-! THE CLASS: CODE, the two switches, and a step -/
theorem div4 : ∀ a : Fin 2100, nI a.val / 4 = nI (a.val / 4) := by decide +kernel
section SWI
variable {F : Nat → Nat} {N c i r w b sz lo ver pc : Nat} {K B : Nat → Nat} {z u : St} {jl : List (Nat × Int32)}
theorem sw_o_o {a : Nat} (hO : SO N i z u) (hP : PW_o F N c K B u) (hC : CI N b sz lo ver u) (h : a + 4 ≤ sz) : f_C_switchNumber u (nI pc) (nI a) = some (nI (be F (b + a) 4), u) := by
  obtain ⟨h13, h9, h8, h14, hbs, hs, hlo, hver⟩ := hC
  have hN := hO.1.1
  have n4 : f_W_numberAt u (nI (b + a)) 4 = some (nI (be F (b + a) 4), u) := by
    rw [← hP.1]
    exact num_in u (k := 4) hO.1.2.1 hN (by decide) (by omega)
  unfold f_C_switchNumber
  rw [bnd_s, h9, show nI a + 4 = nI (a + 4) from nI_add a 4, if_neg (nI_nlt (by omega) (by omega)), nd_t (by decide), cV_s, h13, nI_add, n4, cI_s]
theorem sw_x {a : Nat} (hO : SO N i z u) (hC : CI N b sz lo ver u) (h : ¬ a + 4 ≤ sz) (ha : a < 100000) : wp (f_C_switchNumber u (nI pc) (nI a)) (fun q => SB N 25 (b + pc) z q.2) := by
  obtain ⟨h13, h9, h8, h14, hbs, hs, hlo, hver⟩ := hC
  unfold f_C_switchNumber
  rw [bnd_s, h9, show nI a + 4 = nI (a + 4) from nI_add a 4, if_pos (nI_lt (by omega) (by omega)), h13, nI_add]
  refine ws_need hO rfl rfl (by decide) (fun q => absurd rfl q) (fun _ u h => ?_)
  repeat' (first | exact h | (refine SB_sv (by decide) h) | (refine SB_sa (by decide) h) | (with_reducible refine wp_some ?_; try dsimp only) | (with_reducible refine wp_bnd_sv (by decide) h (fun _ h => ?_)) | (with_reducible refine wp_bnd_sa (by decide) h (fun _ h => ?_)) | (with_reducible refine wp_bnd ?_) | with_reducible refine wp_gb0 ?_ | with_reducible refine wp_gb1 ?_ | with_reducible refine wp_gb01 ?_ | with_reducible refine wp_gb10 ?_ | (with_reducible refine wp_cI_b (b_next h) (fun _ _ h => ?_)) | (with_reducible refine wp_cI_b (b_num1 h) (fun _ _ h => ?_)) | (with_reducible refine wp_cI_b (b_num2 h) (fun _ _ h => ?_)) | (with_reducible refine wp_cI_b (b_num4 h) (fun _ _ h => ?_)) | (with_reducible refine wp_cI_b (b_kindOf h) (fun _ _ h => ?_)) | (with_reducible refine wp_cI_b (b_factsOf h) (fun _ _ h => ?_)) | (with_reducible refine wp_cI_b (b_measureOf h) (fun _ _ h => ?_)) | (with_reducible refine wp_cI_b (b_firstOf h) (fun _ _ h => ?_)) | (with_reducible refine wp_cI_b (b_alike h) (fun _ _ h => ?_)) | (with_reducible refine wp_cI_b (b_take h) (fun _ _ h => ?_)) | (with_reducible refine wp_cI_b (b_bitCount h) (fun _ _ h => ?_)) | (with_reducible refine wp_cI_b (b_mayBeLast h) (fun _ _ h => ?_)) | (with_reducible refine wp_cI_b (b_kindFits h) (fun _ _ h => ?_)) | (with_reducible refine wp_cI_b (b_restFits h) (fun _ _ h => ?_)) | (with_reducible refine wp_cI_b (b_switchNumber h) (fun _ _ h => ?_)) | (with_reducible refine wp_cI_b (b_attributeOf h) (fun _ _ h => ?_)) | (with_reducible refine wp_cI_b (b_constantKind h) (fun _ _ h => ?_)) | (with_reducible refine wp_cI_b (b_readAttributes h) (fun _ _ h => ?_)) | (with_reducible refine wp_cI_b (b_classFlagsHold h) (fun _ _ h => ?_)) | (with_reducible refine wp_cI_b (b_takeClassText h) (fun _ _ h => ?_)) | (with_reducible refine wp_cI_b (b_refer h) (fun _ _ h => ?_)) | (with_reducible refine wp_cI_b (b_fits h) (fun _ _ h => ?_)) | (with_reducible refine wp_cI_b (b_secondOf h) (fun _ _ h => ?_)) | (with_reducible refine wp_cI_b (b_refer h) (fun _ _ h => ?_)) | (with_reducible refine wp_cI_b (b_specialNameHolds h) (fun _ _ h => ?_)) | (with_reducible refine wp_cI_b (b_fieldFlagsHold h) (fun _ _ h => ?_)) | (with_reducible refine wp_cI_b (b_methodFlagsHold h) (fun _ _ h => ?_)) | (with_reducible refine wp_cI_b (b_localInCode h) (fun _ _ h => ?_)) | (with_reducible refine wp_cV_b (b_need h) (fun _ h => ?_)) | (with_reducible refine wp_cV_b (b_needType h) (fun _ h => ?_)) | (with_reducible refine wp_cV_b (b_addJump h) (fun _ h => ?_)) | (with_reducible refine wp_cV_b (b_readConstant h) (fun _ h => ?_)) | (with_reducible refine wp_cV_b (b_readExceptions h) (fun _ h => ?_)) | (with_reducible refine wp_cV_b (b_readLinks h) (fun _ h => ?_)) | (with_reducible refine wp_cV_b (b_noteTexts h) (fun _ h => ?_)) | (with_reducible refine wp_cV_b (b_readEntries h) (fun _ h => ?_)) | (with_reducible refine wp_cV_b (b_readClass h) (fun _ h => ?_)) | (with_reducible refine wp_cV_b (b_clearCodeTallies h) (fun _ h => ?_)) | (with_reducible refine wp_cV_b (b_addMember h) (fun _ h => ?_)) | (with_reducible refine wp_cT_b (b_exL h) (fun _ h => ?_)) | (with_reducible refine wp_cI_b (b_spells (by decide) h) (fun _ _ h => ?_)) | (with_reducible refine wp_gb (by repeat' (first | exact Or.inl rfl | exact Or.inr rfl | apply ite01)) ?_) | (with_reducible refine wp_cI_b (b_num hnm h) (fun _ _ h => ?_)) | (with_reducible refine wp_gdn (by omega) (by decide) ?_) | (with_reducible refine wp_cT ?_) | (with_reducible refine wp_ite (fun _ => ?_) (fun _ => ?_)))
theorem b_padL {e : Nat} {x : Int32} (he : e < 100000) : ∀ (m a g : Nat) (u : St), a + m = e → m < g → SB N r w z u → wp (f_C_pastPadding_L12 x (nI e) g u (nI a)) (fun p => SB N r w z p)
  | 0, a, g + 1, u, h1, _, h => by
    rw [f_C_pastPadding_L12, if_pos (nI_le (by omega) (by omega))]
    exact wp_some h
  | m + 1, a, g + 1, u, h1, h2, h => by
    rw [f_C_pastPadding_L12, if_neg (nI_ge (by omega) (by omega)), nI_1]
    refine wp_bnd (wp_cV_b (b_need h) (fun _ h => wp_cI_b (b_num1 h) (fun _ _ h => wp_bnd (wp_cV_b (b_need h) (fun _ h => ?_)))))
    exact b_padL he m (a + 1) g _ (by omega) (by omega) h
theorem padL_eq_o {e : Nat} (he : e < 100000) (hO : SO N i z u) (hP : PW_o F N c K B u) (hC : CI N b sz lo ver u) : ∀ (m a g : Nat), a + m = e → m < g → wp (f_C_pastPadding_L12 (nI pc) (nI e) g u (nI a)) (fun v => match sPad F b sz m a with
    | none => v = u
    | some r => SB N r (b + pc) z v)
  | 0, a, g + 1, h1, _ => by
    rw [f_C_pastPadding_L12, if_pos (nI_le (by omega) (by omega))]
    exact wp_some rfl
  | m + 1, a, g + 1, h1, h2 => by
    have ih := padL_eq_o he hO hP hC m (a + 1) g (by omega) (by omega)
    obtain ⟨h13, h9, h8, h14, hbs, hs, hlo, hver⟩ := hC
    have hN := hO.1.1
    rw [f_C_pastPadding_L12, if_neg (nI_ge (by omega) (by omega)), nI_1, h9, h13, nI_add, sPad]
    refine wp_bnd ?_
    by_cases d : sz ≤ a
    · rw [if_pos d, if_pos (nI_le d (by omega))]
      refine ws_need hO rfl rfl (by decide) (fun q => absurd rfl q) (fun _ u h => ?_)
      refine wp_cI_b (b_num1 h) (fun _ _ h => wp_bnd (wp_cV_b (b_need h) (fun _ h => ?_)))
      exact b_padL he m (a + 1) g _ (by omega) (by omega) h
    · have n1 : f_W_numberAt u (nI (b + a)) 1 = some (nI (F (b + a)), u) := by
        have := num_in u (k := 1) (w := b + a) hO.1.2.1 hN (by decide) (by omega)
        rw [be1, hP.1] at this
        exact this
      have h8 : F (b + a) < 256 := PW_F_o hP _
      rw [if_neg d, if_neg (nI_ge (by omega) (by omega)), nd_t (by decide), cV_s, h13, nI_add, n1, cI_s]; simp only [show (nI (F (b + a)) = 0) = (F (b + a) = 0) from neq (b := 0) (by omega) (by decide)]
      refine wp_bnd ?_
      by_cases d2 : F (b + a) = 0
      · rw [if_pos d2, nd_t (by decide), cV_s, if_neg (fun q => q d2)]
        exact ih
      · rw [if_neg d2, if_pos d2, h13, nI_add]
        refine ws_need hO rfl rfl (by decide) (fun q => absurd rfl q) (fun _ u h => ?_)
        exact b_padL he m (a + 1) g _ (by omega) (by omega) h
theorem pst_eq (h : pc < 2000) : (nI pc + 4) / 4 * 4 = nI (pst pc) := by
  rw [show nI pc + 4 = nI (pc + 4) from nI_add pc 4, div4 ⟨pc + 4, by omega⟩]
  exact nmul _ 4
theorem pst_lt : pc + 1 ≤ pst pc ∧ pst pc ≤ pc + 4 := by unfold pst; omega
theorem pad_eq_o (hpc : pc < sz) (hO : SO N i z u) (hP : PW_o F N c K B u) (hC : CI N b sz lo ver u) : wp (f_C_pastPadding u (nI pc)) (fun q => q.1 = nI (pst pc) ∧ match sPad F b sz (pst pc - (pc + 1)) (pc + 1) with
    | none => q.2 = u
    | some r => SB N r (b + pc) z q.2) := by
  have hs := hC.2.2.2.2.2.1
  have hp := pst_lt (pc := pc)
  unfold f_C_pastPadding
  rw [pst_eq (by omega), nI_1]
  exact wp_cT (wp_mono (padL_eq_o (by omega) hO hP hC (pst pc - (pc + 1)) (pc + 1) FU (by omega) (by unfold FU; omega)) fun v hv => wp_some ⟨rfl, hv⟩)
/-! table -/
theorem bm64 {x : Int} (h1 : -4611686018427387904 ≤ x) (h2 : x < 4611686018427387904) : x.bmod (2 ^ 64) = x := by
  rw [Int.bmod_def]
  split <;> omega
theorem ways_eq (a b : Int32) : ((a.toInt64 - b.toInt64) + 1).toInt = a.toInt - b.toInt + 1 := by
  have h1 := Int32.le_toInt a
  have h2 := Int32.toInt_lt a
  have h3 := Int32.le_toInt b
  have h4 := Int32.toInt_lt b
  rw [Int64.toInt_add, Int64.toInt_sub, Int32.toInt_toInt64, Int32.toInt_toInt64, show (1 : Int64).toInt = 1 from rfl, show (a.toInt - b.toInt).bmod (2 ^ 64) = a.toInt - b.toInt from bm64 (by omega) (by omega), bm64 (by omega) (by omega)]
theorem lgj {j : Nat} {x5 : Int64} {W : Nat} (hx : x5.toInt = W) (hj : j < 2 ^ 31) : (0 ≤ lg_cmp (nI j).toInt64 x5) = (W ≤ j) := by
  apply propext
  rw [lg_cmp_ge, Int64.le_iff_toInt_le, hx, Int32.toInt_toInt64, nI_toInt hj]
  omega
theorem tabL_eq_o {W a0 : Nat} {x5 : Int64} (hx : x5.toInt = W) (hW : W ≤ 500) : ∀ (m j g : Nat) (u : St) (jl : List (Nat × Int32)), j + m = W → m < g → SO N i z u → PW_o F N c K B u → CI N b sz lo ver u → JL jl u → 3 * jl.length ≤ a0 + 4 * j → a0 + 4 * j ≤ sz → wp (f_C_stepTable_L89 (nI pc) x5 g u (nI (a0 + 4 * j)) (nI j)) (fun p => if sz < a0 + 4 * W then SB N 25 (b + pc) z p.1 else p.2 = nI (a0 + 4 * W) ∧ SO N i z p.1 ∧ JL (jl ++ (nms4 F 4 m (b + (a0 + 4 * j))).map fun x => (pc, x)) p.1 ∧ ko [11] [10, 11] u p.1)
  | 0, j, g + 1, u, jl, h1, _, hO, hP, hC, hJ, h3, h4 => by
    have e : j = W := by omega
    subst e
    rw [f_C_stepTable_L89]; simp only [lgj (j := j) hx (by omega)]; rw [if_pos (Nat.le_refl _)]
    refine wp_some ?_
    rw [if_neg (by omega)]
    exact ⟨rfl, hO, by rw [nms4, List.map_nil, List.append_nil]; exact hJ, ko_rf⟩
  | m + 1, j, g + 1, u, jl, h1, h2, hO, hP, hC, hJ, h3, h4 => by
    have hs := hC.2.2.2.2.2.1
    rw [f_C_stepTable_L89]; simp only [lgj (j := j) hx (by omega)]; rw [if_neg (by omega), if_neg (show ¬ (500 : Int32) ≤ nI j from nI_ge (a := j) (b := 500) (by omega) (by omega)), snd_o hO.1, cI_s, if_neg (by decide), nI_1, show nI (a0 + 4 * j) + 4 = nI (a0 + 4 * (j + 1)) by rw [show nI (a0 + 4 * j) + 4 = nI (a0 + 4 * j + 4) from nI_add _ 4]; rfl]
    by_cases d : a0 + 4 * j + 4 ≤ sz
    · obtain ⟨v, e1, e2, e3, e4⟩ := addJump_eq (pc := pc) (x := nI (be F (b + (a0 + 4 * j)) 4)) hJ (by omega)
      rw [sw_o_o hO hP hC d, cI_s, e1, cV_s]
      have ih := tabL_eq_o (a0 := a0) hx hW m (j + 1) g v _ (by omega) (by omega) (SO_ko hO e3 (by decide) (by decide) e4) (PW_ko_o hP e3 (by decide) (by decide)) (CI_ko hC e3 (by decide)) e2 (by rw [List.length_append, List.length_singleton]; omega) (by omega)
      refine wp_mono ih fun p hp => ?_
      by_cases q : sz < a0 + 4 * W
      · rw [if_pos q] at hp ⊢; exact hp
      · rw [if_neg q] at hp ⊢
        obtain ⟨p1, p2, p3, p4⟩ := hp
        refine ⟨p1, p2, ?_, ko_tr e3 p4⟩
        rw [nms4, List.map_cons]
        rw [List.append_assoc, List.singleton_append] at p3
        exact p3
    · refine wp_cI (wp_mono (sw_x (pc := pc) hO hC d (by omega)) fun q h => ?_)
      refine wp_cV_b (b_addJump h) (fun _ h => ?_)
      refine wp_mono (b_tbL h g (by omega)) fun p h => ?_
      rw [if_pos (by omega)]
      exact h
theorem addJ3_o {x : Int32} (hO : SO N i z u) (hP : PW_o F N c K B u) (hC : CI N b sz lo ver u) (hJ : JL jl u) (hl : jl.length < 667) : ∃ v, f_C_addJump u (nI pc) x = some v ∧ JL (jl ++ [(pc, x)]) v ∧ ko [11] [10, 11] u v ∧ SO N i z v ∧ PW_o F N c K B v ∧ CI N b sz lo ver v := by
  obtain ⟨v, e1, e2, e3, e4⟩ := addJump_eq (pc := pc) (x := x) hJ hl
  exact ⟨v, e1, e2, e3, SO_ko hO e3 (by decide) (by decide) e4, PW_ko_o hP e3 (by decide) (by decide), CI_ko hC e3 (by decide)⟩
theorem table_eq_o (hO : SO N i z u) (hP : PW_o F N c K B u) (hC : CI N b sz lo ver u) (hJ : JL jl u) (h3 : 3 * jl.length ≤ pc) (hpc : pc < sz) : wp (f_C_stepTable u (nI pc)) (XS N i z (sTab F b sz pc) pc jl u) := by
  have hs := hC.2.2.2.2.2.1
  have hp := pst_lt (pc := pc)
  have sw : ∀ {N r w : Nat} {z u : St} (h : SB N r w z u), ∀ r3 x5 x7, wp (cT (f_C_stepTable_L89 (nI pc) x5 FU u r3 x7) fun p29 => some ((p29.2 - nI pc), p29.1)) (fun p => SB N r w z p.2) := fun h r3 x5 x7 => wp_cT (wp_mono (b_tbL h FU (by decide)) fun p hp => wp_some hp)
  unfold f_C_stepTable sTab
  refine wp_cI (wp_mono (pad_eq_o hpc hO hP hC) fun q hq => ?_)
  obtain ⟨e, hq⟩ := hq
  obtain ⟨q1, q2⟩ := q
  dsimp only at e hq ⊢
  subst e
  cases hpd : sPad F b sz (pst pc - (pc + 1)) (pc + 1) with
  | some r =>
    rw [hpd] at hq
    have h : SB N r (b + pc) z q2 := hq
    dsimp only [XS]
    refine wp_cI_b (b_switchNumber h) (fun _ _ h => wp_cV_b (b_addJump h) (fun _ h => wp_cI_b (b_switchNumber h) (fun _ _ h => wp_cI_b (b_switchNumber h) (fun _ _ h => wp_bnd (wp_cV_b (b_need h) (fun _ h => sw h _ _ _))))))
  | none =>
    rw [hpd] at hq
    have e : q2 = u := hq
    subst e
    dsimp only
    rw [show nI (pst pc) + 4 = nI (pst pc + 4) from nI_add _ 4, show nI (pst pc) + 8 = nI (pst pc + 8) from nI_add _ 8, show nI (pst pc) + 12 = nI (pst pc + 12) from nI_add _ 12]
    by_cases d1 : pst pc + 4 ≤ sz
    · rw [sw_o_o hO hP hC d1, cI_s]
      obtain ⟨v, e1, e2, e3, hO1, hP1, hC1⟩ := addJ3_o (pc := pc) (x := nI (be F (b + pst pc) 4)) hO hP hC hJ (by omega)
      rw [e1, cV_s]
      by_cases d2 : pst pc + 8 ≤ sz
      · rw [sw_o_o hO1 hP1 hC1 (a := pst pc + 4) (by omega), cI_s]
        by_cases d3 : pst pc + 12 ≤ sz
        · rw [sw_o_o hO1 hP1 hC1 (a := pst pc + 8) (by omega), cI_s, if_neg (show ¬ sz < pst pc + 12 by omega)]
          have hw := ways_eq (nI (be F (b + (pst pc + 8)) 4)) (nI (be F (b + (pst pc + 4)) 4))
          generalize ((nI (be F (b + (pst pc + 8)) 4)).toInt64 - (nI (be F (b + (pst pc + 4)) 4)).toInt64) + 1 = x5 at hw ⊢
          have hw' : x5.toInt = sx (be F (b + (pst pc + 8)) 4) - sx (be F (b + (pst pc + 4)) 4) + 1 := hw
          generalize sx (be F (b + (pst pc + 8)) 4) - sx (be F (b + (pst pc + 4)) 4) + 1 = W at hw' ⊢
          refine wp_bnd ?_
          have g1 : (lg_cmp x5 1 < 0) = (W < 1) := by
            apply propext
            rw [lg_cmp_lt, Int64.lt_iff_toInt_lt, hw', show (1 : Int64).toInt = 1 from rfl]
          have g2 : (0 < lg_cmp x5 500) = (500 < W) := by
            apply propext
            rw [lg_cmp_gt, Int64.lt_iff_toInt_lt, hw', show (500 : Int64).toInt = 500 from rfl]
          simp only [g1, g2]; rw [hC1.1, nI_add]
          by_cases d4 : W < 1 ∨ 500 < W
          · rw [if_pos d4]
            have e0 : (if W < 1 then (0 : Int32) else if 500 < W then 0 else 1) = 0 := by
              repeat' split
              all_goals first | rfl | omega
            rw [e0]
            refine ws_need hO1 rfl rfl (by decide) (fun q => absurd rfl q) (fun _ u h => ?_)
            exact sw h _ _ _
          · rw [if_neg d4]
            have e0 : (if W < 1 then (0 : Int32) else if 500 < W then 0 else 1) = 1 := by
              repeat' split
              all_goals first | rfl | omega
            rw [e0, nd_t (by decide), cV_s]
            obtain ⟨n, rfl⟩ : ∃ n : Nat, W = n := ⟨W.toNat, by omega⟩
            rw [Int.toNat_natCast]
            refine wp_cT (wp_mono (tabL_eq_o (a0 := pst pc + 12) hw' (by omega) n 0 FU v _ (by omega) (by unfold FU; omega) hO1 hP1 hC1 e2 (by rw [List.length_append, List.length_singleton]; omega) (by omega)) fun p hp => wp_some ?_)
            by_cases d5 : sz < pst pc + 12 + 4 * n
            · rw [if_pos d5] at hp ⊢
              exact hp
            · rw [if_neg d5] at hp ⊢
              obtain ⟨p1, p2, p3, p4⟩ := hp
              refine ⟨?_, p2, ?_, ko_tr e3 p4⟩
              · show p.2 - nI pc = _
                rw [p1]
                exact nI_sub (by omega)
              · rw [List.append_assoc, List.singleton_append] at p3
                exact p3
        · rw [if_pos (show sz < pst pc + 12 by omega)]
          refine wp_cI (wp_mono (sw_x (pc := pc) hO1 hC1 (a := pst pc + 8) (by omega) (by omega)) fun q h => wp_bnd (wp_cV_b (b_need h) (fun _ h => sw h _ _ _)))
      · rw [if_pos (show sz < pst pc + 12 by omega)]
        refine wp_cI (wp_mono (sw_x (pc := pc) hO1 hC1 (a := pst pc + 4) (by omega) (by omega)) fun q h => wp_cI_b (b_switchNumber h) (fun _ _ h => wp_bnd (wp_cV_b (b_need h) (fun _ h => sw h _ _ _))))
    · rw [if_pos (show sz < pst pc + 12 by omega)]
      refine wp_cI (wp_mono (sw_x (pc := pc) hO hC (a := pst pc) (by omega) (by omega)) fun q h => wp_cV_b (b_addJump h) (fun _ h => wp_cI_b (b_switchNumber h) (fun _ _ h => wp_cI_b (b_switchNumber h) (fun _ _ h => wp_bnd (wp_cV_b (b_need h) (fun _ h => sw h _ _ _))))))
/-! pairs -/
theorem sPrs_s {F : Nat → Nat} {b sz m a : Nat} {pr : Option Int} : sPrs F b sz (m + 1) a pr = if sz < a + 4 then some 25 else if (match pr with
      | none => false
      | some x => decide (sx (be F (b + a) 4) ≤ x)) then some 24 else if sz < a + 8 then some 25 else sPrs F b sz m (a + 8) (some (sx (be F (b + a) 4))) := by
  cases pr <;> rfl
def XR4 (N i : Nat) (z : St) (w e : Nat) (jl' : List (Nat × Int32)) (u : St) (res : Option Nat) (p : St × Int32) : Prop := match res with
  | some r => SB N r w z p.1
  | none => p.2 = nI e ∧ SO N i z p.1 ∧ JL jl' p.1 ∧ ko [11] [10, 11] u p.1
def prv (j : Nat) (x : Int32) : Option Int := if j = 0 then none else some x.toInt
theorem prL_eq_o {n a0 : Nat} (hn : n ≤ 250) : ∀ (m j g : Nat) (u : St) (jl : List (Nat × Int32)) (x4 : Int32), j + m = n → m < g → SO N i z u → PW_o F N c K B u → CI N b sz lo ver u → JL jl u → 3 * jl.length ≤ a0 + 8 * j → a0 + 8 * j < 100000 → wp (f_C_stepPairs_L66 (nI pc) (nI n) g u (nI (a0 + 8 * j)) x4 (nI j)) (XR4 N i z (b + pc) (a0 + 8 * n) (jl ++ (nms4 F 8 m (b + (a0 + 8 * j + 4))).map fun x => (pc, x)) u (sPrs F b sz m (a0 + 8 * j) (prv j x4)))
  | 0, j, g + 1, u, jl, x4, h1, _, hO, hP, hC, hJ, h3, h4 => by
    have e : j = n := by omega
    subst e
    rw [f_C_stepPairs_L66, if_pos (nI_le (Nat.le_refl _) (by omega))]
    refine wp_some ?_
    rw [sPrs]
    exact ⟨rfl, hO, by rw [nms4, List.map_nil, List.append_nil]; exact hJ, ko_rf⟩
  | m + 1, j, g + 1, u, jl, x4, h1, h2, hO, hP, hC, hJ, h3, h4 => by
    have hs := hC.2.2.2.2.2.1
    rw [f_C_stepPairs_L66, if_neg (nI_ge (by omega) (by omega)), snd_o hO.1, cI_s, if_neg (by decide), nI_1, show nI (a0 + 8 * j) + 8 = nI (a0 + 8 * (j + 1)) by rw [show nI (a0 + 8 * j) + 8 = nI (a0 + 8 * j + 8) from nI_add _ 8]; rfl, show nI (a0 + 8 * j) + 4 = nI (a0 + 8 * j + 4) from nI_add _ 4, sPrs_s]
    by_cases d1 : a0 + 8 * j + 4 ≤ sz
    · rw [sw_o_o hO hP hC d1, cI_s, if_neg (show ¬ sz < a0 + 8 * j + 4 by omega)]
      refine wp_bnd ?_
      have ek : (if nI j = 0 then (1 : Int32) else if nI (be F (b + (a0 + 8 * j)) 4) ≤ x4 then 0 else 1) = if (match prv j x4 with
        | none => false
        | some x => decide (sx (be F (b + (a0 + 8 * j)) 4) ≤ x)) = true then 0 else 1 := by
        unfold prv
        by_cases j0 : j = 0
        · rw [if_pos j0, if_pos (by rw [j0]; rfl)]; rfl
        · rw [if_neg j0, if_neg (nI_ne0 (by omega) (by omega))]
          dsimp only
          simp only [decide_eq_true_eq, show (nI (be F (b + (a0 + 8 * j)) 4) ≤ x4) = (sx (be F (b + (a0 + 8 * j)) 4) ≤ x4.toInt) from propext Int32.le_iff_toInt_le]
      rw [ek, hC.1, nI_add]
      cases hk : (match prv j x4 with
        | none => false
        | some x => decide (sx (be F (b + (a0 + 8 * j)) 4) ≤ x)) with
      | true =>
        rw [if_pos (show true = true from rfl), if_pos (show true = true from rfl)]
        refine ws_need hO rfl rfl (by decide) (fun q => absurd rfl q) (fun _ u h => ?_)
        refine wp_cI_b (b_switchNumber h) (fun _ _ h => wp_cV_b (b_addJump h) (fun _ h => ?_))
        exact b_prL h g (by omega)
      | false =>
        rw [if_neg (show ¬ false = true by decide), if_neg (show ¬ false = true by decide), nd_t (by decide), cV_s]
        by_cases d2 : a0 + 8 * j + 8 ≤ sz
        · obtain ⟨v, e1, e2, e3, hO1, hP1, hC1⟩ := addJ3_o (pc := pc) (x := nI (be F (b + (a0 + 8 * j + 4)) 4)) hO hP hC hJ (by omega)
          rw [sw_o_o hO hP hC (a := a0 + 8 * j + 4) (by omega), cI_s, e1, cV_s, if_neg (show ¬ sz < a0 + 8 * j + 8 by omega)]
          have ih := prL_eq_o (a0 := a0) hn m (j + 1) g v _ (nI (be F (b + (a0 + 8 * j)) 4)) (by omega) (by omega) hO1 hP1 hC1 e2 (by rw [List.length_append, List.length_singleton]; omega) (by omega)
          rw [show prv (j + 1) (nI (be F (b + (a0 + 8 * j)) 4)) = some (sx (be F (b + (a0 + 8 * j)) 4)) from rfl, show a0 + 8 * (j + 1) = a0 + 8 * j + 8 by omega] at ih
          refine wp_mono ih fun p hp => ?_
          cases hr : sPrs F b sz m (a0 + 8 * j + 8) (some (sx (be F (b + (a0 + 8 * j)) 4))) with
          | some r => rw [hr] at hp; exact hp
          | none =>
            rw [hr] at hp
            obtain ⟨p1, p2, p3, p4⟩ := hp
            refine ⟨p1, p2, ?_, ko_tr e3 p4⟩
            rw [nms4, List.map_cons]
            rw [List.append_assoc, List.singleton_append] at p3
            rw [show b + (a0 + 8 * j + 4) + 8 = b + (a0 + 8 * j + 8 + 4) by omega]
            exact p3
        · rw [if_pos (show sz < a0 + 8 * j + 8 by omega)]
          refine wp_cI (wp_mono (sw_x (pc := pc) hO hC (a := a0 + 8 * j + 4) (by omega) (by omega)) fun q h => wp_cV_b (b_addJump h) (fun _ h => ?_))
          exact b_prL h g (by omega)
    · rw [if_pos (show sz < a0 + 8 * j + 4 by omega)]
      refine wp_cI (wp_mono (sw_x (pc := pc) hO hC (a := a0 + 8 * j) (by omega) (by omega)) fun q h => wp_bnd (wp_cV_b (b_need h) (fun _ h => wp_cI_b (b_switchNumber h) (fun _ _ h => wp_cV_b (b_addJump h) (fun _ h => ?_)))))
      exact b_prL h g (by omega)
theorem pairs_eq_o (hO : SO N i z u) (hP : PW_o F N c K B u) (hC : CI N b sz lo ver u) (hJ : JL jl u) (h3 : 3 * jl.length ≤ pc) (hpc : pc < sz) : wp (f_C_stepPairs u (nI pc)) (XS N i z (sPai F b sz pc) pc jl u) := by
  have hs := hC.2.2.2.2.2.1
  have hp := pst_lt (pc := pc)
  have sw : ∀ {N r w : Nat} {z u : St} (h : SB N r w z u), ∀ r11 r3 x4 x5, wp (cT (f_C_stepPairs_L66 (nI pc) r11 FU u r3 x4 x5) fun p29 => some ((p29.2 - nI pc), p29.1)) (fun p => SB N r w z p.2) := fun h _ _ _ _ => wp_cT (wp_mono (b_prL h FU (by decide)) fun p hp => wp_some hp)
  unfold f_C_stepPairs sPai
  refine wp_cI (wp_mono (pad_eq_o hpc hO hP hC) fun q hq => ?_)
  obtain ⟨e, hq⟩ := hq
  obtain ⟨q1, q2⟩ := q
  dsimp only at e hq ⊢
  subst e
  cases hpd : sPad F b sz (pst pc - (pc + 1)) (pc + 1) with
  | some r =>
    rw [hpd] at hq
    have h : SB N r (b + pc) z q2 := hq
    dsimp only [XS]
    refine wp_cI_b (b_switchNumber h) (fun _ _ h => wp_cV_b (b_addJump h) (fun _ h => wp_cI_b (b_switchNumber h) (fun _ _ h => wp_bnd (wp_cV_b (b_need h) (fun _ h => sw h _ _ _ _)))))
  | none =>
    rw [hpd] at hq
    have e : q2 = u := hq
    subst e
    dsimp only
    rw [show nI (pst pc) + 4 = nI (pst pc + 4) from nI_add _ 4, show nI (pst pc) + 8 = nI (pst pc + 8) from nI_add _ 8]
    by_cases d1 : pst pc + 4 ≤ sz
    · rw [sw_o_o hO hP hC d1, cI_s]
      obtain ⟨v, e1, e2, e3, hO1, hP1, hC1⟩ := addJ3_o (pc := pc) (x := nI (be F (b + pst pc) 4)) hO hP hC hJ (by omega)
      rw [e1, cV_s]
      by_cases d2 : pst pc + 8 ≤ sz
      · rw [sw_o_o hO1 hP1 hC1 (a := pst pc + 4) (by omega), cI_s, if_neg (show ¬ sz < pst pc + 8 by omega)]
        generalize hx : nI (be F (b + (pst pc + 4)) 4) = x
        have hx' : sx (be F (b + (pst pc + 4)) 4) = x.toInt := by rw [← hx]; rfl
        rw [hx', hC1.1, nI_add]
        refine wp_bnd ?_
        have g1 : (x < 0) = (x.toInt < 0) := propext Int32.lt_iff_toInt_lt
        have g2 : (250 < x) = (250 < x.toInt) := propext Int32.lt_iff_toInt_lt
        simp only [g1, g2]
        by_cases d4 : x.toInt < 0 ∨ 250 < x.toInt
        · rw [if_pos d4]
          have e0 : (if x.toInt < 0 then (0 : Int32) else if 250 < x.toInt then 0 else 1) = 0 := by
            repeat' split
            all_goals first | rfl | omega
          rw [e0]
          refine ws_need hO1 rfl rfl (by decide) (fun q => absurd rfl q) (fun _ u h => ?_)
          exact sw h _ _ _ _
        · rw [if_neg d4]
          have e0 : (if x.toInt < 0 then (0 : Int32) else if 250 < x.toInt then 0 else 1) = 1 := by
            repeat' split
            all_goals first | rfl | omega
          rw [e0, nd_t (by decide), cV_s]
          obtain ⟨n, hn, en⟩ := nI_of (x := x) (fun q => d4 (Or.inl (Int32.lt_iff_toInt_lt.mp q)))
          have hxn : x.toInt = n := by rw [en, nI_toInt hn]
          rw [hxn] at d4 ⊢
          rw [en, Int.toNat_natCast]
          refine wp_cT (wp_mono (prL_eq_o (a0 := pst pc + 8) (n := n) (by omega) n 0 FU v _ 0 (by omega) (by unfold FU; omega) hO1 hP1 hC1 e2 (by rw [List.length_append, List.length_singleton]; omega) (by omega)) fun p hp => wp_some ?_)
          rw [show prv 0 0 = none from rfl, Nat.mul_zero, Nat.add_zero] at hp
          cases hr : sPrs F b sz n (pst pc + 8) none with
          | some r => rw [hr] at hp; exact hp
          | none =>
            rw [hr] at hp
            obtain ⟨p1, p2, p3, p4⟩ := hp
            refine ⟨?_, p2, ?_, ko_tr e3 p4⟩
            · show p.2 - nI pc = _
              rw [p1]
              exact nI_sub (by omega)
            · rw [List.append_assoc, List.singleton_append] at p3
              exact p3
      · rw [if_pos (show sz < pst pc + 8 by omega)]
        refine wp_cI (wp_mono (sw_x (pc := pc) hO1 hC1 (a := pst pc + 4) (by omega) (by omega)) fun q h => wp_bnd (wp_cV_b (b_need h) (fun _ h => sw h _ _ _ _)))
    · rw [if_pos (show sz < pst pc + 8 by omega)]
      refine wp_cI (wp_mono (sw_x (pc := pc) hO hC (a := pst pc) (by omega) (by omega)) fun q h => wp_cV_b (b_addJump h) (fun _ h => wp_cI_b (b_switchNumber h) (fun _ _ h => wp_bnd (wp_cV_b (b_need h) (fun _ h => sw h _ _ _ _)))))
theorem step_eq_o (hO : SO N i z u) (hP : PW_o F N c K B u) (hC : CI N b sz lo ver u) (hJ : JL jl u) (h3 : 3 * jl.length ≤ pc) (hpc : pc < sz) : wp (f_C_step u (nI pc)) (XS N i z (stp_o F c K B ver lo b sz pc) pc jl u) := by
  have hC' := hC
  obtain ⟨h13, h9, h8, h14, hbs, hs, hlo, hver⟩ := hC'
  have hN := hO.1.1
  have n1 : f_W_numberAt u (nI (b + pc)) 1 = some (nI (F (b + pc)), u) := by
    have := num_in u (k := 1) (w := b + pc) hO.1.2.1 hN (by decide) (by omega)
    rw [be1, hP.1] at this
    exact this
  have hop : F (b + pc) < 256 := PW_F_o hP _
  unfold f_C_step stp_o
  rw [h13, nI_add, n1, cI_s, form_eq hop, cT_s]
  have hfm := fm_lt (F (b + pc))
  have q0 : (nI (fmN (F (b + pc))) = 0) = (fmN (F (b + pc)) = 0) := neq (b := 0) (by omega) (by decide)
  have q1 : (nI (fmN (F (b + pc))) = 1) = (fmN (F (b + pc)) = 1) := neq (b := 1) (by omega) (by decide)
  have q14 : (nI (fmN (F (b + pc))) = 14) = (fmN (F (b + pc)) = 14) := neq (b := 14) (by omega) (by decide)
  have q15 : (nI (fmN (F (b + pc))) = 15) = (fmN (F (b + pc)) = 15) := neq (b := 15) (by omega) (by decide)
  have q22 : (nI (fmN (F (b + pc))) = 22) = (fmN (F (b + pc)) = 22) := neq (b := 22) (by omega) (by decide)
  simp only [q0, q1, q14, q15, q22]
  by_cases d0 : fmN (F (b + pc)) = 0
  · rw [if_pos d0, if_pos d0, h13, nI_add]
    refine ws_need hO rfl rfl (by decide) (fun q => absurd rfl q) (fun _ u h => ?_)
    exact wp_some h
  · rw [if_neg d0, if_neg d0]
    by_cases d1 : fmN (F (b + pc)) = 1
    · rw [if_pos d1, if_pos d1]
      exact wp_some (XS_0 rfl hO hJ)
    · rw [if_neg d1, if_neg d1]
      by_cases d2 : fmN (F (b + pc)) = 14
      · rw [if_pos d2, if_pos d2]
        exact wp_cI (wp_mono (table_eq_o hO hP hC hJ h3 hpc) fun q hq => wp_some hq)
      · rw [if_neg d2, if_neg d2]
        by_cases d3 : fmN (F (b + pc)) = 15
        · rw [if_pos d3, if_pos d3]
          exact wp_cI (wp_mono (pairs_eq_o hO hP hC hJ h3 hpc) fun q hq => wp_some hq)
        · rw [if_neg d3, if_neg d3]
          by_cases d4 : fmN (F (b + pc)) = 22
          · rw [if_pos d4, if_pos d4]
            exact wp_cI (wp_mono (wid_eq_o hO hP hC hJ hpc) fun q hq => wp_some hq)
          · rw [if_neg d4, if_neg d4]
            have h202 : F (b + pc) < 202 := Nat.lt_of_not_le fun q => d0 (fm_0 (by omega))
            exact wp_cI (wp_mono (fix_eq_o hO hP hC hJ h3 hpc h202 rfl ⟨d0, d2, d3, d4⟩) fun q hq => wp_some hq)
end SWI

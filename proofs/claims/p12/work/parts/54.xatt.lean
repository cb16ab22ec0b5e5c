/-! THE CLASS: ATTRIBUTES -/
/-- places grow -/
def MO {α : Type} (p : P α) : Prop := ∀ i a j, p i = .ok (a, j) → i ≤ j
theorem mo_pb {α β : Type} {p : P α} {f : α → P β} (h1 : MO p) (h2 : ∀ a, MO (f a)) : MO (pb p f) := by
  intro i a j h
  obtain ⟨b, k, e1, e2⟩ := pb_ok h
  exact Nat.le_trans (h1 _ _ _ e1) (h2 _ _ _ _ e2)
theorem mo_pp {α : Type} {a : α} : MO (pp a) := fun i b j h => by cases h; exact Nat.le_refl _
theorem mo_pa : MO pa := fun i b j h => by cases h; exact Nat.le_refl _
theorem mo_pn {b : Bool} {r w : Nat} : MO (pn b r w) := fun i a j h => by
  have := (pn_ok h).2
  cases this
  exact Nat.le_refl _
theorem mo_pe {α : Type} {r w : Nat} : MO (pe r w : P α) := fun i b j h => by cases h
theorem mo_pu {F : Nat → Nat} {N k : Nat} : MO (pu F N k) := fun i a j h => by
  unfold pu at h
  split at h
  · cases h; omega
  · cases h
theorem mo_pk {N k : Nat} : MO (pk N k) := fun i a j h => by
  unfold pk at h
  split at h
  · cases h; omega
  · cases h
theorem mo_psk {N k : Nat} : MO (psk N k) := fun i a j h => by
  unfold psk at h
  split at h
  · cases h; omega
  · cases h
theorem mo_plf {α : Type} {r : Except Er α} : MO (plf r) := fun i a j h => by
  unfold plf at h
  split at h
  · cases h; omega
  · cases h
section MOS
variable {F : Nat → Nat} {N c : Nat} {K B : Nat → Nat}
theorem mo_sNum {kd : Nat} : MO (sNum F N c K kd) := mo_pb mo_pa fun _ => mo_pb mo_pu fun _ => mo_pb mo_pn fun _ => mo_pp
theorem mo_sRows {sz : Nat} {st : Nat → Bool} : ∀ n, MO (sRows F N c K sz st n)
  | 0 => mo_pp
  | n + 1 => by
    rw [sRows_s]
    exact mo_pb mo_pa fun _ => mo_pb mo_pu fun _ => mo_pb mo_pu fun _ => mo_pb mo_pu fun _ => mo_pb mo_pu fun _ => mo_pb mo_pn fun _ => mo_pb mo_pn fun _ => mo_sRows n
theorem mo_sCode {ver least : Nat} : MO (sCode F N c K B ver least) :=
  mo_pb mo_pa fun _ => mo_pb mo_pu fun _ => mo_pb mo_pn fun _ => mo_pb mo_pa fun _ => mo_pb mo_pu fun _ => mo_pb mo_pn fun _ => mo_pb mo_pn fun _ => mo_pb mo_pa fun _ => mo_pb mo_pu fun _ => mo_pb mo_pn fun _ => mo_pb mo_pk fun _ => mo_pb mo_pa fun _ => mo_pb mo_plf fun _ => mo_pb mo_plf fun _ => mo_pb mo_pn fun _ => mo_pb mo_psk fun _ => mo_pb mo_pa fun _ => mo_pb mo_pu fun _ => mo_pb mo_pn fun _ => mo_pb (mo_sRows _) fun _ => mo_pb mo_pa fun _ => mo_pb mo_pu fun _ => mo_pb mo_pn fun _ => mo_pp
theorem mo_sCode_o {ver least : Nat} : MO (sCode_o F N c K B ver least) :=
  mo_pb mo_pa fun _ => mo_pb mo_pu fun _ => mo_pb mo_pn fun _ => mo_pb mo_pa fun _ => mo_pb mo_pu fun _ => mo_pb mo_pn fun _ => mo_pb mo_pn fun _ => mo_pb mo_pa fun _ => mo_pb mo_pu fun _ => mo_pb mo_pn fun _ => mo_pb mo_pk fun _ => mo_pb mo_pa fun _ => mo_pb mo_plf fun _ => mo_pb mo_plf fun _ => mo_pb mo_pn fun _ => mo_pb mo_psk fun _ => mo_pb mo_pa fun _ => mo_pb mo_pu fun _ => mo_pb mo_pn fun _ => mo_pb (mo_sRows _) fun _ => mo_pb mo_pa fun _ => mo_pb mo_pu fun _ => mo_pb mo_pn fun _ => mo_pp
theorem mo_sTk : ∀ n, MO (sTk F N c K n)
  | 0 => mo_pp
  | n + 1 => mo_pb mo_sNum fun _ => mo_sTk n
theorem mo_sBody {ver f ty wh th : Nat} {cd : Cd} : MO (sBody F N c K B ver f ty wh th cd) := by
  unfold sBody
  split
  · exact mo_pb mo_sCode fun _ => mo_pp
  · split
    · exact mo_pb (mo_pb mo_pa fun _ => mo_pb mo_pu fun _ => mo_pn) fun _ => mo_pp
    · split
      · exact mo_pb (mo_pb mo_pu fun _ => mo_pb (mo_sTk _) fun _ => mo_pp) fun _ => mo_pp
      · exact mo_pb mo_sNum fun _ => mo_pp
theorem mo_sBody_o {ver f ty wh th : Nat} {cd : Cd} : MO (sBody_o F N c K B ver f ty wh th cd) := by
  unfold sBody_o
  split
  · exact mo_pb mo_sCode_o fun _ => mo_pp
  · split
    · exact mo_pb (mo_pb mo_pa fun _ => mo_pb mo_pu fun _ => mo_pn) fun _ => mo_pp
    · split
      · exact mo_pb (mo_pb mo_pu fun _ => mo_pb (mo_sTk _) fun _ => mo_pp) fun _ => mo_pp
      · exact mo_pb mo_sNum fun _ => mo_pp
end MOS
section ATT
variable {F : Nat → Nat} {N c i r w ver : Nat} {K B : Nat → Nat} {z u : St}
theorem atO_eq_o (hO : SO N i z u) (hP : PW_o F N c K B u) {t : Nat} (ht : isK c K t 1 = true) : f_G_attributeOf u (nI t) = some (nI (atO F B t), u) := by
  unfold f_G_attributeOf atO
  rw [hP.spell hO ht (by decide), cI_s]
  cases wT F B 3 t
  · rw [if_neg (show ¬ (false = true) by decide), if_pos (show (0 : Int32) = 0 from rfl), hP.spell hO ht (by decide), cI_s, if_neg (show ¬ (false = true) by decide)]
    cases wT F B 4 t
    · rw [if_neg (show ¬ (false = true) by decide), if_pos (show (0 : Int32) = 0 from rfl), hP.spell hO ht (by decide), cI_s, if_neg (show ¬ (false = true) by decide)]
      cases wT F B 5 t
      · rw [if_neg (show ¬ (false = true) by decide), if_pos (show (0 : Int32) = 0 from rfl), hP.spell hO ht (by decide), cI_s, if_neg (show ¬ (false = true) by decide)]
        cases wT F B 6 t
        · rfl
        · rfl
      · rfl
    · rfl
  · rfl
theorem atO_c (F : Nat → Nat) (B : Nat → Nat) (t : Nat) : atO F B t = 0 ∨ atO F B t = 1 ∨ atO F B t = 2 ∨ atO F B t = 4 ∨ atO F B t = 8 := by
  unfold atO
  repeat' split
  all_goals omega
theorem alw_ok : ∀ al sn : Fin 16, ∀ wh ∈ [0, 1, 2, 4, 8], ((nI wh &&& nI al.val) &&& (nI sn.val ^^^ (-1)) = 0 ↔ alw wh al.val sn.val = false) := by decide +kernel
theorem alw_w : ∀ al sn : Fin 16, ∀ wh ∈ [0, 1, 2, 4, 8], alw wh al.val sn.val = true → wh ≠ 0 ∧ (al.val = 8 → wh = 8) ∧ sn.val ||| wh < 16 ∧ (wh ≠ 2 → (sn.val ||| wh) &&& 2 = sn.val &&& 2) ∧ (wh = 2 → ¬ (sn.val ||| wh) &&& 2 = 0) := by decide +kernel
theorem atO_m (F : Nat → Nat) (B : Nat → Nat) (t : Nat) : atO F B t ∈ [0, 1, 2, 4, 8] := by
  rcases atO_c F B t with e | e | e | e | e <;> rw [e] <;> decide
theorem least_eq_o (hO : SO N i z u) (hP : PW_o F N c K B u) {f ty : Nat} (h18 : u.1 18 = nI f) (hf : f < 65536) (h19 : u.1 19 = nI ty) (hty : isK c K ty 1 = true) : f_G_leastLocals u = some (nI (slT_o F B ty + if f &&& 8 = 0 then 1 else 0), u) := by
  unfold f_G_leastLocals
  rw [h19, hP.meas hO hty, cI_s, h18, bnd_s]
  by_cases d : f &&& 8 = 0
  · rw [if_pos ((mskL hf).mpr d), if_pos d, nI_1]
  · rw [if_neg (fun q => d ((mskL hf).mp q)), if_neg d]
    rw [show nI (slT_o F B ty) + 0 = nI (slT_o F B ty + 0) from nI_add _ 0]
theorem due_eq_o (hO : SO N i z u) (hP : PW_o F N c K B u) {ty : Nat} (h19 : u.1 19 = nI ty) (hty : isK c K ty 1 = true) : f_G_constantKind u = some (nI (due F B ty), u) := by
  unfold f_G_constantKind due
  rw [h19, hP.spell hO hty (by decide), cI_s]
  cases wT F B 7 ty
  · rw [if_neg (show ¬ (false = true) by decide), if_pos (show (0 : Int32) = 0 from rfl), h19, hP.spell hO hty (by decide), cI_s, if_neg (show ¬ (false = true) by decide)]
    cases wT F B 8 ty
    · have hl : tn F B ty < 65536 := n2_lt_o hP _
      rw [if_neg (show ¬ (false = true) by decide), if_pos (show (0 : Int32) = 0 from rfl), h19, hP.first hO hty (by decide), cI_s, if_neg (show ¬ (false = true) by decide)]
      show bnd (if nI (tn F B ty) = 1 then 3 else 0) _ = _
      simp only [show (nI (tn F B ty) = 1) = (tn F B ty = 1) from neq (b := 1) (by omega) (by decide)]; rw [bnd_s]
      by_cases d : tn F B ty = 1
      · rw [if_pos d, if_pos d]; rfl
      · rw [if_neg d, if_neg d]; rfl
    · rfl
  · rfl
theorem due_c (F : Nat → Nat) (B : Nat → Nat) (t : Nat) : due F B t = 0 ∨ due F B t = 3 ∨ due F B t = 5 ∨ due F B t = 8 := by
  unfold due
  repeat' split
  all_goals omega
theorem con_eq_o (hO : SO N i z u) (hP : PW_o F N c K B u) {ty : Nat} (h19 : u.1 19 = nI ty) (hty : isK c K ty 1 = true) : wp (f_G_readConstant u) (XQ N z (sCon F N c K B ty i) (fun _ v => ko [1] [] u v)) := by
  unfold f_G_readConstant sCon
  rw [hO.1.2.2.2.2.1]
  refine wq_pa ?_
  refine wq_next hO hP.1 rfl (by decide) (fun hi => ?_) (fun u h => ?_)
  · have hO1 := SO_at hO hi
    have hP1 := hP.at (x := nI (i + 2))
    obtain ⟨x, ex, hx⟩ := hP1.kindA hO1 (be2_lt_o hP i)
    rw [ex, cI_s, due_eq_o hO1 hP1 h19 hty, cI_s]
    refine wp_bnd ?_
    refine wq_needE hO1 rfl rfl (by decide) ?_ (fun _ => ?_) (fun u h => ?_)
    · have hd := due_c F B ty
      by_cases d0 : due F B ty = 0
      · rw [if_pos (by rw [d0]; rfl), decide_eq_false (fun q => q d0)]
        exact ⟨fun _ => rfl, fun _ => rfl⟩
      · rw [if_neg (nI_ne0 (by omega) (by omega)), decide_eq_true d0, Bool.true_and]
        exact i10 (hx _ (by omega) (by omega))
    · exact wp_some ⟨hO1, ko_sv (by decide)⟩
    · repeat' (first | exact h | (with_reducible refine wp_bnd_11 h (fun _ h => ?_)) | (refine SB_sv (by decide) h) | (refine SB_sa (by decide) h) | (with_reducible refine wp_some ?_; try dsimp only) | (with_reducible refine wp_bnd_sv (by decide) h (fun _ h => ?_)) | (with_reducible refine wp_bnd_sa (by decide) h (fun _ h => ?_)) | (with_reducible refine wp_bnd ?_) | with_reducible refine wp_gb0 ?_ | with_reducible refine wp_gb1 ?_ | with_reducible refine wp_gb01 ?_ | with_reducible refine wp_gb10 ?_ | (with_reducible refine wp_cI_b (b_next h) (fun _ _ h => ?_)) | (with_reducible refine wp_cI_b (b_num1 h) (fun _ _ h => ?_)) | (with_reducible refine wp_cI_b (b_num2 h) (fun _ _ h => ?_)) | (with_reducible refine wp_cI_b (b_num4 h) (fun _ _ h => ?_)) | (with_reducible refine wp_cI_b (b_kindOf h) (fun _ _ h => ?_)) | (with_reducible refine wp_cI_b (b_factsOf h) (fun _ _ h => ?_)) | (with_reducible refine wp_cI_b (b_measureOf h) (fun _ _ h => ?_)) | (with_reducible refine wp_cI_b (b_firstOf h) (fun _ _ h => ?_)) | (with_reducible refine wp_cI_b (b_alike h) (fun _ _ h => ?_)) | (with_reducible refine wp_cI_b (b_take h) (fun _ _ h => ?_)) | (with_reducible refine wp_cI_b (b_bitCount h) (fun _ _ h => ?_)) | (with_reducible refine wp_cI_b (b_mayBeLast h) (fun _ _ h => ?_)) | (with_reducible refine wp_cI_b (b_kindFits h) (fun _ _ h => ?_)) | (with_reducible refine wp_cI_b (b_restFits h) (fun _ _ h => ?_)) | (with_reducible refine wp_cI_b (b_switchNumber h) (fun _ _ h => ?_)) | (with_reducible refine wp_cI_b (b_attributeOf h) (fun _ _ h => ?_)) | (with_reducible refine wp_cI_b (b_constantKind h) (fun _ _ h => ?_)) | (with_reducible refine wp_cI_b (b_readAttributes h) (fun _ _ h => ?_)) | (with_reducible refine wp_cI_b (b_classFlagsHold h) (fun _ _ h => ?_)) | (with_reducible refine wp_cI_b (b_takeClassText h) (fun _ _ h => ?_)) | (with_reducible refine wp_cI_b (b_refer h) (fun _ _ h => ?_)) | (with_reducible refine wp_cI_b (b_fits h) (fun _ _ h => ?_)) | (with_reducible refine wp_cI_b (b_secondOf h) (fun _ _ h => ?_)) | (with_reducible refine wp_cI_b (b_refer h) (fun _ _ h => ?_)) | (with_reducible refine wp_cI_b (b_specialNameHolds h) (fun _ _ h => ?_)) | (with_reducible refine wp_cI_b (b_fieldFlagsHold h) (fun _ _ h => ?_)) | (with_reducible refine wp_cI_b (b_methodFlagsHold h) (fun _ _ h => ?_)) | (with_reducible refine wp_cI_b (b_localInCode h) (fun _ _ h => ?_)) | (with_reducible refine wp_cI_b (b_isFirst h) (fun _ _ h => ?_)) | (with_reducible refine wp_cV_b (b_need h) (fun _ h => ?_)) | (with_reducible refine wp_cV_b (b_needType h) (fun _ h => ?_)) | (with_reducible refine wp_cV_b (b_addJump h) (fun _ h => ?_)) | (with_reducible refine wp_cV_b (b_readConstant h) (fun _ h => ?_)) | (with_reducible refine wp_cV_b (b_readExceptions h) (fun _ h => ?_)) | (with_reducible refine wp_cV_b (b_readLinks h) (fun _ h => ?_)) | (with_reducible refine wp_cV_b (b_noteTexts h) (fun _ h => ?_)) | (with_reducible refine wp_cV_b (b_readEntries h) (fun _ h => ?_)) | (with_reducible refine wp_cV_b (b_readClass h) (fun _ h => ?_)) | (with_reducible refine wp_cV_b (b_clearCodeTallies h) (fun _ h => ?_)) | (with_reducible refine wp_cV_b (b_addMember h) (fun _ h => ?_)) | (with_reducible refine wp_cT_b (b_exL h) (fun _ h => ?_)) | (with_reducible refine wp_cI_b (b_spells (by decide) h) (fun _ _ h => ?_)) | (with_reducible refine wp_gb (by repeat' (first | exact Or.inl rfl | exact Or.inr rfl | apply ite01)) ?_) | (with_reducible refine wp_cI_b (b_num hnm h) (fun _ _ h => ?_)) | (with_reducible refine b_sound0 h ?_) | (with_reducible refine wp_ite0 ?_) | (with_reducible refine wp_cT_b1 (b_L15 h) (fun _ h => ?_)) | (with_reducible refine wp_cT_b (b_L84 h) (fun _ h => ?_)) | (with_reducible refine wp_cT_b (b_szL h) (fun _ h => ?_)) | (with_reducible refine wp_gdn (by omega) (by decide) ?_) | (with_reducible refine wp_cT ?_) | (with_reducible refine wp_ite (fun _ => ?_) (fun _ => ?_)))
  · repeat' (first | exact h | (with_reducible refine wp_bnd_11 h (fun _ h => ?_)) | (refine SB_sv (by decide) h) | (refine SB_sa (by decide) h) | (with_reducible refine wp_some ?_; try dsimp only) | (with_reducible refine wp_bnd_sv (by decide) h (fun _ h => ?_)) | (with_reducible refine wp_bnd_sa (by decide) h (fun _ h => ?_)) | (with_reducible refine wp_bnd ?_) | with_reducible refine wp_gb0 ?_ | with_reducible refine wp_gb1 ?_ | with_reducible refine wp_gb01 ?_ | with_reducible refine wp_gb10 ?_ | (with_reducible refine wp_cI_b (b_next h) (fun _ _ h => ?_)) | (with_reducible refine wp_cI_b (b_num1 h) (fun _ _ h => ?_)) | (with_reducible refine wp_cI_b (b_num2 h) (fun _ _ h => ?_)) | (with_reducible refine wp_cI_b (b_num4 h) (fun _ _ h => ?_)) | (with_reducible refine wp_cI_b (b_kindOf h) (fun _ _ h => ?_)) | (with_reducible refine wp_cI_b (b_factsOf h) (fun _ _ h => ?_)) | (with_reducible refine wp_cI_b (b_measureOf h) (fun _ _ h => ?_)) | (with_reducible refine wp_cI_b (b_firstOf h) (fun _ _ h => ?_)) | (with_reducible refine wp_cI_b (b_alike h) (fun _ _ h => ?_)) | (with_reducible refine wp_cI_b (b_take h) (fun _ _ h => ?_)) | (with_reducible refine wp_cI_b (b_bitCount h) (fun _ _ h => ?_)) | (with_reducible refine wp_cI_b (b_mayBeLast h) (fun _ _ h => ?_)) | (with_reducible refine wp_cI_b (b_kindFits h) (fun _ _ h => ?_)) | (with_reducible refine wp_cI_b (b_restFits h) (fun _ _ h => ?_)) | (with_reducible refine wp_cI_b (b_switchNumber h) (fun _ _ h => ?_)) | (with_reducible refine wp_cI_b (b_attributeOf h) (fun _ _ h => ?_)) | (with_reducible refine wp_cI_b (b_constantKind h) (fun _ _ h => ?_)) | (with_reducible refine wp_cI_b (b_readAttributes h) (fun _ _ h => ?_)) | (with_reducible refine wp_cI_b (b_classFlagsHold h) (fun _ _ h => ?_)) | (with_reducible refine wp_cI_b (b_takeClassText h) (fun _ _ h => ?_)) | (with_reducible refine wp_cI_b (b_refer h) (fun _ _ h => ?_)) | (with_reducible refine wp_cI_b (b_fits h) (fun _ _ h => ?_)) | (with_reducible refine wp_cI_b (b_secondOf h) (fun _ _ h => ?_)) | (with_reducible refine wp_cI_b (b_refer h) (fun _ _ h => ?_)) | (with_reducible refine wp_cI_b (b_specialNameHolds h) (fun _ _ h => ?_)) | (with_reducible refine wp_cI_b (b_fieldFlagsHold h) (fun _ _ h => ?_)) | (with_reducible refine wp_cI_b (b_methodFlagsHold h) (fun _ _ h => ?_)) | (with_reducible refine wp_cI_b (b_localInCode h) (fun _ _ h => ?_)) | (with_reducible refine wp_cI_b (b_isFirst h) (fun _ _ h => ?_)) | (with_reducible refine wp_cV_b (b_need h) (fun _ h => ?_)) | (with_reducible refine wp_cV_b (b_needType h) (fun _ h => ?_)) | (with_reducible refine wp_cV_b (b_addJump h) (fun _ h => ?_)) | (with_reducible refine wp_cV_b (b_readConstant h) (fun _ h => ?_)) | (with_reducible refine wp_cV_b (b_readExceptions h) (fun _ h => ?_)) | (with_reducible refine wp_cV_b (b_readLinks h) (fun _ h => ?_)) | (with_reducible refine wp_cV_b (b_noteTexts h) (fun _ h => ?_)) | (with_reducible refine wp_cV_b (b_readEntries h) (fun _ h => ?_)) | (with_reducible refine wp_cV_b (b_readClass h) (fun _ h => ?_)) | (with_reducible refine wp_cV_b (b_clearCodeTallies h) (fun _ h => ?_)) | (with_reducible refine wp_cV_b (b_addMember h) (fun _ h => ?_)) | (with_reducible refine wp_cT_b (b_exL h) (fun _ h => ?_)) | (with_reducible refine wp_cI_b (b_spells (by decide) h) (fun _ _ h => ?_)) | (with_reducible refine wp_gb (by repeat' (first | exact Or.inl rfl | exact Or.inr rfl | apply ite01)) ?_) | (with_reducible refine wp_cI_b (b_num hnm h) (fun _ _ h => ?_)) | (with_reducible refine b_sound0 h ?_) | (with_reducible refine wp_ite0 ?_) | (with_reducible refine wp_cT_b1 (b_L15 h) (fun _ h => ?_)) | (with_reducible refine wp_cT_b (b_L84 h) (fun _ h => ?_)) | (with_reducible refine wp_cT_b (b_szL h) (fun _ h => ?_)) | (with_reducible refine wp_gdn (by omega) (by decide) ?_) | (with_reducible refine wp_cT ?_) | (with_reducible refine wp_ite (fun _ => ?_) (fun _ => ?_)))
theorem b_exLg {x : Int32} (h : SB N r w z u) : ∀ g, 0 < g → wp (f_G_readExceptions_L14 g u x) (fun p => SB N r w z p)
  | g + 1, _ => by
    rw [f_G_readExceptions_L14]
    refine wp_ite (fun _ => wp_some h) (fun _ => b_sound0 h ?_)
    exact wp_some h
theorem excL_eq_o {n : Nat} (hn : n < 65536) : ∀ (m j g i : Nat) (u : St), j + m = n → m < g → SO N i z u → PW_o F N c K B u → u.1 20 = nI n → wp (f_G_readExceptions_L14 g u (nI j)) (XQ N z (sTk F N c K m i) (fun _ v => ko [1] [] u v))
  | 0, j, g + 1, i, u, h1, _, hO, hP, h20 => by
    rw [f_G_readExceptions_L14, h20, if_pos (nI_le (by omega) (by omega))]
    exact wp_some ⟨hO, ko_rf⟩
  | m + 1, j, g + 1, i, u, h1, h2, hO, hP, h20 => by
    rw [f_G_readExceptions_L14, h20, if_neg (nI_ge (by omega) (by omega)), snd_o hO.1, cI_s, if_neg (by decide), nI_1, sTk]
    refine wq_take_o hO hP rfl (by decide) (fun t ht hi => ?_) (fun r w x u h => ?_)
    · exact wp_mono (excL_eq_o hn m (j + 1) g (i + 2) _ (by omega) (by omega) (SO_at hO hi) hP.at h20) fun x hx => XP_mono hx fun _ q => ko_tr (ko_sv (by decide)) q
    · exact b_exLg h g (by omega)
theorem exc_eq_o (hO : SO N i z u) (hP : PW_o F N c K B u) : wp (f_G_readExceptions u) (XQ N z (sExc F N c K i) (fun n v => ko [1, 20] [] u v ∧ v.1 20 = nI n)) := by
  unfold f_G_readExceptions sExc
  refine wq_next hO hP.1 rfl (by decide) (fun hi => ?_) (fun u h => ?_)
  · refine wp_bnd ?_
    have hO1 : SO N (i + 2) z (sv (sv u 1 (nI (i + 2))) 20 (nI (be F i 2))) := SO_sv (SO_at hO hi) (by decide)
    have hP1 : PW_o F N c K B (sv (sv u 1 (nI (i + 2))) 20 (nI (be F i 2))) := hP.keep rfl (fun _ _ => rfl)
    have k1 : ko [1, 20] [] u (sv (sv u 1 (nI (i + 2))) 20 (nI (be F i 2))) := ko_tr (ko_sv (by decide)) (ko_sv (by decide))
    have e20 : (sv (sv u 1 (nI (i + 2))) 20 (nI (be F i 2))).1 20 = nI (be F i 2) := rfl
    have hn := be2_lt_o hP i
    generalize be F i 2 = n at *
    generalize sv (sv u 1 (nI (i + 2))) 20 (nI n) = v at hO1 hP1 k1 e20 ⊢
    have el := excL_eq_o (z := z) hn n 0 FU (i + 2) v (by omega) (by unfold FU; omega) hO1 hP1 e20
    have el' : wp (f_G_readExceptions_L14 FU v 0) _ := el
    refine wq_T el' ?_ ?_
    · intro a j y hp hOy ky
      exact wp_some ⟨hOy, ko_tr k1 (ko_mono ky (fun k h => by simp at h ⊢; omega) (fun _ h => h)), (ky.1 20 (by decide)).trans e20⟩
    · intro r w u h
      exact wp_some h
  · repeat' (first | exact h | (with_reducible refine wp_bnd_11 h (fun _ h => ?_)) | (refine SB_sv (by decide) h) | (refine SB_sa (by decide) h) | (with_reducible refine wp_some ?_; try dsimp only) | (with_reducible refine wp_bnd_sv (by decide) h (fun _ h => ?_)) | (with_reducible refine wp_bnd_sa (by decide) h (fun _ h => ?_)) | (with_reducible refine wp_bnd ?_) | with_reducible refine wp_gb0 ?_ | with_reducible refine wp_gb1 ?_ | with_reducible refine wp_gb01 ?_ | with_reducible refine wp_gb10 ?_ | (with_reducible refine wp_cI_b (b_next h) (fun _ _ h => ?_)) | (with_reducible refine wp_cI_b (b_num1 h) (fun _ _ h => ?_)) | (with_reducible refine wp_cI_b (b_num2 h) (fun _ _ h => ?_)) | (with_reducible refine wp_cI_b (b_num4 h) (fun _ _ h => ?_)) | (with_reducible refine wp_cI_b (b_kindOf h) (fun _ _ h => ?_)) | (with_reducible refine wp_cI_b (b_factsOf h) (fun _ _ h => ?_)) | (with_reducible refine wp_cI_b (b_measureOf h) (fun _ _ h => ?_)) | (with_reducible refine wp_cI_b (b_firstOf h) (fun _ _ h => ?_)) | (with_reducible refine wp_cI_b (b_alike h) (fun _ _ h => ?_)) | (with_reducible refine wp_cI_b (b_take h) (fun _ _ h => ?_)) | (with_reducible refine wp_cI_b (b_bitCount h) (fun _ _ h => ?_)) | (with_reducible refine wp_cI_b (b_mayBeLast h) (fun _ _ h => ?_)) | (with_reducible refine wp_cI_b (b_kindFits h) (fun _ _ h => ?_)) | (with_reducible refine wp_cI_b (b_restFits h) (fun _ _ h => ?_)) | (with_reducible refine wp_cI_b (b_switchNumber h) (fun _ _ h => ?_)) | (with_reducible refine wp_cI_b (b_attributeOf h) (fun _ _ h => ?_)) | (with_reducible refine wp_cI_b (b_constantKind h) (fun _ _ h => ?_)) | (with_reducible refine wp_cI_b (b_readAttributes h) (fun _ _ h => ?_)) | (with_reducible refine wp_cI_b (b_classFlagsHold h) (fun _ _ h => ?_)) | (with_reducible refine wp_cI_b (b_takeClassText h) (fun _ _ h => ?_)) | (with_reducible refine wp_cI_b (b_refer h) (fun _ _ h => ?_)) | (with_reducible refine wp_cI_b (b_fits h) (fun _ _ h => ?_)) | (with_reducible refine wp_cI_b (b_secondOf h) (fun _ _ h => ?_)) | (with_reducible refine wp_cI_b (b_refer h) (fun _ _ h => ?_)) | (with_reducible refine wp_cI_b (b_specialNameHolds h) (fun _ _ h => ?_)) | (with_reducible refine wp_cI_b (b_fieldFlagsHold h) (fun _ _ h => ?_)) | (with_reducible refine wp_cI_b (b_methodFlagsHold h) (fun _ _ h => ?_)) | (with_reducible refine wp_cI_b (b_localInCode h) (fun _ _ h => ?_)) | (with_reducible refine wp_cI_b (b_isFirst h) (fun _ _ h => ?_)) | (with_reducible refine wp_cV_b (b_need h) (fun _ h => ?_)) | (with_reducible refine wp_cV_b (b_needType h) (fun _ h => ?_)) | (with_reducible refine wp_cV_b (b_addJump h) (fun _ h => ?_)) | (with_reducible refine wp_cV_b (b_readConstant h) (fun _ h => ?_)) | (with_reducible refine wp_cV_b (b_readExceptions h) (fun _ h => ?_)) | (with_reducible refine wp_cV_b (b_readLinks h) (fun _ h => ?_)) | (with_reducible refine wp_cV_b (b_noteTexts h) (fun _ h => ?_)) | (with_reducible refine wp_cV_b (b_readEntries h) (fun _ h => ?_)) | (with_reducible refine wp_cV_b (b_readClass h) (fun _ h => ?_)) | (with_reducible refine wp_cV_b (b_clearCodeTallies h) (fun _ h => ?_)) | (with_reducible refine wp_cV_b (b_addMember h) (fun _ h => ?_)) | (with_reducible refine wp_cT_b (b_exL h) (fun _ h => ?_)) | (with_reducible refine wp_cI_b (b_spells (by decide) h) (fun _ _ h => ?_)) | (with_reducible refine wp_gb (by repeat' (first | exact Or.inl rfl | exact Or.inr rfl | apply ite01)) ?_) | (with_reducible refine wp_cI_b (b_num hnm h) (fun _ _ h => ?_)) | (with_reducible refine b_sound0 h ?_) | (with_reducible refine wp_ite0 ?_) | (with_reducible refine wp_cT_b1 (b_L15 h) (fun _ h => ?_)) | (with_reducible refine wp_cT_b (b_L84 h) (fun _ h => ?_)) | (with_reducible refine wp_cT_b (b_szL h) (fun _ h => ?_)) | (with_reducible refine wp_gdn (by omega) (by decide) ?_) | (with_reducible refine wp_cT ?_) | (with_reducible refine wp_ite (fun _ => ?_) (fun _ => ?_)))
/-- the member at hand, if the attribute asks for it -/
def MI (c : Nat) (K : Nat → Nat) (f ty : Nat) (u : St) : Prop := u.1 18 = nI f ∧ f < 65536 ∧ u.1 19 = nI ty ∧ isK c K ty 1 = true
def TH (tq : Bool) (th : Nat) (u : St) : Prop := tq = true → u.1 20 = nI th
def CDI (sn : Nat) (cd : Cd) (u : St) : Prop := (sn &&& 2 = 0 → cd = (0, 0, 0, 0, 0, 0)) ∧ (¬ sn &&& 2 = 0 → CD cd u)
theorem body_eq_o {f ty wh th : Nat} {cd : Cd} {tq : Bool} {x : Int32} (hO : SO N i z u) (hP : PW_o F N c K B u) (h15 : u.1 15 = nI ver) (hv : ver < 65536) (hx : x = nI wh) (hwh : wh = 1 ∨ wh = 2 ∨ wh = 4 ∨ wh = 8) (hM : wh ≠ 8 → MI c K f ty u) (hT : TH tq th u) : wp (if x = 2 then (cI (f_W_sound u) fun r34 u32 => if r34 = 0 then (if x = 1 then (cV (f_G_readConstant u32) fun u40 => some (u40)) else (if x = 4 then (cV (f_G_readExceptions u32) fun u38 => some (u38)) else (if x = 8 then (cI (f_P_take u32 1) fun r37 u35 => some (u35)) else (some (u32))))) else (cI (f_G_leastLocals u32) fun r44 u42 => cV (f_C_readAll u42 (u32.1 15) r44) fun u45 => some (u45))) else (if x = 1 then (cV (f_G_readConstant u) fun u30 => some (u30)) else (if x = 4 then (cV (f_G_readExceptions u) fun u28 => some (u28)) else (if x = 8 then (cI (f_P_take u 1) fun r27 u25 => some (u25)) else (some (u)))))) (XQ N z (sBody_o F N c K B ver f ty wh th cd i) (fun q v => ko [1, 7, 8, 9, 10, 11, 12, 13, 14, 20] [9, 10, 11] u v ∧ TH tq q.1 v ∧ (wh = 2 → CD q.2 v) ∧ (wh ≠ 2 → q.2 = cd ∧ ko [1, 20] [] u v))) := by
  unfold sBody_o
  rcases hwh with e | e | e | e
  · subst e
    obtain ⟨m1, m2, m3, m4⟩ := hM (by decide)
    rw [hx, if_neg (by decide), if_pos (show nI 1 = 1 from rfl), if_neg (by decide), if_pos rfl]
    refine wq_V (con_eq_o hO hP m3 m4) ?_ ?_
    · intro a j v hp hOv kv
      exact wp_some ⟨hOv, ko_mono kv (fun k h => by simp at h ⊢; omega) (fun _ h => by cases h), fun q => (kv.1 20 (by decide)).trans (hT q), fun q => absurd q (by decide), fun _ => ⟨rfl, ko_mono kv (fun k h => by simp at h ⊢; omega) (fun _ h => h)⟩⟩
    · intro r w u h
      exact wp_some h
  · subst e
    obtain ⟨m1, m2, m3, m4⟩ := hM (by decide)
    rw [hx, if_pos (show nI 2 = 2 from rfl), if_pos rfl, snd_o hO.1, cI_s, if_neg (by decide), least_eq_o hO hP m1 m2 m3 m4, cI_s, h15]
    have hs := (ms_sl_o F B ty).2
    refine wq_V (all_eq_o hO hP hv (by split <;> omega)) ?_ ?_
    · intro a j v hp hOv kv
      exact wp_some ⟨hOv, ko_mono kv.1 (fun k h => by simp at h ⊢; omega) (fun _ h => h), fun q => (kv.1.1 20 (by decide)).trans (hT q), fun _ => kv.2, fun q => absurd rfl q⟩
    · intro r w u h
      exact wp_some h
  · subst e
    rw [hx, if_neg (by decide), if_neg (by decide), if_pos (show nI 4 = 4 from rfl), if_neg (by decide), if_neg (by decide), if_pos rfl]
    refine wq_V (exc_eq_o hO hP) ?_ ?_
    · intro a j v hp hOv kv
      exact wp_some ⟨hOv, ko_mono kv.1 (fun k h => by simp at h ⊢; omega) (fun _ h => by cases h), fun _ => kv.2, fun q => absurd q (by decide), fun _ => ⟨rfl, kv.1⟩⟩
    · intro r w u h
      exact wp_some h
  · subst e
    rw [hx, if_neg (by decide), if_neg (by decide), if_neg (by decide), if_pos (show nI 8 = 8 from rfl), if_neg (by decide), if_neg (by decide), if_neg (by decide)]
    refine wq_take_o hO hP rfl (by decide) (fun t ht hi => ?_) (fun r w x u h => ?_)
    · exact wp_some ⟨SO_at hO hi, ko_sv (by decide), hT, fun q => absurd q (by decide), fun _ => ⟨rfl, ko_sv (by decide)⟩⟩
    · exact wp_some h
theorem b_atLg {x y p q : Int32} (h : SB N r w z u) : ∀ g, 0 < g → wp (f_G_readAttributes_L14 x y g u p q) (fun p => SB N r w z p.1)
  | g + 1, _ => by
    rw [f_G_readAttributes_L14]
    refine wp_ite (fun _ => wp_some h) (fun _ => b_sound0 h ?_)
    exact wp_some h
/-- what ATTRIBUTES leave -/
def AL (tq : Bool) (u : St) (q : Nat × Nat × Cd) (p : Int32) (v : St) : Prop := p = nI q.1 ∧ q.1 < 16 ∧ ko [1, 7, 8, 9, 10, 11, 12, 13, 14, 20] [9, 10, 11] u v ∧ TH tq q.2.1 v ∧ CDI q.1 q.2.2 v
theorem end_eq {e fr len : Nat} (h1 : fr ≤ e) (h2 : e ≤ 4000) (h3 : len < 2 ^ 32) : (nI e - nI fr = nI len) ↔ decide (e - fr = len) = true := by
  rw [nI_sub h1, nI_inj (by omega) h3, decide_eq_true_eq]
theorem attL_eq_o {al f ty n : Nat} {tq : Bool} (hn : n < 65536) (hal : al < 16) (hv : ver < 65536) : ∀ (m j g i sn th : Nat) (cd : Cd) (u : St), j + m = n → m < g → sn < 16 → SO N i z u → PW_o F N c K B u → u.1 15 = nI ver → (al ≠ 8 → MI c K f ty u) → TH tq th u → CDI sn cd u → wp (f_G_readAttributes_L14 (nI al) (nI n) g u (nI sn) (nI j)) (XP N z (fun p => p.1) (sAttL_o F N c K B al ver f ty m sn th cd i) (fun q p => AL tq u q p.2 p.1))
  | 0, j, g + 1, i, sn, th, cd, u, h1, _, hs, hO, hP, h15, hM, hT, hD => by
    rw [f_G_readAttributes_L14, if_pos (nI_le (by omega) (by omega)), sAttL_o]
    exact wp_some ⟨hO, rfl, hs, ko_rf, hT, hD⟩
  | m + 1, j, g + 1, i, sn, th, cd, u, h1, h2, hs, hO, hP, h15, hM, hT, hD => by
    rw [f_G_readAttributes_L14, if_neg (nI_ge (by omega) (by omega)), snd_o hO.1, cI_s, if_neg (by decide), nI_1, sAttL_o, hO.1.2.2.2.2.1]
    have rb : ∀ {N r w : Nat} {z u : St} (h : SB N r w z u), ∀ p q, wp (f_G_readAttributes_L14 (nI al) (nI n) g u p q) (fun p => SB N r w z p.1) := fun h _ _ => b_atLg h g (by omega)
    refine wq_pa ?_
    refine wq_take_o hO hP rfl (by decide) (fun t ht hi => ?_) (fun r w x u h => ?_)
    · have hO1 := SO_at hO hi
      have hP1 := hP.at (x := nI (i + 2))
      rw [atO_eq_o hO1 hP1 ht, cI_s]
      refine wq_pa ?_
      refine wq_next hO1 hP1.1 rfl (by decide) (fun hi2 => ?_) (fun u h => ?_)
      · have hO2 := SO_at hO1 hi2
        have hP2 := hP1.at (x := nI (i + 2 + 4))
        have hlen := be_lt (F := F) (PW_F_o hP) (i + 2) 4
        refine wq_pa ?_
        refine wp_bnd ?_
        refine wq_need hO2 rfl rfl (by decide) (i01 (alw_ok ⟨al, hal⟩ ⟨sn, hs⟩ _ (atO_m F B t))) (fun ha => ?_) (fun u h => ?_)
        · obtain ⟨a1, a2, a3, a4, a5⟩ := alw_w ⟨al, hal⟩ ⟨sn, hs⟩ _ (atO_m F B t) ha
          dsimp only at a1 a2 a3 a4 a5
          have hc := atO_c F B t
          generalize atO F B t = wh at *
          have hO2' := hO2
          have k2 : ko [1] [] u (sv (sv u 1 (nI (i + 2))) 1 (nI (i + 2 + 4))) := ko_tr (ko_sv (by decide)) (ko_sv (by decide))
          have eat : (sv u 1 (nI (i + 2))).1 1 = nI (i + 2) := rfl
          rw [eat, show (sv (sv u 1 (nI (i + 2))) 1 (nI (i + 2 + 4))).1 1 = nI (i + 2 + 4) from rfl]
          generalize sv (sv u 1 (nI (i + 2))) 1 (nI (i + 2 + 4)) = v at hO2 hP2 k2 ⊢
          have be2 := body_eq_o (f := f) (ty := ty) (wh := wh) (th := th) (cd := cd) (tq := tq) (ver := ver) hO2 hP2 ((k2.1 15 (by decide)).trans h15) hv rfl (by omega) (fun q => by
            obtain ⟨m1, m2, m3, m4⟩ := hM (fun e => q (a2 e))
            exact ⟨(k2.1 18 (by decide)).trans m1, m2, (k2.1 19 (by decide)).trans m3, m4⟩) (fun q => (k2.1 20 (by decide)).trans (hT q))
          refine wq_T be2 ?_ ?_
          · rintro ⟨th', cd'⟩ e v2 hp hO3 ⟨k3, hT3, hD3, hD3'⟩
            have hmo := mo_sBody_o _ _ _ hp
            have he := hO3.1.2.2.2.2.2
            have hN := hO3.1.1
            refine wq_pa ?_
            refine wp_bnd ?_
            rw [hO3.1.2.2.2.2.1]
            refine wq_need hO3 rfl rfl (by decide) (i10 (end_eq hmo (by omega) hlen)) (fun _ => ?_) (fun u h => ?_)
            · rw [nor]
              have ih := attL_eq_o (tq := tq) (f := f) (ty := ty) hn hal hv m (j + 1) g e (sn ||| wh) th' cd' v2 (by omega) (by omega) a3 hO3 (PW_ko_o hP2 k3 (by decide) (by decide)) ((k3.1 15 (by decide)).trans ((k2.1 15 (by decide)).trans h15)) (fun q => by
                obtain ⟨m1, m2, m3, m4⟩ := hM q
                exact ⟨(k3.1 18 (by decide)).trans ((k2.1 18 (by decide)).trans m1), m2, (k3.1 19 (by decide)).trans ((k2.1 19 (by decide)).trans m3), m4⟩) hT3 (by
                by_cases w2 : wh = 2
                · exact ⟨fun q => absurd q (a5 w2), fun _ => hD3 w2⟩
                · obtain ⟨c1, c2⟩ := hD3' w2
                  unfold CDI
                  rw [a4 w2]
                  dsimp only at c1
                  rw [c1]
                  refine ⟨hD.1, fun q => ?_⟩
                  obtain ⟨d1, d2, d3, d4, d5, d6⟩ := hD.2 q
                  exact ⟨(c2.1 7 (by decide)).trans ((k2.1 7 (by decide)).trans d1), (c2.1 8 (by decide)).trans ((k2.1 8 (by decide)).trans d2), (c2.1 10 (by decide)).trans ((k2.1 10 (by decide)).trans d3), (c2.1 9 (by decide)).trans ((k2.1 9 (by decide)).trans d4), (c2.1 11 (by decide)).trans ((k2.1 11 (by decide)).trans d5), (c2.1 12 (by decide)).trans ((k2.1 12 (by decide)).trans d6)⟩)
              refine wp_mono ih fun x hx => XP_mono hx ?_
              rintro q ⟨b1, b2, b3, b4, b5⟩
              exact ⟨b1, b2, ko_tr (ko_mono k2 (fun k h => by simp at h ⊢; omega) (fun _ h => by cases h)) (ko_tr k3 b3), b4, b5⟩
            · exact rb h _ _
          · intro r w u h
            refine wp_bnd (wp_cV_b (b_need h) (fun _ h => rb h _ _))
        · repeat' (first | exact rb h _ _ | exact h | (with_reducible refine wp_bnd_11 h (fun _ h => ?_)) | (refine SB_sv (by decide) h) | (refine SB_sa (by decide) h) | (with_reducible refine wp_some ?_; try dsimp only) | (with_reducible refine wp_bnd_sv (by decide) h (fun _ h => ?_)) | (with_reducible refine wp_bnd_sa (by decide) h (fun _ h => ?_)) | (with_reducible refine wp_bnd ?_) | with_reducible refine wp_gb0 ?_ | with_reducible refine wp_gb1 ?_ | with_reducible refine wp_gb01 ?_ | with_reducible refine wp_gb10 ?_ | (with_reducible refine wp_cI_b (b_next h) (fun _ _ h => ?_)) | (with_reducible refine wp_cI_b (b_num1 h) (fun _ _ h => ?_)) | (with_reducible refine wp_cI_b (b_num2 h) (fun _ _ h => ?_)) | (with_reducible refine wp_cI_b (b_num4 h) (fun _ _ h => ?_)) | (with_reducible refine wp_cI_b (b_kindOf h) (fun _ _ h => ?_)) | (with_reducible refine wp_cI_b (b_factsOf h) (fun _ _ h => ?_)) | (with_reducible refine wp_cI_b (b_measureOf h) (fun _ _ h => ?_)) | (with_reducible refine wp_cI_b (b_firstOf h) (fun _ _ h => ?_)) | (with_reducible refine wp_cI_b (b_alike h) (fun _ _ h => ?_)) | (with_reducible refine wp_cI_b (b_take h) (fun _ _ h => ?_)) | (with_reducible refine wp_cI_b (b_bitCount h) (fun _ _ h => ?_)) | (with_reducible refine wp_cI_b (b_mayBeLast h) (fun _ _ h => ?_)) | (with_reducible refine wp_cI_b (b_kindFits h) (fun _ _ h => ?_)) | (with_reducible refine wp_cI_b (b_restFits h) (fun _ _ h => ?_)) | (with_reducible refine wp_cI_b (b_switchNumber h) (fun _ _ h => ?_)) | (with_reducible refine wp_cI_b (b_attributeOf h) (fun _ _ h => ?_)) | (with_reducible refine wp_cI_b (b_constantKind h) (fun _ _ h => ?_)) | (with_reducible refine wp_cI_b (b_readAttributes h) (fun _ _ h => ?_)) | (with_reducible refine wp_cI_b (b_classFlagsHold h) (fun _ _ h => ?_)) | (with_reducible refine wp_cI_b (b_takeClassText h) (fun _ _ h => ?_)) | (with_reducible refine wp_cI_b (b_refer h) (fun _ _ h => ?_)) | (with_reducible refine wp_cI_b (b_fits h) (fun _ _ h => ?_)) | (with_reducible refine wp_cI_b (b_secondOf h) (fun _ _ h => ?_)) | (with_reducible refine wp_cI_b (b_refer h) (fun _ _ h => ?_)) | (with_reducible refine wp_cI_b (b_specialNameHolds h) (fun _ _ h => ?_)) | (with_reducible refine wp_cI_b (b_fieldFlagsHold h) (fun _ _ h => ?_)) | (with_reducible refine wp_cI_b (b_methodFlagsHold h) (fun _ _ h => ?_)) | (with_reducible refine wp_cI_b (b_localInCode h) (fun _ _ h => ?_)) | (with_reducible refine wp_cI_b (b_isFirst h) (fun _ _ h => ?_)) | (with_reducible refine wp_cV_b (b_need h) (fun _ h => ?_)) | (with_reducible refine wp_cV_b (b_needType h) (fun _ h => ?_)) | (with_reducible refine wp_cV_b (b_addJump h) (fun _ h => ?_)) | (with_reducible refine wp_cV_b (b_readConstant h) (fun _ h => ?_)) | (with_reducible refine wp_cV_b (b_readExceptions h) (fun _ h => ?_)) | (with_reducible refine wp_cV_b (b_readLinks h) (fun _ h => ?_)) | (with_reducible refine wp_cV_b (b_noteTexts h) (fun _ h => ?_)) | (with_reducible refine wp_cV_b (b_readEntries h) (fun _ h => ?_)) | (with_reducible refine wp_cV_b (b_readClass h) (fun _ h => ?_)) | (with_reducible refine wp_cV_b (b_clearCodeTallies h) (fun _ h => ?_)) | (with_reducible refine wp_cV_b (b_addMember h) (fun _ h => ?_)) | (with_reducible refine wp_cT_b (b_exL h) (fun _ h => ?_)) | (with_reducible refine wp_cI_b (b_spells (by decide) h) (fun _ _ h => ?_)) | (with_reducible refine wp_gb (by repeat' (first | exact Or.inl rfl | exact Or.inr rfl | apply ite01)) ?_) | (with_reducible refine wp_cI_b (b_num hnm h) (fun _ _ h => ?_)) | (with_reducible refine b_sound0 h ?_) | (with_reducible refine wp_ite0 ?_) | (with_reducible refine wp_cT_b1 (b_L15 h) (fun _ h => ?_)) | (with_reducible refine wp_cT_b (b_L84 h) (fun _ h => ?_)) | (with_reducible refine wp_cT_b (b_szL h) (fun _ h => ?_)) | (with_reducible refine wp_gdn (by omega) (by decide) ?_) | (with_reducible refine wp_cT ?_) | (with_reducible refine wp_ite (fun _ => ?_) (fun _ => ?_)))
      · repeat' (first | exact rb h _ _ | exact h | (with_reducible refine wp_bnd_11 h (fun _ h => ?_)) | (refine SB_sv (by decide) h) | (refine SB_sa (by decide) h) | (with_reducible refine wp_some ?_; try dsimp only) | (with_reducible refine wp_bnd_sv (by decide) h (fun _ h => ?_)) | (with_reducible refine wp_bnd_sa (by decide) h (fun _ h => ?_)) | (with_reducible refine wp_bnd ?_) | with_reducible refine wp_gb0 ?_ | with_reducible refine wp_gb1 ?_ | with_reducible refine wp_gb01 ?_ | with_reducible refine wp_gb10 ?_ | (with_reducible refine wp_cI_b (b_next h) (fun _ _ h => ?_)) | (with_reducible refine wp_cI_b (b_num1 h) (fun _ _ h => ?_)) | (with_reducible refine wp_cI_b (b_num2 h) (fun _ _ h => ?_)) | (with_reducible refine wp_cI_b (b_num4 h) (fun _ _ h => ?_)) | (with_reducible refine wp_cI_b (b_kindOf h) (fun _ _ h => ?_)) | (with_reducible refine wp_cI_b (b_factsOf h) (fun _ _ h => ?_)) | (with_reducible refine wp_cI_b (b_measureOf h) (fun _ _ h => ?_)) | (with_reducible refine wp_cI_b (b_firstOf h) (fun _ _ h => ?_)) | (with_reducible refine wp_cI_b (b_alike h) (fun _ _ h => ?_)) | (with_reducible refine wp_cI_b (b_take h) (fun _ _ h => ?_)) | (with_reducible refine wp_cI_b (b_bitCount h) (fun _ _ h => ?_)) | (with_reducible refine wp_cI_b (b_mayBeLast h) (fun _ _ h => ?_)) | (with_reducible refine wp_cI_b (b_kindFits h) (fun _ _ h => ?_)) | (with_reducible refine wp_cI_b (b_restFits h) (fun _ _ h => ?_)) | (with_reducible refine wp_cI_b (b_switchNumber h) (fun _ _ h => ?_)) | (with_reducible refine wp_cI_b (b_attributeOf h) (fun _ _ h => ?_)) | (with_reducible refine wp_cI_b (b_constantKind h) (fun _ _ h => ?_)) | (with_reducible refine wp_cI_b (b_readAttributes h) (fun _ _ h => ?_)) | (with_reducible refine wp_cI_b (b_classFlagsHold h) (fun _ _ h => ?_)) | (with_reducible refine wp_cI_b (b_takeClassText h) (fun _ _ h => ?_)) | (with_reducible refine wp_cI_b (b_refer h) (fun _ _ h => ?_)) | (with_reducible refine wp_cI_b (b_fits h) (fun _ _ h => ?_)) | (with_reducible refine wp_cI_b (b_secondOf h) (fun _ _ h => ?_)) | (with_reducible refine wp_cI_b (b_refer h) (fun _ _ h => ?_)) | (with_reducible refine wp_cI_b (b_specialNameHolds h) (fun _ _ h => ?_)) | (with_reducible refine wp_cI_b (b_fieldFlagsHold h) (fun _ _ h => ?_)) | (with_reducible refine wp_cI_b (b_methodFlagsHold h) (fun _ _ h => ?_)) | (with_reducible refine wp_cI_b (b_localInCode h) (fun _ _ h => ?_)) | (with_reducible refine wp_cI_b (b_isFirst h) (fun _ _ h => ?_)) | (with_reducible refine wp_cV_b (b_need h) (fun _ h => ?_)) | (with_reducible refine wp_cV_b (b_needType h) (fun _ h => ?_)) | (with_reducible refine wp_cV_b (b_addJump h) (fun _ h => ?_)) | (with_reducible refine wp_cV_b (b_readConstant h) (fun _ h => ?_)) | (with_reducible refine wp_cV_b (b_readExceptions h) (fun _ h => ?_)) | (with_reducible refine wp_cV_b (b_readLinks h) (fun _ h => ?_)) | (with_reducible refine wp_cV_b (b_noteTexts h) (fun _ h => ?_)) | (with_reducible refine wp_cV_b (b_readEntries h) (fun _ h => ?_)) | (with_reducible refine wp_cV_b (b_readClass h) (fun _ h => ?_)) | (with_reducible refine wp_cV_b (b_clearCodeTallies h) (fun _ h => ?_)) | (with_reducible refine wp_cV_b (b_addMember h) (fun _ h => ?_)) | (with_reducible refine wp_cT_b (b_exL h) (fun _ h => ?_)) | (with_reducible refine wp_cI_b (b_spells (by decide) h) (fun _ _ h => ?_)) | (with_reducible refine wp_gb (by repeat' (first | exact Or.inl rfl | exact Or.inr rfl | apply ite01)) ?_) | (with_reducible refine wp_cI_b (b_num hnm h) (fun _ _ h => ?_)) | (with_reducible refine b_sound0 h ?_) | (with_reducible refine wp_ite0 ?_) | (with_reducible refine wp_cT_b1 (b_L15 h) (fun _ h => ?_)) | (with_reducible refine wp_cT_b (b_L84 h) (fun _ h => ?_)) | (with_reducible refine wp_cT_b (b_szL h) (fun _ h => ?_)) | (with_reducible refine wp_gdn (by omega) (by decide) ?_) | (with_reducible refine wp_cT ?_) | (with_reducible refine wp_ite (fun _ => ?_) (fun _ => ?_)))
    · repeat' (first | exact rb h _ _ | exact h | (with_reducible refine wp_bnd_11 h (fun _ h => ?_)) | (refine SB_sv (by decide) h) | (refine SB_sa (by decide) h) | (with_reducible refine wp_some ?_; try dsimp only) | (with_reducible refine wp_bnd_sv (by decide) h (fun _ h => ?_)) | (with_reducible refine wp_bnd_sa (by decide) h (fun _ h => ?_)) | (with_reducible refine wp_bnd ?_) | with_reducible refine wp_gb0 ?_ | with_reducible refine wp_gb1 ?_ | with_reducible refine wp_gb01 ?_ | with_reducible refine wp_gb10 ?_ | (with_reducible refine wp_cI_b (b_next h) (fun _ _ h => ?_)) | (with_reducible refine wp_cI_b (b_num1 h) (fun _ _ h => ?_)) | (with_reducible refine wp_cI_b (b_num2 h) (fun _ _ h => ?_)) | (with_reducible refine wp_cI_b (b_num4 h) (fun _ _ h => ?_)) | (with_reducible refine wp_cI_b (b_kindOf h) (fun _ _ h => ?_)) | (with_reducible refine wp_cI_b (b_factsOf h) (fun _ _ h => ?_)) | (with_reducible refine wp_cI_b (b_measureOf h) (fun _ _ h => ?_)) | (with_reducible refine wp_cI_b (b_firstOf h) (fun _ _ h => ?_)) | (with_reducible refine wp_cI_b (b_alike h) (fun _ _ h => ?_)) | (with_reducible refine wp_cI_b (b_take h) (fun _ _ h => ?_)) | (with_reducible refine wp_cI_b (b_bitCount h) (fun _ _ h => ?_)) | (with_reducible refine wp_cI_b (b_mayBeLast h) (fun _ _ h => ?_)) | (with_reducible refine wp_cI_b (b_kindFits h) (fun _ _ h => ?_)) | (with_reducible refine wp_cI_b (b_restFits h) (fun _ _ h => ?_)) | (with_reducible refine wp_cI_b (b_switchNumber h) (fun _ _ h => ?_)) | (with_reducible refine wp_cI_b (b_attributeOf h) (fun _ _ h => ?_)) | (with_reducible refine wp_cI_b (b_constantKind h) (fun _ _ h => ?_)) | (with_reducible refine wp_cI_b (b_readAttributes h) (fun _ _ h => ?_)) | (with_reducible refine wp_cI_b (b_classFlagsHold h) (fun _ _ h => ?_)) | (with_reducible refine wp_cI_b (b_takeClassText h) (fun _ _ h => ?_)) | (with_reducible refine wp_cI_b (b_refer h) (fun _ _ h => ?_)) | (with_reducible refine wp_cI_b (b_fits h) (fun _ _ h => ?_)) | (with_reducible refine wp_cI_b (b_secondOf h) (fun _ _ h => ?_)) | (with_reducible refine wp_cI_b (b_refer h) (fun _ _ h => ?_)) | (with_reducible refine wp_cI_b (b_specialNameHolds h) (fun _ _ h => ?_)) | (with_reducible refine wp_cI_b (b_fieldFlagsHold h) (fun _ _ h => ?_)) | (with_reducible refine wp_cI_b (b_methodFlagsHold h) (fun _ _ h => ?_)) | (with_reducible refine wp_cI_b (b_localInCode h) (fun _ _ h => ?_)) | (with_reducible refine wp_cI_b (b_isFirst h) (fun _ _ h => ?_)) | (with_reducible refine wp_cV_b (b_need h) (fun _ h => ?_)) | (with_reducible refine wp_cV_b (b_needType h) (fun _ h => ?_)) | (with_reducible refine wp_cV_b (b_addJump h) (fun _ h => ?_)) | (with_reducible refine wp_cV_b (b_readConstant h) (fun _ h => ?_)) | (with_reducible refine wp_cV_b (b_readExceptions h) (fun _ h => ?_)) | (with_reducible refine wp_cV_b (b_readLinks h) (fun _ h => ?_)) | (with_reducible refine wp_cV_b (b_noteTexts h) (fun _ h => ?_)) | (with_reducible refine wp_cV_b (b_readEntries h) (fun _ h => ?_)) | (with_reducible refine wp_cV_b (b_readClass h) (fun _ h => ?_)) | (with_reducible refine wp_cV_b (b_clearCodeTallies h) (fun _ h => ?_)) | (with_reducible refine wp_cV_b (b_addMember h) (fun _ h => ?_)) | (with_reducible refine wp_cT_b (b_exL h) (fun _ h => ?_)) | (with_reducible refine wp_cI_b (b_spells (by decide) h) (fun _ _ h => ?_)) | (with_reducible refine wp_gb (by repeat' (first | exact Or.inl rfl | exact Or.inr rfl | apply ite01)) ?_) | (with_reducible refine wp_cI_b (b_num hnm h) (fun _ _ h => ?_)) | (with_reducible refine b_sound0 h ?_) | (with_reducible refine wp_ite0 ?_) | (with_reducible refine wp_cT_b1 (b_L15 h) (fun _ h => ?_)) | (with_reducible refine wp_cT_b (b_L84 h) (fun _ h => ?_)) | (with_reducible refine wp_cT_b (b_szL h) (fun _ h => ?_)) | (with_reducible refine wp_gdn (by omega) (by decide) ?_) | (with_reducible refine wp_cT ?_) | (with_reducible refine wp_ite (fun _ => ?_) (fun _ => ?_)))
theorem atts_eq_o {al f ty : Nat} {tq : Bool} (hal : al < 16) (hv : ver < 65536) (hO : SO N i z u) (hP : PW_o F N c K B u) (h15 : u.1 15 = nI ver) (hM : al ≠ 8 → MI c K f ty u) (hT : TH tq 0 u) : wp (f_G_readAttributes u (nI al)) (XQI N z (sAtts_o F N c K B al ver f ty i) (fun q p => AL tq u q p.1 p.2)) := by
  unfold f_G_readAttributes sAtts_o
  refine wq_next hO hP.1 rfl (by decide) (fun hi => ?_) (fun u h => ?_)
  · have k1 : ko [1] [] u (sv u 1 (nI (i + 2))) := ko_sv (by decide)
    have el := attL_eq_o (z := z) (tq := tq) (f := f) (ty := ty) (be2_lt_o hP i) hal hv (be F i 2) 0 FU (i + 2) 0 0 (0, 0, 0, 0, 0, 0) (sv u 1 (nI (i + 2))) (by omega) (by have := be2_lt_o hP i; unfold FU; omega) (by decide) (SO_at hO hi) hP.at h15 hM hT ⟨fun _ => rfl, fun q => absurd rfl q⟩
    have el' : wp (f_G_readAttributes_L14 (nI al) (nI (be F i 2)) FU (sv u 1 (nI (i + 2))) 0 0) _ := el
    refine wp_cT (wp_mono el' fun p hp => wp_some ?_)
    cases hr : sAttL_o F N c K B al ver f ty (be F i 2) 0 0 (0, 0, 0, 0, 0, 0) (i + 2) with
    | error e => rw [hr] at hp; exact hp
    | ok q =>
      rw [hr] at hp
      obtain ⟨h1, b1, b2, b3, b4⟩ := hp
      exact ⟨h1, b1, b2, ko_tr (ko_mono k1 (fun k h => by simp at h ⊢; omega) (fun _ h => by cases h)) b3, b4⟩
  · refine wp_cT_b1 (b_atL h) (fun _ h => wp_some h)
end ATT

/-! THE REFERENCE: class and interfaces -/
section MTO
variable {F : Nat → Nat} {N i r w c : Nat} {K B : Nat → Nat} {z u : St} {β : Type}
theorem textOf_m (hW : MW F N c K B u) (hN : N ≤ 4000) {k : Nat} (hk : isK c K k 7 = true) : f_M_textOf u (nI k) = some (nI (n2 F (B k + 1)), u) := by
  obtain ⟨a1, a2, a3, a4, a5⟩ := hW.ent hk (by decide)
  have x1 := a5.2.2.1 (Or.inl rfl)
  have hc := hW.2.2.1
  unfold f_M_textOf
  rw [gd_in (by omega) (by decide), ncl (by omega), a4, nI_1, two_in (by omega), cI_s, hW.1]
  rfl
theorem array_m (hW : MW F N c K B u) (hL : LK F c K B) (hN : N ≤ 4000) {k : Nat} (hk : isK c K k 7 = true) : f_M_isArray u (nI k) = some (if hdT F B 91 (n2 F (B k + 1)) then 1 else 0, u) := by
  obtain ⟨a1, a2, a3, a4, a5⟩ := hW.ent hk (by decide)
  have x1 := a5.2.2.1 (Or.inl rfl)
  have hc := hW.2.2.1
  have hT := hW.tx hN (hL.2.1 k hk)
  unfold f_M_isArray
  rw [gd_in (by omega) (by decide), ncl (by omega), a4, nI_1, two_in (by omega), cI_s, hW.1, show be F (B k + 1) 2 = n2 F (B k + 1) from rfl, let0 hT, cI_s, bnd_s]
  cases hd : hdT F B 91 (n2 F (B k + 1)) with
  | true => rw [if_pos ((hd_l 91 rfl hT (by decide)).mpr hd), gb_1]; rfl
  | false => rw [if_neg (fun q => by rw [(hd_l 91 rfl hT (by decide)).mp q] at hd; cases hd), gb_0]; rfl
theorem i10n {x : Int32} {b : Bool} (h : x = if b then 1 else 0) : (if x = 0 then (1 : Int32) else 0) = 0 ↔ (!b) = false := by
  rw [h]
  cases b <;> decide
theorem cflM : ∀ m : Fin 1073, (¬ m.val &&& 1040 = 1040 ∧ ¬ m.val &&& 1024 = 0 ∧ m.val &&& 48 = 0) ↔ m.val &&& 1072 = 1024 := by decide +kernel
theorem cfl_m {f : Nat} (hf : f < 65536) : ∃ x, (∀ {γ : Type} {k : Int32 → Option γ}, (bnd (if (nI f &&& (-1586)) = 0 then (if (nI f &&& 1040) = 1040 then (0 : Int32) else (1)) else (0)) fun (z5 : Int32) => cT (if (nI f &&& 512) = 0 then (some (z5)) else (bnd (if (nI f &&& 1024) = 0 then (0) else (if (nI f &&& 48) = 0 then (1) else (0))) fun (z111 : Int32) => some ((z5 &&& z111)))) k) = k x) ∧ (x = 0 ↔ cflA f = false) := by
  have e1 : (nI f &&& (-1586) = 0) = (f &&& 4294965710 = 0) := propext (msk (x := -1586) (m := 4294965710) hf (by decide))
  have e2 : (nI f &&& 512 = 0) = (f &&& 512 = 0) := propext (mskL hf)
  have e3 : (nI f &&& 1040 = 1040) = (f &&& 1040 = 1040) := by
    rw [show (1040 : Int32) = nI 1040 from rfl, nand]
    exact propext (nI_inj (by have : f &&& 1040 < 65536 := and_lt hf; omega) (by decide))
  have e4 : (nI f &&& 1024 = 0) = (f &&& 1024 = 0) := propext (mskL hf)
  have e5 : (nI f &&& 48 = 0) = (f &&& 48 = 0) := propext (mskL hf)
  have a1 : f &&& 1040 = (f &&& 1072) &&& 1040 := by rw [Nat.and_assoc]; rfl
  have a2 : f &&& 1024 = (f &&& 1072) &&& 1024 := by rw [Nat.and_assoc]; rfl
  have a3 : f &&& 48 = (f &&& 1072) &&& 48 := by rw [Nat.and_assoc]; rfl
  have a4 : f &&& 1072 = (f &&& 1072) &&& 1072 := by rw [Nat.and_assoc]; rfl
  have key := cflM ⟨f &&& 1072, Nat.lt_succ_of_le Nat.and_le_right⟩
  dsimp only at key
  rw [← a1, ← a2, ← a3, ← a4] at key
  unfold cflA
  simp only [e1, e2, e3, e4, e5, bnd_s]
  by_cases d1 : f &&& 4294965710 = 0
  · simp only [if_pos d1, decide_eq_true d1, Bool.true_and]
    by_cases d2 : f &&& 512 = 0
    · simp only [if_pos d2, cT_s]
      by_cases d3 : f &&& 1040 = 1040
      · refine ⟨0, fun {_ _} => by rw [if_pos d3], ?_⟩
        simp [d3]
      · refine ⟨1, fun {_ _} => by rw [if_neg d3], ?_⟩
        simp [d3]
    · simp only [if_neg d2, cT_s]
      by_cases d3 : f &&& 1072 = 1024
      · obtain ⟨k1, k2, k3⟩ := key.mpr d3
        refine ⟨1, fun {_ _} => by rw [if_neg k1, if_neg k2, if_pos k3]; rfl, ?_⟩
        simp [d3]
      · refine ⟨0, fun {_ _} => ?_, by simp [d3]⟩
        by_cases k1 : f &&& 1040 = 1040
        · rw [if_pos k1]
          congr 1
          generalize (if f &&& 1024 = 0 then (0 : Int32) else if f &&& 48 = 0 then 1 else 0) = x
          exact Int32.zero_and
        · by_cases k2 : f &&& 1024 = 0
          · rw [if_neg k1, if_pos k2]; rfl
          · by_cases k3 : f &&& 48 = 0
            · exact absurd (key.mp ⟨k1, k2, k3⟩) d3
            · rw [if_neg k1, if_neg k2, if_neg k3]; rfl
  · simp only [if_neg d1, decide_eq_false d1, Bool.false_and]
    refine ⟨0, fun {_ _} => ?_, by simp⟩
    by_cases d2 : f &&& 512 = 0
    · rw [if_pos d2, cT_s]
    · rw [if_neg d2, cT_s]
      congr 1
      generalize (if f &&& 1024 = 0 then (0 : Int32) else if f &&& 48 = 0 then 1 else 0) = x
      exact Int32.zero_and
/-! interfaces -/
def TL (F : Nat → Nat) (c : Nat) (K B : Nat → Nat) (l : List Nat) (u : St) : Prop := ∀ j t, l[j]? = some t → ∃ k, u.2 6 j = nI k ∧ isK c K k 7 = true ∧ n2 F (B k + 1) = t
theorem TL_ko {l : List Nat} {s t : List Nat} {v : St} (h : TL F c K B l u) (hk : ko s t u v) (ht : 6 ∉ t) : TL F c K B l v := fun j x e => by
  rw [hk.2 6 ht]
  exact h j x e
theorem TL_snoc {l : List Nat} {k : Nat} (h : TL F c K B l u) (hk : isK c K k 7 = true) : TL F c K B (l ++ [n2 F (B k + 1)]) (sa u 6 l.length (nI k)) := by
  intro j s hj
  by_cases q : j < l.length
  · rw [List.getElem?_append_left q] at hj
    rw [sa_ne (by omega)]
    exact h j s hj
  · by_cases e : j = l.length
    · subst e
      rw [List.getElem?_append_right (Nat.le_refl _)] at hj
      simp at hj
      exact ⟨k, by rw [sa_a, if_pos rfl, upd, if_pos rfl], hk, hj⟩
    · rw [List.getElem?_eq_none (by simp; omega)] at hj
      cases hj
theorem b_tpL {l : List Nat} {t n : Nat} {x : Int32} (hL : LK F c K B) (hn : n < 20) (hl : n < l.length) (ht : l[n]? = some t) : ∀ (m j g : Nat) (u : St), j + m = n → m < g → RB N r w z u → MW F N c K B u → TL F c K B l u → wp (f_M_head_L378 x (nI n) g u (nI j)) (fun v => RB N r w z v)
  | 0, j, g + 1, u, h1, _, h, hW, hT => by
    rw [f_M_head_L378, if_pos (nI_le (by omega) (by omega))]
    exact wp_some h
  | m + 1, j, g + 1, u, h1, h2, h, hW, hT => by
    have hN := h.1.1
    obtain ⟨k1, e1, q1, e2⟩ := hT j _ (List.getElem?_eq_getElem (show j < l.length by omega))
    obtain ⟨k2, e3, q2, e4⟩ := hT n _ ht
    rw [f_M_head_L378, if_neg (nI_ge (by omega) (by omega)), gd_in (by omega) (by decide), ncl (by omega), e1, textOf_m hW hN q1, cI_s, gd_in (by omega) (by decide), ncl (by omega), e3, textOf_m hW hN q2, cI_s, same_eq (hW.tx hN (hL.2.1 _ q1)) (hW.tx hN (hL.2.1 _ q2)), cI_s, bnd_s, must_b h, cI_s, nI_1]
    exact b_tpL hL hn hl ht m (j + 1) g u (by omega) (by omega) h hW hT
theorem tpL_eq {l : List Nat} {t n w : Nat} (hL : LK F c K B) (hn : n < 20) (hO : RO N i z u) (hW : MW F N c K B u) (hl : l.length = n) (hT : TL F c K B (l ++ [t]) u) : ∀ (m j g : Nat), j + m = n → m < g → wp (f_M_head_L378 (nI w) (nI n) g u (nI j)) (fun v => if (l.drop j).any (fun s => smT F B s t) = true then RB N 16 w z v else v = u)
  | 0, j, g + 1, h1, _ => by
    rw [f_M_head_L378, if_pos (nI_le (by omega) (by omega)), List.drop_eq_nil_of_le (by omega)]
    exact wp_some rfl
  | m + 1, j, g + 1, h1, h2 => by
    have hN := hO.1.1
    have hj : j < l.length := by omega
    have ht : (l ++ [t])[n]? = some t := by
      rw [List.getElem?_append_right (by omega), show n - l.length = 0 by omega]
      rfl
    obtain ⟨k1, e1, q1, e2⟩ := hT j l[j] (by rw [List.getElem?_append_left hj]; exact List.getElem?_eq_getElem hj)
    obtain ⟨k2, e3, q2, e4⟩ := hT n _ ht
    rw [f_M_head_L378, if_neg (nI_ge (by omega) (by omega)), gd_in (by omega) (by decide), ncl (by omega), e1, textOf_m hW hN q1, cI_s, gd_in (by omega) (by decide), ncl (by omega), e3, textOf_m hW hN q2, cI_s, same_eq (hW.tx hN (hL.2.1 _ q1)) (hW.tx hN (hL.2.1 _ q2)), cI_s, bnd_s, nI_1, e2, e4, List.drop_eq_getElem_cons hj, List.any_cons]
    cases hs : smT F B l[j] t with
    | true =>
      rw [if_pos (show true = true from rfl), if_neg (show ¬ (1 : Int32) = 0 by decide), must_fl 16 (r := 16) rfl hO (by decide) (by decide), cI_s]
      have kb : ko [3, 4] [] u (rbk u 16 w) := rbk_ko (by decide) (by decide)
      refine wp_mono (b_tpL hL hn (by simp; omega) ht m (j + 1) g _ (by omega) (by omega) (RO_B hO (by decide) (by decide)) (MW_ko hW kb (by decide) (by decide)) (TL_ko hT kb (by decide))) fun v hv => ?_
      simp only [Bool.true_or, if_true]
      exact hv
    | false =>
      rw [if_neg (show ¬ (false = true) by decide), if_pos (show (0 : Int32) = 0 from rfl), must_t hO (by decide), cI_s]
      simp only [Bool.false_or]
      exact tpL_eq hL hn hO hW hl hT m (j + 1) g (by omega) (by omega)
theorem facM {ni : Nat} (hL : LK F c K B) (hni : ni ≤ 20) : ∀ (m : Nat) (l : List Nat) (g i : Nat) (u : St), l.length + m = ni → m < g → RO N i z u → MW F N c K B u → u.1 9 = nI ni → TL F c K B l u → wp (f_M_head_L304 (fun u97 => some u97) g u (nI l.length)) (RQ N z (sFac F N c K B m l i) (fun _ v => ko [2] [6] u v))
  | 0, l, g + 1, i, u, h1, _, hO, hW, h9, hT => by
    rw [f_M_head_L304, h9, if_pos (nI_le (by omega) (by omega))]
    exact wp_some ⟨hO, ko_rf⟩
  | m + 1, l, g + 1, i, u, h1, h2, hO, hW, h9, hT => by
    have hN := hO.1.1
    rw [f_M_head_L304, h9, if_neg (nI_ge (by omega) (by omega)), ok_o hO, cI_s, if_neg (by decide), nI_1, hO.1.2.2.2.2.1]
    have e0 : sFac F N c K B (m + 1) l = pb pa fun w => pb (sNum F N c K 7) fun k => pb (pn (!hdT F B 91 (n2 F (B k + 1))) 9 w) fun _ => pb (pn (!l.any (fun s => smT F B s (n2 F (B k + 1)))) 16 w) fun _ => sFac F N c K B m (l ++ [n2 F (B k + 1)]) := by
      rw [sFac]
      unfold sCls
      funext i
      simp only [pb_as, pb_pp]
      rfl
    rw [e0]
    refine mq_pa ?_
    refine mq_num hO hW rfl (by decide) (fun k hk hi => ?_) (fun r w x u h => ?_)
    · have hO1 : RO N (i + 2) z (sa (sv u 2 (nI (i + 2))) 6 l.length (nI k)) := RO_ko (s := []) (t := [6]) (RO_at hO hi) (ko_sa (by decide)) (by decide) (by decide)
      have k1 : ko [2] [6] u (sa (sv u 2 (nI (i + 2))) 6 l.length (nI k)) := ko_tr (ko_sv (by decide)) (ko_sa (by decide))
      have hT1 : TL F c K B (l ++ [n2 F (B k + 1)]) (sa (sv u 2 (nI (i + 2))) 6 l.length (nI k)) := TL_snoc (u := sv u 2 (nI (i + 2))) hT hk
      have e6 : (sa (sv u 2 (nI (i + 2))) 6 l.length (nI k)).2 6 l.length = nI k := by rw [sa_a, if_pos rfl, upd, if_pos rfl]
      rw [gd_in (by omega) (by decide), ncl (by omega)]
      refine wp_bnd ?_
      generalize sa (sv u 2 (nI (i + 2))) 6 l.length (nI k) = v at hO1 k1 hT1 e6 ⊢
      have hW1 := MW_ko hW k1 (by decide) (by decide)
      rw [ok_o hO1, cI_s, if_neg (by decide), gd_in (by omega) (by decide), e6, array_m hW1 hL hN hk, cI_s]
      refine wp_bnd ?_
      refine mq_must hO1 rfl rfl (by decide) (i10n rfl) (fun _ => ?_) (fun u h => ?_)
      · rw [if_neg (by decide)]
        refine wp_cT (wp_mono (tpL_eq (w := i) hL (by omega) hO1 hW1 rfl hT1 l.length 0 FU (by omega) (by unfold FU; omega)) fun v' hv => ?_)
        rw [List.drop_zero] at hv
        cases hs : l.any (fun s => smT F B s (n2 F (B k + 1))) with
        | true =>
          rw [hs, if_pos rfl] at hv
          rw [pb_x (pn_x (by rfl))]
          cases g with
          | zero => omega
          | succ g =>
            rw [f_M_head_L304]
            refine wp_ite (fun _ => wp_some hv) (fun _ => ?_)
            rw [ok_b hv, cI_s, if_pos rfl]
            exact wp_some hv
        | false =>
          rw [hs, if_neg (by decide)] at hv
          subst hv
          rw [pb_s (pn_s (by rfl))]
          have ih := facM hL hni m (l ++ [n2 F (B k + 1)]) g (i + 2) v' (by simp; omega) (by omega) hO1 hW1 ((k1.1 9 (by decide)).trans h9) hT1
          rw [List.length_append] at ih
          exact wp_mono ih fun x hx => MP_mono hx fun _ q => ko_tr k1 q
      · rw [if_pos rfl]
        exact wp_some h
    · rw [gd_in (by omega) (by decide)]
      refine wp_bnd ?_
      have h' := RB_sa (k := 6) (j := (nI l.length).toNatClampNeg) (x := x) (by decide) h
      rw [ok_b h', cI_s, if_pos rfl]
      exact wp_some h'
def sHd (F : Nat → Nat) (N c : Nat) (K B : Nat → Nat) : P (Nat × Nat) := pb (sClsA F N c K B) fun cf => pb (sCnt F N 20) fun ni => pb (sFac F N c K B ni []) fun _ => pp (cf, ni)
theorem head_m (hO : RO N i z u) (hW : MW F N c K B u) (hL : LK F c K B) : wp (f_M_head u) (RQ N z (sHd F N c K B i) (fun q v => ko [2, 7, 8, 9] [6] u v ∧ v.1 7 = nI q.1 ∧ q.1 < 65536 ∧ v.1 9 = nI q.2)) := by
  have hN := hO.1.1
  have es : sHd F N c K B = pb pa fun w => pb (pu F N 2) fun f => pb (pn (cflA f) 13 w) fun _ => pb pa fun w1 => pb (sNum F N c K 7) fun s => pb (pn (!hdT F B 91 (n2 F (B s + 1))) 9 w1) fun _ => pb pa fun w2 => pb (sNum F N c K 7) fun a => pb (pn (!hdT F B 91 (n2 F (B a + 1))) 9 w2) fun _ => pb (pn (!smT F B (n2 F (B s + 1)) (n2 F (B a + 1))) 14 w2) fun _ => pb (pn (decide (f &&& 512 = 0) || wT F B 2 (n2 F (B a + 1))) 14 w2) fun _ => pb pa fun w3 => pb (pu F N 2) fun ni => pb (pn (decide (ni ≤ 20)) 15 w3) fun _ => pb (sFac F N c K B ni []) fun _ => pp (f, ni) := by
    unfold sHd sClsA sCls sCnt
    funext i
    simp only [pb_as, pb_pp]
    rfl
  rw [es]
  unfold f_M_head
  rw [hO.1.2.2.2.2.1]
  refine mq_pa ?_
  refine mq_u2 hO hW.1 (fun hi => ?_) (fun x u h => ?_)
  · have hf := hW.n2 i
    have hf' : be F i 2 < 65536 := hf
    refine wp_bnd ?_
    have hO1 : RO N (i + 2) z (sv (sv u 2 (nI (i + 2))) 7 (nI (be F i 2))) := RO_ko (s := [7]) (t := []) (RO_at hO hi) (ko_sv (by decide)) (by decide) (by decide)
    have k1 : ko [2, 7] [] u (sv (sv u 2 (nI (i + 2))) 7 (nI (be F i 2))) := ko_tr (ko_sv (by decide)) (ko_sv (by decide))
    have e7 : (sv (sv u 2 (nI (i + 2))) 7 (nI (be F i 2))).1 7 = nI (be F i 2) := rfl
    clear hf
    generalize be F i 2 = fl at hf' hO1 k1 e7 ⊢
    generalize sv (sv u 2 (nI (i + 2))) 7 (nI fl) = v1 at hO1 k1 e7 ⊢
    have hW1 := MW_ko hW k1 (by decide) (by decide)
    obtain ⟨x, hx1, hx2⟩ := cfl_m hf'
    rw [e7, hx1]
    refine mq_must hO1 rfl rfl (by decide) hx2 (fun _ => ?_) (fun u h => ?_)
    · rw [if_neg (by decide)]
      refine mq_pa ?_
      rw [hO1.1.2.2.2.2.1]
      refine mq_num hO1 hW1 rfl (by decide) (fun s hs hi2 => ?_) (fun r w x u h => ?_)
      · have hO2 : RO N (i + 2 + 2) z (sv (sv v1 2 (nI (i + 2 + 2))) 8 (nI s)) := RO_ko (s := [8]) (t := []) (RO_at hO1 hi2) (ko_sv (by decide)) (by decide) (by decide)
        have k2 : ko [2, 8] [] v1 (sv (sv v1 2 (nI (i + 2 + 2))) 8 (nI s)) := ko_tr (ko_sv (by decide)) (ko_sv (by decide))
        have e8 : (sv (sv v1 2 (nI (i + 2 + 2))) 8 (nI s)).1 8 = nI s := rfl
        refine wp_bnd ?_
        generalize sv (sv v1 2 (nI (i + 2 + 2))) 8 (nI s) = v2 at hO2 k2 e8 ⊢
        have hW2 := MW_ko hW1 k2 (by decide) (by decide)
        rw [ok_o hO2, cI_s, if_neg (by decide), e8, array_m hW2 hL hN hs, cI_s]
        refine wp_bnd ?_
        refine mq_must hO2 rfl rfl (by decide) (i10n rfl) (fun _ => ?_) (fun u h => ?_)
        · rw [if_neg (by decide)]
          refine mq_pa ?_
          rw [hO2.1.2.2.2.2.1]
          refine mq_num hO2 hW2 rfl (by decide) (fun a ha hi3 => ?_) (fun r w x u h => ?_)
          · have hO3 := RO_at (j := i + 2 + 2 + 2) hO2 hi3
            have k3 : ko [2] [] v2 (sv v2 2 (nI (i + 2 + 2 + 2))) := ko_sv (by decide)
            have e83 : (sv v2 2 (nI (i + 2 + 2 + 2))).1 8 = nI s := e8
            have e73 : (sv v2 2 (nI (i + 2 + 2 + 2))).1 7 = nI fl := (k2.1 7 (by decide)).trans e7
            generalize sv v2 2 (nI (i + 2 + 2 + 2)) = v3 at hO3 k3 e83 e73 ⊢
            have hW3 := MW_ko hW2 k3 (by decide) (by decide)
            have hTs := hW3.tx hN (hL.2.1 _ hs)
            have hTa := hW3.tx hN (hL.2.1 _ ha)
            rw [ok_o hO3, cI_s, if_neg (by decide), array_m hW3 hL hN ha, cI_s]
            refine wp_bnd ?_
            refine mq_must hO3 rfl rfl (by decide) (i10n rfl) (fun _ => ?_) (fun u h => ?_)
            · rw [if_neg (by decide), e83, textOf_m hW3 hN hs, cI_s, textOf_m hW3 hN ha, cI_s, same_eq hTs hTa, cI_s]
              refine wp_bnd ?_
              have kU : ko [2, 7, 8, 9] [6] u v3 := ko_tr (ko_mono k1 (fun k h => by simp at h ⊢; omega) (fun _ h => by cases h)) (ko_tr (ko_mono k2 (fun k h => by simp at h ⊢; omega) (fun _ h => by cases h)) (ko_mono k3 (fun k h => by simp at h ⊢; omega) (fun _ h => by cases h)))
              have ebad : ∀ {r w : Nat} {x0 : Int32} {v : St}, RB N r w z v → wp (cI (f_M_must v x0 14 (nI (i + 2 + 2))) fun r54 u52 => cI (f_M_u2 u52) fun r57 u55 => bnd (sv u55 9 r57) fun u58 => bnd (if 20 < (u58.1 9) then (0) else (1)) fun (z59 : Int32) => cI (f_M_must u58 z59 15 (u52.1 2)) fun r62 u60 => f_M_head_L304 (fun u97 => some u97) FU u60 0) (fun v => RB N r w z v) := fun h => by
                rw [must_b h, cI_s, u2_b h, cI_s]
                refine wp_bnd (wp_bnd ?_)
                have h' := RB_sv (k := 9) (x := 0) (by decide) h
                rw [must_b h', cI_s, show FU = 69999 + 1 from rfl, f_M_head_L304]
                refine wp_ite (fun _ => wp_some h') (fun _ => ?_)
                rw [ok_b h', cI_s, if_pos rfl]
                exact wp_some h'
              refine mq_mustK hO3 rfl rfl (by decide) (i10n rfl) (fun _ => ?_) (fun v h kv => ?_)
              · rw [e73, textOf_m hW3 hN ha, cI_s, is_l 16 hTa (n := 16) rfl (j := 2) (by decide) (by decide) w_2, cI_s]
                have e5 : (nI fl &&& 512 = 0) = (fl &&& 512 = 0) := propext (mskL hf')
                have ec : (if nI fl &&& 512 = 0 then some ((1 : Int32), v3) else if (if wT F B 2 (n2 F (B a + 1)) = true then (1 : Int32) else 0) = 0 then some (0, v3) else some (1, v3)) = some (if (decide (fl &&& 512 = 0) || wT F B 2 (n2 F (B a + 1))) = true then 1 else 0, v3) := by
                  simp only [e5]
                  by_cases d : fl &&& 512 = 0
                  · rw [if_pos d, decide_eq_true d]; rfl
                  · rw [if_neg d, decide_eq_false d, Bool.false_or]
                    cases wT F B 2 (n2 F (B a + 1)) <;> rfl
                rw [ec, cT_s]
                dsimp only
                refine mq_must hO3 rfl rfl (by decide) b10 (fun _ => ?_) (fun u h => ?_)
                · refine mq_pa ?_
                  refine mq_u2 hO3 hW3.1 (fun hi4 => ?_) (fun x u h => ?_)
                  · have hn' : be F (i + 2 + 2 + 2) 2 < 65536 := hW.n2 _
                    refine wp_bnd (wp_bnd ?_)
                    have hO4 : RO N (i + 2 + 2 + 2 + 2) z (sv (sv v3 2 (nI (i + 2 + 2 + 2 + 2))) 9 (nI (be F (i + 2 + 2 + 2) 2))) := RO_ko (s := [9]) (t := []) (RO_at hO3 hi4) (ko_sv (by decide)) (by decide) (by decide)
                    have k4 : ko [2, 9] [] v3 (sv (sv v3 2 (nI (i + 2 + 2 + 2 + 2))) 9 (nI (be F (i + 2 + 2 + 2) 2))) := ko_tr (ko_sv (by decide)) (ko_sv (by decide))
                    have e9 : (sv (sv v3 2 (nI (i + 2 + 2 + 2 + 2))) 9 (nI (be F (i + 2 + 2 + 2) 2))).1 9 = nI (be F (i + 2 + 2 + 2) 2) := rfl
                    generalize be F (i + 2 + 2 + 2) 2 = ni at hn' hO4 k4 e9 ⊢
                    generalize sv (sv v3 2 (nI (i + 2 + 2 + 2 + 2))) 9 (nI ni) = v4 at hO4 k4 e9 ⊢
                    have hW4 := MW_ko hW3 k4 (by decide) (by decide)
                    rw [e9, hO3.1.2.2.2.2.1]
                    refine mq_must hO4 rfl rfl (by decide) (i01 (i01lt (a := 20) (by decide) (by omega))) (fun hni => ?_) (fun u h => ?_)
                    · rw [decide_eq_true_eq] at hni
                      have fe := facM (z := z) hL hni ni [] FU (i + 2 + 2 + 2 + 2) v4 (by simp) (by unfold FU; omega) hO4 hW4 e9 (fun j t h => by cases h)
                      have fe' : wp (f_M_head_L304 (fun u97 => some u97) FU v4 0) _ := fe
                      refine wp_mono fe' fun v5 h5 => ?_
                      cases hr : sFac F N c K B ni [] (i + 2 + 2 + 2 + 2) with
                      | error e =>
                        rw [hr] at h5
                        rw [pb_x hr]
                        exact h5
                      | ok q =>
                        obtain ⟨q1, j5⟩ := q
                        rw [hr] at h5
                        rw [pb_s hr]
                        obtain ⟨h51, h52⟩ : RO N j5 z v5 ∧ ko [2] [6] v4 v5 := h5
                        refine ⟨h51, ?_, ?_, hf', ?_⟩
                        · exact ko_tr kU (ko_tr (ko_mono k4 (fun k h => by simp at h ⊢; omega) (fun _ h => by cases h)) (ko_mono h52 (fun k h => by simp at h ⊢; omega) (fun _ h => h)))
                        · rw [h52.1 7 (by decide), k4.1 7 (by decide)]; exact e73
                        · rw [h52.1 9 (by decide)]; exact e9
                    · rw [show FU = 69999 + 1 from rfl, f_M_head_L304]
                      refine wp_ite (fun _ => wp_some h) (fun _ => ?_)
                      rw [ok_b h, cI_s, if_pos rfl]
                      exact wp_some h
                  · refine wp_bnd (wp_bnd ?_)
                    have h' := RB_sv (k := 9) (x := x) (by decide) h
                    rw [must_b h', cI_s, show FU = 69999 + 1 from rfl, f_M_head_L304]
                    refine wp_ite (fun _ => wp_some h') (fun _ => ?_)
                    rw [ok_b h', cI_s, if_pos rfl]
                    exact wp_some h'
                · rw [u2_b h, cI_s]
                  refine wp_bnd (wp_bnd ?_)
                  have h' := RB_sv (k := 9) (x := 0) (by decide) h
                  rw [must_b h', cI_s, show FU = 69999 + 1 from rfl, f_M_head_L304]
                  refine wp_ite (fun _ => wp_some h') (fun _ => ?_)
                  rw [ok_b h', cI_s, if_pos rfl]
                  exact wp_some h'
              · have hW5 := MW_ko hW3 kv (by decide) (by decide)
                rw [textOf_m hW5 hN ha, cI_s, is_l 16 (hW5.tx hN (hL.2.1 _ ha)) (n := 16) rfl (j := 2) (by decide) (by decide) w_2, cI_s]
                refine wp_cT (wp_ite (fun _ => wp_some (ebad h)) (fun _ => wp_ite (fun _ => wp_some (ebad h)) (fun _ => wp_some (ebad h))))
            · rw [if_pos rfl]
              exact wp_some h
          · rw [ok_b h, cI_s, if_pos rfl]
            exact wp_some h
        · rw [if_pos rfl]
          exact wp_some h
      · refine wp_bnd ?_
        have h' := RB_sv (k := 8) (x := x) (by decide) h
        rw [ok_b h', cI_s, if_pos rfl]
        exact wp_some h'
    · rw [if_pos rfl]
      exact wp_some h
  · refine wp_bnd (wp_bnd (wp_cT ?_))
    have h' := RB_sv (k := 7) (x := x) (by decide) h
    refine wp_ite (fun _ => wp_some ?_) (fun _ => wp_bnd (wp_some ?_))
    · rw [must_b h', cI_s, if_pos rfl]
      exact wp_some h'
    · rw [must_b h', cI_s, if_pos rfl]
      exact wp_some h'
end MTO

/-! THE REFERENCE: fields -/
theorem cT_cV {β : Type} {o : Option St} {k : St → Option β} : cT (cV o fun v => some v) k = cV o k := by cases o <;> rfl
section MFL
variable {F : Nat → Nat} {N c i r w ver cf : Nat} {K B : Nat → Nat} {z u : St}
def NM (l : List (Nat × Nat)) (u : St) : Prop := ∀ j q, l[j]? = some q → u.2 4 j = nI q.1 ∧ u.2 5 j = nI q.2
theorem NM_ko {l : List (Nat × Nat)} {s t : List Nat} {v : St} (h : NM l u) (hk : ko s t u v) (ht : 4 ∉ t ∧ 5 ∉ t) : NM l v := fun j q e => by
  rw [hk.2 4 ht.1, hk.2 5 ht.2]
  exact h j q e
theorem NM_snoc {q : Nat × Nat} {l : List (Nat × Nat)} {v : St} (h : NM l u) (h4 : ∀ j, j ≠ l.length → v.2 4 j = u.2 4 j) (h5 : ∀ j, j ≠ l.length → v.2 5 j = u.2 5 j) (e4 : v.2 4 l.length = nI q.1) (e5 : v.2 5 l.length = nI q.2) : NM (l ++ [q]) v := by
  intro j s hj
  by_cases e : j < l.length
  · rw [List.getElem?_append_left e] at hj
    rw [h4 j (by omega), h5 j (by omega)]
    exact h j s hj
  · by_cases e : j = l.length
    · subst e
      rw [List.getElem?_append_right (Nat.le_refl _)] at hj
      simp at hj
      subst hj
      exact ⟨e4, e5⟩
    · rw [List.getElem?_eq_none (by simp; omega)] at hj
      cases hj
theorem b_dpF {l : List (Nat × Nat)} {n : Nat} {x3 x4 : Int32} (hn : n < 60) (hl : n < l.length) : ∀ (m j g : Nat) (u : St), j + m = n → m < g → RB N r w z u → MW F N c K B u → NM l u → MK c K l → wp (f_M_fields_L231 (nI n) x3 x4 g u (nI j)) (fun v => RB N r w z v)
  | 0, j, g + 1, u, h1, _, h, hW, hT, hK => by
    rw [f_M_fields_L231, if_pos (nI_le (by omega) (by omega))]
    exact wp_some h
  | m + 1, j, g + 1, u, h1, h2, h, hW, hT, hK => by
    have hN := h.1.1
    obtain ⟨e1, e2⟩ := hT j _ (List.getElem?_eq_getElem (show j < l.length by omega))
    obtain ⟨e3, e4⟩ := hT n _ (List.getElem?_eq_getElem hl)
    obtain ⟨q1, q2⟩ := hK _ (List.getElem_mem (show j < l.length by omega))
    obtain ⟨q3, q4⟩ := hK _ (List.getElem_mem hl)
    rw [f_M_fields_L231, if_neg (nI_ge (by omega) (by omega)), gd_in (by omega) (by decide), gd_in (by omega) (by decide), ncl (by omega), ncl (by omega), e1, e3, same_eq (hW.tx hN q1) (hW.tx hN q3), cI_s, gd_in (by omega) (by decide), gd_in (by omega) (by decide), e2, e4, same_eq (hW.tx hN q2) (hW.tx hN q4), cI_s, nI_1]
    have fin : ∀ x : Int32, wp (cI (f_M_must u x 16 x3) fun r57 u55 => f_M_fields_L231 (nI n) x3 x4 g u55 (nI (j + 1))) (fun v => RB N r w z v) := fun x => by
      rw [must_b h, cI_s]
      exact b_dpF hn hl m (j + 1) g u (by omega) (by omega) h hW hT hK
    refine wp_cT (wp_ite (fun _ => wp_some (fin _)) (fun _ => wp_ite (fun _ => wp_some (fin _)) (fun _ => wp_some (fin _))))
theorem dpF {l : List (Nat × Nat)} {nm ty n w : Nat} {x4 : Int32} (hn : n < 60) (hl : l.length = n) (hO : RO N i z u) (hW : MW F N c K B u) (hT : NM (l ++ [(nm, ty)]) u) (hK : MK c K (l ++ [(nm, ty)])) : ∀ (m j g : Nat), j + m = n → m < g → wp (f_M_fields_L231 (nI n) (nI w) x4 g u (nI j)) (fun v => if dupM F B (l.drop j) nm ty = true then RB N 16 w z v else v = u)
  | 0, j, g + 1, h1, _ => by
    rw [f_M_fields_L231, if_pos (nI_le (by omega) (by omega)), List.drop_eq_nil_of_le (by omega)]
    exact wp_some rfl
  | m + 1, j, g + 1, h1, h2 => by
    have hN := hO.1.1
    have hj : j < l.length := by omega
    have ht : (l ++ [(nm, ty)])[n]? = some (nm, ty) := by
      rw [List.getElem?_append_right (by omega), show n - l.length = 0 by omega]
      rfl
    have hjl : (l ++ [(nm, ty)])[j]? = some l[j] := by rw [List.getElem?_append_left hj]; exact List.getElem?_eq_getElem hj
    obtain ⟨e1, e2⟩ := hT j _ hjl
    obtain ⟨e3, e4⟩ := hT n _ ht
    obtain ⟨q1, q2⟩ := hK _ (List.mem_of_getElem? hjl)
    obtain ⟨q3, q4⟩ := hK _ (List.mem_of_getElem? ht)
    have ds : dupM F B (l.drop j) nm ty = ((smT F B l[j].1 nm && smT F B l[j].2 ty) || dupM F B (l.drop (j + 1)) nm ty) := by
      unfold dupM
      rw [List.drop_eq_getElem_cons hj, List.any_cons]
    dsimp only at e3 e4 q3 q4
    rw [ds, f_M_fields_L231, if_neg (nI_ge (by omega) (by omega)), gd_in (by omega) (by decide), gd_in (by omega) (by decide), ncl (by omega), ncl (by omega), e1, e3, same_eq (hW.tx hN q1) (hW.tx hN q3), cI_s, gd_in (by omega) (by decide), gd_in (by omega) (by decide), e2, e4, same_eq (hW.tx hN q2) (hW.tx hN q4), cI_s, nI_1]
    have ec : (if (if smT F B l[j].1 nm = true then (1 : Int32) else 0) = 0 then some ((1 : Int32), u) else (if (if smT F B l[j].2 ty = true then (1 : Int32) else 0) = 0 then some (1, u) else some (0, u))) = some (if (smT F B l[j].1 nm && smT F B l[j].2 ty) = true then 0 else 1, u) := by
      cases smT F B l[j].1 nm <;> cases smT F B l[j].2 ty <;> rfl
    rw [ec, cT_s]
    dsimp only
    cases hs : (smT F B l[j].1 nm && smT F B l[j].2 ty) with
    | true =>
      rw [if_pos (show true = true from rfl), must_fl 16 (r := 16) rfl hO (by decide) (by decide), cI_s]
      have kb : ko [3, 4] [] u (rbk u 16 w) := rbk_ko (by decide) (by decide)
      refine wp_mono (b_dpF (l := l ++ [(nm, ty)]) hn (by simp; omega) m (j + 1) g _ (by omega) (by omega) (RO_B hO (by decide) (by decide)) (MW_ko hW kb (by decide) (by decide)) (NM_ko hT kb (by decide)) hK) fun v hv => ?_
      simp only [Bool.true_or, if_true]
      exact hv
    | false =>
      rw [if_neg (show ¬ (false = true) by decide), must_t hO (by decide), cI_s]
      simp only [Bool.false_or]
      exact dpF hn hl hO hW hT hK m (j + 1) g (by omega) (by omega)
theorem one_m {f : Nat} : f_M_oneOf u (nI f) = some (if one7 f then 1 else 0, u) := by
  have key : ∀ m : Fin 8, (if (nI m.val &&& (nI m.val - 1)) = 0 then (1 : Int32) else 0) = if (decide (m.val = 0) || decide (m.val = 1) || decide (m.val = 2) || decide (m.val = 4)) = true then 1 else 0 := by decide +kernel
  have h : f &&& 7 < 2 ^ 3 := Nat.and_lt_two_pow f (by decide)
  have e : nI f &&& 7 = nI (f &&& 7) := nand f 7
  unfold f_M_oneOf
  rw [e, bnd_s, key ⟨f &&& 7, h⟩]
  exact gbB
theorem ffl_m {f : Nat} (hf : f < 65536) (hcf : cf < 65536) (h7 : u.1 7 = nI cf) : (if (nI f &&& (-160)) = 0 then (cI (f_M_oneOf u (nI f)) fun r76 u74 => if r76 = 0 then (some ((0 : Int32), u74)) else (if ((u74.1 7) &&& 512) = 0 then (some (1, u74)) else (if nI f = 25 then (some (1, u74)) else (some (0, u74))))) else (some (0, u))) = some (if ffl cf f then 1 else 0, u) := by
  rw [one_m, cI_s, h7]
  have e1 : (nI f &&& (-160) = 0) = (f &&& 4294967136 = 0) := propext (msk (x := -160) (m := 4294967136) hf (by decide))
  have e2 : (nI cf &&& 512 = 0) = (cf &&& 512 = 0) := propext (mskL hcf)
  have e3 : (nI f = 25) = (f = 25) := neq (b := 25) (by omega) (by decide)
  simp only [e1, e2, e3]
  unfold ffl
  by_cases a : f = 25
  · subst a
    by_cases b : cf &&& 512 = 0
    · rw [if_pos b, if_pos b]; rfl
    · rw [if_neg b, if_neg b]; rfl
  · rw [if_neg a, decide_eq_false a]
    by_cases b : f &&& 4294967136 = 0
    · rw [if_pos b, decide_eq_true b, Bool.true_and]
      by_cases d : cf &&& 512 = 0
      · rw [if_pos d, if_pos d]
        cases one7 f <;> rfl
      · rw [if_neg d, if_neg d]
        cases one7 f <;> rfl
    · rw [if_neg b, decide_eq_false b, Bool.false_and]
      split <;> rfl
theorem fd_ds {t : Nat} (h : (fdT F B t).isSome = true) : dsT F B t = fdT F B t := by
  rcases tf_case F B t with ⟨_, a, _⟩ | ⟨r, _, a1, a2, _⟩ | ⟨fl, sl, vd, a0, _, a1, a2, a3, _⟩
  · rw [a] at h; cases h
  · rw [a1, a2]
  · exfalso
    first
    | (rw [a2] at h; cases h)
    | (rw [a3] at h; cases h)
    | (rw [a1] at h; cases h)
theorem fldM {nf : Nat} (hnf : nf ≤ 60) (hcf : cf < 65536) (hver : ver < 65536) (hM : ML2 F c K B) : ∀ (m : Nat) (l : List (Nat × Nat)) (g i : Nat) (u : St), l.length + m = nf → m < g → RO N i z u → MW F N c K B u → u.1 7 = nI cf → u.1 5 = nI ver → u.1 10 = nI nf → NM l u → MK c K l → wp (f_M_fields_L37 (fun u78 => some u78) g u (nI l.length)) (RQ N z (sFlds F N c K B cf ver m l i) (fun _ v => ko [2, 18] [4, 5] u v))
  | 0, l, g + 1, i, u, h1, _, hO, hW, h7, hv5, h10, hl, hk => by
    rw [f_M_fields_L37, h10, if_pos (nI_le (by omega) (by omega))]
    exact wp_some ⟨hO, ko_rf⟩
  | m + 1, l, g + 1, i, u, h1, h2, hO, hW, h7, hv5, h10, hl, hk => by
    have hN := hO.1.1
    have es : sFlds F N c K B cf ver (m + 1) l = pb pa fun w => pb (pu F N 2) fun f => pb (pn (ffl cf f) 13 w) fun _ => pb pa fun w2 => pb (sNum F N c K 1) fun nm => pb (pn (plT F B nm) 9 w2) fun _ => pb pa fun w3 => pb (sNum F N c K 1) fun ty => pb (pn (fdT F B ty).isSome 11 w3) fun _ => pb (pn (dsT F B ty != some true) 12 w3) fun _ => pb (pn (!dupM F B l nm ty) 16 w) fun _ => pb (sAtts F N c K B (if f &&& 8 = 0 then 0 else 1) ver f ty) fun _ => sFlds F N c K B cf ver m (l ++ [(nm, ty)]) := by
      rw [sFlds]
      unfold sFld
      simp only [pb_as, pb_pp]
    have dead : ∀ {r w : Nat} {v : St} {x : Int32}, RB N r w z v → wp (f_M_fields_L37 (fun u78 => some u78) g v x) (fun v => RB N r w z v) := fun h => by
      cases g with
      | zero => omega
      | succ g =>
        rw [f_M_fields_L37]
        refine wp_ite (fun _ => wp_some h) (fun _ => ?_)
        rw [ok_b h, cI_s, if_pos rfl]
        exact wp_some h
    rw [f_M_fields_L37, h10, if_neg (nI_ge (by omega) (by omega)), ok_o hO, cI_s, if_neg (by decide), nI_1, es, hO.1.2.2.2.2.1]
    refine mq_pa ?_
    refine mq_u2 hO hW.1 (fun hi => ?_) (fun x v h => ?_)
    · have hf : be F i 2 < 65536 := hW.n2 i
      have hO1 := RO_at (j := i + 2) hO hi
      have k1 : ko [2] [] u (sv u 2 (nI (i + 2))) := ko_sv (by decide)
      generalize sv u 2 (nI (i + 2)) = v1 at hO1 k1 ⊢
      generalize be F i 2 = f at hf ⊢
      have hW1 := MW_ko hW k1 (by decide) (by decide)
      rw [ffl_m hf hcf ((k1.1 7 (by decide)).trans h7), cT_s]
      dsimp only
      refine mq_must hO1 rfl rfl (by decide) b10 (fun _ => ?_) (fun v h => ?_)
      · rw [if_neg (by decide), hO1.1.2.2.2.2.1]
        refine mq_pa ?_
        refine mq_num hO1 hW1 rfl (by decide) (fun nm hnm hi2 => ?_) (fun r w x v h => ?_)
        · rw [gd_in (by omega) (by decide), ncl (by omega)]
          refine wp_bnd ?_
          have hO2 : RO N (i + 2 + 2) z (sa (sv v1 2 (nI (i + 2 + 2))) 4 l.length (nI nm)) := RO_ko (s := []) (t := [4]) (RO_at hO1 hi2) (ko_sa (by decide)) (by decide) (by decide)
          have k2 : ko [2] [4] u (sa (sv v1 2 (nI (i + 2 + 2))) 4 l.length (nI nm)) := ko_tr (ko_mono k1 (fun _ h => h) (fun _ h => by cases h)) (ko_tr (ko_sv (by decide)) (ko_sa (by decide)))
          have e4 : (sa (sv v1 2 (nI (i + 2 + 2))) 4 l.length (nI nm)).2 4 l.length = nI nm := by rw [sa_a, if_pos rfl, upd, if_pos rfl]
          have o4 : ∀ j, j ≠ l.length → (sa (sv v1 2 (nI (i + 2 + 2))) 4 l.length (nI nm)).2 4 j = u.2 4 j := fun j hj => by rw [sa_ne hj, sv_a, k1.2 4 (by decide)]
          generalize sa (sv v1 2 (nI (i + 2 + 2))) 4 l.length (nI nm) = v2 at hO2 k2 e4 o4 ⊢
          have hW2 := MW_ko hW k2 (by decide) (by decide)
          rw [ok_o hO2, cI_s, if_neg (by decide), gd_in (by omega) (by decide), e4, plain_eq (hW2.tx hN hnm), cI_s]
          refine mq_must hO2 rfl rfl (by decide) b10 (fun _ => ?_) (fun v h => ?_)
          · rw [if_neg (by decide), hO2.1.2.2.2.2.1]
            refine mq_pa ?_
            refine mq_num hO2 hW2 rfl (by decide) (fun ty hty hi3 => ?_) (fun r w x v h => ?_)
            · rw [gd_in (by omega) (by decide)]
              refine wp_bnd ?_
              have hO3 : RO N (i + 2 + 2 + 2) z (sa (sv v2 2 (nI (i + 2 + 2 + 2))) 5 l.length (nI ty)) := RO_ko (s := []) (t := [5]) (RO_at hO2 hi3) (ko_sa (by decide)) (by decide) (by decide)
              have k3 : ko [2] [4, 5] u (sa (sv v2 2 (nI (i + 2 + 2 + 2))) 5 l.length (nI ty)) := ko_tr (ko_mono k2 (fun _ h => h) (fun k h => by simp at h ⊢; omega)) (ko_tr (ko_sv (by decide)) (ko_sa (by decide)))
              have e5 : (sa (sv v2 2 (nI (i + 2 + 2 + 2))) 5 l.length (nI ty)).2 5 l.length = nI ty := by rw [sa_a, if_pos rfl, upd, if_pos rfl]
              have o5 : ∀ j, j ≠ l.length → (sa (sv v2 2 (nI (i + 2 + 2 + 2))) 5 l.length (nI ty)).2 5 j = u.2 5 j := fun j hj => by rw [sa_ne hj, sv_a, k2.2 5 (by decide)]
              have e45 : (sa (sv v2 2 (nI (i + 2 + 2 + 2))) 5 l.length (nI ty)).2 4 = v2.2 4 := by rw [sa_a, if_neg (by decide), sv_a]
              generalize sa (sv v2 2 (nI (i + 2 + 2 + 2))) 5 l.length (nI ty) = v3 at hO3 k3 e5 o5 e45 ⊢
              have hn3 : NM (l ++ [(nm, ty)]) v3 := NM_snoc hl (fun j hj => by rw [e45]; exact o4 j hj) o5 (by rw [e45]; exact e4) e5
              have hk3 : MK c K (l ++ [(nm, ty)]) := MK_snoc hk hnm hty
              have hW3 := MW_ko hW k3 (by decide) (by decide)
              obtain ⟨v4, f1, k4, f3⟩ := field_is (hW3.tx hN hty)
              have hO4 := RO_ko hO3 k4 (by decide) (by decide)
              have kU : ko [2, 18] [4, 5] u v4 := ko_tr (ko_mono k3 (fun k h => by simp at h ⊢; omega) (fun _ h => h)) (ko_mono k4 (fun k h => by simp at h ⊢; omega) (fun _ h => by cases h))
              have hW4 := MW_ko hW3 k4 (by decide) (by decide)
              rw [ok_o hO3, cI_s, if_neg (by decide), gd_in (by omega) (by decide), e5, f1, cI_s]
              refine mq_must hO4 rfl rfl (by decide) b10 (fun hs => ?_) (fun v h => ?_)
              · rw [if_neg (by decide)]
                refine wp_bnd ?_
                refine mq_must hO4 rfl rfl (by decide) (by rw [fd_ds hs]; exact fd_real f3 hs) (fun _ => ?_) (fun v h => ?_)
                · rw [if_neg (by decide)]
                  refine wp_cT (wp_mono (dpF (w := i) (x4 := nI f) (by omega) rfl hO4 hW4 (NM_ko hn3 k4 (by decide)) hk3 l.length 0 FU (by omega) (by unfold FU; omega)) fun v5 hv5' => ?_)
                  rw [List.drop_zero] at hv5'
                  cases hd : dupM F B l nm ty with
                  | true =>
                    rw [hd, if_pos rfl] at hv5'
                    rw [pb_x (pn_x (by rfl)), ok_b hv5', cI_s, if_pos rfl, cT_s]
                    exact dead hv5'
                  | false =>
                    rw [hd, if_neg (by decide)] at hv5'
                    subst hv5'
                    rw [pb_s (pn_s (by rfl)), ok_o hO4, cI_s, if_neg (by decide), gd_in (by omega) (by decide), k4.2 5 (by decide), e5]
                    have am := atts_m (x4 := 0) (of := 1) (f := f) (wx := ty) (ty := ty) (Or.inl rfl) hf hO4 hW4 hM (((kU.1 5 (by decide))).trans hv5) hver (fun _ => ⟨hty, hs, rfl⟩)
                    rw [show alO 1 (!decide (f &&& 8 = 0)) (decide (f &&& 1024 = 0)) = (if f &&& 8 = 0 then 0 else 1) by
                      show (if (!decide (f &&& 8 = 0)) = true then 1 else 0) = _
                      by_cases d : f &&& 8 = 0
                      · rw [if_pos d, decide_eq_true d]; rfl
                      · rw [if_neg d, decide_eq_false d]; rfl] at am
                    have am' : wp (f_M_attributes v5 1 (nI f) (nI ty) 0) _ := am
                    rw [cT_cV]
                    refine mq_V am' ?_ ?_
                    · rintro a j6 v6 - hO6 k6
                      have ih := fldM hnf hcf hver hM m (l ++ [(nm, ty)]) g j6 v6 (by simp; omega) (by omega) hO6 (MW_ko hW4 k6 (by decide) (by decide)) ((k6.1 7 (by decide)).trans ((kU.1 7 (by decide)).trans h7)) ((k6.1 5 (by decide)).trans ((kU.1 5 (by decide)).trans hv5)) ((k6.1 10 (by decide)).trans ((kU.1 10 (by decide)).trans h10)) (NM_ko (NM_ko hn3 k4 (by decide)) k6 (by decide)) hk3
                      rw [List.length_append] at ih
                      exact wp_mono ih fun x hx => MP_mono hx fun _ q => ko_tr kU (ko_tr (ko_mono k6 (fun k h => by simp at h ⊢; omega) (fun _ h => by cases h)) q)
                    · intro r w v h
                      exact dead h
                · rw [if_pos rfl]
                  exact wp_some h
              · rw [if_pos rfl]
                exact wp_some h
            · rw [gd_in (by omega) (by decide)]
              refine wp_bnd ?_
              have h' := RB_sa (k := 5) (j := l.length) (x := x) (by decide) h
              rw [ok_b h', cI_s, if_pos rfl]
              exact wp_some h'
          · rw [if_pos rfl]
            exact wp_some h
        · rw [gd_in (by omega) (by decide)]
          refine wp_bnd ?_
          have h' := RB_sa (k := 4) (j := (nI l.length).toNatClampNeg) (x := x) (by decide) h
          rw [ok_b h', cI_s, if_pos rfl]
          exact wp_some h'
      · rw [if_pos rfl]
        exact wp_some h
    · have fin : ∀ {p : Int32 × St}, RB N 1 N z p.2 → ∀ {kk : St → Option St}, wp (cI (f_M_must p.2 p.1 13 (nI i)) fun r19 u17 => if r19 = 0 then (some u17) else kk u17) (fun v => RB N 1 N z v) := fun {p} h {kk} => by
        rw [must_b h, cI_s, if_pos rfl]
        exact wp_some h
      refine wp_cT (wp_ite (fun _ => ?_) (fun _ => wp_some (fin h)))
      have eo : ∃ y, f_M_oneOf v x = some (y, v) := by
        unfold f_M_oneOf
        rw [bnd_s]
        exact ⟨_, by rw [gb]; exact if_pos (ite01 (Or.inr rfl) (Or.inl rfl))⟩
      obtain ⟨y, ey⟩ := eo
      rw [ey, cI_s]
      refine wp_ite (fun _ => wp_some (fin h)) (fun _ => wp_ite (fun _ => wp_some (fin h)) (fun _ => wp_ite (fun _ => wp_some (fin h)) (fun _ => wp_some (fin h))))
end MFL

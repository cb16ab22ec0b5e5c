/-! THE REFERENCE: methods, the loop -/
theorem cT_cI {β : Type} {o : Option (Int32 × St)} {k : St → Option β} : cT (cI o fun _ v => some v) k = cI o fun _ v => k v := by
  cases o with
  | none => rfl
  | some x => rfl
section MML
variable {F : Nat → Nat} {N c i r w ver cf : Nat} {K B : Nat → Nat} {z u : St}
def RM (rs : List Mr) (u : St) : Prop := ∀ j q, rs[j]? = some q → u.2 3 (6 * j) = nI q.1 ∧ u.2 3 (6 * j + 1) = nI q.2.1 ∧ u.2 3 (6 * j + 2) = nI q.2.2.1 ∧ u.2 3 (6 * j + 3) = nI q.2.2.2.1 ∧ u.2 3 (6 * j + 4) = nI q.2.2.2.2.1 ∧ u.2 3 (6 * j + 5) = nI q.2.2.2.2.2
def TT (tl : Tl) (u : St) : Prop := u.1 12 = nI tl.1 ∧ u.1 13 = nI tl.2.1 ∧ u.1 14 = nI tl.2.2.1 ∧ u.1 15 = nI tl.2.2.2
theorem RB_ko {s t : List Nat} {v : St} (h : RB N r w z u) (hk : ko s t u v) (hs : 0 ∉ s ∧ 16 ∉ s ∧ 17 ∉ s ∧ 1 ∉ s ∧ 3 ∉ s ∧ 4 ∉ s) (ht : 0 ∉ t ∧ 8 ∉ t ∧ 9 ∉ t ∧ 10 ∉ t) : RB N r w z v := by
  obtain ⟨⟨a1, a2, a3, a4, a5, a6, a7⟩, b⟩ := h
  exact ⟨⟨a1, (hk.1 _ hs.2.2.2.1).trans a2, by rw [hk.2 _ ht.1]; exact a3, (hk.1 _ hs.2.2.2.2.1).trans a4, a5, a6, (hk.1 _ hs.2.2.2.2.2).trans a7⟩, kr_ko b hk ⟨hs.1, hs.2.1, hs.2.2.1⟩ ht⟩
theorem RM_snoc {rs : List Mr} {q : Mr} {v : St} (h : RM rs u) (ho : ∀ j, j < 6 * rs.length → v.2 3 j = u.2 3 j) (h0 : v.2 3 (6 * rs.length) = nI q.1) (h1 : v.2 3 (6 * rs.length + 1) = nI q.2.1) (h2 : v.2 3 (6 * rs.length + 2) = nI q.2.2.1) (h3 : v.2 3 (6 * rs.length + 3) = nI q.2.2.2.1) (h4 : v.2 3 (6 * rs.length + 4) = nI q.2.2.2.2.1) (h5 : v.2 3 (6 * rs.length + 5) = nI q.2.2.2.2.2) : RM (rs ++ [q]) v := by
  intro j s hj
  by_cases e : j < rs.length
  · rw [List.getElem?_append_left e] at hj
    rw [ho _ (by omega), ho _ (by omega), ho _ (by omega), ho _ (by omega), ho _ (by omega), ho _ (by omega)]
    exact h j s hj
  · by_cases e : j = rs.length
    · subst e
      rw [List.getElem?_append_right (Nat.le_refl _)] at hj
      simp at hj
      subst hj
      exact ⟨h0, h1, h2, h3, h4, h5⟩
    · rw [List.getElem?_eq_none (by simp; omega)] at hj
      cases hj
theorem mthM {nm : Nat} (hnm : nm ≤ 60) (hcf : cf < 65536) (hver : ver < 65536) (hM : ML2 F c K B) : ∀ (m : Nat) (l : List (Nat × Nat)) (rs : List Mr) (tl : Tl) (g i : Nat) (u : St), l.length + m = nm → m < g → rs.length = l.length → RO N i z u → MW F N c K B u → u.1 7 = nI cf → u.1 5 = nI ver → u.1 11 = nI nm → NM l u → MK c K l → RM rs u → TT tl u → wp (f_M_methods_L37 (fun u139 => some u139) g u (nI l.length)) (RQ N z (sMths F N c K B cf ver m l rs tl i) (fun q v => ko [2, 12, 13, 14, 15, 18, 19, 20, 21, 22] [3, 4, 5, 7] u v ∧ RM q.1 v ∧ q.1.length = nm ∧ TT q.2 v))
  | 0, l, rs, tl, g + 1, i, u, h1, _, hrl, hO, hW, h7, hv5, h11, hl, hk, hR, hT => by
    rw [f_M_methods_L37, h11, if_pos (nI_le (by omega) (by omega))]
    exact wp_some ⟨hO, ko_rf, hR, by show rs.length = nm; omega, hT⟩
  | m + 1, l, rs, tl, g + 1, i, u, h1, h2, hrl, hO, hW, h7, hv5, h11, hl, hk, hR, hT => by
    have hN := hO.1.1
    have es : sMths F N c K B cf ver (m + 1) l rs tl = pb pa fun w => pb (pu F N 2) fun f => pb (pn (mfl cf f) 13 w) fun _ => pb pa fun w2 => pb (sNum F N c K 1) fun n => pb (pn (plT F B n || wT F B 0 n || wT F B 1 n) 9 w2) fun _ => pb pa fun w3 => pb (sNum F N c K 1) fun ty => pb (pn (mtT F B ty).isSome 11 w3) fun _ => pb (pn (dsT F B ty != some true) 12 w3) fun _ => pb (pn (spc F B cf f n ty) 17 w2) fun _ => pb (pn (!dupM F B l n ty) 16 w) fun _ => pb (pb (sAtts F N c K B ((if f &&& 1024 = 0 then 2 else 0) ||| 4) ver f ty) fun a => pb (pn (decide (f &&& 1024 ≠ 0) || decide (a.1 &&& 2 ≠ 0)) 20 w) fun _ => pp a) fun a => sMths F N c K B cf ver m (l ++ [(n, ty)]) (rs ++ [(f, slT F B ty, a.2.2.1, a.2.2.2.1, a.2.2.2.2.1, a.2.1)]) (tl.1 + a.2.2.2.2.1, tl.2.1 + a.2.2.2.2.2.1, tl.2.2.1 + a.2.2.2.2.2.2.1, tl.2.2.2 + a.2.2.2.2.2.2.2) := by
      rw [sMths]
      unfold sMth
      funext i
      simp only [pb_as, pb_pp]
      rfl
    have dead : ∀ {r w : Nat} {v : St} {x : Int32}, RB N r w z v → wp (f_M_methods_L37 (fun u139 => some u139) g v x) (fun v => RB N r w z v) := fun h => by
      cases g with
      | zero => omega
      | succ g =>
        rw [f_M_methods_L37]
        refine wp_ite (fun _ => wp_some h) (fun _ => ?_)
        rw [ok_b h, cI_s, if_pos rfl]
        exact wp_some h
    have e6 : (6 : Int32) * nI l.length = nI (6 * l.length) := nmul 6 _
    rw [f_M_methods_L37, h11, if_neg (nI_ge (by omega) (by omega)), ok_o hO, cI_s, if_neg (by decide), nI_1, es, hO.1.2.2.2.2.1, e6, show nI (6 * l.length) + 0 = nI (6 * l.length) from nI_add _ 0, nI_1]
    -- the end of a broken head
    have tailB : ∀ {r w : Nat} {v : St} {x10 x14 : Int32}, RB N r w z v → wp (cT (f_M_methods_L569 (nI l.length) (nI i) x14 x10 FU v 0) fun (u79 : St) => gd (nI (6 * l.length)) 360 (bnd (sa u79 3 (nI (6 * l.length)).toNatClampNeg x14) fun u80 => gd (nI (6 * l.length + 1)) 360 (bnd (sa u80 3 (nI (6 * l.length + 1)).toNatClampNeg x10) fun u81 => cI (f_M_ok u81) fun r84 u82 => cT (if r84 = 0 then (some (u82)) else (cV (f_M_attributes u82 2 x14 (nI l.length) (nI i)) fun u87 => some (u87))) fun (u85 : St) => f_M_methods_L37 (fun u139 => some u139) g u85 (nI (l.length + 1))))) (fun v => RB N r w z v) := fun {r w v x10 x14} h => by
      obtain ⟨v', e1, e2, -, -⟩ := clr6 (x3 := nI i) (x4 := x14) (x10 := x10) (show l.length < 60 by omega) 6 0 FU v (by omega) (by unfold FU; omega)
      have e1' : f_M_methods_L569 (nI l.length) (nI i) x14 x10 FU v 0 = some v' := e1
      have h' := RB_sa (k := 3) (j := (nI (6 * l.length + 1)).toNatClampNeg) (x := x10) (by decide) (RB_sa (k := 3) (j := (nI (6 * l.length)).toNatClampNeg) (x := x14) (by decide) (RB_ko h e2 (by decide) (by decide)))
      rw [e1', cT_s, gd_in (by omega) (by decide), bnd_s, gd_in (by omega) (by decide), bnd_s, ok_b h', cI_s, if_pos rfl, cT_s]
      exact dead h'
    refine mq_pa ?_
    refine mq_u2 hO hW.1 (fun hi => ?_) (fun x v h => ?_)
    · have hf : be F i 2 < 65536 := hW.n2 i
      have hO1 := RO_at (j := i + 2) hO hi
      have k1 : ko [2] [] u (sv u 2 (nI (i + 2))) := ko_sv (by decide)
      generalize sv u 2 (nI (i + 2)) = v1 at hO1 k1 ⊢
      generalize be F i 2 = f at hf ⊢
      have hW1 := MW_ko hW k1 (by decide) (by decide)
      have h71 : v1.1 7 = nI cf := (k1.1 7 (by decide)).trans h7
      refine wp_bnd ?_
      have e512 : (nI cf &&& 512 = 0) = (cf &&& 512 = 0) := propext (mskL hcf)
      rw [h71]
      simp only [e512]
      obtain ⟨mA, W, mW, mV⟩ := mfl_m (u := v1) hf hcf
      rw [mA, cT_s]
      dsimp only
      rw [mW, cT_s, h71]
      refine wp_bnd ?_
      rw [mV]
      refine mq_must hO1 rfl rfl (by decide) b10 (fun _ => ?_) (fun v h => ?_)
      · rw [if_neg (by decide), hO1.1.2.2.2.2.1]
        refine mq_pa ?_
        refine mq_num hO1 hW1 rfl (by decide) (fun n hn hi2 => ?_) (fun r w x v h => ?_)
        · rw [gd_in (by omega) (by decide), ncl (by omega)]
          refine wp_bnd ?_
          have hO2 : RO N (i + 2 + 2) z (sa (sv v1 2 (nI (i + 2 + 2))) 4 l.length (nI n)) := RO_ko (s := []) (t := [4]) (RO_at hO1 hi2) (ko_sa (by decide)) (by decide) (by decide)
          have k2 : ko [2] [4] u (sa (sv v1 2 (nI (i + 2 + 2))) 4 l.length (nI n)) := ko_tr (ko_mono k1 (fun _ h => h) (fun _ h => by cases h)) (ko_tr (ko_sv (by decide)) (ko_sa (by decide)))
          have e4 : (sa (sv v1 2 (nI (i + 2 + 2))) 4 l.length (nI n)).2 4 l.length = nI n := by rw [sa_a, if_pos rfl, upd, if_pos rfl]
          have o4 : ∀ j, j ≠ l.length → (sa (sv v1 2 (nI (i + 2 + 2))) 4 l.length (nI n)).2 4 j = u.2 4 j := fun j hj => by rw [sa_ne hj, sv_a, k1.2 4 (by decide)]
          generalize sa (sv v1 2 (nI (i + 2 + 2))) 4 l.length (nI n) = v2 at hO2 k2 e4 o4 ⊢
          have hW2 := MW_ko hW k2 (by decide) (by decide)
          have hTn := hW2.tx hN hn
          rw [ok_o hO2, cI_s, if_neg (by decide), gd_in (by omega) (by decide), e4, is_l 6 hTn (n := 6) rfl (j := 0) (by decide) (by decide) w_0, cI_s]
          have p1 : (if (if wT F B 0 n = true then (1 : Int32) else 0) = 0 then some ((0 : Int32), v2) else some (1, v2)) = some (if wT F B 0 n = true then 1 else 0, v2) := by cases wT F B 0 n <;> rfl
          rw [p1, cT_s]
          dsimp only
          rw [ok_o hO2, cI_s, if_neg (by decide), gd_in (by omega) (by decide), e4, is_l 8 hTn (n := 8) rfl (j := 1) (by decide) (by decide) w_1, cI_s]
          have p2 : (if (if wT F B 1 n = true then (1 : Int32) else 0) = 0 then some ((0 : Int32), v2) else some (1, v2)) = some (if wT F B 1 n = true then 1 else 0, v2) := by cases wT F B 1 n <;> rfl
          rw [p2, cT_s]
          dsimp only
          rw [ok_o hO2, cI_s, if_neg (by decide), gd_in (by omega) (by decide), e4, plain_eq hTn, cI_s]
          have p3 : (if (if wT F B 0 n = true then (1 : Int32) else 0) = 0 then (if (if wT F B 1 n = true then (1 : Int32) else 0) = 0 then (if (if plT F B n = true then (1 : Int32) else 0) = 0 then some ((0 : Int32), v2) else some (1, v2)) else some (1, v2)) else some (1, v2)) = some (if (plT F B n || wT F B 0 n || wT F B 1 n) = true then 1 else 0, v2) := by
            cases wT F B 0 n <;> cases wT F B 1 n <;> cases plT F B n <;> rfl
          rw [p3, cT_s]
          dsimp only
          refine mq_must hO2 rfl rfl (by decide) b10 (fun _ => ?_) (fun v h => ?_)
          · rw [if_neg (by decide), hO2.1.2.2.2.2.1]
            refine mq_pa ?_
            refine mq_num hO2 hW2 rfl (by decide) (fun ty hty hi3 => ?_) (fun r w x v h => ?_)
            · rw [gd_in (by omega) (by decide)]
              refine wp_bnd ?_
              have hO3 : RO N (i + 2 + 2 + 2) z (sa (sv v2 2 (nI (i + 2 + 2 + 2))) 5 l.length (nI ty)) := RO_ko (s := []) (t := [5]) (RO_at hO2 hi3) (ko_sa (by decide)) (by decide) (by decide)
              have k3 : ko [2] [4, 5] u (sa (sv v2 2 (nI (i + 2 + 2 + 2))) 5 l.length (nI ty)) := ko_tr (ko_mono k2 (fun _ h => h) (fun k h => by simp at h ⊢; omega)) (ko_tr (ko_sv (by decide)) (ko_sa (by decide)))
              have e5 : (sa (sv v2 2 (nI (i + 2 + 2 + 2))) 5 l.length (nI ty)).2 5 l.length = nI ty := by rw [sa_a, if_pos rfl, upd, if_pos rfl]
              have o5 : ∀ j, j ≠ l.length → (sa (sv v2 2 (nI (i + 2 + 2 + 2))) 5 l.length (nI ty)).2 5 j = u.2 5 j := fun j hj => by rw [sa_ne hj, sv_a, k2.2 5 (by decide)]
              have e45 : (sa (sv v2 2 (nI (i + 2 + 2 + 2))) 5 l.length (nI ty)).2 4 = v2.2 4 := by rw [sa_a, if_neg (by decide), sv_a]
              generalize sa (sv v2 2 (nI (i + 2 + 2 + 2))) 5 l.length (nI ty) = v3 at hO3 k3 e5 o5 e45 ⊢
              have hn3 : NM (l ++ [(n, ty)]) v3 := NM_snoc hl (fun j hj => by rw [e45]; exact o4 j hj) o5 (by rw [e45]; exact e4) e5
              have hk3 : MK c K (l ++ [(n, ty)]) := MK_snoc hk hn hty
              have hW3 := MW_ko hW k3 (by decide) (by decide)
              have hTt := hW3.tx hN hty
              rw [ok_o hO3, cI_s, if_neg (by decide), gd_in (by omega) (by decide), e5]
              refine wp_cI (wp_mono (method_is hTt) fun pq hpq => ?_)
              obtain ⟨m1, k4, m3⟩ := hpq
              obtain ⟨p1', v4⟩ := pq
              dsimp only at m1 k4 m3 ⊢
              subst m1
              have hO4 := RO_ko hO3 k4 (by decide) (by decide)
              have kU : ko [2, 18, 19] [4, 5] u v4 := ko_tr (ko_mono k3 (fun k h => by simp at h ⊢; omega) (fun _ h => h)) (ko_mono k4 (fun k h => by simp at h ⊢; omega) (fun _ h => by cases h))
              have hW4 := MW_ko hW3 k4 (by decide) (by decide)
              have hTt4 := hW4.tx hN hty
              have e54 : v4.2 5 l.length = nI ty := by rw [k4.2 5 (by decide)]; exact e5
              have hn4 : NM (l ++ [(n, ty)]) v4 := NM_ko hn3 k4 (by decide)
              refine mq_must hO4 rfl rfl (by decide) b10 (fun hs => ?_) (fun v h => ?_)
              · rw [if_neg (by decide)]
                refine wp_bnd ?_
                have hd40 : hdT F B 40 ty = true := by
                  cases hh : hdT F B 40 ty with
                  | true => rfl
                  | false =>
                    unfold mtT at hs
                    rw [if_neg (by rw [hh]; decide)] at hs
                    cases hs
                have hsl : v4.1 19 = nI (slT F B ty) := by
                  unfold slT
                  cases hm : mtT F B ty with
                  | none => rw [hm] at hs; cases hs
                  | some q =>
                    obtain ⟨fl, sl, vd⟩ := q
                    exact (m3 fl sl vd hm).2
                have hvo : f_M_isVoid v4 (nI ty) = some (if voT F B ty then 1 else 0, v4) := by
                  cases hm : mtT F B ty with
                  | none => rw [hm] at hs; cases hs
                  | some q =>
                    obtain ⟨fl, sl, vd⟩ := q
                    rw [void_m hTt4 hm]
                    unfold voT
                    rw [hm]
                refine mq_must hO4 rfl rfl (by decide) (md_real (fun fl sl vd q => (m3 fl sl vd q).1) hs hd40) (fun _ => ?_) (fun v h => ?_)
                · rw [if_neg (by decide), hsl]
                  -- behind the special names
                  have tail2 : ∀ v, RO N (i + 2 + 2 + 2) z v → v = v4 → wp (cT (f_M_methods_L501 (nI l.length) (nI i) (nI f) (nI (slT F B ty)) FU v 0) fun (u77 : St) => cT (f_M_methods_L569 (nI l.length) (nI i) (nI f) (nI (slT F B ty)) FU u77 0) fun (u79 : St) => gd (nI (6 * l.length)) 360 (bnd (sa u79 3 (nI (6 * l.length)).toNatClampNeg (nI f)) fun u80 => gd (nI (6 * l.length + 1)) 360 (bnd (sa u80 3 (nI (6 * l.length + 1)).toNatClampNeg (nI (slT F B ty))) fun u81 => cI (f_M_ok u81) fun r84 u82 => cT (if r84 = 0 then (some (u82)) else (cV (f_M_attributes u82 2 (nI f) (nI l.length) (nI i)) fun u87 => some (u87))) fun (u85 : St) => f_M_methods_L37 (fun u139 => some u139) g u85 (nI (l.length + 1))))) (RQ N z ((pb (pn (!dupM F B l n ty) 16 i) fun _ => pb (pb (sAtts F N c K B ((if f &&& 1024 = 0 then 2 else 0) ||| 4) ver f ty) fun a => pb (pn (decide (f &&& 1024 ≠ 0) || decide (a.1 &&& 2 ≠ 0)) 20 i) fun _ => pp a) fun a => sMths F N c K B cf ver m (l ++ [(n, ty)]) (rs ++ [(f, slT F B ty, a.2.2.1, a.2.2.2.1, a.2.2.2.2.1, a.2.1)]) (tl.1 + a.2.2.2.2.1, tl.2.1 + a.2.2.2.2.2.1, tl.2.2.1 + a.2.2.2.2.2.2.1, tl.2.2.2 + a.2.2.2.2.2.2.2)) (i + 2 + 2 + 2)) (fun q v => ko [2, 12, 13, 14, 15, 18, 19, 20, 21, 22] [3, 4, 5, 7] u v ∧ RM q.1 v ∧ q.1.length = nm ∧ TT q.2 v)) := by
                    intro v hv ev
                    subst ev
                    refine wp_cT (wp_mono (dpM (w := i) (x4 := nI f) (x10 := nI (slT F B ty)) (by omega) rfl hO4 hW4 hn4 hk3 l.length 0 FU (by omega) (by unfold FU; omega)) fun v5 hv5' => ?_)
                    rw [List.drop_zero] at hv5'
                    cases hd : dupM F B l n ty with
                    | true =>
                      rw [hd, if_pos rfl] at hv5'
                      rw [pb_x (pn_x (by rfl))]
                      exact tailB hv5'
                    | false =>
                      rw [hd, if_neg (by decide)] at hv5'
                      subst hv5'
                      obtain ⟨v6, c1, c2, c3, c4⟩ := clr6 (x3 := nI i) (x4 := nI f) (x10 := nI (slT F B ty)) (show l.length < 60 by omega) 6 0 FU v5 (by omega) (by unfold FU; omega)
                      have c1' : f_M_methods_L569 (nI l.length) (nI i) (nI f) (nI (slT F B ty)) FU v5 0 = some v6 := c1
                      rw [pb_s (pn_s (by rfl)), c1', cT_s, gd_in (by omega) (by decide), bnd_s, gd_in (by omega) (by decide), bnd_s, ncl (by omega), ncl (by omega)]
                      have k7 : ko [] [3] v5 (sa (sa v6 3 (6 * l.length) (nI f)) 3 (6 * l.length + 1) (nI (slT F B ty))) := ko_tr c2 (ko_tr (ko_sa (by decide)) (ko_sa (by decide)))
                      have r0 : (sa (sa v6 3 (6 * l.length) (nI f)) 3 (6 * l.length + 1) (nI (slT F B ty))).2 3 (6 * l.length) = nI f := by rw [sa_ne (by omega), sa_a, if_pos rfl, upd, if_pos rfl]
                      have r1 : (sa (sa v6 3 (6 * l.length) (nI f)) 3 (6 * l.length + 1) (nI (slT F B ty))).2 3 (6 * l.length + 1) = nI (slT F B ty) := by rw [sa_a, if_pos rfl, upd, if_pos rfl]
                      have r2 : ∀ j, 6 * l.length + 2 ≤ j → j ≤ 6 * l.length + 5 → (sa (sa v6 3 (6 * l.length) (nI f)) 3 (6 * l.length + 1) (nI (slT F B ty))).2 3 j = 0 := fun j a b => by rw [sa_ne (by omega), sa_ne (by omega)]; exact c3 j (by omega) (by omega)
                      have r3 : ∀ j, j < 6 * l.length → (sa (sa v6 3 (6 * l.length) (nI f)) 3 (6 * l.length + 1) (nI (slT F B ty))).2 3 j = v5.2 3 j := fun j a => by rw [sa_ne (by omega), sa_ne (by omega)]; exact c4 j (by omega)
                      generalize sa (sa v6 3 (6 * l.length) (nI f)) 3 (6 * l.length + 1) (nI (slT F B ty)) = v7 at k7 r0 r1 r2 r3 ⊢
                      have hO7 := RO_ko hv k7 (by decide) (by decide)
                      have hW7 := MW_ko hW4 k7 (by decide) (by decide)
                      have kU7 : ko [2, 18, 19] [3, 4, 5] u v7 := ko_tr (ko_mono kU (fun _ h => h) (fun k h => by simp at h ⊢; omega)) (ko_mono k7 (fun _ h => by cases h) (fun k h => by simp at h ⊢; omega))
                      obtain ⟨t1, t2, t3, t4⟩ := hT
                      rw [ok_o hO7, cI_s, if_neg (by decide), cT_cV]
                      refine mq_V (attsM_m (w := i) (tb := tl) rfl hf (show l.length < 60 by omega) hO7 hW7 hM ((kU7.1 5 (by decide)).trans hv5) hver r1 r2 ((kU7.1 12 (by decide)).trans t1) ((kU7.1 13 (by decide)).trans t2) ((kU7.1 14 (by decide)).trans t3) ((kU7.1 15 (by decide)).trans t4)) ?_ ?_
                      · rintro ⟨sn, th, cd⟩ j8 v8 - hO8 ⟨kA, hI⟩
                        obtain ⟨i1, i2, i3, i4, i5, i6, i7, i8, i9⟩ := hI rfl
                        dsimp only at i1 i2 i3 i4 i5 i6 i7 i8 i9 ⊢
                        have kU8 : ko [2, 12, 13, 14, 15, 18, 19, 20, 21, 22] [3, 4, 5, 7] u v8 := ko_tr (ko_mono kU7 (fun k h => by simp at h ⊢; omega) (fun k h => by simp at h ⊢; omega)) (ko_mono kA.1 (fun _ h => h) (fun k h => by simp at h ⊢; omega))
                        have hR8 : RM (rs ++ [(f, slT F B ty, cd.1, cd.2.1, cd.2.2.1, th)]) v8 := by
                          refine RM_snoc hR (fun j hj => ?_) ?_ ?_ ?_ ?_ ?_ ?_
                          · rw [hrl] at hj
                            rw [kA.2.2 j (by omega), r3 j (by omega), kU.2 3 (by decide)]
                          · rw [hrl, kA.2.2 _ (by omega)]; exact r0
                          · rw [hrl]; exact i1
                          · rw [hrl]; exact i2
                          · rw [hrl]; exact i3
                          · rw [hrl]; exact i4
                          · rw [hrl]; exact i5
                        have ih := mthM hnm hcf hver hM m (l ++ [(n, ty)]) (rs ++ [(f, slT F B ty, cd.1, cd.2.1, cd.2.2.1, th)]) (tl.1 + cd.2.2.1, tl.2.1 + cd.2.2.2.1, tl.2.2.1 + cd.2.2.2.2.1, tl.2.2.2 + cd.2.2.2.2.2) g j8 v8 (by simp; omega) (by omega) (by rw [List.length_append, List.length_append, hrl]; rfl) hO8 (MW_ko hW7 kA.1 (by decide) (by decide)) ((kU8.1 7 (by decide)).trans h7) ((kU8.1 5 (by decide)).trans hv5) ((kU8.1 11 (by decide)).trans h11) (NM_ko (NM_ko hn4 k7 (by decide)) kA.1 (by decide)) hk3 hR8 ⟨i6, i7, i8, i9⟩
                        rw [List.length_append] at ih
                        exact wp_mono ih fun x hx => MP_mono hx fun _ q => ⟨ko_tr kU8 q.1, q.2⟩
                      · intro r w v h
                        exact dead h
                  have bad2 : ∀ {r w : Nat} {v : St}, RB N r w z v → ko [3, 4] [] v4 v → wp (cT (f_M_methods_L501 (nI l.length) (nI i) (nI f) (nI (slT F B ty)) FU v 0) fun (u77 : St) => cT (f_M_methods_L569 (nI l.length) (nI i) (nI f) (nI (slT F B ty)) FU u77 0) fun (u79 : St) => gd (nI (6 * l.length)) 360 (bnd (sa u79 3 (nI (6 * l.length)).toNatClampNeg (nI f)) fun u80 => gd (nI (6 * l.length + 1)) 360 (bnd (sa u80 3 (nI (6 * l.length + 1)).toNatClampNeg (nI (slT F B ty))) fun u81 => cI (f_M_ok u81) fun r84 u82 => cT (if r84 = 0 then (some (u82)) else (cV (f_M_attributes u82 2 (nI f) (nI l.length) (nI i)) fun u87 => some (u87))) fun (u85 : St) => f_M_methods_L37 (fun u139 => some u139) g u85 (nI (l.length + 1))))) (fun v => RB N r w z v) := fun {r w v} h kv => by
                    refine wp_cT (wp_mono (b_dpM (l := l ++ [(n, ty)]) (show l.length < 60 by omega) (by simp) l.length 0 FU v (by omega) (by unfold FU; omega) h (MW_ko hW4 kv (by decide) (by decide)) (NM_ko hn4 kv (by decide)) hk3) fun v5 h5 => tailB h5)
                  have w01 : wT F B 0 n = true → wT F B 1 n = false := fun hh => by
                    rcases nm_case F B n with ⟨_, e, _⟩ | ⟨e, _, _⟩ | ⟨e, _, _⟩ | ⟨e, _, _⟩ | ⟨e, _, _⟩
                    · rw [hh] at e; cases e
                    · exact e
                    · exact e
                    · exact e
                    · exact e
                  have e1048 : (nI f &&& 1048 = 0) = (f &&& 1048 = 0) := propext (mskL hf)
                  have ef8 : (nI f = 8) = (f = 8) := neq (b := 8) (by omega) (by decide)
                  simp only [e1048, ef8]
                  cases hw0 : wT F B 0 n with
                  | true =>
                    have hw1 := w01 hw0
                    rw [hw1, if_pos (show true = true from rfl), if_neg (show ¬ (1 : Int32) = 0 by decide), if_neg (show ¬ (false = true) by decide), gd_in (by omega) (by decide), e54, hvo, cI_s]
                    have esp : (if (if cf &&& 512 = 0 then (0 : Int32) else 1) = 0 then (if (if voT F B ty = true then (1 : Int32) else 0) = 0 then some ((0 : Int32), v4) else if f &&& 1048 = 0 then some (1, v4) else some (0, v4)) else some (0, v4)) = some (if spc F B cf f n ty = true then 1 else 0, v4) := by
                      unfold spc
                      rw [hw0, if_pos (show true = true from rfl)]
                      by_cases a : cf &&& 512 = 0
                      · rw [if_pos a, if_pos rfl, decide_eq_true a, Bool.true_and]
                        by_cases b : f &&& 1048 = 0
                        · rw [if_pos b, decide_eq_true b]; cases voT F B ty <;> rfl
                        · rw [if_neg b, decide_eq_false b]; cases voT F B ty <;> rfl
                      · rw [if_neg a, if_neg (by decide), decide_eq_false a]; rfl
                    rw [esp, cT_s]
                    dsimp only
                    rw [cT_cI]
                    refine mq_mustK hO4 rfl rfl (by decide) b10 (fun _ => ?_) (fun v h kv => ?_)
                    · rw [if_pos (show (0 : Int32) = 0 from rfl), cT_s]
                      exact tail2 v4 hO4 rfl
                    · rw [if_pos (show (0 : Int32) = 0 from rfl), cT_s]
                      exact bad2 h kv
                  | false =>
                    rw [if_neg (show ¬ (false = true) by decide), if_pos (show (0 : Int32) = 0 from rfl), cT_s]
                    cases hw1 : wT F B 1 n with
                    | false =>
                      have esp : spc F B cf f n ty = true := by
                        unfold spc
                        rw [hw0, hw1, if_neg (by decide), if_neg (by decide)]
                      rw [if_neg (show ¬ (false = true) by decide), if_pos (show (0 : Int32) = 0 from rfl), cT_s, esp, pb_s (pn_s rfl)]
                      exact tail2 v4 hO4 rfl
                    | true =>
                      rw [if_pos (show true = true from rfl), if_neg (show ¬ (1 : Int32) = 0 by decide), gd_in (by omega) (by decide), e54, is_l 3 hTt4 (n := 3) rfl (j := 9) (by decide) (by decide) w_9, cI_s]
                      have esp : (if f = 8 then (if (if wT F B 9 ty = true then (1 : Int32) else 0) = 0 then some ((0 : Int32), v4) else some (1, v4)) else some (0, v4)) = some (if spc F B cf f n ty = true then 1 else 0, v4) := by
                        unfold spc
                        rw [hw0, hw1, if_neg (show ¬ (false = true) by decide), if_pos (show true = true from rfl)]
                        by_cases a : f = 8
                        · rw [if_pos a, decide_eq_true a, Bool.true_and]; cases wT F B 9 ty <;> rfl
                        · rw [if_neg a, decide_eq_false a]; rfl
                      rw [esp, cT_s]
                      dsimp only
                      rw [cT_cI]
                      refine mq_mustK hO4 rfl rfl (by decide) b10 (fun _ => tail2 v4 hO4 rfl) (fun v h kv => bad2 h kv)
                · rw [if_pos rfl]
                  exact wp_some h
              · rw [if_pos rfl]
                exact wp_some h
            · rw [gd_in (by omega) (by decide)]
              refine wp_bnd ?_
              have h' := RB_sa (k := 5) (j := l.length) (x := x) (by decide) h
              rw [ok_b h', cI_s, if_pos rfl]
              exact wp_some h'
          · rw [if_pos rfl]
            exact wp_some h
        · rw [gd_in (by omega) (by decide)]
          refine wp_bnd ?_
          have h' := RB_sa (k := 4) (j := (nI l.length).toNatClampNeg) (x := x) (by decide) h
          rw [ok_b h', cI_s, if_pos rfl, cT_s]
          dsimp only
          rw [ok_b h', cI_s, if_pos rfl, cT_s]
          dsimp only
          rw [ok_b h', cI_s, if_pos rfl]
          exact wp_some h'
      · rw [if_pos rfl]
        exact wp_some h
    · have eo : ∃ y, f_M_oneOf v x = some (y, v) := by
        unfold f_M_oneOf
        rw [bnd_s]
        exact ⟨_, by rw [gb]; exact if_pos (ite01 (Or.inr rfl) (Or.inl rfl))⟩
      obtain ⟨y, ey⟩ := eo
      have eA : ∃ A, (if (x &&& (-1056)) = 0 then (cI (f_M_oneOf v x) fun r136 u134 => if r136 = 0 then (some ((0 : Int32), u134)) else (if (x &&& 1024) = 0 then (some (1, u134)) else (if (x &&& 26) = 0 then (some (1, u134)) else (some (0, u134))))) else (some (0, v))) = some (A, v) := by
        rw [ey, cI_s]
        split
        · split
          · exact ⟨_, rfl⟩
          · split
            · exact ⟨_, rfl⟩
            · split
              · exact ⟨_, rfl⟩
              · exact ⟨_, rfl⟩
        · exact ⟨_, rfl⟩
      obtain ⟨A, eA⟩ := eA
      refine wp_bnd ?_
      rw [eA, cT_s]
      dsimp only
      refine wp_cT (wp_ite (fun _ => wp_some (wp_bnd ?_)) (fun _ => wp_bnd (wp_some (wp_bnd ?_))))
      · rw [must_b h, cI_s, if_pos rfl]
        exact wp_some h
      · rw [must_b h, cI_s, if_pos rfl]
        exact wp_some h
end MML

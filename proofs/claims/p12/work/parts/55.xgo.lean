/-! THE CLASS: fields, methods, the whole FILE -/
section GO
variable {F : Nat → Nat} {N c i r w ver cf : Nat} {K B : Nat → Nat} {z u : St}
theorem b_L80 {x1 x2 y : Int32} (h : SB N r w z u) : ∀ g, 0 < g → wp (f_G_passes_L80 x1 x2 g u y) (fun p => SB N r w z p)
  | g + 1, _ => by
    rw [f_G_passes_L80]
    refine wp_ite (fun _ => wp_some h) (fun _ => b_sound0 h ?_)
    exact wp_some h
theorem b_L140 {x1 x2 x3 y : Int32} (h : SB N r w z u) : ∀ g, 0 < g → wp (f_G_passes_L140 x1 x2 x3 g u y) (fun p => SB N r w z p)
  | g + 1, _ => by
    rw [f_G_passes_L140]
    refine wp_ite (fun _ => wp_some h) (fun _ => b_sound0 h ?_)
    exact wp_some h
theorem ML_ko {l : List (Nat × Nat)} {s t : List Nat} {v : St} (h : ML l u) (hk : ko s t u v) (ht : 14 ∉ t ∧ 15 ∉ t) : ML l v := fun j q e => by
  rw [hk.2 14 ht.1, hk.2 15 ht.2]
  exact h j q e
theorem fldL_eq_o {nf : Nat} {x1 : Int32} (hnf : nf ≤ 60) (hcf : cf < 65536) (hv : ver < 65536) : ∀ (m : Nat) (l : List (Nat × Nat)) (g i : Nat) (u : St), l.length + m = nf → m < g → SO N i z u → PW_o F N c K B u → u.1 16 = nI cf → u.1 15 = nI ver → ML l u → MK c K l → wp (f_G_passes_L80 x1 (nI nf) g u (nI l.length)) (XQ N z (sFlds_o F N c K B cf ver m l i) (fun _ v => ko [1, 7, 8, 9, 10, 11, 12, 13, 14, 17, 18, 19, 20] [9, 10, 11, 14, 15] u v))
  | 0, l, g + 1, i, u, h1, _, hO, hP, h16, h15, hl, hk => by
    rw [f_G_passes_L80, if_pos (nI_le (by omega) (by omega))]
    exact wp_some ⟨hO, ko_rf⟩
  | m + 1, l, g + 1, i, u, h1, h2, hO, hP, h16, h15, hl, hk => by
    rw [f_G_passes_L80, if_neg (nI_ge (by omega) (by omega)), snd_o hO.1, cI_s, if_neg (by decide), nI_1, sFlds_o]
    refine wq_V (field_eq_o hO hP h16 hcf (by omega) hl hk) ?_ ?_
    · rintro ⟨f, nm, ty⟩ j v hp hOv ⟨⟨m1, m2, m3, kv, m4, m5, m6, m7⟩, m8⟩
      dsimp only at m1 m2 m3 m4 m5 m6 m7 ⊢
      have hPv := PW_ko_o hP kv (by decide) (by decide)
      refine wp_bnd ?_
      have ea : (if v.1 18 &&& 8 = 0 then (0 : Int32) else 1) = nI (if f &&& 8 = 0 then 0 else 1) := by
        rw [m4]
        by_cases d : f &&& 8 = 0
        · rw [if_pos ((mskL m1).mpr d), if_pos d]; rfl
        · rw [if_neg (fun q => d ((mskL m1).mp q)), if_neg d]; rfl
      rw [ea]
      refine wq_I (atts_eq_o (f := f) (ty := ty) (tq := false) (by split <;> decide) hv hOv hPv ((kv.1 15 (by decide)).trans h15) (fun _ => ⟨m4, m1, m5, m3⟩) (fun q => by cases q)) ?_ ?_
      · rintro a j2 x v2 - hO2 ⟨-, -, k2, -, -⟩
        have ih := fldL_eq_o (x1 := x1) hnf hcf hv m (l ++ [(nm, ty)]) g j2 v2 (by simp; omega) (by omega) hO2 (PW_ko_o hPv k2 (by decide) (by decide)) ((k2.1 16 (by decide)).trans ((kv.1 16 (by decide)).trans h16)) ((k2.1 15 (by decide)).trans ((kv.1 15 (by decide)).trans h15)) (ML_ko m7 k2 (by decide)) (MK_snoc hk m2 m3)
        rw [List.length_append] at ih
        refine wp_mono ih fun y hy => XP_mono hy fun _ q => ?_
        exact ko_tr (ko_mono kv (fun k h => by simp at h ⊢; omega) (fun k h => by simp at h ⊢; omega)) (ko_tr (ko_mono k2 (fun k h => by simp at h ⊢; omega) (fun k h => by simp at h ⊢; omega)) q)
      · intro r w x u h
        exact b_L80 h g (by omega)
    · intro r w u h
      refine wp_bnd (wp_cI_b (b_readAttributes h) (fun _ _ h => ?_))
      exact b_L80 h g (by omega)
/-! what a method's row has -/
def RW (rs : List Mr) (u : St) : Prop := ∀ j q, rs[j]? = some q → u.2 13 (j * 6) = nI q.1 ∧ u.2 13 (j * 6 + 1) = nI q.2.1 ∧ u.2 13 (j * 6 + 2) = nI q.2.2.1 ∧ u.2 13 (j * 6 + 3) = nI q.2.2.2.1 ∧ u.2 13 (j * 6 + 4) = nI q.2.2.2.2.1 ∧ u.2 13 (j * 6 + 5) = nI q.2.2.2.2.2
def TV (tl : Tl) (u : St) : Prop := u.2 12 4 = nI tl.1 ∧ u.2 12 5 = nI tl.2.1 ∧ u.2 12 6 = nI tl.2.2.1 ∧ u.2 12 7 = nI tl.2.2.2
theorem sa6 {k : Nat} {a0 a1 a2 a3 a4 a5 : Int32} (j : Nat) : (sa (sa (sa (sa (sa (sa u 13 k a0) 13 (k + 1) a1) 13 (k + 2) a2) 13 (k + 3) a3) 13 (k + 4) a4) 13 (k + 5) a5).2 13 j = if j = k + 5 then a5 else if j = k + 4 then a4 else if j = k + 3 then a3 else if j = k + 2 then a2 else if j = k + 1 then a1 else if j = k then a0 else u.2 13 j := rfl
theorem RW_snoc {rs : List Mr} {q : Mr} {a0 a1 a2 a3 a4 a5 : Int32} (h : RW rs u) (h0 : a0 = nI q.1) (h1 : a1 = nI q.2.1) (h2 : a2 = nI q.2.2.1) (h3 : a3 = nI q.2.2.2.1) (h4 : a4 = nI q.2.2.2.2.1) (h5 : a5 = nI q.2.2.2.2.2) : RW (rs ++ [q]) (sa (sa (sa (sa (sa (sa u 13 (rs.length * 6) a0) 13 (rs.length * 6 + 1) a1) 13 (rs.length * 6 + 2) a2) 13 (rs.length * 6 + 3) a3) 13 (rs.length * 6 + 4) a4) 13 (rs.length * 6 + 5) a5) := by
  intro j s hj
  rw [sa6, sa6, sa6, sa6, sa6, sa6]
  by_cases e : j < rs.length
  · rw [List.getElem?_append_left e] at hj
    have := h j s hj
    have g : ∀ t, t < 6 → (if j * 6 + t = rs.length * 6 + 5 then a5 else if j * 6 + t = rs.length * 6 + 4 then a4 else if j * 6 + t = rs.length * 6 + 3 then a3 else if j * 6 + t = rs.length * 6 + 2 then a2 else if j * 6 + t = rs.length * 6 + 1 then a1 else if j * 6 + t = rs.length * 6 then a0 else u.2 13 (j * 6 + t)) = u.2 13 (j * 6 + t) := fun t ht => by
      rw [if_neg (by omega), if_neg (by omega), if_neg (by omega), if_neg (by omega), if_neg (by omega), if_neg (by omega)]
    have g0 := g 0 (by decide)
    rw [Nat.add_zero] at g0
    rw [g0, g 1 (by decide), g 2 (by decide), g 3 (by decide), g 4 (by decide), g 5 (by decide)]
    exact this
  · by_cases e : j = rs.length
    · subst e
      rw [List.getElem?_append_right (Nat.le_refl _)] at hj
      simp at hj
      subst hj
      refine ⟨?_, ?_, ?_, ?_, ?_, ?_⟩
      · rw [if_neg (by omega), if_neg (by omega), if_neg (by omega), if_neg (by omega), if_neg (by omega), if_pos rfl]; exact h0
      · rw [if_neg (by omega), if_neg (by omega), if_neg (by omega), if_neg (by omega), if_pos rfl]; exact h1
      · rw [if_neg (by omega), if_neg (by omega), if_neg (by omega), if_pos rfl]; exact h2
      · rw [if_neg (by omega), if_neg (by omega), if_pos rfl]; exact h3
      · rw [if_neg (by omega), if_pos rfl]; exact h4
      · rw [if_pos rfl]; exact h5
    · rw [List.getElem?_eq_none (by simp; omega)] at hj
      cases hj
theorem RW_ko {rs : List Mr} {s t : List Nat} {v : St} (h : RW rs u) (hk : ko s t u v) (ht : 13 ∉ t) : RW rs v := fun j q e => by
  rw [hk.2 13 ht]
  exact h j q e
theorem TV_ko {tl : Tl} {s t : List Nat} {v : St} (h : TV tl u) (hk : ko s t u v) (ht : 12 ∉ t) : TV tl v := by
  unfold TV
  rw [hk.2 12 ht]
  exact h
theorem note_eq_o {f ty th : Nat} {cd : Cd} {co : Bool} {rs : List Mr} {tl : Tl} (hk : rs.length < 60) (hO : SO N i z u) (hP : PW_o F N c K B u) (h18 : u.1 18 = nI f) (h19 : u.1 19 = nI ty) (hty : isK c K ty 1 = true) (h20 : u.1 20 = nI th) (hD : co = true → CD cd u) (hD0 : co = false → cd = (0, 0, 0, 0, 0, 0)) (hR : RW rs u) (hT : TV tl u) : wp (f_G_noteMethod u (nI rs.length) (if co then 1 else 0)) (fun v => ko [] [12, 13] u v ∧ RW (rs ++ [(f, slT_o F B ty, cd.1, cd.2.1, cd.2.2.1, th)]) v ∧ TV (tl.1 + cd.2.2.1, tl.2.1 + cd.2.2.2.1, tl.2.2.1 + cd.2.2.2.2.1, tl.2.2.2 + cd.2.2.2.2.2) v) := by
  unfold f_G_noteMethod
  generalize hp : rs.length * 6 = p
  have e6 : nI rs.length * 6 = nI p := by rw [← hp]; exact nmul _ 6
  have gg : ∀ {β : Type} {j : Nat} {k : Option β}, j < 360 → gd (nI j) 360 k = k := fun h => gd_in h (by decide)
  have g4 : ∀ {β : Type} {k : Option β}, gd (4 : Int32) 9 k = k := gd_in (i := 4) (by decide) (by decide)
  have g5 : ∀ {β : Type} {k : Option β}, gd (5 : Int32) 9 k = k := gd_in (i := 5) (by decide) (by decide)
  have g6 : ∀ {β : Type} {k : Option β}, gd (6 : Int32) 9 k = k := gd_in (i := 6) (by decide) (by decide)
  have g7 : ∀ {β : Type} {k : Option β}, gd (7 : Int32) 9 k = k := gd_in (i := 7) (by decide) (by decide)
  have c4 : (4 : Int32).toNatClampNeg = 4 := rfl
  have c5 : (5 : Int32).toNatClampNeg = 5 := rfl
  have c6 : (6 : Int32).toNatClampNeg = 6 := rfl
  have c7 : (7 : Int32).toNatClampNeg = 7 := rfl
  rw [if_neg (nI_pos (by omega)), if_pos (show nI rs.length < 60 from nI_lt (b := 60) hk (by decide)), e6, nI_1, show nI p + 2 = nI (p + 2) from nI_add _ 2, show nI p + 3 = nI (p + 3) from nI_add _ 3, show nI p + 4 = nI (p + 4) from nI_add _ 4, show nI p + 5 = nI (p + 5) from nI_add _ 5, gg (by omega), bnd_s, ncl (by omega), ncl (by omega), ncl (by omega), ncl (by omega), ncl (by omega), ncl (by omega)]
  have hO1 : SO N i z (sa u 13 p (u.1 18)) := ⟨XO_ko (s := []) (t := [13]) hO.1 (ko_sa (by decide)) (by decide) (by decide), hO.2⟩
  have hP1 : PW_o F N c K B (sa u 13 p (u.1 18)) := PW_ko_o (s := []) (t := [13]) hP (ko_sa (by decide)) (by decide) (by decide)
  rw [show (sa u 13 p (u.1 18)).1 19 = nI ty from h19, hP1.meas hO1 hty, cI_s, gg (by omega), bnd_s, bnd_s, gg (by omega), bnd_s, bnd_s, gg (by omega), bnd_s, bnd_s, gg (by omega), bnd_s, gg (by omega), bnd_s]
  simp only [sa_g]
  have hR' : ∀ {a2 a3 a4 : Int32}, a2 = nI cd.1 → a3 = nI cd.2.1 → a4 = nI cd.2.2.1 → RW (rs ++ [(f, slT_o F B ty, cd.1, cd.2.1, cd.2.2.1, th)]) (sa (sa (sa (sa (sa (sa u 13 p (u.1 18)) 13 (p + 1) (nI (slT_o F B ty))) 13 (p + 2) a2) 13 (p + 3) a3) 13 (p + 4) a4) 13 (p + 5) (u.1 20)) := fun q2 q3 q4 => by
    rw [← hp]
    exact RW_snoc (q := (f, slT_o F B ty, cd.1, cd.2.1, cd.2.2.1, th)) hR h18 rfl q2 q3 q4 h20
  have kk : ∀ {a2 a3 a4 : Int32}, ko [] [12, 13] u (sa (sa (sa (sa (sa (sa u 13 p (u.1 18)) 13 (p + 1) (nI (slT_o F B ty))) 13 (p + 2) a2) 13 (p + 3) a3) 13 (p + 4) a4) 13 (p + 5) (u.1 20)) := ko_tr (ko_sa (by decide)) (ko_tr (ko_sa (by decide)) (ko_tr (ko_sa (by decide)) (ko_tr (ko_sa (by decide)) (ko_tr (ko_sa (by decide)) (ko_sa (by decide))))))
  cases co with
  | false =>
    have h0 := hD0 rfl
    rw [h0] at hR' ⊢
    rw [show (if false = true then (1 : Int32) else 0) = 0 from rfl]
    simp only [if_pos (show (0 : Int32) = 0 from rfl), cT_s]
    exact wp_some ⟨kk, hR' rfl rfl rfl, hT⟩
  | true =>
    obtain ⟨d1, d2, d3, d4, d5, d6⟩ := hD rfl
    obtain ⟨t1, t2, t3, t4⟩ := hT
    rw [show (if true = true then (1 : Int32) else 0) = 1 from rfl]
    simp only [if_neg (show ¬ (1 : Int32) = 0 by decide), g4, g5, g6, g7, c4, c5, c6, c7, bnd_s, cT_s, d1, d2, d3, d4, d5, d6]
    have r6 := hR' rfl rfl rfl
    have k6 := @kk (nI cd.1) (nI cd.2.1) (nI cd.2.2.1)
    have s12 : (sa (sa (sa (sa (sa (sa u 13 p (u.1 18)) 13 (p + 1) (nI (slT_o F B ty))) 13 (p + 2) (nI cd.1)) 13 (p + 3) (nI cd.2.1)) 13 (p + 4) (nI cd.2.2.1)) 13 (p + 5) (u.1 20)).2 12 = u.2 12 := rfl
    have s1 : (sa (sa (sa (sa (sa (sa u 13 p (u.1 18)) 13 (p + 1) (nI (slT_o F B ty))) 13 (p + 2) (nI cd.1)) 13 (p + 3) (nI cd.2.1)) 13 (p + 4) (nI cd.2.2.1)) 13 (p + 5) (u.1 20)).1 = u.1 := rfl
    generalize (sa (sa (sa (sa (sa (sa u 13 p (u.1 18)) 13 (p + 1) (nI (slT_o F B ty))) 13 (p + 2) (nI cd.1)) 13 (p + 3) (nI cd.2.1)) 13 (p + 4) (nI cd.2.2.1)) 13 (p + 5) (u.1 20)) = v at r6 k6 s12 s1 ⊢
    refine wp_some ⟨?_, ?_, ?_, ?_, ?_, ?_⟩
    · exact ko_tr k6 (ko_tr (ko_sa (by decide)) (ko_tr (ko_sa (by decide)) (ko_tr (ko_sa (by decide)) (ko_sa (by decide)))))
    · exact r6
    · show v.2 12 4 + _ = _
      rw [s12, t1]
      first | exact nI_add _ _ | (simp only [sa_g, s1, d3]; exact nI_add _ _)
    · show v.2 12 5 + _ = _
      rw [s12, t2]
      first | exact nI_add _ _ | (simp only [sa_g, s1, d4]; exact nI_add _ _)
    · show v.2 12 6 + _ = _
      rw [s12, t3]
      first | exact nI_add _ _ | (simp only [sa_g, s1, d5]; exact nI_add _ _)
    · show v.2 12 7 + _ = _
      rw [s12, t4]
      first | exact nI_add _ _ | (simp only [sa_g, s1, d6]; exact nI_add _ _)
theorem due20 : ∀ sn : Fin 16, (nI sn.val &&& 2 = 2 ↔ decide (sn.val &&& 2 ≠ 0) = true) ∧ ((if nI sn.val &&& 2 = 0 then (0 : Int32) else 1) = if decide (sn.val &&& 2 ≠ 0) = true then 1 else 0) := by decide +kernel
theorem mthL_eq_o {nm : Nat} {x1 x2 : Int32} (hnm : nm ≤ 60) (hcf : cf < 65536) (hv : ver < 65536) : ∀ (m : Nat) (l : List (Nat × Nat)) (rs : List Mr) (tl : Tl) (g i : Nat) (u : St), l.length + m = nm → m < g → rs.length = l.length → SO N i z u → PW_o F N c K B u → u.1 16 = nI cf → u.1 15 = nI ver → ML l u → MK c K l → RW rs u → TV tl u → wp (f_G_passes_L140 x1 x2 (nI nm) g u (nI l.length)) (XQ N z (sMths_o F N c K B cf ver m l rs tl i) (fun q v => ko [1, 7, 8, 9, 10, 11, 12, 13, 14, 17, 18, 19, 20] [9, 10, 11, 12, 13, 14, 15] u v ∧ RW q.1 v ∧ q.1.length = nm ∧ TV q.2 v))
  | 0, l, rs, tl, g + 1, i, u, h1, _, hrl, hO, hP, h16, h15, hl, hk, hR, hT => by
    rw [f_G_passes_L140, if_pos (nI_le (by omega) (by omega))]
    exact wp_some ⟨hO, ko_rf, hR, by show rs.length = nm; omega, hT⟩
  | m + 1, l, rs, tl, g + 1, i, u, h1, h2, hrl, hO, hP, h16, h15, hl, hk, hR, hT => by
    have hk60 : l.length < 60 := by omega
    rw [f_G_passes_L140, if_neg (nI_ge (by omega) (by omega)), snd_o hO.1, cI_s, if_neg (by decide), nI_1, sMths_o]
    refine wq_pa ?_
    refine wq_V (method_eq_o hO hP h16 hcf (by omega) hl hk) ?_ ?_
    · rintro ⟨f, nm', ty⟩ j v hp hOv ⟨⟨m1, m2, m3, kv, m4, m5, m6, m7⟩, m8⟩
      dsimp only at m1 m2 m3 m4 m5 m6 m7 ⊢
      have hPv := PW_ko_o hP kv (by decide) (by decide)
      refine wp_bnd (wp_bnd ?_)
      have ea : (if v.1 18 &&& 1024 = 0 then (2 : Int32) else 0) = nI (if f &&& 1024 = 0 then 2 else 0) := by
        rw [m4]
        by_cases d : f &&& 1024 = 0
        · rw [if_pos ((mskL m1).mpr d), if_pos d]; rfl
        · rw [if_neg (fun q => d ((mskL m1).mp q)), if_neg d]; rfl
      rw [ea, show (4 : Int32) = nI 4 from rfl, nor]
      have hO1 : SO N j z (sv v 20 0) := SO_sv hOv (by decide)
      have hP1 : PW_o F N c K B (sv v 20 0) := hPv.sv (by decide)
      have k1 : ko [20] [] v (sv v 20 0) := ko_sv (by decide)
      have e20 : (sv v 20 0).1 20 = nI 0 := rfl
      generalize sv v 20 0 = v1 at hO1 hP1 k1 e20 ⊢
      have hdl : ((if f &&& 1024 = 0 then 2 else 0) ||| 4) < 16 ∧ ((if f &&& 1024 = 0 then 2 else 0) ||| 4) ≠ 8 := by split <;> decide
      refine wq_I (atts_eq_o (f := f) (ty := ty) (tq := true) hdl.1 hv hO1 hP1 ((k1.1 15 (by decide)).trans ((kv.1 15 (by decide)).trans h15)) (fun _ => ⟨(k1.1 18 (by decide)).trans m4, m1, (k1.1 19 (by decide)).trans m5, m3⟩) (fun _ => e20)) ?_ ?_
      · rintro ⟨sn, th, cd⟩ j2 x v2 - hO2 ⟨hx, hsn, k2, hT2, hD2⟩
        dsimp only at hx hsn hT2 hD2 ⊢
        subst hx
        obtain ⟨du1, du2⟩ := due20 ⟨sn, hsn⟩
        dsimp only at du1 du2
        have gk7 : ∀ k, k = 17 ∨ k = 18 ∨ k = 19 → v2.1 k = v.1 k := fun k hk => by
          rw [k2.1 k (by simp; omega), k1.1 k (by simp; omega)]
        refine wp_bnd ?_
        refine wq_need hO2 rfl (show v2.1 17 = nI i by rw [gk7 17 (by decide)]; exact m6) (by decide) ?_ (fun _ => ?_) (fun u h => ?_)
        · by_cases d : f &&& 1024 = 0
          · rw [if_pos d, decide_eq_false (fun q => q d), Bool.false_or]
            exact i10 du1
          · rw [if_neg d, decide_eq_true d, Bool.true_or, if_pos (show nI sn &&& nI 0 = nI 0 by rw [nand, Nat.and_zero])]
            exact ⟨fun q => absurd q (by decide), fun q => by cases q⟩
        · refine wp_bnd ?_
          rw [du2]
          have hR2 : RW rs v2 := RW_ko (RW_ko (RW_ko hR kv (by decide)) k1 (by decide)) k2 (by decide)
          have hTv : TV tl v2 := TV_ko (TV_ko (TV_ko hT kv (by decide)) k1 (by decide)) k2 (by decide)
          have hP2 := PW_ko_o hP1 k2 (by decide) (by decide)
          have nt := note_eq_o (f := f) (ty := ty) (th := th) (cd := cd) (co := decide (sn &&& 2 ≠ 0)) (tl := tl) (by omega) hO2 hP2 ((gk7 18 (by decide)).trans m4) ((gk7 19 (by decide)).trans m5) m3 (hT2 rfl) (fun q => hD2.2 (of_decide_eq_true q)) (fun q => hD2.1 (by
            have := of_decide_eq_false q
            omega)) hR2 hTv
          rw [hrl] at nt
          refine wp_cV (wp_mono nt fun v3 h3 => ?_)
          obtain ⟨k3, hR3, hT3⟩ := h3
          have hO3 : SO N j2 z v3 := SO_ko hO2 k3 (by decide) (by decide) (by rw [k3.1 11 (by decide)]; exact hO2.2.1)
          have ih := mthL_eq_o (x1 := x1) (x2 := x2) hnm hcf hv m (l ++ [(nm', ty)]) _ _ g j2 v3 (by simp; omega) (by omega) (by rw [List.length_append, List.length_append, hrl]; rfl) hO3 (PW_ko_o hP2 k3 (by decide) (by decide)) ((k3.1 16 (by decide)).trans ((k2.1 16 (by decide)).trans ((k1.1 16 (by decide)).trans ((kv.1 16 (by decide)).trans h16)))) ((k3.1 15 (by decide)).trans ((k2.1 15 (by decide)).trans ((k1.1 15 (by decide)).trans ((kv.1 15 (by decide)).trans h15)))) (ML_ko (ML_ko (ML_ko m7 k1 (by decide)) k2 (by decide)) k3 (by decide)) (MK_snoc hk m2 m3) hR3 hT3
          rw [List.length_append] at ih
          refine wp_mono ih fun y hy => XP_mono hy ?_
          rintro q ⟨q1, q2⟩
          refine ⟨?_, q2⟩
          exact ko_tr (ko_mono kv (fun k h => by simp at h ⊢; omega) (fun k h => by simp at h ⊢; omega)) (ko_tr (ko_mono k1 (fun k h => by simp at h ⊢; omega) (fun k h => by simp at h)) (ko_tr (ko_mono k2 (fun k h => by simp at h ⊢; omega) (fun k h => by simp at h ⊢; omega)) (ko_tr (ko_mono k3 (fun k h => by simp at h) (fun k h => by simp at h ⊢; omega)) q1)))
        · refine wp_bnd (wp_cV_b (b_noteMethod hk60 h) (fun _ h => ?_))
          exact b_L140 h g (by omega)
      · intro r w x u h
        refine wp_bnd (wp_cV_b (b_need h) (fun _ h => wp_bnd (wp_cV_b (b_noteMethod hk60 h) (fun _ h => ?_))))
        exact b_L140 h g (by omega)
    · intro r w u h
      refine wp_bnd (wp_bnd_sv (by decide) h (fun _ h => wp_cI_b (b_readAttributes h) (fun _ _ h => wp_bnd (wp_cV_b (b_need h) (fun _ h => wp_bnd (wp_cV_b (b_noteMethod hk60 h) (fun _ h => ?_)))))))
      exact b_L140 h g (by omega)
theorem ccL_eq : ∀ (m k g : Nat) (u : St), k + m = 8 → m < g → ∃ v, f_G_clearCodeTallies_L2 g u (nI k) = some v ∧ ko [] [12] u v ∧ (∀ j, k ≤ j → j < 8 → v.2 12 j = 0) ∧ ∀ j, j < k → v.2 12 j = u.2 12 j
  | 0, k, g + 1, u, h1, _ => by
    refine ⟨u, ?_, ko_rf, fun j a b => by omega, fun _ _ => rfl⟩
    rw [f_G_clearCodeTallies_L2, if_pos (show (7 : Int32) < nI k from nI_lt (a := 7) (by omega) (by omega))]
  | m + 1, k, g + 1, u, h1, h2 => by
    obtain ⟨v, e1, e2, e3, e4⟩ := ccL_eq m (k + 1) g (sa u 12 k 0) (by omega) (by omega)
    refine ⟨v, ?_, ko_tr (ko_sa (by decide)) e2, fun j a b => ?_, fun j a => ?_⟩
    · rw [f_G_clearCodeTallies_L2, if_neg (show ¬ (7 : Int32) < nI k from nI_nlt (a := 7) (by omega) (by omega)), gd_in (by omega) (by decide), bnd_s, ncl (by omega), nI_1]
      exact e1
    · by_cases e : j = k
      · rw [e4 j (by omega), sa_a, if_pos rfl, upd, if_pos e]
      · exact e3 j (by omega) b
    · rw [e4 j (by omega), sa_ne (by omega)]
theorem clearT_eq : ∃ v, f_G_clearCodeTallies u = some v ∧ ko [] [12] u v ∧ TV (0, 0, 0, 0) v := by
  obtain ⟨v, e1, e2, e3, -⟩ := ccL_eq 4 4 FU u (by omega) (by unfold FU; omega)
  refine ⟨v, ?_, e2, e3 4 (by omega) (by omega), e3 5 (by omega) (by omega), e3 6 (by omega) (by omega), e3 7 (by omega) (by omega)⟩
  unfold f_G_clearCodeTallies
  have e1' : f_G_clearCodeTallies_L2 FU u 4 = some v := e1
  rw [e1', cT_s]
/-- the report, in the class -/
def RX (q : Rp) (v : St) : Prop := v.2 12 0 = nI q.1 ∧ q.1 ≤ 300 ∧ (∀ t, 1 ≤ t → t < q.1 → v.2 4 t = nI (q.2.1 t)) ∧ v.2 12 1 = nI q.2.2.1 ∧ v.2 12 2 = nI q.2.2.2.1 ∧ v.2 12 3 = nI q.2.2.2.2.1 ∧ TV q.2.2.2.2.2.1 v ∧ v.2 12 8 = nI q.2.2.2.2.2.2.1 ∧ RW q.2.2.2.2.2.2.2 v ∧ q.2.2.2.2.2.2.2.length = q.2.2.2.2.1 ∧ q.2.2.2.2.1 ≤ 60
/-- the answer agrees with the state -/
def sG (p : Int32 × St) : St := if p.1 = (if p.2.1 2 = 0 then 1 else 0) then p.2 else (fun _ => 0, fun _ _ => 0)
theorem sG_b (h : SB N r w z u) : SB N r w z (sG (0, u)) := by
  unfold sG
  rw [if_neg (show ¬ (0, u).2.1 2 = 0 from XB_ne h.1), if_pos rfl]
  exact h
theorem sG_o (h : SO N i z u) : sG (1, u) = u := by
  unfold sG
  rw [if_pos (show (1, u).2.1 2 = 0 from h.1.2.2.2.1), if_pos rfl]
theorem sG_B {p : Int32 × St} (h : SB N r w z (sG p)) : p.1 = 0 ∧ SB N r w z p.2 := by
  unfold sG at h
  by_cases e : p.1 = (if p.2.1 2 = 0 then 1 else 0)
  · rw [if_pos e] at h
    rw [if_neg (XB_ne h.1)] at e
    exact ⟨e, h⟩
  · rw [if_neg e] at h
    exact absurd rfl (XB_ne h.1)
theorem pass_end {x1 x2 x3 : Int32} (h : SB N r w z u) : wp (gd 0 9 (bnd (sa u 12 (0 : Int32).toNatClampNeg (u.1 6)) fun u67 => gd 1 9 (bnd (sa u67 12 (1 : Int32).toNatClampNeg x1) fun u68 => gd 2 9 (bnd (sa u68 12 (2 : Int32).toNatClampNeg x2) fun u69 => gd 3 9 (bnd (sa u69 12 (3 : Int32).toNatClampNeg x3) fun u70 => gd 8 9 (bnd (sa u70 12 (8 : Int32).toNatClampNeg (u70.1 16)) fun u71 => cI (f_W_sound u71) fun r74 u72 => gb r74 (some (r74, u72)))))))) (fun p => SB N r w z (sG p)) := by
  refine wp_gd (by decide) (wp_bnd_sa (by decide) h (fun _ h => wp_gd (by decide) (wp_bnd_sa (by decide) h (fun _ h => wp_gd (by decide) (wp_bnd_sa (by decide) h (fun _ h => wp_gd (by decide) (wp_bnd_sa (by decide) h (fun _ h => wp_gd (by decide) (wp_bnd_sa (by decide) h (fun _ h => b_sound0 h ?_))))))))))
  rw [gb_0]
  exact wp_some (sG_b h)
theorem passes_eq_o (hN : N ≤ 4000) (h0 : u.1 0 = nI N) (hb : bn (u.2 0)) (hF : xF u = F) (hz : kp z u) : wp (f_G_passes u) (XP N z sG (sGo_o F N 0) (fun q p => p.1 = 1 ∧ RX q p.2)) := by
  unfold f_G_passes sGo_o f_W_begin
  rw [bnd_s, bnd_s, bnd_s, cV_s]
  have hO0 : SO N 0 z (sv (sv (sv u 1 0) 2 0) 3 0) := ⟨⟨hN, h0, hb, rfl, rfl, Nat.zero_le _⟩, hz⟩
  have hF0 : xF (sv (sv (sv u 1 0) 2 0) 3 0) = F := hF
  generalize sv (sv (sv u 1 0) 2 0) 3 0 = u0 at hO0 hF0 ⊢
  refine wq_head hO0 hF0 ?_ ?_
  · intro ver j1 v1 hver hO1 k1 e15
    have hF1 : xF v1 = F := (ko_F k1 (by decide)).trans hF0
    refine pool_W_o hO1 hF1 ?_ ?_
    · intro c K B j2 v2 hO2 hP2 k2 hc1
      dsimp only
      refine wq_class_o hO2 hP2 ?_ ?_
      · intro cf j3 v3 hcf hO3 k3 e16
        have hP3 := PW_ko_o hP2 k3 (by decide) (by decide)
        have f15 : v3.1 15 = nI ver := (k3.1 15 (by decide)).trans ((k2.1 15 (by decide)).trans e15)
        refine wq_cnt (m := 20) rfl (by decide) hO3 hP3.1 ?_ ?_
        · intro ni hni hi4
          have hO4 := SO_at hO3 hi4
          have k4 : ko [1] [] v3 (sv v3 1 (nI (j3 + 2))) := ko_sv (by decide)
          generalize sv v3 1 (nI (j3 + 2)) = v4 at hO4 k4 ⊢
          have hP4 := PW_ko_o hP3 k4 (by decide) (by decide)
          have fe := fac_eq_o (z := z) hni ni [] FU (j3 + 2) v4 (by simp) (by unfold FU; omega) hO4 hP4 (fun j t h => by cases h) (fun s h => by cases h)
          have fe' : wp (f_G_passes_L45 (nI ni) FU v4 0) _ := fe
          refine wq_T fe' ?_ ?_
          · rintro _ j5 v5 - hO5 k5
            have hP5 := PW_ko_o hP4 k5 (by decide) (by decide)
            refine wq_cnt (m := 60) rfl (by decide) hO5 hP5.1 ?_ ?_
            · intro nf hnf hi6
              have hO6 := SO_at hO5 hi6
              have k6 : ko [1] [] v5 (sv v5 1 (nI (j5 + 2))) := ko_sv (by decide)
              generalize sv v5 1 (nI (j5 + 2)) = v6 at hO6 k6 ⊢
              have hP6 := PW_ko_o hP5 k6 (by decide) (by decide)
              have f16 : v6.1 16 = nI cf := (k6.1 16 (by decide)).trans ((k5.1 16 (by decide)).trans ((k4.1 16 (by decide)).trans e16))
              have g15 : v6.1 15 = nI ver := (k6.1 15 (by decide)).trans ((k5.1 15 (by decide)).trans ((k4.1 15 (by decide)).trans f15))
              have fl := fldL_eq_o (z := z) (x1 := nI ni) hnf hcf hver nf [] FU (j5 + 2) v6 (by simp) (by unfold FU; omega) hO6 hP6 f16 g15 (fun j q h => by cases h) (fun q h => by cases h)
              have fl' : wp (f_G_passes_L80 (nI ni) (nI nf) FU v6 0) _ := fl
              refine wq_T fl' ?_ ?_
              · rintro _ j7 v7 - hO7 k7
                have hP7 := PW_ko_o hP6 k7 (by decide) (by decide)
                obtain ⟨v8, e8, k8, t8⟩ := clearT_eq (u := v7)
                rw [e8, cV_s]
                have hO8 : SO N j7 z v8 := SO_ko hO7 k8 (by decide) (by decide) (by rw [k8.1 11 (by decide)]; exact hO7.2.1)
                have hP8 := PW_ko_o hP7 k8 (by decide) (by decide)
                refine wq_cnt (m := 60) rfl (by decide) hO8 hP8.1 ?_ ?_
                · intro nm hnm hi9
                  have hO9 := SO_at hO8 hi9
                  have k9 : ko [1] [] v8 (sv v8 1 (nI (j7 + 2))) := ko_sv (by decide)
                  generalize sv v8 1 (nI (j7 + 2)) = v9 at hO9 k9 ⊢
                  have hP9 := PW_ko_o hP8 k9 (by decide) (by decide)
                  have f16' : v9.1 16 = nI cf := (k9.1 16 (by decide)).trans ((k8.1 16 (by decide)).trans ((k7.1 16 (by decide)).trans f16))
                  have g15' : v9.1 15 = nI ver := (k9.1 15 (by decide)).trans ((k8.1 15 (by decide)).trans ((k7.1 15 (by decide)).trans g15))
                  have ml := mthL_eq_o (z := z) (x1 := nI ni) (x2 := nI nf) hnm hcf hver nm [] [] (0, 0, 0, 0) FU (j7 + 2) v9 (by simp) (by unfold FU; omega) rfl hO9 hP9 f16' g15' (fun j q h => by cases h) (fun q h => by cases h) (fun j q h => by cases h) (TV_ko t8 k9 (by decide))
                  have ml' : wp (f_G_passes_L140 (nI ni) (nI nf) (nI nm) FU v9 0) _ := ml
                  refine wq_T ml' ?_ ?_
                  · rintro ⟨rs, tl⟩ j10 v10 - hO10 ⟨k10, hR10, hlen, hT10⟩
                    dsimp only at hR10 hlen hT10 ⊢
                    have hP10 := PW_ko_o hP9 k10 (by decide) (by decide)
                    have at8 := atts_eq_o (al := 8) (f := 0) (ty := 0) (tq := false) (by decide) hver hO10 hP10 ((k10.1 15 (by decide)).trans g15') (fun q => absurd rfl q) (fun q => by cases q)
                    have at8' : wp (f_G_readAttributes v10 8) _ := at8
                    refine wq_I at8' ?_ ?_
                    · rintro a j11 x v11 - hO11 ⟨-, -, k11, -, -⟩
                      have hP11 := PW_ko_o hP10 k11 (by decide) (by decide)
                      have hj := hO11.1.2.2.2.2.2
                      refine wq_pa ?_
                      refine wp_bnd ?_
                      refine wq_need hO11 rfl hO11.1.2.2.2.2.1 (by decide) (i10 ?_) (fun _ => ?_) (fun u h => ?_)
                      · rw [hO11.1.2.2.2.2.1, hO11.1.2.1, nI_eq (by omega) (by omega), decide_eq_true_eq]
                      · rw [hP11.2.1]
                        have hR11 := RW_ko hR10 k11 (by decide)
                        have hT11 := TV_ko hT10 k11 (by decide)
                        have h16' : v11.1 16 = nI cf := (k11.1 16 (by decide)).trans ((k10.1 16 (by decide)).trans f16')
                        have hK : ∀ t, 1 ≤ t → t < c → v11.2 4 t = nI (K t) := fun t a b => (hP11.2.2.2.1 t a b).1
                        refine wp_gd (by decide) (wp_bnd (wp_gd (by decide) (wp_bnd (wp_gd (by decide) (wp_bnd (wp_gd (by decide) (wp_bnd (wp_gd (by decide) (wp_bnd ?_)))))))))
                        have kf : ko [] [12] v11 (sa (sa (sa (sa (sa v11 12 (0 : Int32).toNatClampNeg (nI c)) 12 (1 : Int32).toNatClampNeg (nI ni)) 12 (2 : Int32).toNatClampNeg (nI nf)) 12 (3 : Int32).toNatClampNeg (nI nm)) 12 (8 : Int32).toNatClampNeg ((sa (sa (sa (sa v11 12 (0 : Int32).toNatClampNeg (nI c)) 12 (1 : Int32).toNatClampNeg (nI ni)) 12 (2 : Int32).toNatClampNeg (nI nf)) 12 (3 : Int32).toNatClampNeg (nI nm)).1 16)) := ko_tr (ko_sa (by decide)) (ko_tr (ko_sa (by decide)) (ko_tr (ko_sa (by decide)) (ko_tr (ko_sa (by decide)) (ko_sa (by decide)))))
                        have hOf := SO_ko hO11 kf (by decide) (by decide) (by rw [kf.1 11 (by decide)]; exact hO11.2.1)
                        rw [snd_o hOf.1, cI_s, gb_1]
                        refine wp_some ⟨by rw [sG_o hOf]; exact hOf, rfl, rfl, hP11.2.2.1, fun t a b => hK t a b, rfl, rfl, rfl, hT11, h16', hR11, hlen, hnm⟩
                      · exact pass_end h
                    · intro r w x u h
                      refine wp_bnd (wp_cV_b (b_need h) (fun _ h => pass_end h))
                  · intro r w u h
                    refine wp_cI_b (b_readAttributes h) (fun _ _ h => wp_bnd (wp_cV_b (b_need h) (fun _ h => pass_end h)))
                · intro r w u h
                  refine wp_cT_b (b_L140 h FU (by decide)) (fun _ h => wp_cI_b (b_readAttributes h) (fun _ _ h => wp_bnd (wp_cV_b (b_need h) (fun _ h => pass_end h))))
              · intro r w u h
                refine wp_cV_b (b_clearCodeTallies h) (fun _ h => b_readCount h (wp_cT_b (b_L140 h FU (by decide)) (fun _ h => wp_cI_b (b_readAttributes h) (fun _ _ h => wp_bnd (wp_cV_b (b_need h) (fun _ h => pass_end h))))))
            · intro r w u h
              refine wp_cT_b (b_L80 h FU (by decide)) (fun _ h => wp_cV_b (b_clearCodeTallies h) (fun _ h => b_readCount h (wp_cT_b (b_L140 h FU (by decide)) (fun _ h => wp_cI_b (b_readAttributes h) (fun _ _ h => wp_bnd (wp_cV_b (b_need h) (fun _ h => pass_end h)))))))
          · intro r w u h
            refine b_readCount h (wp_cT_b (b_L80 h FU (by decide)) (fun _ h => wp_cV_b (b_clearCodeTallies h) (fun _ h => b_readCount h (wp_cT_b (b_L140 h FU (by decide)) (fun _ h => wp_cI_b (b_readAttributes h) (fun _ _ h => wp_bnd (wp_cV_b (b_need h) (fun _ h => pass_end h))))))))
        · intro r w u h
          refine wp_cT_b (b_L45 h FU (by decide)) (fun _ h => b_readCount h (wp_cT_b (b_L80 h FU (by decide)) (fun _ h => wp_cV_b (b_clearCodeTallies h) (fun _ h => b_readCount h (wp_cT_b (b_L140 h FU (by decide)) (fun _ h => wp_cI_b (b_readAttributes h) (fun _ _ h => wp_bnd (wp_cV_b (b_need h) (fun _ h => pass_end h)))))))))
      · intro r w u h
        refine b_readCount h (wp_cT_b (b_L45 h FU (by decide)) (fun _ h => b_readCount h (wp_cT_b (b_L80 h FU (by decide)) (fun _ h => wp_cV_b (b_clearCodeTallies h) (fun _ h => b_readCount h (wp_cT_b (b_L140 h FU (by decide)) (fun _ h => wp_cI_b (b_readAttributes h) (fun _ _ h => wp_bnd (wp_cV_b (b_need h) (fun _ h => pass_end h))))))))))
    · intro r w u h
      refine wp_cV_b (b_readClass h) (fun _ h => b_readCount h (wp_cT_b (b_L45 h FU (by decide)) (fun _ h => b_readCount h (wp_cT_b (b_L80 h FU (by decide)) (fun _ h => wp_cV_b (b_clearCodeTallies h) (fun _ h => b_readCount h (wp_cT_b (b_L140 h FU (by decide)) (fun _ h => wp_cI_b (b_readAttributes h) (fun _ _ h => wp_bnd (wp_cV_b (b_need h) (fun _ h => pass_end h)))))))))))
  · intro r w u h
    refine wp_cV_b (b_readEntries h) (fun _ h => wp_cV_b (b_noteTexts h) (fun _ h => wp_cV_b (b_readLinks h) (fun _ h => wp_cV_b (b_readClass h) (fun _ h => b_readCount h (wp_cT_b (b_L45 h FU (by decide)) (fun _ h => b_readCount h (wp_cT_b (b_L80 h FU (by decide)) (fun _ h => wp_cV_b (b_clearCodeTallies h) (fun _ h => b_readCount h (wp_cT_b (b_L140 h FU (by decide)) (fun _ h => wp_cI_b (b_readAttributes h) (fun _ _ h => wp_bnd (wp_cV_b (b_need h) (fun _ h => pass_end h))))))))))))))
end GO

/-! THE REFERENCE: ATTRIBUTES -/
section MAT
variable {F : Nat → Nat} {N c i r w ver : Nat} {K B : Nat → Nat} {z u : St} {β : Type}
theorem pb_pn {b : Bool} {r w : Nat} : pb (pn b r w) (fun _ => pp ()) = pn b r w := by
  funext i
  unfold pb pn
  cases b <;> rfl
theorem thL_m {n : Nat} {x1 : Int32} (hn : n < 65536) : ∀ (m j g i : Nat) (u : St), j + m = n → m < g → RO N i z u → MW F N c K B u → wp (f_M_thrown_L7 x1 (nI n) g u (nI j)) (RQ N z (sTk F N c K m i) (fun _ v => ko [2] [] u v))
  | 0, j, g + 1, i, u, h1, _, hO, hW => by
    rw [f_M_thrown_L7, if_pos (nI_le (by omega) (by omega))]
    exact wp_some ⟨hO, ko_rf⟩
  | m + 1, j, g + 1, i, u, h1, h2, hO, hW => by
    rw [f_M_thrown_L7, if_neg (nI_ge (by omega) (by omega)), ok_o hO, cI_s, if_neg (by decide), nI_1, sTk]
    refine mq_num hO hW rfl (by decide) (fun t ht hi => ?_) (fun r w x v h => ?_)
    · have k1 : ko [2] [] u (sv u 2 (nI (i + 2))) := ko_sv (by decide)
      exact wp_mono (thL_m hn m (j + 1) g (i + 2) _ (by omega) (by omega) (RO_at hO hi) (MW_ko hW k1 (by decide) (by decide))) fun x hx => MP_mono hx fun _ q => ko_tr k1 q
    · cases g with
      | zero => omega
      | succ g =>
        rw [f_M_thrown_L7]
        refine wp_ite (fun _ => wp_some h) (fun _ => ?_)
        rw [ok_b h, cI_s, if_pos rfl]
        exact wp_some h
theorem th_m {k : Nat} (hk : k < 60) (hO : RO N i z u) (hW : MW F N c K B u) : wp (f_M_thrown u (nI k)) (RQ N z (sExc F N c K i) (fun n v => ko [2] [3] u v ∧ v.2 3 (6 * k + 5) = nI n ∧ ∀ j, j ≠ 6 * k + 5 → v.2 3 j = u.2 3 j)) := by
  unfold f_M_thrown sExc
  have e6 : (6 : Int32) * nI k = nI (6 * k) := nmul 6 k
  rw [e6, show nI (6 * k) + 5 = nI (6 * k + 5) from nI_add _ 5]
  have L0 : ∀ {r w : Nat} {v : St} {x : Int32}, RB N r w z v → wp (cT (f_M_thrown_L7 (nI k) x FU v 0) fun (u10 : St) => gd (nI (6 * k + 5)) 360 (bnd (sa u10 3 (nI (6 * k + 5)).toNatClampNeg x) fun u11 => some u11)) (fun v => RB N r w z v) := fun h => by
    rw [show FU = 69999 + 1 from rfl, f_M_thrown_L7]
    refine wp_cT (wp_ite (fun _ => wp_some ?_) (fun _ => ?_))
    · rw [gd_in (by omega) (by decide), bnd_s]
      exact wp_some (RB_sa (by decide) h)
    · rw [ok_b h, cI_s, if_pos rfl]
      refine wp_some ?_
      rw [gd_in (by omega) (by decide), bnd_s]
      exact wp_some (RB_sa (by decide) h)
  refine mq_u2 hO hW.1 (fun hi => ?_) (fun x v h => L0 h)
  have hn' : be F i 2 < 65536 := hW.n2 i
  have k1 : ko [2] [] u (sv u 2 (nI (i + 2))) := ko_sv (by decide)
  have hO1 := RO_at (j := i + 2) hO hi
  generalize sv u 2 (nI (i + 2)) = v at k1 hO1 ⊢
  generalize be F i 2 = n at hn' ⊢
  have tl := thL_m (z := z) (x1 := nI k) hn' n 0 FU (i + 2) v (by omega) (by unfold FU; omega) hO1 (MW_ko hW k1 (by decide) (by decide))
  have tl' : wp (f_M_thrown_L7 (nI k) (nI n) FU v 0) _ := tl
  refine mq_T tl' ?_ ?_
  · intro a j v2 hp hO2 k2
    rw [gd_in (by omega) (by decide), bnd_s, ncl (by omega)]
    refine wp_some ⟨RO_ko (s := []) (t := [3]) hO2 (ko_sa (by decide)) (by decide) (by decide), ?_, ?_, ?_⟩
    · exact ko_tr (ko_mono k1 (fun _ h => h) (fun _ h => by cases h)) (ko_tr (ko_mono k2 (fun _ h => h) (fun _ h => by cases h)) (ko_sa (by decide)))
    · rw [sa_a, if_pos rfl, upd, if_pos rfl]
    · intro j hj
      rw [sa_ne hj, k2.2 3 (by decide), k1.2 3 (by decide)]
  · intro r w v2 h
    rw [gd_in (by omega) (by decide), bnd_s]
    exact wp_some (RB_sa (by decide) h)
/-! a constant's value -/
theorem fd1 {t : Nat} (h1 : tn F B t = 1) (hs : (fdT F B t).isSome = true) : smp (F (ta B t)) = true := by
  unfold fdT at hs
  rw [h1] at hs
  cases hty : tyE F 1 (ta B t) with
  | none => rw [hty] at hs; cases hs
  | some q =>
    unfold tyE at hty
    split at hty
    · cases hty
    · rename_i hb
      have hb0 : br F 1 (ta B t) = 0 := by omega
      rw [hb0, Nat.add_zero] at hty
      split at hty
      · rename_i h76
        have e : scn F (1 - 0) (ta B t) = 1 := by
          show scn F 1 (ta B t) = 1
          rw [scn, if_neg (by rw [h76]; decide), scn]
        rw [e] at hty
        split at hty
        · cases hty
        · rename_i q
          exact absurd (Nat.le_refl 1) q
      · split at hty
        · assumption
        · cases hty
theorem w7_i {t : Nat} : wT F B 7 t = true ↔ tn F B t = 1 ∧ F (ta B t) = 74 := by
  unfold wT isW
  rw [Bool.and_eq_true, beq_iff_eq]
  constructor
  · rintro ⟨h1, h2⟩
    have e1 : tn F B t = 1 := h1
    refine ⟨e1, ?_⟩
    rw [e1] at h2
    have h2' : ((F (ta B t) == 74) && true) = true := h2
    rw [Bool.and_true, beq_iff_eq] at h2'
    exact h2'
  · rintro ⟨h1, h2⟩
    refine ⟨h1, ?_⟩
    rw [h1]
    show ((F (ta B t) == 74) && true) = true
    rw [Bool.and_true, beq_iff_eq]
    exact h2
theorem w8_l {t j : Nat} (h : wT F B j t = true) : tn F B t = lnS j := by
  unfold wT isW at h
  rw [Bool.and_eq_true, beq_iff_eq] at h
  exact h.1
theorem kind_neg (h : MW F N c K B u) {t : Nat} (ht : t < 65536) : f_M_isKind u (nI t) (-1) = some (0, u) := by
  obtain ⟨h1, h2, h3, h4, h5, h6⟩ := h
  unfold f_M_isKind
  rw [h2]
  by_cases d0 : t ≤ 0
  · rw [if_pos (show nI t ≤ 0 from (nI_leI (b := 0) (by omega) (by decide)).mpr d0), cT_s, gb_0]
  · rw [if_neg (show ¬ nI t ≤ 0 from fun q => d0 ((nI_leI (b := 0) (by omega) (by decide)).mp q))]
    by_cases d1 : c ≤ t
    · rw [if_pos (nI_le d1 (by omega)), cT_s, gb_0]
    · have hK : K t < 256 := (h6 t (by omega) (by omega)).1
      rw [if_neg (nI_ge (by omega) (by omega)), gd_in (by omega) (by decide), ncl (by omega), h4 t (by omega), if_neg (show ¬ nI (K t) = -1 by
        intro q
        have : nI (K t) < 0 := by rw [q]; decide
        exact nI_pos (by omega) this), cT_s, gb_0]
theorem val_m {ty : Nat} (hO : RO N i z u) (hW : MW F N c K B u) (hty : isK c K ty 1 = true) (hs : (fdT F B ty).isSome = true) : wp (f_M_value u (nI ty)) (RQ N z (sCon F N c K B ty i) (fun _ v => ko [2] [] u v)) := by
  have hN := hO.1.1
  have hT := hW.tx hN hty
  have h4 := hT.2.2.2
  unfold f_M_value
  rw [size_eq hT, cI_s]
  have num : ∀ kd, kd < 256 → kd ≠ 0 → due F B ty = kd → wp (cI (f_M_number u (nI kd)) fun r10 u8 => some u8) (RQ N z (sCon F N c K B ty i) (fun _ v => ko [2] [] u v)) := by
    intro kd h1 h2 h3
    have es : sCon F N c K B ty = pb (sNum F N c K kd) fun _ => pp () := by
      unfold sCon sNum
      rw [h3]
      simp only [pb_as, pb_pp, decide_eq_true h2, Bool.true_and, pb_pn]
    rw [es]
    refine mq_num hO hW rfl h1 (fun t ht hi => ?_) (fun r w x v h => wp_some h)
    exact wp_some ⟨RO_at hO hi, ko_sv (by decide)⟩
  have e1 : (nI (tn F B ty) = 1) = (tn F B ty = 1) := neq (b := 1) (by omega) (by decide)
  simp only [e1]
  by_cases t1 : tn F B ty = 1
  · have hsm := fd1 t1 hs
    have hl : lt F B ty 0 = F (ta B ty) := by rw [lt_in (by omega), Nat.add_zero]
    have f8 := hT.f8 (ta B ty)
    have n0 : F (ta B ty) ≠ 0 := fun q => by rw [q] at hsm; exact absurd hsm (by decide)
    rw [if_pos t1, let0 hT, cI_s, cT_s]
    dsimp only
    rw [hl]
    by_cases d74 : F (ta B ty) = 74
    · have ed : due F B ty = 5 := by
        unfold due
        rw [if_pos (w7_i.mpr ⟨t1, d74⟩)]
      rw [if_pos (show nI (F (ta B ty)) = 74 by rw [d74]; rfl), cT_s]
      exact num 5 (by decide) (by decide) ed
    · have ed : due F B ty = 3 := by
        unfold due
        rw [if_neg (fun q => d74 (w7_i.mp q).2), if_neg (fun q => by have := w8_l q; rw [t1] at this; exact absurd this (by decide)), if_pos t1]
      rw [if_neg (show ¬ nI (F (ta B ty)) = 74 from fun q => d74 ((nI_eq (b := 74) (by omega) (by decide)).mp q)), if_neg (nI_ne0 (by omega) (by omega)), cT_s]
      exact num 3 (by decide) (by decide) ed
  · rw [if_neg t1, cT_s]
    dsimp only
    rw [if_neg (show ¬ (0 : Int32) = 74 by decide), if_pos rfl, is_l 18 hT (n := 18) rfl (j := 8) (by decide) (by decide) w_8, cI_s]
    have n7 : ¬ wT F B 7 ty = true := fun q => t1 (w7_i.mp q).1
    cases h8 : wT F B 8 ty with
    | true =>
      have ed : due F B ty = 8 := by
        unfold due
        rw [if_neg n7, if_pos h8]
      rw [if_pos (show true = true from rfl), if_neg (by decide), cT_s]
      exact num 8 (by decide) (by decide) ed
    | false =>
      have ed : due F B ty = 0 := by
        unfold due
        rw [if_neg n7, if_neg (by rw [h8]; decide), if_neg t1]
      rw [if_neg (show ¬ (false = true) by decide), if_pos rfl, cT_s]
      dsimp only
      unfold f_M_number sCon
      rw [ed, hO.1.2.2.2.2.1]
      refine wp_cI ?_
      by_cases hi : i + 2 ≤ N
      · have hO1 := RO_at (j := i + 2) hO hi
        have hW1 : MW F N c K B (sv u 2 (nI (i + 2))) := MW_ko (s := [2]) (t := []) hW (ko_sv (by decide)) (by decide) (by decide)
        rw [u2_o hO hi, cI_s, hW.1, pb_s (pa_i i), pb_s (pu_s hi), kind_neg hW1 (hW.b2 i), cI_s, must_fl 8 (r := 8) rfl hO1 (by decide) (by decide), cI_s, pn_x (by rfl)]
        exact wp_some (wp_some (RO_B hO1 (by decide) (by decide)))
      · obtain ⟨y, v, e, hb, kv⟩ := u2_xk hO hi
        rw [e, cI_s, pb_s (pa_i i), pb_x (pu_x hi)]
        obtain ⟨q, e⟩ := kind_any (u := v) ((kv.1 6 (by decide)).trans hW.2.1) hW.2.2.1 y (-1)
        rw [e, cI_s, must_b hb, cI_s]
        exact wp_some (wp_some hb)
/-! which attribute -/
theorem wT_ch {t j : Nat} (hj : j < 10) (h : wT F B j t = true) : tn F B t = lnS j ∧ F (ta B t) = chN j 0 := by
  have e := w8_l h
  have l := (lnS_ok j hj).1
  refine ⟨e, ?_⟩
  unfold wT isW at h
  rw [Bool.and_eq_true] at h
  obtain ⟨m, hm⟩ : ∃ m, tn F B t = m + 1 := ⟨tn F B t - 1, by omega⟩
  rw [hm, spN, Bool.and_eq_true] at h
  exact beq_iff_eq.mp h.2.1
theorem at_w (F B : Nat → Nat) (t : Nat) : (wT F B 3 t = (atO F B t == 2)) ∧ (wT F B 4 t = (atO F B t == 1)) ∧ (wT F B 5 t = (atO F B t == 4)) ∧ (wT F B 6 t = (atO F B t == 8)) := by
  have ex : ∀ a b, a < 10 → b < 10 → wT F B a t = true → wT F B b t = true → lnS a = lnS b ∧ chN a 0 = chN b 0 := fun a b ha hb h1 h2 => by
    obtain ⟨x1, x2⟩ := wT_ch ha h1
    obtain ⟨y1, y2⟩ := wT_ch hb h2
    exact ⟨x1.symm.trans y1, x2.symm.trans y2⟩
  unfold atO
  cases h3 : wT F B 3 t with
  | true =>
    cases h4 : wT F B 4 t with
    | true => exact absurd (ex 3 4 (by decide) (by decide) h3 h4) (by decide)
    | false =>
      cases h5 : wT F B 5 t with
      | true => exact absurd (ex 3 5 (by decide) (by decide) h3 h5) (by decide)
      | false =>
        cases h6 : wT F B 6 t with
        | true => exact absurd (ex 3 6 (by decide) (by decide) h3 h6) (by decide)
        | false => exact ⟨rfl, rfl, rfl, rfl⟩
  | false =>
    cases h4 : wT F B 4 t with
    | true =>
      cases h5 : wT F B 5 t with
      | true => exact absurd (ex 4 5 (by decide) (by decide) h4 h5) (by decide)
      | false =>
        cases h6 : wT F B 6 t with
        | true => exact absurd (ex 4 6 (by decide) (by decide) h4 h6) (by decide)
        | false => exact ⟨rfl, rfl, rfl, rfl⟩
    | false =>
      cases h5 : wT F B 5 t with
      | true =>
        cases h6 : wT F B 6 t with
        | true => exact absurd (ex 5 6 (by decide) (by decide) h5 h6) (by decide)
        | false => exact ⟨rfl, rfl, rfl, rfl⟩
      | false =>
        cases h6 : wT F B 6 t with
        | true => exact ⟨rfl, rfl, rfl, rfl⟩
        | false => exact ⟨rfl, rfl, rfl, rfl⟩
def snO (f : Nat) (o t : Bool) : Nat := if f = 1 then (if o then 1 else 0) else if f = 2 then ((if o then 2 else 0) ||| (if t then 4 else 0)) else (if o then 8 else 0)
def alO (f : Nat) (p q : Bool) : Nat := if f = 1 then (if p then 1 else 0) else if f = 2 then ((if q then 2 else 0) ||| 4) else 8
def fiO (f wh : Nat) (p q : Bool) : Bool := if f = 1 then (wh == 1) && p else if f = 2 then (wh == 2) && q else wh == 8
def seO (f wh : Nat) : Bool := (f == 2) && (wh == 4)
theorem alw_m : ∀ f ∈ [1, 2, 3], ∀ wh ∈ [0, 1, 2, 4, 8], ∀ p q o t : Bool, alw wh (alO f p q) (snO f o t) = ((fiO f wh p q && !o) || (seO f wh && !t)) := by decide +kernel
def snB (f wh : Nat) (p q o t : Bool) : Bool := !(alw wh (alO f p q) (snO f o t)) || (decide (snO f o t ||| wh = snO f (o || fiO f wh p q) (t || seO f wh)) && ((seO f wh && ((wh == 4) && (f == 2))) || (!(seO f wh) && (fiO f wh p q && (((f == 1) && (wh == 1)) || (((f == 2) && ((wh == 2) && !o)) || ((f == 3) && (wh == 8))))))))
theorem snB_t : ∀ f ∈ [1, 2, 3], ∀ wh ∈ [0, 1, 2, 4, 8], ∀ p q o t : Bool, snB f wh p q o t = true := by decide +kernel
theorem sn_m : ∀ f ∈ [1, 2, 3], ∀ wh ∈ [0, 1, 2, 4, 8], ∀ p q o t : Bool, alw wh (alO f p q) (snO f o t) = true → snO f o t ||| wh = snO f (o || fiO f wh p q) (t || seO f wh) ∧ ((seO f wh = true ∧ wh = 4 ∧ f = 2) ∨ (seO f wh = false ∧ fiO f wh p q = true ∧ ((f = 1 ∧ wh = 1) ∨ (f = 2 ∧ wh = 2 ∧ o = false) ∨ (f = 3 ∧ wh = 8)))) := by
  intro f hf wh hwh p q o t h
  have hh := snB_t f hf wh hwh p q o t
  unfold snB at hh
  rw [h] at hh
  simp only [Bool.not_true, Bool.false_or, Bool.and_eq_true, Bool.or_eq_true, decide_eq_true_eq, beq_iff_eq, Bool.not_eq_true'] at hh
  exact hh
theorem ord_m : ∀ fi se o t : Bool, (if (if fi = true then (1 : Int32) else 0) = 0 then (if (if se = true then (1 : Int32) else 0) = 0 then (0 : Int32) else (if (if t = true then (1 : Int32) else 0) = 0 then (1) else (0))) else (if (if o = true then (1 : Int32) else 0) = 0 then (1) else (if (if se = true then (1 : Int32) else 0) = 0 then (0) else (if (if t = true then (1 : Int32) else 0) = 0 then (1) else (0))))) = if ((fi && !o) || (se && !t)) = true then 1 else 0 := by decide
theorem or_m : ∀ a b : Bool, ((if a = true then (1 : Int32) else 0) ||| (if b = true then 1 else 0)) = if (a || b) = true then 1 else 0 := by decide
/-- a method's numbers, on the way -/
def IV (of k sl : Nat) (tb : Tl) (th : Nat) (cd : Cd) (u : St) : Prop := of = 2 → u.2 3 (6 * k + 1) = nI sl ∧ u.2 3 (6 * k + 2) = nI cd.1 ∧ u.2 3 (6 * k + 3) = nI cd.2.1 ∧ u.2 3 (6 * k + 4) = nI cd.2.2.1 ∧ u.2 3 (6 * k + 5) = nI th ∧ u.1 12 = nI (tb.1 + cd.2.2.1) ∧ u.1 13 = nI (tb.2.1 + cd.2.2.2.1) ∧ u.1 14 = nI (tb.2.2.1 + cd.2.2.2.2.1) ∧ u.1 15 = nI (tb.2.2.2 + cd.2.2.2.2.2)
/-- what ATTRIBUTES keep -/
def KA (of k : Nat) (u v : St) : Prop := ko [2, 12, 13, 14, 15, 18, 19, 20, 21, 22] [3, 7] u v ∧ (of ≠ 2 → ko [2] [] u v) ∧ ∀ j, j < 6 * k + 2 ∨ 6 * k + 6 ≤ j → v.2 3 j = u.2 3 j
theorem KA_rf {of k : Nat} : KA of k u u := ⟨ko_rf, fun _ => ko_rf, fun _ _ => rfl⟩
theorem KA_tr {of k : Nat} {v x : St} (h1 : KA of k u v) (h2 : KA of k v x) : KA of k u x := ⟨ko_tr h1.1 h2.1, fun h => ko_tr (h1.2.1 h) (h2.2.1 h), fun j hj => (h2.2.2 j hj).trans (h1.2.2 j hj)⟩
theorem KA_2 {of k : Nat} {v : St} (h : ko [2] [] u v) : KA of k u v := ⟨ko_mono h (fun k h => by simp at h ⊢; omega) (fun _ h => by cases h), fun _ => h, fun j _ => by rw [h.2 3 (by decide)]⟩
theorem bodyM {of f wx ty k sl th wh : Nat} {tb : Tl} {cd : Cd} {fi se p q o : Bool} (hf : f < 65536) (hk : k < 60) (hsl : sl ≤ 250) (hO : RO N i z u) (hW : MW F N c K B u) (hM : ML2 F c K B) (hv5 : u.1 5 = nI ver) (hver : ver < 65536) (hT : of = 1 → isK c K ty 1 = true ∧ (fdT F B ty).isSome = true ∧ wx = ty) (hX : of = 2 → wx = k ∧ sl = slT F B ty) (hI : IV of k sl tb th cd u) (hc0 : of = 2 → o = false → cd = (0, 0, 0, 0, 0, 0)) (hcase : (se = true ∧ wh = 4 ∧ of = 2) ∨ (se = false ∧ fi = true ∧ ((of = 1 ∧ wh = 1) ∨ (of = 2 ∧ wh = 2 ∧ o = false) ∨ (of = 3 ∧ wh = 8)))) : wp (if (if se = true then (1 : Int32) else 0) = 0 then (if nI of = 1 then (cV (f_M_value u (nI wx)) fun u36 => some (u36)) else (if nI of = 2 then (cV (f_M_code u (nI f) (nI wx)) fun u34 => some (u34)) else (cI (f_M_number u 1) fun r33 u31 => some (u31)))) else (cV (f_M_thrown u (nI wx)) fun u38 => some (u38))) (RQ N z (sBody F N c K B ver f ty wh th cd i) (fun y v => KA of k u v ∧ IV of k sl tb y.1 y.2 v ∧ (of = 2 → (o || fi) = false → y.2 = (0, 0, 0, 0, 0, 0)) ∧ (of ≠ 2 → y.2 = cd))) := by
  have hof : of = 1 ∨ of = 2 ∨ of = 3 := by
    rcases hcase with h | h
    · exact Or.inr (Or.inl h.2.2)
    · rcases h.2.2 with h | h | h
      · exact Or.inl h.1
      · exact Or.inr (Or.inl h.1)
      · exact Or.inr (Or.inr h.1)
  have q1 : (nI of = 1) = (of = 1) := neq (b := 1) (by omega) (by decide)
  have q2 : (nI of = 2) = (of = 2) := neq (b := 2) (by omega) (by decide)
  simp only [q1, q2]
  unfold sBody
  rcases hcase with ⟨h1, h2, h3⟩ | ⟨h1, hfi, ⟨h3, h2⟩ | ⟨h3, h2, ho⟩ | ⟨h3, h2⟩⟩
  · subst h1
    subst h2
    subst h3
    obtain ⟨i1, i2, i3, i4, i5, i6, i7, i8, i9⟩ := hI rfl
    rw [if_pos (show true = true from rfl), if_neg (by decide), if_neg (by decide), if_neg (by decide), if_pos rfl, (hX rfl).1]
    refine mq_V (th_m hk hO hW) ?_ ?_
    · rintro n j v - hOv ⟨kv, e5, eo⟩
      refine wp_some ⟨hOv, ⟨ko_mono kv (fun k h => by simp at h ⊢; omega) (fun k h => by simp at h ⊢; omega), fun q => absurd rfl q, fun j hj => eo j (by omega)⟩, fun _ => ⟨?_, ?_, ?_, ?_, e5, ?_, ?_, ?_, ?_⟩, ?_, fun q => absurd rfl q⟩
      · rw [eo _ (by omega)]; exact i1
      · rw [eo _ (by omega)]; exact i2
      · rw [eo _ (by omega)]; exact i3
      · rw [eo _ (by omega)]; exact i4
      · exact (kv.1 12 (by decide)).trans i6
      · exact (kv.1 13 (by decide)).trans i7
      · exact (kv.1 14 (by decide)).trans i8
      · exact (kv.1 15 (by decide)).trans i9
      · intro _ q
        exact hc0 rfl (by cases o; rfl; cases q)
    · intro r w v h
      exact wp_some h
  · subst h1
    subst h2
    subst h3
    obtain ⟨a1, a2, a3⟩ := hT rfl
    rw [if_neg (show ¬ (false = true) by decide), if_pos (show (0 : Int32) = 0 from rfl), if_pos rfl, if_neg (by decide), if_pos rfl, a3]
    refine mq_V (val_m hO hW a1 a2) ?_ ?_
    · intro a j v hp hOv kv
      exact wp_some ⟨hOv, KA_2 kv, fun q => absurd q (by decide), fun q => absurd q (by decide), fun _ => rfl⟩
    · intro r w v h
      exact wp_some h
  · subst h1
    subst h2
    subst h3
    obtain ⟨i1, i2, i3, i4, i5, i6, i7, i8, i9⟩ := hI rfl
    have c0 := hc0 rfl ho
    rw [c0] at i6 i7 i8 i9
    rw [if_neg (show ¬ (false = true) by decide), if_pos (show (0 : Int32) = 0 from rfl), if_neg (by decide), if_pos rfl, if_pos rfl, (hX rfl).1, ← (hX rfl).2]
    refine mq_V (code_m hf hk hsl hO hW hM hv5 hver i1 i6 i7 i8 i9) ?_ ?_
    · rintro y j v - hOv ⟨kv, d1, d2, d3, d4, d5, d6, d7, d8⟩
      refine wp_some ⟨hOv, ⟨kv, fun q => absurd rfl q, fun j hj => d8 j (by omega) (by omega) (by omega)⟩, fun _ => ⟨?_, d5, d6, d7, ?_, d1, d2, d3, d4⟩, ?_, fun q => absurd rfl q⟩
      · rw [d8 _ (by omega) (by omega) (by omega)]; exact i1
      · rw [d8 _ (by omega) (by omega) (by omega)]; exact i5
      · intro _ q
        rw [hfi, Bool.or_true] at q
        cases q
    · intro r w v h
      exact wp_some h
  · subst h1
    subst h2
    subst h3
    rw [if_neg (show ¬ (false = true) by decide), if_pos (show (0 : Int32) = 0 from rfl), if_neg (by decide), if_neg (by decide), if_neg (by decide), if_neg (by decide), if_neg (by decide)]
    refine mq_num hO hW rfl (by decide) (fun t ht hi => ?_) (fun r w x v h => wp_some h)
    exact wp_some ⟨RO_at hO hi, KA_2 (ko_sv (by decide)), fun q => absurd q (by decide), fun q => absurd q (by decide), fun _ => rfl⟩
end MAT

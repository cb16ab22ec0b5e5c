/-! THE REFERENCE: what the pool's entries refer to -/
section MRE
variable {F : Nat → Nat} {N i r w c : Nat} {K B : Nat → Nat} {z u : St} {β : Type}
def MW (F : Nat → Nat) (N c : Nat) (K B : Nat → Nat) (u : St) : Prop := xF u = F ∧ u.1 6 = nI c ∧ c ≤ 300 ∧ TM F N c K B u
theorem MW_ko {s t : List Nat} {v : St} (h : MW F N c K B u) (hk : ko s t u v) (hs : 6 ∉ s) (ht : 0 ∉ t ∧ 1 ∉ t ∧ 2 ∉ t) : MW F N c K B v := by
  obtain ⟨a, b, d, e1, e2, e3⟩ := h
  exact ⟨(ko_F hk ht.1).trans a, (hk.1 6 hs).trans b, d, fun t h => by rw [hk.2 1 ht.2.1]; exact e1 t h, e2, fun t h1 h2 => by rw [hk.2 2 ht.2.2]; exact e3 t h1 h2⟩
theorem MW.f8 (h : MW F N c K B u) (j : Nat) : F j < 256 := by rw [← h.1]; exact F8 u j
theorem MW.n2 (h : MW F N c K B u) (w : Nat) : n2 F w < 65536 := be_lt h.f8 w 2
theorem MW.b2 (h : MW F N c K B u) (w : Nat) : be F w 2 < 65536 := be_lt h.f8 w 2
theorem MW.ent (h : MW F N c K B u) {t kd : Nat} (ht : isK c K t kd = true) (hkd : kd ≠ 0) : 1 ≤ t ∧ t < c ∧ K t = kd ∧ u.2 2 t = nI (B t) ∧ ext F N kd (B t) := by
  obtain ⟨q1, q2, q3⟩ := isK_t.mp ht
  obtain ⟨a1, a2⟩ := h.2.2.2.2.2 t q1 q2
  obtain ⟨b1, b2⟩ := a2 (by omega)
  rw [q3] at b2
  exact ⟨q1, q2, q3, b1, b2⟩
theorem MW.tx (h : MW F N c K B u) (hN : N ≤ 4000) {t : Nat} (ht : isK c K t 1 = true) : TX F B t u := by
  obtain ⟨a1, a2, a3, a4, a5⟩ := h.ent ht (by decide)
  have := a5.2.1 rfl
  have h3 := h.2.2.1
  refine ⟨h.1, by omega, a4, ?_⟩
  show B t + 3 + be F (B t + 1) 2 ≤ 4000
  omega
theorem kind_m (h : MW F N c K B u) {t kd : Nat} (ht : t < 65536) (hkd : kd < 256) : f_M_isKind u (nI t) (nI kd) = some (if isK c K t kd then 1 else 0, u) := by
  obtain ⟨h1, h2, h3, h4, h5, h6⟩ := h
  unfold f_M_isKind
  simp only [show (nI t ≤ 0) = (t ≤ 0) from nle (b := 0) (by omega) (by decide)]; rw [h2]
  by_cases d0 : t ≤ 0
  · have : isK c K t kd = false := by unfold isK; simp; omega
    rw [if_pos d0, cT_s, gb_0, this]; rfl
  · rw [if_neg d0]
    by_cases d1 : c ≤ t
    · have : isK c K t kd = false := by unfold isK; simp; omega
      rw [if_pos (nI_le d1 (by omega)), cT_s, gb_0, this]; rfl
    · have hK : K t < 256 := (h6 t (by omega) (by omega)).1
      rw [if_neg (nI_ge (by omega) (by omega)), gd_in (by omega) (by decide), ncl (by omega), h4 t (by omega)]; simp only [show (nI (K t) = nI kd) = (K t = kd) from neq (by omega) (by omega)]
      by_cases d2 : K t = kd
      · have : isK c K t kd = true := isK_t.mpr ⟨by omega, by omega, d2⟩
        rw [if_pos d2, cT_s, gb_1, this]; rfl
      · have : isK c K t kd = false := by unfold isK; simp; omega
        rw [if_neg d2, cT_s, gb_0, this]; rfl
theorem kind_l (x : Int32) {t kd : Nat} (hx : x = nI kd) (h : MW F N c K B u) (ht : t < 65536) (hkd : kd < 256) : f_M_isKind u (nI t) x = some (if isK c K t kd then 1 else 0, u) := by rw [hx]; exact kind_m h ht hkd
theorem let0 {t : Nat} (h : TX F B t u) : f_M_letter u (nI t) 0 = some (nI (lt F B t 0), u) := letter_eq h (k := 0) (by decide)
theorem hd_lt {t x : Nat} (h : TX F B t u) (hx : x < 256) : (nI (lt F B t 0) = nI x) ↔ hdT F B x t = true := by
  have l1 : lt F B t 0 < 257 := lt_lt h
  rw [nI_eq (by omega) (by omega)]
  unfold lt hdT
  by_cases d : 0 < tn F B t
  · rw [if_pos d, decide_eq_true d, Bool.true_and, Nat.add_zero, beq_iff_eq]
  · rw [if_neg d, decide_eq_false d, Bool.false_and]
    constructor
    · intro z; omega
    · intro z; cases z
theorem hd_l (y : Int32) {t x : Nat} (hy : y = nI x) (h : TX F B t u) (hx : x < 256) : (nI (lt F B t 0) = y) ↔ hdT F B x t = true := by rw [hy]; exact hd_lt h hx
theorem mdL_pos : ∀ (f n a : Nat) (fl : Bool) (sl n' a' : Nat) (fl' : Bool) (sl' : Nat), mdL F f n a fl sl = some (n', a', fl', sl') → a' + n' = a + n ∧ n' ≤ n ∧ (n' = 0 ∨ F a' = 41)
  | 0, _, _, _, _, _, _, _, _, h => by cases h
  | f + 1, n, a, fl, sl, n', a', fl', sl', h => by
    rw [mdL] at h
    split at h
    · cases h; exact ⟨rfl, Nat.le_refl _, Or.inl (by assumption)⟩
    · split at h
      · cases h; exact ⟨rfl, Nat.le_refl _, Or.inr (by assumption)⟩
      · split at h
        · cases h
        · rename_i t ht
          have := tyE_le ht
          have ih := mdL_pos f _ _ _ _ _ _ _ _ h
          exact ⟨by omega, by omega, ih.2.2⟩
theorem void_m {t : Nat} (h : TX F B t u) {fl vd : Bool} {sl : Nat} (hm : mtT F B t = some (fl, sl, vd)) : f_M_isVoid u (nI t) = some (if vd then 1 else 0, u) := by
  have h4 := h.2.2.2
  unfold mtT at hm
  split at hm
  · rename_i hd
    have hpos : 0 < tn F B t := by
      unfold hdT at hd
      rw [Bool.and_eq_true] at hd
      exact of_decide_eq_true hd.1
    unfold mdE at hm
    split at hm
    · cases hm
    · rename_i n' a' fl' sl' hL
      obtain ⟨p1, p2, p3⟩ := mdL_pos _ _ _ _ _ _ _ _ _ hL
      split at hm
      · cases hm
      · rename_i hc
        have hn : 2 ≤ n' := by omega
        have h41 : F a' = 41 := by rcases p3 with e | e; omega; exact e
        have ea : a' = ta B t + (tn F B t - n') := by omega
        unfold f_M_isVoid
        rw [size_eq h, cI_s, show nI (tn F B t) - 1 = nI (tn F B t - 1) from nI_sub (b := 1) (by omega), letter_eq h (by omega), cI_s, lt_in (by omega)]
        have f1 := h.f8 (ta B t + (tn F B t - 1))
        simp only [show (nI (F (ta B t + (tn F B t - 1))) = 86) = (F (ta B t + (tn F B t - 1)) = 86) from neq (b := 86) (by omega) (by decide)]
        split at hm
        · rename_i hV
          split at hm
          · rename_i e2
            cases hm
            have e86 : F (ta B t + (tn F B t - 1)) = 86 := by rw [← hV]; congr 1; omega
            have e41 : F (ta B t + (tn F B t - 2)) = 41 := by rw [← h41]; congr 1; omega
            rw [if_pos e86, size_eq h, cI_s, show nI (tn F B t) - 2 = nI (tn F B t - 2) from nI_sub (b := 2) (by omega), letter_eq h (by omega), cI_s, lt_in (by omega), if_pos (show nI (F (ta B t + (tn F B t - 2))) = 41 by rw [e41]; rfl), cT_s, gb_1]
            rfl
          · cases hm
        · split at hm
          · cases hm
          · rename_i t' ht'
            split at hm
            · rename_i e3
              cases hm
              have := tyE_last ht'
              have e86 : ¬ F (ta B t + (tn F B t - 1)) = 86 := by
                intro q
                apply this
                rw [← q]
                congr 1
                omega
              rw [if_neg e86, cT_s, gb_0]
              rfl
            · cases hm
  · cases hm
theorem b_rL2 {kx : St → Option St} {ψ : β → St → Prop} {x : Int32} (h : RB N r w z u) (h2 : ∀ v, RB N r w z v → wp (kx v) (MP N z (fun v => v) (.error (r, w)) (fun a x => ψ a x))) : ∀ g, 0 < g → wp (f_M_refer_L2 kx g u x) (MP N z (fun v => v) (.error (r, w)) (fun a x => ψ a x))
  | g + 1, _ => by
    rw [f_M_refer_L2]
    refine wp_ite (fun _ => h2 u h) (fun _ => ?_)
    rw [ok_b h, cI_s, if_pos rfl]
    exact h2 u h
theorem b_rL3 {kx : St → Option St} {ψ : β → St → Prop} {x : Int32} (h : RB N r w z u) (h2 : ∀ v, RB N r w z v → wp (kx v) (MP N z (fun v => v) (.error (r, w)) (fun a x => ψ a x))) : ∀ g, 0 < g → wp (f_M_refer_L336 kx g u x) (MP N z (fun v => v) (.error (r, w)) (fun a x => ψ a x))
  | g + 1, _ => by
    rw [f_M_refer_L336]
    refine wp_ite (fun _ => h2 u h) (fun _ => ?_)
    rw [ok_b h, cI_s, if_pos rfl]
    exact h2 u h
theorem fd_real {t : Nat} {x : Int32} (h : ∀ r, fdT F B t = some r → x = if r then 1 else 0) (hs : (fdT F B t).isSome = true) : (if x = 0 then (1 : Int32) else 0) = 0 ↔ (fdT F B t != some true) = false := by
  cases hf : fdT F B t with
  | none => rw [hf] at hs; cases hs
  | some r =>
    rw [h r hf]
    cases r
    · exact ⟨fun q => absurd q (by decide), fun q => absurd q (by decide)⟩
    · exact ⟨fun _ => by decide, fun _ => by decide⟩
theorem md_real {t : Nat} {x : Int32} (h : ∀ fl sl vd, mtT F B t = some (fl, sl, vd) → x = if fl then 1 else 0) (hs : (mtT F B t).isSome = true) (hd : hdT F B 40 t = true) : (if x = 0 then (1 : Int32) else 0) = 0 ↔ (dsT F B t != some true) = false := by
  unfold dsT
  rw [if_pos hd]
  cases hf : mtT F B t with
  | none => rw [hf] at hs; cases hs
  | some q =>
    obtain ⟨fl, sl, vd⟩ := q
    rw [h fl sl vd hf]
    cases fl
    · exact ⟨fun q => absurd q (by decide), fun q => absurd (show true = false from q) (by decide)⟩
    · exact ⟨fun _ => rfl, fun _ => by decide⟩
theorem lk1M {kx : St → Option St} {f' : Unit → P β} {ψ : β → St → Prop} (h2 : ∀ r w v, RB N r w z v → wp (kx v) (MP N z (fun v => v) (.error (r, w)) (fun a x => ψ a x))) : ∀ (m k g : Nat) (u : St), k + m = c → m < g → 1 ≤ k → RO N i z u → MW F N c K B u → (∀ v, RO N i z v → ko [18, 19] [] u v → sAll (sLk1 F c K B) m k i = .ok ((), i) → wp (kx v) (MP N z (fun v => v) (f' () i) (fun a x => ψ a x))) → wp (f_M_refer_L2 kx g u (nI k)) (MP N z (fun v => v) (pb (sAll (sLk1 F c K B) m k) f' i) (fun a x => ψ a x))
  | 0, k, g + 1, u, e1, _, hk1, hO, hW, h1 => by
    have hc := hW.2.2.1
    rw [f_M_refer_L2, hW.2.1, if_pos (nI_le (by omega) (by omega)), sAll]
    exact h1 u hO ko_rf rfl
  | m + 1, k, g + 1, u, e1, e2, hk1, hO, hW, h1 => by
    have hc := hW.2.2.1
    have hN := hO.1.1
    have hKk : K k < 256 := (hW.2.2.2.2.2 k (by omega) (by omega)).1
    have ek : u.2 1 k = nI (K k) := hW.2.2.2.1 k (by omega)
    have nx : sLk1 F c K B k i = .ok ((), i) → ∀ v, RO N i z v → ko [18, 19] [] u v → wp (f_M_refer_L2 kx g v (nI (k + 1))) (MP N z (fun v => v) (pb (sAll (sLk1 F c K B) m (k + 1)) f' i) (fun a x => ψ a x)) := fun hs v hv kv =>
      lk1M h2 m (k + 1) g v (by omega) (by omega) (by omega) hv (MW_ko hW kv (by decide) (by decide)) (fun v' a1 a2 a3 => h1 v' a1 (ko_tr kv a2) (by rw [sAll, pb_s hs]; exact a3))
    have bd : ∀ {r w : Nat} {v : St}, RB N r w z v → ∀ x, wp (f_M_refer_L2 kx g v x) (MP N z (fun v => v) (.error (r, w)) (fun a x => ψ a x)) := fun h x => b_rL2 h (fun v hv => h2 _ _ v hv) g (by omega)
    rw [f_M_refer_L2, hW.2.1, if_neg (nI_ge (by omega) (by omega)), ok_o hO, cI_s, if_neg (by decide), gd_in (by omega) (by decide), gd_in (by omega) (by decide), ncl (by omega), ek, sAll, pb_as, nI_1]; simp only [show (nI (K k) = 7) = (K k = 7) from neq (b := 7) (by omega) (by decide)]; rw [gd_in (by omega) (by decide)]; simp only [show (nI (K k) = 8) = (K k = 8) from neq (b := 8) (by omega) (by decide)]; rw [gd_in (by omega) (by decide)]; simp only [show (nI (K k) = 12) = (K k = 12) from neq (b := 12) (by omega) (by decide)]
    by_cases c7 : K k = 7
    · obtain ⟨b1, b2⟩ := (hW.2.2.2.2.2 k (by omega) (by omega)).2 (by omega)
      have hx : B k + 3 ≤ N := b2.2.2.1 (Or.inl c7)
      have hn := hW.n2 (B k + 1)
      rw [if_pos c7, b1, nI_1, two_in (by omega), cI_s, hW.1, show be F (B k + 1) 2 = n2 F (B k + 1) from rfl, kind_l 1 (kd := 1) rfl hW hn (by decide), cI_s]
      have es7 : sLk1 F c K B k = pb (pn (isK c K (n2 F (B k + 1)) 1) 8 (B k + 1)) fun _ => if hdT F B 91 (n2 F (B k + 1)) then pb (pn (fdT F B (n2 F (B k + 1))).isSome 9 (B k + 1)) fun _ => pn (fdT F B (n2 F (B k + 1)) != some true) 12 (B k + 1) else pn (cnT F B (n2 F (B k + 1))) 9 (B k + 1) := by
        unfold sLk1
        rw [if_pos c7]
      rw [es7, pb_as]
      refine mq_must hO rfl rfl (by decide) b10 (fun hk' => ?_) (fun v h => ?_)
      · have hT := hW.tx hN hk'
        rw [if_neg (by decide), gd_in (by omega) (by decide), ek, if_neg (show ¬ nI (K k) = 8 by rw [c7]; decide), gb_0, bnd_s]
        have hT1 : TX F B (n2 F (B k + 1)) (sv u 18 0) := TX_ko (s := [18]) (k := []) hT (ko_sv (by decide)) (by decide)
        have hO1 : RO N i z (sv u 18 0) := RO_ko (s := [18]) (t := []) hO (ko_sv (by decide)) (by decide) (by decide)
        have k1 : ko [18, 19] [] u (sv u 18 0) := ko_sv (by decide)
        generalize sv u 18 0 = v at hT1 hO1 k1 ⊢
        rw [let0 hT1, cI_s]
        by_cases hd : hdT F B 91 (n2 F (B k + 1)) = true
        · rw [if_pos ((hd_l 91 rfl hT1 (by decide)).mpr hd), if_pos hd, pb_as]
          obtain ⟨v2, f1, f2, f3⟩ := field_is hT1
          have hO2 : RO N i z v2 := RO_ko hO1 f2 (by decide) (by decide)
          rw [f1, cI_s]
          refine wp_cT (wp_cT ?_)
          by_cases hs : (fdT F B (n2 F (B k + 1))).isSome = true
          · rw [hs, if_pos rfl, must_t hO2 (by decide), cI_s, pb_s (pn_s rfl)]
            refine wp_bnd ?_
            cases hr : (fdT F B (n2 F (B k + 1)) != some true) with
            | true =>
              rw [must_t hO2 (fun q => by rw [(fd_real f3 hs).mp q] at hr; cases hr), cI_s, pb_s (pn_s rfl)]
              exact wp_some (wp_some (nx (by unfold sLk1; rw [if_pos c7, pb_s (pn_s hk'), if_pos hd, pb_s (pn_s hs), pn_s hr]) v2 hO2 (ko_tr k1 (ko_mono f2 (fun j hj => by simp at hj ⊢; omega) (fun _ hj => hj)))))
            | false =>
              rw [(fd_real f3 hs).mpr hr, must_fl 12 (r := 12) rfl hO2 (by decide) (by decide), cI_s, pb_x (pn_x rfl)]
              exact wp_some (wp_some (bd (RO_B hO2 (by decide) (by decide)) _))
          · have hs' : (fdT F B (n2 F (B k + 1))).isSome = false := by simpa using hs
            have hB : RB N 9 (B k + 1) z (rbk v2 9 (B k + 1)) := RO_B hO2 (by decide) (by decide)
            rw [hs', if_neg (by decide), must_fl 9 (r := 9) rfl hO2 (by decide) (by decide), cI_s, pb_x (pn_x rfl)]
            refine wp_bnd ?_
            rw [must_b hB, cI_s]
            exact wp_some (wp_some (bd hB _))
        · rw [if_neg (fun q => hd ((hd_l 91 rfl hT1 (by decide)).mp q)), if_neg hd, class_eq hT1, cI_s]
          refine wp_cT (wp_cT ?_)
          cases hr : cnT F B (n2 F (B k + 1)) with
          | true =>
            rw [if_pos rfl, must_t hO1 (by decide), cI_s, pb_s (pn_s rfl)]
            exact wp_some (wp_some (nx (by unfold sLk1; rw [if_pos c7, pb_s (pn_s hk'), if_neg hd, pn_s hr]) v hO1 k1))
          | false =>
            rw [if_neg (by decide), must_fl 9 (r := 9) rfl hO1 (by decide) (by decide), cI_s, pb_x (pn_x rfl)]
            exact wp_some (wp_some (bd (RO_B hO1 (by decide) (by decide)) _))
      · rw [if_pos rfl, cT_s]
        exact bd h _
    · rw [if_neg c7]
      by_cases c8 : K k = 8
      · obtain ⟨b1, b2⟩ := (hW.2.2.2.2.2 k (by omega) (by omega)).2 (by omega)
        have hx : B k + 3 ≤ N := b2.2.2.1 (Or.inr c8)
        have hn := hW.n2 (B k + 1)
        rw [if_pos c8, b1, nI_1, two_in (by omega), cI_s, hW.1, show be F (B k + 1) 2 = n2 F (B k + 1) from rfl, kind_l 1 (kd := 1) rfl hW hn (by decide), cI_s]
        have es8 : sLk1 F c K B k = pn (isK c K (n2 F (B k + 1)) 1) 8 (B k + 1) := by
          unfold sLk1
          rw [if_neg c7, if_pos c8]
        rw [es8]
        refine mq_must hO rfl rfl (by decide) b10 (fun hk' => ?_) (fun v h => ?_)
        · rw [if_neg (by decide), gd_in (by omega) (by decide), ek, if_pos (show nI (K k) = 8 by rw [c8]; rfl), cT_s]
          exact nx (by unfold sLk1; rw [if_neg c7, if_pos c8, pn_s hk']) u hO ko_rf
        · rw [if_pos rfl, cT_s]
          exact bd h _
      · rw [if_neg c8]
        by_cases c12 : K k = 12
        · obtain ⟨b1, b2⟩ := (hW.2.2.2.2.2 k (by omega) (by omega)).2 (by omega)
          have hx : B k + 5 ≤ N := b2.2.2.2 (by omega)
          have hn := hW.n2 (B k + 1)
          have hn3 := hW.n2 (B k + 3)
          rw [if_pos c12, b1, nI_1, two_in (by omega), cI_s, hW.1, show be F (B k + 1) 2 = n2 F (B k + 1) from rfl, kind_l 1 (kd := 1) rfl hW hn (by decide), cI_s]
          have es12 : sLk1 F c K B k = pb (pn (isK c K (n2 F (B k + 1)) 1) 8 (B k + 1)) fun _ => pb (pn (plT F B (n2 F (B k + 1)) || wT F B 0 (n2 F (B k + 1)) || wT F B 1 (n2 F (B k + 1))) 9 (B k + 1)) fun _ => pb (pn (isK c K (n2 F (B k + 3)) 1) 8 (B k + 3)) fun _ => pb (pn (dsT F B (n2 F (B k + 3))).isSome 11 (B k + 3)) fun _ => pn (dsT F B (n2 F (B k + 3)) != some true) 12 (B k + 3) := by
            unfold sLk1
            rw [if_neg c7, if_neg c8, if_pos c12]
          rw [es12, pb_as]
          refine mq_must hO rfl rfl (by decide) b10 (fun hk' => ?_) (fun v h => ?_)
          · have hT := hW.tx hN hk'
            rw [if_neg (by decide), plain_eq hT, cI_s, is_l 6 hT (n := 6) rfl (j := 0) (by decide) (by decide) w_0, cI_s, is_l 8 hT (n := 8) rfl (j := 1) (by decide) (by decide) w_1, cI_s]
            have e3 : (if (if plT F B (n2 F (B k + 1)) = true then (1 : Int32) else 0) = 0 then (if (if wT F B 0 (n2 F (B k + 1)) = true then (1 : Int32) else 0) = 0 then (if (if wT F B 1 (n2 F (B k + 1)) = true then (1 : Int32) else 0) = 0 then some ((0 : Int32), u) else some (1, u)) else some (1, u)) else some (1, u)) = some (if (plT F B (n2 F (B k + 1)) || wT F B 0 (n2 F (B k + 1)) || wT F B 1 (n2 F (B k + 1))) = true then 1 else 0, u) := by
              cases plT F B (n2 F (B k + 1)) <;> cases wT F B 0 (n2 F (B k + 1)) <;> cases wT F B 1 (n2 F (B k + 1)) <;> rfl
            rw [e3, cT_s, pb_as]
            refine mq_must hO rfl rfl (by decide) b10 (fun hn9 => ?_) (fun v h => ?_)
            · rw [if_neg (by decide), show nI (B k + 1) + 2 = nI (B k + 3) from nI_add _ 2, two_in (by omega), cI_s, hW.1, show be F (B k + 3) 2 = n2 F (B k + 3) from rfl, kind_l 1 (kd := 1) rfl hW hn3 (by decide), cI_s, pb_as]
              refine mq_must hO rfl rfl (by decide) b10 (fun hk3 => ?_) (fun v h => ?_)
              · have hT3 := hW.tx hN hk3
                rw [if_neg (by decide), let0 hT3, cI_s, pb_as]
                have fin : ∀ (v : St) (o : Bool), RO N i z v → ko [18, 19] [] u v → o = (dsT F B (n2 F (B k + 3))).isSome → (o = true → ((if v.1 18 = 0 then (1 : Int32) else 0) = 0 ↔ (dsT F B (n2 F (B k + 3)) != some true) = false)) → wp (cI (f_M_must v (if o then 1 else 0) 11 (nI (B k + 3))) fun r71 u69 => bnd (if (u69.1 18) = 0 then (1) else (0)) fun (z72 : Int32) => cI (f_M_must u69 z72 12 (nI (B k + 3))) fun r75 u73 => f_M_refer_L2 kx g u73 (nI (k + 1))) (MP N z (fun v => v) (pb (pn (dsT F B (n2 F (B k + 3))).isSome 11 (B k + 3)) (fun _ => pb (pn (dsT F B (n2 F (B k + 3)) != some true) 12 (B k + 3)) fun _ => pb (sAll (sLk1 F c K B) m (k + 1)) f') i) (fun a x => ψ a x)) := by
                  intro v o hv kv ho hr
                  rw [← ho]
                  refine mq_must hv rfl rfl (by decide) b10 (fun h11 => wp_bnd ?_) (fun v h => wp_bnd ?_)
                  · refine mq_must hv rfl rfl (by decide) (hr h11) (fun h12 => nx (by unfold sLk1; rw [if_neg c7, if_neg c8, if_pos c12, pb_s (pn_s hk'), pb_s (pn_s hn9), pb_s (pn_s hk3), pb_s (pn_s (by rw [← ho]; exact h11)), pn_s h12]) v hv kv) (fun v h => bd h _)
                  · rw [must_b h, cI_s]
                    exact bd h _
                by_cases hd : hdT F B 40 (n2 F (B k + 3)) = true
                · rw [if_pos ((hd_l 40 rfl hT3 (by decide)).mpr hd)]
                  refine wp_cT (wp_cI (wp_mono (method_is hT3) fun p hp => wp_some ?_))
                  obtain ⟨p1, p2, p3⟩ := hp
                  have ed : (mtT F B (n2 F (B k + 3))).isSome = (dsT F B (n2 F (B k + 3))).isSome := by
                    unfold dsT
                    rw [if_pos hd]
                    cases mtT F B (n2 F (B k + 3)) <;> rfl
                  have hv := RO_ko hO p2 (by decide) (by decide)
                  dsimp only
                  rw [p1]
                  exact fin p.2 _ hv p2 ed (fun hs => md_real (fun fl sl vd q => (p3 fl sl vd q).1) hs hd)
                · rw [if_neg (fun q => hd ((hd_l 40 rfl hT3 (by decide)).mp q))]
                  obtain ⟨v2, f1, f2, f3⟩ := field_is hT3
                  have ed : (fdT F B (n2 F (B k + 3))) = (dsT F B (n2 F (B k + 3))) := by
                    unfold dsT
                    rw [if_neg hd]
                  rw [f1, cI_s, cT_s]
                  have k2 : ko [18, 19] [] u v2 := ko_mono f2 (fun j hj => by simp at hj ⊢; omega) (fun _ hj => hj)
                  refine fin v2 _ (RO_ko hO f2 (by decide) (by decide)) k2 (by rw [ed]) (fun hs => ?_)
                  rw [← ed]
                  exact fd_real f3 hs
              · rw [if_pos rfl]
                exact wp_some h
            · rw [if_pos rfl]
              exact wp_some h
          · rw [if_pos rfl]
            exact wp_some h
        · rw [if_neg c12]
          have es : sLk1 F c K B k i = .ok ((), i) := by
            unfold sLk1
            rw [if_neg c7, if_neg c8, if_neg c12]
            rfl
          rw [pb_s es]
          exact nx es u hO ko_rf
end MRE

/-! THE REFERENCE: members' links, numbers, head -/
section MHE
variable {F : Nat → Nat} {N i r w c : Nat} {K B : Nat → Nat} {z u : St} {β : Type}
theorem typeOf_m (hW : MW F N c K B u) (hN : N ≤ 4000) {k kd : Nat} (hk : isK c K k kd = true) (hkd : kd = 9 ∨ kd = 10 ∨ kd = 11) (h12 : isK c K (n2 F (B k + 3)) 12 = true) : f_M_typeOf u (nI k) = some (nI (tyM F B k), u) := by
  obtain ⟨a1, a2, a3, a4, a5⟩ := hW.ent hk (by omega)
  obtain ⟨b1, b2, b3, b4, b5⟩ := hW.ent h12 (by decide)
  have x1 := a5.2.2.2 (by omega)
  have x2 := b5.2.2.2 (by omega)
  have hc := hW.2.2.1
  unfold f_M_typeOf
  rw [gd_in (by omega) (by decide), ncl (by omega), a4, show nI (B k) + 3 = nI (B k + 3) from nI_add _ 3, two_in (by omega), cI_s, hW.1, show be F (B k + 3) 2 = n2 F (B k + 3) from rfl, gd_in (by omega) (by decide), ncl (by omega), b4, show nI (B (n2 F (B k + 3))) + 3 = nI (B (n2 F (B k + 3)) + 3) from nI_add _ 3, two_in (by omega), cI_s, hW.1]
  rfl
theorem nameOf_m (hW : MW F N c K B u) (hN : N ≤ 4000) {k kd : Nat} (hk : isK c K k kd = true) (hkd : kd = 9 ∨ kd = 10 ∨ kd = 11) (h12 : isK c K (n2 F (B k + 3)) 12 = true) : f_M_nameOf u (nI k) = some (nI (nmM F B k), u) := by
  obtain ⟨a1, a2, a3, a4, a5⟩ := hW.ent hk (by omega)
  obtain ⟨b1, b2, b3, b4, b5⟩ := hW.ent h12 (by decide)
  have x1 := a5.2.2.2 (by omega)
  have x2 := b5.2.2.2 (by omega)
  have hc := hW.2.2.1
  unfold f_M_nameOf
  rw [gd_in (by omega) (by decide), ncl (by omega), a4, show nI (B k) + 3 = nI (B k + 3) from nI_add _ 3, two_in (by omega), cI_s, hW.1, show be F (B k + 3) 2 = n2 F (B k + 3) from rfl, gd_in (by omega) (by decide), ncl (by omega), b4, nI_1, two_in (by omega), cI_s, hW.1]
  rfl
theorem lk2M {kx : St → Option St} {f' : Unit → P β} {ψ : β → St → Prop} (hNm : NmOK F c K B) (h2 : ∀ r w v, RB N r w z v → wp (kx v) (MP N z (fun v => v) (.error (r, w)) (fun a x => ψ a x))) (hO : RO N i z u) (hW : MW F N c K B u) (h1 : wp (kx u) (MP N z (fun v => v) (f' () i) (fun a x => ψ a x))) : ∀ (m k g : Nat), k + m = c → m < g → 1 ≤ k → wp (f_M_refer_L336 kx g u (nI k)) (MP N z (fun v => v) (pb (sAll (sLk2 F c K B) m k) f' i) (fun a x => ψ a x))
  | 0, k, g + 1, e1, _, hk1 => by
    have hc := hW.2.2.1
    rw [f_M_refer_L336, hW.2.1, if_pos (nI_le (by omega) (by omega)), sAll]
    exact h1
  | m + 1, k, g + 1, e1, e2, hk1 => by
    have hc := hW.2.2.1
    have hN := hO.1.1
    have hKk : K k < 256 := (hW.2.2.2.2.2 k (by omega) (by omega)).1
    have ek : u.2 1 k = nI (K k) := hW.2.2.2.1 k (by omega)
    have nx := lk2M hNm h2 hO hW h1 m (k + 1) g (by omega) (by omega) (by omega)
    have bd : ∀ {r w : Nat} {v : St}, RB N r w z v → ∀ x, wp (f_M_refer_L336 kx g v x) (MP N z (fun v => v) (.error (r, w)) (fun a x => ψ a x)) := fun h x => b_rL3 h (fun v hv => h2 _ _ v hv) g (by omega)
    rw [f_M_refer_L336, hW.2.1, if_neg (nI_ge (by omega) (by omega)), ok_o hO, cI_s, if_neg (by decide), gd_in (by omega) (by decide), ncl (by omega), ek, sAll, pb_as, nI_1, gd_in (by omega) (by decide), gd_in (by omega) (by decide)]; simp only [show (nI (K k) < 9) = (K k < 9) from nlt (b := 9) (by omega) (by decide), show (nI (K k) ≤ 11) = (K k ≤ 11) from nle (b := 11) (by omega) (by decide)]
    have sk : ¬ (9 ≤ K k ∧ K k ≤ 11) → wp (f_M_refer_L336 kx g u (nI (k + 1))) (MP N z (fun v => v) (pb (sLk2 F c K B k) (fun _ => pb (sAll (sLk2 F c K B) m (k + 1)) f') i) (fun a x => ψ a x)) := by
      intro hh
      have es : sLk2 F c K B k i = .ok ((), i) := by
        unfold sLk2
        rw [if_neg (by omega)]
        rfl
      rw [pb_s es]
      exact nx
    by_cases c9 : K k < 9
    · rw [if_pos c9]
      exact sk (by omega)
    · rw [if_neg c9]
      by_cases c11 : K k ≤ 11
      · obtain ⟨b1, b2⟩ := (hW.2.2.2.2.2 k (by omega) (by omega)).2 (by omega)
        have hx : B k + 5 ≤ N := b2.2.2.2 (by omega)
        have hn := hW.n2 (B k + 1)
        have hn3 := hW.n2 (B k + 3)
        rw [if_pos c11, b1, nI_1, two_in (by omega), cI_s, hW.1, show be F (B k + 1) 2 = n2 F (B k + 1) from rfl, kind_l 7 (kd := 7) rfl hW hn (by decide), cI_s]
        have es2 : sLk2 F c K B k = pb (pn (isK c K (n2 F (B k + 1)) 7) 8 (B k + 1)) fun _ => pb (pn (isK c K (n2 F (B k + 3)) 12) 8 (B k + 3)) fun _ => pn (fitM F K B k) 10 (B k + 3) := by
          unfold sLk2
          rw [if_pos (by omega)]
        rw [es2, pb_as]
        refine mq_must hO rfl rfl (by decide) b10 (fun h7 => ?_) (fun v h => ?_)
        · rw [if_neg (by decide), show nI (B k + 1) + 2 = nI (B k + 3) from nI_add _ 2, two_in (by omega), cI_s, hW.1, show be F (B k + 3) 2 = n2 F (B k + 3) from rfl, kind_l 12 (kd := 12) rfl hW hn3 (by decide), cI_s, pb_as]
          refine mq_must hO rfl rfl (by decide) b10 (fun h12 => ?_) (fun v h => ?_)
          · obtain ⟨m1, m2, m3, m4, m5⟩ := hNm _ h12
            have hkk : isK c K k (K k) = true := isK_t.mpr ⟨by omega, by omega, rfl⟩
            have hTn : TX F B (nmM F B k) u := hW.tx hN m1
            have hTt : TX F B (tyM F B k) u := hW.tx hN m2
            rw [if_neg (by decide), typeOf_m hW hN hkk (by omega) h12, cI_s, let0 hTt, cI_s, nameOf_m hW hN hkk (by omega) h12]
            refine wp_bnd ?_
            rw [cI_s, plain_eq hTn, cI_s, gd_in (by omega) (by decide), ek, nameOf_m hW hN hkk (by omega) h12, cI_s, is_l 6 hTn (n := 6) rfl (j := 0) (by decide) (by decide) w_0, cI_s, typeOf_m hW hN hkk (by omega) h12, cI_s]
            have eh : (if nI (lt F B (tyM F B k) 0) = 40 then (1 : Int32) else 0) = if hdT F B 40 (tyM F B k) = true then 1 else 0 := by
              cases hd : hdT F B 40 (tyM F B k) with
              | true => rw [if_pos ((hd_l 40 rfl hTt (by decide)).mpr hd)]; rfl
              | false => rw [if_neg (fun q => by rw [(hd_l 40 rfl hTt (by decide)).mp q] at hd; cases hd)]; rfl
            rw [eh]; simp only [show (nI (K k) = 9) = (K k = 9) from neq (b := 9) (by omega) (by decide)]; rw [gd_in (by omega) (by decide)]; simp only [show (nI (K k) = 11) = (K k = 11) from neq (b := 11) (by omega) (by decide)]
            have ev : hdT F B 40 (tyM F B k) = true → f_M_isVoid u (nI (tyM F B k)) = some (if voT F B (tyM F B k) then 1 else 0, u) := by
              intro hd
              have m3' : (dsT F B (tyM F B k)).isSome = true := m3
              unfold dsT at m3'
              rw [if_pos hd] at m3'
              cases hm : mtT F B (tyM F B k) with
              | none => rw [hm] at m3'; cases m3'
              | some q =>
                obtain ⟨fl, sl, vd⟩ := q
                rw [void_m hTt hm]
                unfold voT
                rw [hm]
            have ef : (if K k = 9 then (if (if plT F B (nmM F B k) = true then (1 : Int32) else 0) = 0 then some ((0 : Int32), u) else if (if hdT F B 40 (tyM F B k) = true then (1 : Int32) else 0) = 0 then some (1, u) else some (0, u)) else if K k = 11 then (if (if plT F B (nmM F B k) = true then (1 : Int32) else 0) = 0 then some (0, u) else if (if hdT F B 40 (tyM F B k) = true then (1 : Int32) else 0) = 0 then some (0, u) else some (1, u)) else if (if hdT F B 40 (tyM F B k) = true then (1 : Int32) else 0) = 0 then some (0, u) else if (if plT F B (nmM F B k) = true then (1 : Int32) else 0) = 0 then (if (if wT F B 0 (nmM F B k) = true then (1 : Int32) else 0) = 0 then some (0, u) else cI (f_M_isVoid u (nI (tyM F B k))) fun r179 u177 => if r179 = 0 then some (0, u177) else some (1, u177)) else some (1, u)) = some (if fitM F K B k = true then 1 else 0, u) := by
              unfold fitM
              by_cases k9 : K k = 9
              · rw [if_pos k9, if_pos k9]
                cases plT F B (nmM F B k) <;> cases hdT F B 40 (tyM F B k) <;> rfl
              · rw [if_neg k9, if_neg k9]
                by_cases k11 : K k = 11
                · rw [if_pos k11, if_pos k11]
                  cases plT F B (nmM F B k) <;> cases hdT F B 40 (tyM F B k) <;> rfl
                · rw [if_neg k11, if_neg k11]
                  cases hd : hdT F B 40 (tyM F B k) with
                  | false => cases plT F B (nmM F B k) <;> rfl
                  | true =>
                    rw [ev hd, cI_s]
                    cases plT F B (nmM F B k) <;> cases wT F B 0 (nmM F B k) <;> cases voT F B (tyM F B k) <;> rfl
            rw [ef, cT_s]
            refine mq_must hO rfl rfl (by decide) b10 (fun _ => nx) (fun v h => bd h _)
          · rw [if_pos rfl]
            exact wp_some h
        · rw [if_pos rfl]
          exact wp_some h
      · rw [if_neg c11]
        exact sk (by omega)
theorem refer_m (hO : RO N i z u) (hW : MW F N c K B u) (hc1 : 1 ≤ c) : wp (f_M_refer u) (RQ N z ((pb (sAll (sLk1 F c K B) (c - 1) 1) fun _ => sAll (sLk2 F c K B) (c - 1) 1) i) (fun _ v => ko [18, 19] [] u v)) := by
  have hc := hW.2.2.1
  unfold f_M_refer
  have e0 : ∀ p : P Unit, pb p (fun _ => pp ()) = p := by
    intro p
    funext i
    unfold pb
    cases p i <;> rfl
  have h := lk1M (i := i) (z := z) (kx := fun u127 => f_M_refer_L336 (fun u182 => some u182) FU u127 1) (f' := fun _ => sAll (sLk2 F c K B) (c - 1) 1) (ψ := fun _ v => ko [18, 19] [] u v) (F := F) (c := c) (K := K) (B := B) (N := N) (fun r w v h => b_rL3 (ψ := fun (_ : Unit) v => ko [18, 19] [] u v) h (fun v hv => wp_some hv) FU (by decide)) (c - 1) 1 FU u (by omega) (by unfold FU; omega) (by omega) hO hW (fun v a1 a2 a3 => ?_)
  · exact h
  · have h' := lk2M (i := i) (z := z) (kx := fun u182 => some u182) (f' := fun _ => pp ()) (ψ := fun (_ : Unit) v => ko [18, 19] [] u v) (NmOK_of a3) (fun r w v h => wp_some h) a1 (MW_ko hW a2 (by decide) (by decide)) (wp_some ⟨a1, a2⟩) (c - 1) 1 FU (by omega) (by unfold FU; omega) (by omega)
    rw [e0] at h'
    exact h'
/-! numbers of the pool, in the file -/
theorem kind_any (h6 : u.1 6 = nI c) (hc : c ≤ 300) (y x : Int32) : ∃ q, f_M_isKind u y x = some (q, u) := by
  unfold f_M_isKind
  by_cases h1 : y ≤ 0
  · exact ⟨0, by rw [if_pos h1, cT_s, gb_0]⟩
  · by_cases h2 : u.1 6 ≤ y
    · exact ⟨0, by rw [if_neg h1, if_pos h2, cT_s, gb_0]⟩
    · have h0 : ¬ y < 0 := fun q => h1 (Int32.le_of_lt q)
      obtain ⟨k, hk, rfl⟩ := nI_of h0
      rw [h6] at h2
      have : k < c := Nat.lt_of_not_le fun q => h2 (nI_le q hk)
      rw [if_neg h1, h6, if_neg h2, gd_in (by omega) (by decide)]
      by_cases h3 : u.2 1 (nI k).toNatClampNeg = x
      · exact ⟨1, by rw [if_pos h3, cT_s, gb_1]⟩
      · exact ⟨0, by rw [if_neg h3, cT_s, gb_0]⟩
theorem mq_num {γ : Type} {st : γ → St} {ψ : β → γ → Prop} {k : Int32 → St → Option γ} {f : Nat → P β} {kd : Nat} {x : Int32} (hO : RO N i z u) (hW : MW F N c K B u) (hx : x = nI kd) (hkd : kd < 256) (h1 : ∀ t, isK c K t kd = true → i + 2 ≤ N → wp (k (nI t) (sv u 2 (nI (i + 2)))) (MP N z st (f t (i + 2)) ψ)) (h2 : ∀ r w x u, RB N r w z u → wp (k x u) (MP N z st (.error (r, w)) ψ)) : wp (cI (f_M_number u x) k) (MP N z st (pb (sNum F N c K kd) f i) ψ) := by
  have hN := hO.1.1
  have key : wp (f_M_number u x) (RQI N z (sNum F N c K kd i) (fun t q => q = (nI t, sv u 2 (nI (i + 2))) ∧ isK c K t kd = true ∧ i + 2 ≤ N)) := by
    unfold f_M_number sNum
    rw [hO.1.2.2.2.2.1]
    refine mq_pa ?_
    by_cases hi : i + 2 ≤ N
    · have hO1 := RO_at (j := i + 2) hO hi
      have hW1 : MW F N c K B (sv u 2 (nI (i + 2))) := MW_ko (s := [2]) (t := []) hW (ko_sv (by decide)) (by decide) (by decide)
      rw [u2_o hO hi, cI_s, hW.1, pb_s (pu_s hi), hx, kind_m hW1 (hW.b2 i) hkd, cI_s]
      refine mq_must hO1 rfl rfl (by decide) b10 (fun hk => wp_some ⟨hO1, rfl, hk, hi⟩) (fun u h => wp_some h)
    · obtain ⟨y, v, e, hb, kv⟩ := u2_xk hO hi
      rw [e, cI_s, pb_x (pu_x hi)]
      obtain ⟨q, e⟩ := kind_any (u := v) ((kv.1 6 (by decide)).trans hW.2.1) hW.2.2.1 y x
      rw [e, cI_s, must_b hb, cI_s]
      exact wp_some hb
  refine mq_I key ?_ h2
  rintro a j y v hp hv ⟨e, ht, hi⟩
  cases e
  have : j = i + 2 := by
    have e1 := hv.1.2.2.2.2.1
    have e2 : nI (i + 2) = nI j := e1
    have := hv.1.2.2.2.2.2
    rw [nI_eq (by omega) (by omega)] at e2
    omega
  subst this
  exact h1 a ht hi
end MHE

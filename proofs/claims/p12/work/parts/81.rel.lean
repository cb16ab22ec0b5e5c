/-! THE RELATION of the two states; the small calls -/
def rep (s t : St) : Prop := (s.1 5 = t.1 16 ∨ (s.1 5 = 12 ∧ t.1 16 = 11)) ∧ s.1 4 = t.1 17 ∧ (¬ s.1 4 = 0 → ∃ c nm : Nat, c ≤ 300 ∧ nm ≤ 60 ∧ s.2 1 0 = nI c ∧ s.2 1 3 = nI nm ∧ (∀ j, j < 9 → s.2 1 j = t.2 8 j) ∧ (∀ j, j < 6 * nm → s.2 2 j = t.2 9 j) ∧ ∀ j, 1 ≤ j → j < c → s.2 3 j = t.2 10 j)
def RLN (N : Nat) (s t : St) : Prop := N ≤ 4000 ∧ s.1 0 = nI N ∧ t.1 0 = nI N ∧ bn (s.2 0) ∧ s.2 0 = t.2 0 ∧ ¬ s.1 11 < 0 ∧ rep s t
def RL (s t : St) : Prop := ∃ N, RLN N s t
theorem nb (x : Int32) : vp_nar .byte x.toInt8.toInt32 = x.toInt8.toInt32 := by
  show x.toInt8.toInt32.toInt8.toInt32 = _
  rw [Int8.toInt8_toInt32]
theorem bn_upd {f : Nat → Int32} (h : bn f) (k : Nat) (x : Int32) : bn (upd f k (vp_nar .byte x.toInt8.toInt32)) := fun j => by
  rw [nb, upd]
  by_cases e : j = k
  · rw [if_pos e, Int8.toInt8_toInt32]
  · rw [if_neg e]; exact h j
theorem xor_n (a x : Int32) : (a ^^^ x.toInt8.toInt32).toInt8.toInt32 = (a ^^^ x).toInt8.toInt32 := by rw [Int32.toInt8_xor, Int32.toInt8_xor, Int8.toInt8_toInt32]
section REL
variable {N : Nat} {s t s' t' : St}
theorem rep_fr (h : rep s t) (a4 : s'.1 4 = s.1 4) (a5 : s'.1 5 = s.1 5) (b1 : s'.2 1 = s.2 1) (b2 : s'.2 2 = s.2 2) (b3 : s'.2 3 = s.2 3) (c6 : t'.1 16 = t.1 16) (c7 : t'.1 17 = t.1 17) (d8 : t'.2 8 = t.2 8) (d9 : t'.2 9 = t.2 9) (d10 : t'.2 10 = t.2 10) : rep s' t' := by
  unfold rep
  rw [a4, a5, b1, b2, b3, c6, c7, d8, d9, d10]
  exact h
theorem RLN_k (h : RLN N s t) (h0 : s'.1 0 = nI N) (hk : kp s s') (hr : kr t t') : RLN N s' t' := by
  obtain ⟨a1, a2, a3, a4, a5, a6, a7⟩ := h
  obtain ⟨k1, k2, k3, k4, k5, k6, k7⟩ := hk
  obtain ⟨r1, r2, r3, r4, r5, r6, r7⟩ := hr
  exact ⟨a1, h0, r1.trans a3, by rw [k4]; exact a4, by rw [k4, r4]; exact a5, k1, rep_fr a7 k2 k3 k5 k6 k7 r2 r3 r5 r6 r7⟩
theorem RLN_sa {j : Nat} {x : Int32} (h : RLN N s t) : RLN N (sa s 0 j (vp_nar .byte x.toInt8.toInt32)) (sa t 0 j (vp_nar .byte x.toInt8.toInt32)) := by
  obtain ⟨a1, a2, a3, a4, a5, a6, a7⟩ := h
  refine ⟨a1, a2, a3, bn_upd a4 _ _, ?_, a6, rep_fr a7 rfl rfl rfl rfl rfl rfl rfl rfl rfl rfl⟩
  show upd (s.2 0) j _ = upd (t.2 0) j _
  rw [a5]
theorem n1_of {x : Int32} (h : ¬ x < 1) : ∃ j, j < 2 ^ 31 ∧ 1 ≤ j ∧ x = nI j := by
  have h0 : ¬ x < 0 := fun q => h (by
    rw [Int32.lt_iff_toInt_lt] at q ⊢
    have e0 : (0 : Int32).toInt = 0 := rfl
    have e1 : (1 : Int32).toInt = 1 := rfl
    omega)
  obtain ⟨j, hj, rfl⟩ := nI_of h0
  refine ⟨j, hj, ?_, rfl⟩
  by_cases e : 1 ≤ j
  · exact e
  · exact absurd (show nI j < 1 from nI_lt (b := 1) (by omega) (by decide)) h
theorem append_eq {u : St} {x : Int32} (h0 : u.1 0 = nI N) (h : N < 4000) : f_W_append u x = some (sv (sa u 0 N (vp_nar .byte x.toInt8.toInt32)) 0 (nI (N + 1))) := by
  unfold f_W_append
  rw [h0, if_neg (show ¬ (4000 : Int32) ≤ nI N from nI_ge (b := 4000) (by omega) (by omega)), gd_in h (by decide), bnd_s, bnd_s, cT_s, ncl (by omega), sa_g, h0, nI_1]
theorem m3 : ∀ j : Fin 16, nI j.val &&& 3 = nI j.val - nI j.val / 4 * 4 := by decide +kernel
theorem feedL {m : Nat} {a b c d : Int32} (hm : m ≤ 16) (hN : N + m ≤ 4000) : ∀ (n j g g' : Nat) (s t : St), j + n = m → n < g → n < g' → s.1 0 = nI (N + j) → t.1 0 = nI N → s.2 0 = t.2 0 → bn (s.2 0) → ∃ s' t', f_X_feed_L37 a b c d (nI m) g s (nI j) = some s' ∧ f_M_feed_L34 a b c d (nI m) g' t (nI j) = some t' ∧ s'.1 0 = nI (N + m) ∧ s'.2 0 = t'.2 0 ∧ bn (s'.2 0) ∧ ko [0] [0] s s' ∧ ko [] [0] t t'
  | 0, j, g + 1, g' + 1, s, t, h1, _, _, h0, t0, he, hb => by
    have : j = m := by omega
    subst this
    refine ⟨s, t, ?_, ?_, h0, he, hb, ko_rf, ko_rf⟩
    · rw [f_X_feed_L37, if_pos (nI_le (by omega) (by omega))]
    · rw [f_M_feed_L34, if_pos (nI_le (by omega) (by omega))]
  | n + 1, j, g + 1, g' + 1, s, t, h1, h2, h3, h0, t0, he, hb => by
    have hj := m3 ⟨j, by omega⟩
    dsimp only at hj
    rw [f_X_feed_L37, f_M_feed_L34, if_neg (nI_ge (by omega) (by omega)), if_neg (nI_ge (by omega) (by omega)), bnd_s, bnd_s, hj, append_eq h0 (by omega), cV_s, t0, show nI N + nI j = nI (N + j) from nI_add N j, gd_in (by omega) (by decide), bnd_s, ncl (by omega), nI_1]
    generalize (if 4 ≤ nI j then (if 8 ≤ nI j then (if 12 ≤ nI j then (d) else (c)) else (b)) else (a)) >>> ((24 - (8 * (nI j - nI j / 4 * 4))) &&& 31) = y
    obtain ⟨s', t', e1, e2, e3, e4, e5, e6, e7⟩ := feedL (a := a) (b := b) (c := c) (d := d) hm hN n (j + 1) g g' (sv (sa s 0 (N + j) (vp_nar .byte y.toInt8.toInt32)) 0 (nI (N + j + 1))) (sa t 0 (N + j) (vp_nar .byte y.toInt8.toInt32)) (by omega) (by omega) (by omega) rfl t0 (by
      show upd (s.2 0) _ _ = upd (t.2 0) _ _
      rw [he]) (bn_upd hb _ _)
    exact ⟨s', t', e1, e2, e3, e4, e5, ko_tr (ko_tr (ko_sa (by decide)) (ko_sv (by decide))) e6, ko_tr (ko_sa (by decide)) e7⟩
theorem rl_feed (h : RL s t) (a b c d e : Int32) : ∃ (r : Int32) (s' t' : St), f_X_feed s a b c d e = some (r, s') ∧ f_M_feed t a b c d e = some (r, t') ∧ RL s' t' := by
  unfold f_X_feed f_M_feed
  by_cases h1 : e < 1
  · exact ⟨-1, s, t, by rw [if_pos h1], by rw [if_pos h1], h⟩
  · obtain ⟨m, hm, hm1, rfl⟩ := n1_of h1
    rw [if_neg h1, if_neg h1]
    by_cases h2 : m ≤ 16
    · obtain ⟨N, hN, s0, t0, hb, he, hj, hr⟩ := h
      rw [if_pos (show nI m ≤ 16 from nI_le (b := 16) h2 (by decide)), if_pos (show nI m ≤ 16 from nI_le (b := 16) h2 (by decide)), s0, t0, show nI N + nI m = nI (N + m) from nI_add N m]
      by_cases h3 : N + m ≤ 4000
      · rw [if_pos (show nI (N + m) ≤ 4000 from nI_le (b := 4000) h3 (by decide)), if_pos (show nI (N + m) ≤ 4000 from nI_le (b := 4000) h3 (by decide))]
        obtain ⟨s', t', e1, e2, e3, e4, e5, e6, e7⟩ := feedL (a := a) (b := b) (c := c) (d := d) h2 h3 m 0 FU FU s t (by omega) (by unfold FU; omega) (by unfold FU; omega) s0 t0 he hb
        have e1' : f_X_feed_L37 a b c d (nI m) FU s 0 = some s' := e1
        have e2' : f_M_feed_L34 a b c d (nI m) FU t 0 = some t' := e2
        have t0' : t'.1 0 = nI N := (e7.1 0 (by decide)).trans t0
        rw [e1', e2', cT_s, cT_s, bnd_s, t0', show nI N + nI m = nI (N + m) from nI_add N m, e3]
        refine ⟨nI (N + m), s', sv t' 0 (nI (N + m)), rfl, rfl, N + m, h3, e3, rfl, e5, e4, by rw [e6.1 11 (by decide)]; exact hj, ?_⟩
        exact rep_fr hr (e6.1 4 (by decide)) (e6.1 5 (by decide)) (e6.2 1 (by decide)) (e6.2 2 (by decide)) (e6.2 3 (by decide)) (e7.1 16 (by decide)) (e7.1 17 (by decide)) (e7.2 8 (by decide)) (e7.2 9 (by decide)) (e7.2 10 (by decide))
      · rw [if_neg (show ¬ nI (N + m) ≤ 4000 from nI_ge (a := 4000) (by omega) (by omega)), if_neg (show ¬ nI (N + m) ≤ 4000 from nI_ge (a := 4000) (by omega) (by omega))]
        exact ⟨-2, s, t, rfl, rfl, N, hN, s0, t0, hb, he, hj, hr⟩
    · rw [if_neg (show ¬ nI m ≤ 16 from nI_ge (a := 16) (by omega) (by omega)), if_neg (show ¬ nI m ≤ 16 from nI_ge (a := 16) (by omega) (by omega))]
      exact ⟨-1, s, t, rfl, rfl, h⟩
theorem rl_cut (h : RL s t) (a : Int32) : ∃ (r : Int32) (s' t' : St), f_X_cut s a = some (r, s') ∧ f_M_cut t a = some (r, t') ∧ RL s' t' := by
  unfold f_X_cut f_M_cut
  by_cases h1 : a < 0
  · exact ⟨-1, s, t, by rw [if_pos h1], by rw [if_pos h1], h⟩
  · obtain ⟨k, hk, rfl⟩ := nI_of h1
    obtain ⟨N, hN, s0, t0, hb, he, hj, hr⟩ := h
    rw [if_neg h1, if_neg h1, s0, t0]
    by_cases h2 : k ≤ N
    · rw [if_pos (nI_le h2 (by omega)), if_pos (nI_le h2 (by omega)), bnd_s, bnd_s, nI_sub h2]
      exact ⟨nI (N - k), _, _, rfl, rfl, N - k, by omega, rfl, rfl, hb, he, hj, rep_fr hr rfl rfl rfl rfl rfl rfl rfl rfl rfl rfl⟩
    · rw [if_neg (nI_ge (by omega) (by omega)), if_neg (nI_ge (by omega) (by omega))]
      exact ⟨-1, s, t, rfl, rfl, N, hN, s0, t0, hb, he, hj, hr⟩
theorem flip_eq {u : St} {j : Nat} {x : Int32} (h0 : u.1 0 = nI N) (hN : N ≤ 4000) (hj : j < N) : f_W_flip u (nI j) x = some (sa u 0 j (vp_nar .byte (u.2 0 j ^^^ x).toInt8.toInt32)) := by
  unfold f_W_flip
  rw [if_neg (nI_pos (by omega)), h0, if_neg (nI_ge (by omega) (by omega)), gd_in (by omega) (by decide), gd_in (by omega) (by decide), bnd_s, cT_s, ncl (by omega)]
theorem by_1 {u : St} {j : Nat} : nI (be (xF u) j 1) = u.2 0 j &&& 255 := by
  rw [be1]
  exact b8_and.symm
theorem rl_turn (h : RL s t) (a b : Int32) : ∃ (r : Int32) (s' t' : St), f_X_turn s a b = some (r, s') ∧ f_M_turn t a b = some (r, t') ∧ RL s' t' := by
  unfold f_X_turn f_M_turn
  by_cases h1 : a < 0
  · exact ⟨-1, s, t, by rw [if_pos h1], by rw [if_pos h1], h⟩
  · obtain ⟨k, hk, rfl⟩ := nI_of h1
    obtain ⟨N, h⟩ := h
    have hN := h.1
    rw [if_neg h1, if_neg h1, h.2.1, h.2.2.1]
    by_cases h2 : k < N
    · rw [if_pos (nI_lt h2 (by omega)), if_pos (nI_lt h2 (by omega)), flip_eq h.2.1 hN h2, cV_s, gd_in (by omega) (by decide), gd_in (by omega) (by decide), bnd_s, gd_in (by omega) (by decide), ncl (by omega), ← h.2.2.2.2.1, xor_n]
      have h' := RLN_sa (j := k) (x := s.2 0 k ^^^ b) h
      generalize sa s 0 k (vp_nar .byte (s.2 0 k ^^^ b).toInt8.toInt32) = s1 at h' ⊢
      generalize sa t 0 k (vp_nar .byte (s.2 0 k ^^^ b).toInt8.toInt32) = t1 at h' ⊢
      have en : f_W_numberAt s1 (nI k) 1 = some (nI (be (xF s1) k 1), s1) := num_in s1 h'.2.1 hN (k := 1) (by decide) (by omega)
      rw [en, cI_s, by_1, ← h'.2.2.2.2.1]
      exact ⟨_, s1, t1, rfl, rfl, N, h'⟩
    · rw [if_neg (nI_nlt (by omega) (by omega)), if_neg (nI_nlt (by omega) (by omega))]
      exact ⟨-1, s, t, rfl, rfl, N, h⟩
theorem rl_byteAt (h : RL s t) (a : Int32) : ∃ (r : Int32) (s' t' : St), f_X_byteAt s a = some (r, s') ∧ f_M_byteAt t a = some (r, t') ∧ RL s' t' := by
  unfold f_X_byteAt f_M_byteAt
  by_cases h1 : a < 0
  · exact ⟨-1, s, t, by rw [if_pos h1, cT_s], by rw [if_pos h1, cT_s], h⟩
  · obtain ⟨k, hk, rfl⟩ := nI_of h1
    obtain ⟨N, h⟩ := h
    have hN := h.1
    rw [if_neg h1, if_neg h1, h.2.1, h.2.2.1]
    by_cases h2 : k < N
    · have en : f_W_numberAt s (nI k) 1 = some (nI (be (xF s) k 1), s) := num_in s h.2.1 hN (k := 1) (by decide) (by omega)
      rw [if_pos (nI_lt h2 (by omega)), if_pos (nI_lt h2 (by omega)), en, cI_s, cT_s, gd_in (by omega) (by decide), cT_s, ncl (by omega), by_1, ← h.2.2.2.2.1]
      exact ⟨_, s, t, rfl, rfl, N, h⟩
    · rw [if_neg (nI_nlt (by omega) (by omega)), if_neg (nI_nlt (by omega) (by omega)), cT_s, cT_s]
      exact ⟨-1, s, t, rfl, rfl, N, h⟩
theorem rl_rule (h : RL s t) : ∃ (r r' : Int32) (s' t' : St), f_X_rule s = some (r, s') ∧ f_M_rule t = some (r', t') ∧ RL s' t' := by
  obtain ⟨N, h⟩ := h
  unfold f_X_rule f_M_rule
  exact ⟨_, _, s, t, rfl, rfl, N, h⟩
theorem rule_0 : ∃ (s' t' : St), f_X_rule u0 = some (0, s') ∧ f_M_rule u0 = some (0, t') := by
  unfold f_X_rule f_M_rule
  exact ⟨u0, u0, rfl, rfl⟩
theorem rl_told (h : RL s t) (a : Int32) : ∃ (r : Int32) (s' t' : St), f_X_told s a = some (r, s') ∧ f_M_told t a = some (r, t') ∧ RL s' t' := by
  have hh := h
  obtain ⟨N, hN, s0, t0, hb, he, hj, r1, r2, r3⟩ := h
  unfold f_X_told f_M_told
  rw [← r2]
  by_cases h0 : s.1 4 = 0
  · exact ⟨-1, s, t, by rw [if_pos h0], by rw [if_pos h0, cT_s], hh⟩
  · rw [if_neg h0, if_neg h0]
    obtain ⟨c, nm, -, -, -, -, g5, -, -⟩ := r3 h0
    by_cases h1 : a < 0
    · exact ⟨-1, s, t, by rw [if_pos h1], by rw [if_pos h1, cT_s], hh⟩
    · obtain ⟨k, hk, rfl⟩ := nI_of h1
      rw [if_neg h1, if_neg h1]
      by_cases h2 : k < 9
      · rw [if_pos (show nI k < 9 from nI_lt (b := 9) h2 (by decide)), if_pos (show nI k ≤ 8 from nI_le (b := 8) (by omega) (by decide)), gd_in h2 (by decide), gd_in h2 (by decide), cT_s, ncl (by omega), g5 k h2]
        exact ⟨_, s, t, rfl, rfl, hh⟩
      · rw [if_neg (show ¬ nI k < 9 from nI_nlt (b := 9) (by omega) (by omega)), if_neg (show ¬ nI k ≤ 8 from nI_ge (a := 8) (by omega) (by omega)), cT_s]
        exact ⟨_, s, t, rfl, rfl, hh⟩
theorem rl_method (h : RL s t) (a b : Int32) : ∃ (r : Int32) (s' t' : St), f_X_method s a b = some (r, s') ∧ f_M_method t a b = some (r, t') ∧ RL s' t' := by
  have hh := h
  obtain ⟨N, hN, s0, t0, hb, he, hj, r1, r2, r3⟩ := h
  unfold f_X_method f_M_method
  rw [← r2]
  by_cases h0 : s.1 4 = 0
  · exact ⟨-1, s, t, by rw [if_pos h0], by rw [if_pos h0, cT_s], hh⟩
  · rw [if_neg h0, if_neg h0]
    obtain ⟨c, nm, -, g2, -, g4, g5, g6, -⟩ := r3 h0
    by_cases h1 : a < 0
    · exact ⟨-1, s, t, by rw [if_pos h1], by rw [if_pos h1, cT_s], hh⟩
    · obtain ⟨k, hk, rfl⟩ := nI_of h1
      have gd3 : ∀ {β : Type} {k : Option β}, gd (3 : Int32) 9 k = k := gd_in (i := 3) (by decide) (by decide)
      rw [if_neg h1, if_neg h1, gd3, gd3, show (3 : Int32).toNatClampNeg = 3 from rfl, ← g5 3 (by decide), g4]
      by_cases h2 : nm ≤ k
      · rw [if_pos (nI_le h2 (by omega)), if_pos (nI_le h2 (by omega)), cT_s]
        exact ⟨_, s, t, rfl, rfl, hh⟩
      · rw [if_neg (nI_ge (by omega) (by omega)), if_neg (nI_ge (by omega) (by omega)), if_pos (show nI k < 60 from nI_lt (b := 60) (by omega) (by decide))]
        by_cases h3 : b < 0
        · rw [if_pos h3, if_pos h3, cT_s]
          exact ⟨_, s, t, rfl, rfl, hh⟩
        · obtain ⟨i, hi, rfl⟩ := nI_of h3
          rw [if_neg h3, if_neg h3]
          by_cases h4 : i < 6
          · rw [if_pos (show nI i < 6 from nI_lt (b := 6) h4 (by decide)), if_pos (show nI i ≤ 5 from nI_le (b := 5) (by omega) (by decide)), show nI k * 6 = nI (k * 6) from nmul _ 6, show 6 * nI k = nI (6 * k) from nmul 6 _, Nat.mul_comm k 6, show nI (6 * k) + nI i = nI (6 * k + i) from nI_add _ _, gd_in (by omega) (by decide), gd_in (by omega) (by decide), cT_s, ncl (by omega), g6 _ (by omega)]
            exact ⟨_, s, t, rfl, rfl, hh⟩
          · rw [if_neg (show ¬ nI i < 6 from nI_nlt (b := 6) (by omega) (by omega)), if_neg (show ¬ nI i ≤ 5 from nI_ge (a := 5) (by omega) (by omega)), cT_s]
            exact ⟨_, s, t, rfl, rfl, hh⟩
theorem rl_entry (h : RL s t) (a : Int32) : ∃ (r : Int32) (s' t' : St), f_X_entry s a = some (r, s') ∧ f_M_entry t a = some (r, t') ∧ RL s' t' := by
  have hh := h
  obtain ⟨N, hN, s0, t0, hb, he, hj, r1, r2, r3⟩ := h
  unfold f_X_entry f_M_entry
  rw [← r2]
  by_cases h0 : s.1 4 = 0
  · exact ⟨-1, s, t, by rw [if_pos h0], by rw [if_pos h0, cT_s], hh⟩
  · rw [if_neg h0, if_neg h0]
    obtain ⟨c, nm, g1, -, g3, -, g5, -, g7⟩ := r3 h0
    by_cases h1 : a < 1
    · exact ⟨-1, s, t, by rw [if_pos h1], by rw [if_pos h1, cT_s], hh⟩
    · obtain ⟨k, hk, hk1, rfl⟩ := n1_of h1
      have gd0 : ∀ {β : Type} {k : Option β}, gd (0 : Int32) 9 k = k := gd_in (i := 0) (by decide) (by decide)
      rw [if_neg h1, if_neg h1, gd0, gd0, show (0 : Int32).toNatClampNeg = 0 from rfl, ← g5 0 (by decide), g3]
      by_cases h2 : k < c
      · rw [if_neg (nI_ge (by omega) (by omega)), if_pos (nI_lt h2 (by omega)), if_pos (show nI k < 300 from nI_lt (b := 300) (by omega) (by decide)), gd_in (by omega) (by decide), gd_in (by omega) (by decide), cT_s, ncl (by omega), g7 k hk1 h2]
        exact ⟨_, s, t, rfl, rfl, hh⟩
      · rw [if_pos (nI_le (by omega) (by omega)), if_neg (nI_nlt (by omega) (by omega)), cT_s]
        exact ⟨_, s, t, rfl, rfl, hh⟩
end REL

/-! JUDGE, GUARDED, BEGINNINGS: both sides together -/
section RUN
variable {N : Nat} {s t s' t' : St}
theorem kr_tr {a b c : St} (h1 : kr a b) (h2 : kr b c) : kr a c := by
  obtain ⟨a1, a2, a3, a4, a5, a6, a7⟩ := h1
  obtain ⟨b1, b2, b3, b4, b5, b6, b7⟩ := h2
  exact ⟨b1.trans a1, b2.trans a2, b3.trans a3, b4.trans a4, b5.trans a5, b6.trans a6, b7.trans a7⟩
theorem both (h : RLN N s t) : (∃ (r r' w : Nat) (s' t' : St), (r = r' ∨ (r = 12 ∧ r' = 11)) ∧ f_G_passes s = some (0, s') ∧ f_M_go t (nI N) = some t' ∧ SB N r w s s' ∧ RB N r' w t t') ∨ (∃ (q : Rp) (j : Nat) (s' t' : St), sGo (xF s) N 0 = .ok (q, j) ∧ f_G_passes s = some (1, s') ∧ f_M_go t (nI N) = some t' ∧ SO N j s s' ∧ RO N j t t' ∧ RX q s' ∧ RMX q t') := by
  obtain ⟨hN, h0, t0, hb, he, hj, hr⟩ := h
  have eF : xF t = xF s := by unfold xF; rw [he]
  obtain ⟨p, e1, h1⟩ := passes_eq_o (z := s) hN h0 hb rfl ⟨hj, rfl, rfl, rfl, rfl, rfl, rfl⟩
  obtain ⟨v, e2, h2⟩ := go_m (z := t) hN (by rw [← he]; exact hb) eF ⟨rfl, rfl, rfl, rfl, rfl, rfl, rfl⟩
  obtain ⟨p1, p2⟩ := p
  have h12 := sGo_12 (xF s) N 0
  cases hg : sGo (xF s) N 0 with
  | error e =>
    cases hk : sGo_o (xF s) N 0 with
    | ok k =>
      rw [hg, hk] at h12
      exact h12.elim
    | error k =>
      rw [hg, hk] at h12
      obtain ⟨r', w'⟩ := e
      obtain ⟨r, w⟩ := k
      obtain ⟨w1, w2⟩ := h12
      dsimp only at w1 w2
      subst w1
      rw [hk] at h1
      rw [hg] at h2
      obtain ⟨g1, g2⟩ := sG_B h1
      dsimp only at g1 g2
      subst g1
      exact Or.inl ⟨r, r', w, p2, v, w2, e1, e2, g2, h2⟩
  | ok q =>
    have hk : sGo_o (xF s) N 0 = .ok q := by
      cases hk : sGo_o (xF s) N 0 with
      | error k =>
        rw [hg, hk] at h12
        exact h12.elim
      | ok k =>
        rw [hg, hk] at h12
        exact congrArg _ (show k = q from h12)
    obtain ⟨q, j⟩ := q
    rw [hk] at h1
    rw [hg] at h2
    obtain ⟨g1, g2, g3⟩ := h1
    dsimp only at g2 g3
    subst g2
    have g4 : SO N j s p2 := by
      by_cases e : p2.1 2 = 0
      · have : sG (1, p2) = p2 := by
          unfold sG
          rw [if_pos (show (1, p2).2.1 2 = 0 from e), if_pos rfl]
        rw [← this]
        exact g1
      · exfalso
        have hs : sG (1, p2) = (fun _ => 0, fun _ _ => 0) := by
          unfold sG
          rw [if_neg (show ¬ (1, p2).2.1 2 = 0 from e), if_neg (show ¬ (1 : Int32) = 0 by decide)]
        rw [hs] at g1
        have z : nI 0 = nI N := g1.1.2.1
        have hN0 : N = 0 := by
          have := (nI_eq (by decide) (by omega)).mp z
          omega
        rw [hN0, sGo2, pb_x (pu_x (by omega))] at hg
        cases hg
    exact Or.inr ⟨q, j, p2, v, rfl, e1, e2, g4, h2.1, g3, h2.2⟩
theorem keep_0 {u : St} {y : Int32} : f_R_keep u 0 y = some (sv (sv u 4 0) 5 y) := by
  unfold f_R_keep
  rw [gb_0, bnd_s, bnd_s, if_pos rfl, cT_s]
def K1 (u : St) (y : Int32) : St := sw (sw (sw (sv (sv u 4 1) 5 y) 1 (va_cpy (u.2 12) (u.2 1) 0 0 9)) 2 (va_cpy (u.2 13) (u.2 2) 0 0 360)) 3 (va_cpy (u.2 4) (u.2 3) 0 0 300)
theorem keep_1 {u : St} {y : Int32} : f_R_keep u 1 y = some (K1 u y) := by
  unfold f_R_keep
  rw [gb_1, bnd_s, bnd_s, if_neg (by decide), bnd_s, bnd_s, bnd_s, cT_s]
  rfl
theorem cp149 {j : Nat} (hj : j < 60) : ∀ (m k g : Nat) (u : St), k + m = 6 → m < g → ∃ v, f_M_judge_L149 (nI j) g u (nI k) = some v ∧ ko [] [9] u v ∧ (∀ i, 6 * j + k ≤ i → i < 6 * j + 6 → v.2 9 i = u.2 3 i) ∧ ∀ i, i < 6 * j + k → v.2 9 i = u.2 9 i
  | 0, k, g + 1, u, h1, _ => by
    refine ⟨u, ?_, ko_rf, fun i a b => by omega, fun _ _ => rfl⟩
    rw [f_M_judge_L149, if_pos (show (6 : Int32) ≤ nI k from nI_le (a := 6) (by omega) (by omega))]
  | m + 1, k, g + 1, u, h1, h2 => by
    obtain ⟨v, e1, e2, e3, e4⟩ := cp149 hj m (k + 1) g (sa u 9 (6 * j + k) (u.2 3 (6 * j + k))) (by omega) (by omega)
    refine ⟨v, ?_, ko_tr (ko_sa (by decide)) e2, fun i a b => ?_, fun i a => ?_⟩
    · rw [f_M_judge_L149, if_neg (show ¬ (6 : Int32) ≤ nI k from nI_ge (b := 6) (by omega) (by omega)), show 6 * nI j = nI (6 * j) from nmul 6 _, show nI (6 * j) + nI k = nI (6 * j + k) from nI_add _ _, gd_in (by omega) (by decide), gd_in (by omega) (by decide), bnd_s, ncl (by omega), nI_1]
      exact e1
    · by_cases e : i = 6 * j + k
      · rw [e4 i (by omega), sa_a, if_pos rfl, upd, if_pos e, e]
      · rw [e3 i (by omega) b, sa_a, if_neg (by decide)]
    · rw [e4 i (by omega), sa_ne (by omega)]
theorem cp141 : ∀ (m j g : Nat) (u : St), j + m = 60 → m < g → ∃ v, f_M_judge_L141 g u (nI j) = some v ∧ ko [] [9] u v ∧ (∀ i, 6 * j ≤ i → i < 360 → v.2 9 i = u.2 3 i) ∧ ∀ i, i < 6 * j → v.2 9 i = u.2 9 i
  | 0, j, g + 1, u, h1, _ => by
    refine ⟨u, ?_, ko_rf, fun i a b => by omega, fun _ _ => rfl⟩
    rw [f_M_judge_L141, if_pos (show (60 : Int32) ≤ nI j from nI_le (a := 60) (by omega) (by omega))]
  | m + 1, j, g + 1, u, h1, h2 => by
    obtain ⟨v1, a1, a2, a3, a4⟩ := cp149 (j := j) (by omega) 6 0 FU u (by omega) (by unfold FU; omega)
    obtain ⟨v, e1, e2, e3, e4⟩ := cp141 m (j + 1) g v1 (by omega) (by omega)
    have a1' : f_M_judge_L149 (nI j) FU u 0 = some v1 := a1
    refine ⟨v, ?_, ko_tr a2 e2, fun i a b => ?_, fun i a => ?_⟩
    · rw [f_M_judge_L141, if_neg (show ¬ (60 : Int32) ≤ nI j from nI_ge (b := 60) (by omega) (by omega)), a1', cT_s, nI_1]
      exact e1
    · by_cases e : i < 6 * (j + 1)
      · rw [e4 i e, a3 i (by omega) (by omega)]
      · rw [e3 i (by omega) b, a2.2 3 (by decide)]
    · rw [e4 i (by omega), a4 i (by omega)]
theorem cp191 : ∀ (m j g : Nat) (u : St), j + m = 300 → m < g → ∃ v, f_M_judge_L191 g u (nI j) = some v ∧ ko [] [10] u v ∧ (∀ i, j ≤ i → i < 300 → v.2 10 i = u.2 1 i) ∧ ∀ i, i < j → v.2 10 i = u.2 10 i
  | 0, j, g + 1, u, h1, _ => by
    refine ⟨u, ?_, ko_rf, fun i a b => by omega, fun _ _ => rfl⟩
    rw [f_M_judge_L191, if_pos (show (300 : Int32) ≤ nI j from nI_le (a := 300) (by omega) (by omega))]
  | m + 1, j, g + 1, u, h1, h2 => by
    obtain ⟨v, e1, e2, e3, e4⟩ := cp191 m (j + 1) g (sa u 10 j (u.2 1 j)) (by omega) (by omega)
    refine ⟨v, ?_, ko_tr (ko_sa (by decide)) e2, fun i a b => ?_, fun i a => ?_⟩
    · rw [f_M_judge_L191, if_neg (show ¬ (300 : Int32) ≤ nI j from nI_ge (b := 300) (by omega) (by omega)), gd_in (by omega) (by decide), gd_in (by omega) (by decide), bnd_s, ncl (by omega), nI_1]
      exact e1
    · by_cases e : i = j
      · rw [e4 i (by omega), sa_a, if_pos rfl, upd, if_pos e, e]
      · rw [e3 i (by omega) b, sa_a, if_neg (by decide)]
    · rw [e4 i (by omega), sa_ne (by omega)]
/-- the reference's report is told -/
theorem judge_1 {q : Rp} {j : Nat} {v : St} (hO : RO N j t v) (hR : RMX q v) (hg : f_M_go t (t.1 0) = some v) : ∃ t', f_M_judge t = some (0, t') ∧ t'.1 0 = v.1 0 ∧ t'.2 0 = v.2 0 ∧ t'.1 16 = 0 ∧ t'.1 17 = 1 ∧ t'.2 8 0 = nI q.1 ∧ t'.2 8 1 = nI q.2.2.1 ∧ t'.2 8 2 = nI q.2.2.2.1 ∧ t'.2 8 3 = nI q.2.2.2.2.1 ∧ t'.2 8 4 = nI q.2.2.2.2.2.1.1 ∧ t'.2 8 5 = nI q.2.2.2.2.2.1.2.1 ∧ t'.2 8 6 = nI q.2.2.2.2.2.1.2.2.1 ∧ t'.2 8 7 = nI q.2.2.2.2.2.1.2.2.2 ∧ t'.2 8 8 = nI q.2.2.2.2.2.2.1 ∧ (∀ i, i < 360 → t'.2 9 i = v.2 3 i) ∧ ∀ i, i < 300 → t'.2 10 i = v.2 1 i := by
  unfold f_M_judge
  have g0 : ∀ {β : Type} {k : Option β}, gd (0 : Int32) 9 k = k := gd_in (i := 0) (by decide) (by decide)
  have g1 : ∀ {β : Type} {k : Option β}, gd (1 : Int32) 9 k = k := gd_in (i := 1) (by decide) (by decide)
  have g2 : ∀ {β : Type} {k : Option β}, gd (2 : Int32) 9 k = k := gd_in (i := 2) (by decide) (by decide)
  have g3 : ∀ {β : Type} {k : Option β}, gd (3 : Int32) 9 k = k := gd_in (i := 3) (by decide) (by decide)
  have g4 : ∀ {β : Type} {k : Option β}, gd (4 : Int32) 9 k = k := gd_in (i := 4) (by decide) (by decide)
  have g5 : ∀ {β : Type} {k : Option β}, gd (5 : Int32) 9 k = k := gd_in (i := 5) (by decide) (by decide)
  have g6 : ∀ {β : Type} {k : Option β}, gd (6 : Int32) 9 k = k := gd_in (i := 6) (by decide) (by decide)
  have g7 : ∀ {β : Type} {k : Option β}, gd (7 : Int32) 9 k = k := gd_in (i := 7) (by decide) (by decide)
  have g8 : ∀ {β : Type} {k : Option β}, gd (8 : Int32) 9 k = k := gd_in (i := 8) (by decide) (by decide)
  have h3 := hO.1.2.2.2.1
  rw [hg, cV_s, bnd_s, bnd_s, if_pos (show (sv v 16 (v.1 3)).1 3 = 0 from h3), gb_1, bnd_s, if_neg (show ¬ (sv (sv v 16 (v.1 3)) 17 1).1 17 = 0 by show ¬ (1 : Int32) = 0; decide), h3]
  rw [g0, bnd_s, g1, bnd_s, g2, bnd_s, g3, bnd_s, g4, bnd_s, g5, bnd_s, g6, bnd_s, g7, bnd_s, g8, bnd_s]
  obtain ⟨q1, q2, q3, q4, q5, q6, ⟨q71, q72, q73, q74⟩, q8, q9, q10, q11⟩ := hR
  generalize hw : (sa (sa (sa (sa (sa (sa (sa (sa (sa (sv (sv v 16 0) 17 1) 8 (0 : Int32).toNatClampNeg _) 8 (1 : Int32).toNatClampNeg _) 8 (2 : Int32).toNatClampNeg _) 8 (3 : Int32).toNatClampNeg _) 8 (4 : Int32).toNatClampNeg _) 8 (5 : Int32).toNatClampNeg _) 8 (6 : Int32).toNatClampNeg _) 8 (7 : Int32).toNatClampNeg _) 8 (8 : Int32).toNatClampNeg _) = w0
  obtain ⟨w1, a1, a2, a3, -⟩ := cp141 60 0 FU w0 (by omega) (by unfold FU; omega)
  obtain ⟨w2, b1, b2, b3, -⟩ := cp191 300 0 FU w1 (by omega) (by unfold FU; omega)
  have a1' : f_M_judge_L141 FU w0 0 = some w1 := a1
  have b1' : f_M_judge_L191 FU w1 0 = some w2 := b1
  rw [a1', cT_s, b1', cT_s]
  have k8 : w2.2 8 = w0.2 8 := (b2.2 8 (by decide)).trans (a2.2 8 (by decide))
  refine ⟨w2, rfl, ?_, ?_, ?_, ?_, ?_, ?_, ?_, ?_, ?_, ?_, ?_, ?_, ?_, ?_, ?_⟩
  · rw [b2.1 0 (by decide), a2.1 0 (by decide), ← hw]; rfl
  · rw [b2.2 0 (by decide), a2.2 0 (by decide), ← hw]; rfl
  · rw [b2.1 16 (by decide), a2.1 16 (by decide), ← hw]; rfl
  · rw [b2.1 17 (by decide), a2.1 17 (by decide), ← hw]; rfl
  · rw [k8, ← hw, ← q1]; rfl
  · rw [k8, ← hw, ← q4]; rfl
  · rw [k8, ← hw, ← q5]; rfl
  · rw [k8, ← hw, ← q6]; rfl
  · rw [k8, ← hw, ← q71]; rfl
  · rw [k8, ← hw, ← q72]; rfl
  · rw [k8, ← hw, ← q73]; rfl
  · rw [k8, ← hw, ← q74]; rfl
  · rw [k8, ← hw, ← q8]; rfl
  · intro i hi
    rw [b2.2 9 (by decide), a3 i (by omega) hi, ← hw]
    rfl
  · intro i hi
    rw [b3 i (by omega) hi, a2.2 1 (by decide), ← hw]
    rfl
theorem cpy_in {f g : Nat → Int32} {n k : Nat} (h : k < n) : va_cpy f g 0 0 n k = f k := by
  unfold va_cpy
  rw [if_pos ⟨Nat.zero_le _, by omega⟩, Nat.zero_add, Nat.sub_zero]
theorem rl_judge (h : RL s t) : ∃ (r : Int32) (s' t' : St), f_X_judge s = some (r, s') ∧ f_M_judge t = some (r, t') ∧ RL s' t' := by
  obtain ⟨N, h⟩ := h
  have hN := h.1
  rcases both h with ⟨r, r', w, v, v', er, e1, e2, g1, g2⟩ | ⟨q, j, v, v', -, e1, e2, g1, g2, g3, g4⟩
  · have h' := RLN_k h g1.1.2.1 g1.2 g2.2
    have x2 := g1.1.2.2.2.1
    have x3 := g1.1.2.2.2.2.2.2
    have m3' := g2.1.2.2.2.1
    have m4 := g2.1.2.2.2.2.2.2
    have ne := XB_ne g1.1
    have ne' := RB_ne g2
    refine ⟨1 + nI w, sv (sv v 4 0) 5 (v.1 2), sv (sv v' 16 (v'.1 3)) 17 0, ?_, ?_, N, hN, h'.2.1, h'.2.2.1, h'.2.2.2.1, h'.2.2.2.2.1, h'.2.2.2.2.2.1, ?_⟩
    · unfold f_X_judge
      rw [e1, cI_s, keep_0, cV_s, sound_eq, cI_s, if_neg (show ¬ (sv (sv v 4 0) 5 (v.1 2)).1 2 = 0 from ne), bnd_s, if_pos rfl, show (sv (sv v 4 0) 5 (v.1 2)).1 3 = nI w from x3]
    · unfold f_M_judge
      rw [h.2.2.1, e2, cV_s, bnd_s, bnd_s, if_neg (show ¬ (sv v' 16 (v'.1 3)).1 3 = 0 from ne'), gb_0, bnd_s, if_pos (show (sv (sv v' 16 (v'.1 3)) 17 0).1 17 = 0 from rfl), show (sv (sv v' 16 (v'.1 3)) 17 0).1 4 = nI w from m4]
    · refine ⟨?_, rfl, fun q => absurd rfl q⟩
      show v.1 2 = v'.1 3 ∨ (v.1 2 = 12 ∧ v'.1 3 = 11)
      rw [x2, m3']
      rcases er with er | ⟨er, er'⟩
      · rw [er]; exact Or.inl rfl
      · rw [er, er']; exact Or.inr ⟨rfl, rfl⟩
  · have h' := RLN_k h g1.1.2.1 g1.2 g2.2
    have x2 := g1.1.2.2.2.1
    obtain ⟨t', f1, f2, f3, f4, f5, t0, t1, t2, t3, t4, t5, t6, t7, t8, t9, t10⟩ := judge_1 (q := q) g2 g4 (by rw [h.2.2.1]; exact e2)
    obtain ⟨x_0, xc, xK, x_1, x_2, x_3, ⟨x_4, x_5, x_6, x_7⟩, x_8, xR, xl, xm⟩ := g3
    obtain ⟨-, -, yK, -, -, -, -, -, yR, -, -⟩ := g4
    refine ⟨0, K1 v (v.1 2), t', ?_, f1, N, hN, h'.2.1, ?_, h'.2.2.2.1, ?_, h'.2.2.2.2.2.1, ?_⟩
    · unfold f_X_judge
      rw [e1, cI_s, keep_1, cV_s, sound_eq, cI_s, if_pos (show (K1 v (v.1 2)).1 2 = 0 from x2), bnd_s, if_neg (by decide)]
    · rw [f2]; exact h'.2.2.1
    · rw [f3]; exact h'.2.2.2.2.1
    · refine ⟨?_, ?_, fun _ => ⟨q.1, q.2.2.2.2.1, xc, xm, ?_, ?_, ?_, ?_, ?_⟩⟩
      · refine Or.inl ?_
        show v.1 2 = _
        rw [f4]; exact x2
      · show (1 : Int32) = _
        rw [f5]
      · show va_cpy (v.2 12) (v.2 1) 0 0 9 0 = _
        rw [cpy_in (by decide)]; exact x_0
      · show va_cpy (v.2 12) (v.2 1) 0 0 9 3 = _
        rw [cpy_in (by decide)]; exact x_3
      · intro i hi
        show va_cpy (v.2 12) (v.2 1) 0 0 9 i = _
        rw [cpy_in hi]
        have ci : i = 0 ∨ i = 1 ∨ i = 2 ∨ i = 3 ∨ i = 4 ∨ i = 5 ∨ i = 6 ∨ i = 7 ∨ i = 8 := by omega
        rcases ci with c | c | c | c | c | c | c | c | c
        · rw [c, t0]; exact x_0
        · rw [c, t1]; exact x_1
        · rw [c, t2]; exact x_2
        · rw [c, t3]; exact x_3
        · rw [c, t4]; exact x_4
        · rw [c, t5]; exact x_5
        · rw [c, t6]; exact x_6
        · rw [c, t7]; exact x_7
        · rw [c, t8]; exact x_8
      · intro i hi
        show va_cpy (v.2 13) (v.2 2) 0 0 360 i = _
        rw [cpy_in (by omega), t9 i (by omega)]
        have hk : i / 6 < q.2.2.2.2.2.2.2.length := by rw [xl]; omega
        obtain ⟨a0, a1, a2, a3, a4, a5⟩ := xR (i / 6) _ (List.getElem?_eq_getElem hk)
        obtain ⟨b0, b1, b2, b3, b4, b5⟩ := yR (i / 6) _ (List.getElem?_eq_getElem hk)
        have ci : i % 6 = 0 ∨ i % 6 = 1 ∨ i % 6 = 2 ∨ i % 6 = 3 ∨ i % 6 = 4 ∨ i % 6 = 5 := by omega
        rcases ci with c | c | c | c | c | c
        · have ea : i = i / 6 * 6 := by omega
          have eb : i = 6 * (i / 6) := by omega
          rw [show v.2 13 i = v.2 13 (i / 6 * 6) by rw [← ea], show v'.2 3 i = v'.2 3 (6 * (i / 6)) by rw [← eb], a0, b0]
        · have ea : i = i / 6 * 6 + 1 := by omega
          have eb : i = 6 * (i / 6) + 1 := by omega
          rw [show v.2 13 i = v.2 13 (i / 6 * 6 + 1) by rw [← ea], show v'.2 3 i = v'.2 3 (6 * (i / 6) + 1) by rw [← eb], a1, b1]
        · have ea : i = i / 6 * 6 + 2 := by omega
          have eb : i = 6 * (i / 6) + 2 := by omega
          rw [show v.2 13 i = v.2 13 (i / 6 * 6 + 2) by rw [← ea], show v'.2 3 i = v'.2 3 (6 * (i / 6) + 2) by rw [← eb], a2, b2]
        · have ea : i = i / 6 * 6 + 3 := by omega
          have eb : i = 6 * (i / 6) + 3 := by omega
          rw [show v.2 13 i = v.2 13 (i / 6 * 6 + 3) by rw [← ea], show v'.2 3 i = v'.2 3 (6 * (i / 6) + 3) by rw [← eb], a3, b3]
        · have ea : i = i / 6 * 6 + 4 := by omega
          have eb : i = 6 * (i / 6) + 4 := by omega
          rw [show v.2 13 i = v.2 13 (i / 6 * 6 + 4) by rw [← ea], show v'.2 3 i = v'.2 3 (6 * (i / 6) + 4) by rw [← eb], a4, b4]
        · have ea : i = i / 6 * 6 + 5 := by omega
          have eb : i = 6 * (i / 6) + 5 := by omega
          rw [show v.2 13 i = v.2 13 (i / 6 * 6 + 5) by rw [← ea], show v'.2 3 i = v'.2 3 (6 * (i / 6) + 5) by rw [← eb], a5, b5]
      · intro i hi1 hi2
        show va_cpy (v.2 4) (v.2 3) 0 0 300 i = _
        rw [cpy_in (by omega), t10 i (by omega), xK i hi1 hi2, yK i (by omega)]
theorem grdL {x1 : Int32} : ∀ (m j g g' : Nat) (s t : St) (y : Int32), j + m = N → m < g → m < g' → RLN N s t → ∃ (s' t' : St) (y' : Int32), f_X_guarded_L28 x1 g s y (nI j) = some (s', y') ∧ f_M_guarded_L35 x1 g' t y (nI j) = some (t', y') ∧ RLN N s' t'
  | 0, j, g + 1, g' + 1, s, t, y, h1, _, _, h => by
    have hN := h.1
    refine ⟨s, t, y, ?_, ?_, h⟩
    · rw [f_X_guarded_L28, h.2.1, if_pos (nI_le (by omega) (by omega))]
    · rw [f_M_guarded_L35, h.2.2.1, if_pos (nI_le (by omega) (by omega))]
  | m + 1, j, g + 1, g' + 1, s, t, y, h1, h2, h3, h => by
    have hN := h.1
    have hj : j < N := by omega
    rw [f_X_guarded_L28, f_M_guarded_L35, h.2.1, h.2.2.1, if_neg (nI_ge (by omega) (by omega)), if_neg (nI_ge (by omega) (by omega)), flip_eq h.2.1 hN hj, cV_s, gd_in (by omega) (by decide), gd_in (by omega) (by decide), bnd_s, ncl (by omega), ← h.2.2.2.2.1, xor_n]
    have ha := RLN_sa (j := j) (x := s.2 0 j ^^^ x1) h
    generalize sa s 0 j (vp_nar .byte (s.2 0 j ^^^ x1).toInt8.toInt32) = s1 at ha ⊢
    generalize sa t 0 j (vp_nar .byte (s.2 0 j ^^^ x1).toInt8.toInt32) = t1 at ha ⊢
    rw [ha.2.2.1]
    have fin : ∀ (s2 t2 : St) (y2 : Int32), RLN N s2 t2 → ∃ (s' t' : St) (y' : Int32), (cV (f_W_flip s2 (nI j) x1) fun u10 => f_X_guarded_L28 x1 g u10 y2 (nI j + 1)) = some (s', y') ∧ (gd (nI j) 4000 (gd (nI j) 4000 (bnd (sa t2 0 j (vp_nar .byte ((t2.2 0 j) ^^^ (x1).toInt8.toInt32).toInt8.toInt32)) fun u7 => f_M_guarded_L35 x1 g' u7 y2 (nI j + 1)))) = some (t', y') ∧ RLN N s' t' := by
      intro s2 t2 y2 hb
      rw [flip_eq hb.2.1 hN hj, cV_s, gd_in (by omega) (by decide), gd_in (by omega) (by decide), bnd_s, ← hb.2.2.2.2.1, xor_n, nI_1]
      exact grdL m (j + 1) g g' _ _ y2 (by omega) (by omega) (by omega) (RLN_sa (j := j) (x := s2.2 0 j ^^^ x1) hb)
    rcases both ha with ⟨r, r', w, v, v', -, e1, e2, g1, g2⟩ | ⟨q, i, v, v', -, e1, e2, g1, g2, -, -⟩
    · have hb := RLN_k ha g1.1.2.1 g1.2 g2.2
      rw [e1, cI_s, bnd_s, if_pos rfl, e2, cV_s, bnd_s, if_neg (RB_ne g2)]
      exact fin v v' (y + 1) hb
    · have hb := RLN_k ha g1.1.2.1 g1.2 g2.2
      rw [e1, cI_s, bnd_s, if_neg (show ¬ (1 : Int32) = 0 by decide), e2, cV_s, bnd_s, if_pos g2.1.2.2.2.1, Int32.add_zero]
      exact fin v v' y hb
theorem rl_guarded (h : RL s t) (a : Int32) : ∃ (r : Int32) (s' t' : St), f_X_guarded s a = some (r, s') ∧ f_M_guarded t a = some (r, t') ∧ RL s' t' := by
  unfold f_X_guarded f_M_guarded
  by_cases h1 : a < 1
  · exact ⟨-1, s, t, by rw [if_pos h1], by rw [if_pos h1], h⟩
  · obtain ⟨m, hm, hm1, rfl⟩ := n1_of h1
    rw [if_neg h1, if_neg h1]
    by_cases h2 : m ≤ 255
    · rw [if_neg (show ¬ (255 : Int32) < nI m from nI_nlt (a := 255) (by omega) (by omega)), if_pos (show nI m ≤ 255 from nI_le (b := 255) h2 (by decide))]
      obtain ⟨N, h⟩ := h
      have hN := h.1
      rcases both h with ⟨r, r', w, v, v', -, e1, e2, g1, g2⟩ | ⟨q, i, v, v', -, e1, e2, g1, g2, -, -⟩
      · have hb := RLN_k h g1.1.2.1 g1.2 g2.2
        rw [e1, cI_s, if_pos rfl, h.2.2.1, e2, cV_s, if_neg (RB_ne g2)]
        exact ⟨-1, v, v', rfl, rfl, N, hb⟩
      · have hb := RLN_k h g1.1.2.1 g1.2 g2.2
        rw [e1, cI_s, if_neg (show ¬ (1 : Int32) = 0 by decide), h.2.2.1, e2, cV_s, if_pos g2.1.2.2.2.1]
        obtain ⟨s', t', y', f1, f2, f3⟩ := grdL (x1 := nI m) N 0 FU FU v v' 0 (by omega) (by unfold FU; omega) (by unfold FU; omega) hb
        have f1' : f_X_guarded_L28 (nI m) FU v 0 0 = some (s', y') := f1
        have f2' : f_M_guarded_L35 (nI m) FU v' 0 0 = some (t', y') := f2
        rw [f1', f2', cT_s, cT_s]
        exact ⟨y', s', t', rfl, rfl, N, f3⟩
    · rw [if_pos (show (255 : Int32) < nI m from nI_lt (a := 255) (by omega) (by omega)), if_neg (show ¬ nI m ≤ 255 from nI_ge (a := 255) (by omega) (by omega))]
      exact ⟨-1, s, t, rfl, rfl, h⟩
theorem begL {F : Nat → Nat} (hN : N ≤ 4000) (hgo : ∀ k, k < N → sGo F k 0 = .error (1, k)) : ∀ (m k g : Nat) (t : St), k + m = N → m < g → t.1 0 = nI N → bn (t.2 0) → xF t = F → ∃ t', f_M_beginnings_L21 g t (nI k) (nI k) = some (t', nI N) ∧ kr t t'
  | 0, k, g + 1, t, h1, _, t0, hb, hF => by
    have : k = N := by omega
    subst this
    refine ⟨t, ?_, rfl, rfl, rfl, rfl, rfl, rfl, rfl⟩
    rw [f_M_beginnings_L21, t0, if_pos (nI_le (by omega) (by omega))]
  | m + 1, k, g + 1, t, h1, h2, t0, hb, hF => by
    obtain ⟨v, e, hv⟩ := go_m (z := t) (N := k) (F := F) (by omega) hb hF ⟨rfl, rfl, rfl, rfl, rfl, rfl, rfl⟩
    rw [hgo k (by omega)] at hv
    have hv' : RB k 1 k t v := hv
    obtain ⟨⟨-, -, b3, b4, -, -, b7⟩, hk⟩ := hv'
    rw [f_M_beginnings_L21, t0, if_neg (nI_ge (by omega) (by omega)), e, cV_s, bnd_s, if_pos (show v.1 3 = 1 from b4), if_pos b7, nI_1]
    obtain ⟨t', f1, f2⟩ := begL hN hgo m (k + 1) g v (by omega) (by omega) (hk.1.trans t0) b3 (by
      rw [← hF]
      unfold xF
      rw [hk.2.2.2.1])
    exact ⟨t', f1, kr_tr hk f2⟩
theorem rl_beginnings (h : RL s t) : ∃ (r : Int32) (s' t' : St), f_X_beginnings s = some (r, s') ∧ f_M_beginnings t = some (r, t') ∧ RL s' t' := by
  obtain ⟨N, h⟩ := h
  have hN := h.1
  unfold f_X_beginnings f_M_beginnings
  rcases both h with ⟨r, r', w, v, v', -, e1, e2, g1, g2⟩ | ⟨q, i, v, v', eg, e1, e2, g1, g2, -, -⟩
  · have hb := RLN_k h g1.1.2.1 g1.2 g2.2
    rw [e1, cI_s, bnd_s, if_pos rfl, h.2.2.1, e2, cV_s, if_neg (RB_ne g2)]
    exact ⟨-1, v, v', rfl, rfl, N, hb⟩
  · have hb := RLN_k h g1.1.2.1 g1.2 g2.2
    rw [e1, cI_s, bnd_s, if_neg (show ¬ (1 : Int32) = 0 by decide), h.2.2.1, e2, cV_s, if_pos g2.1.2.2.2.1, hb.2.1]
    obtain ⟨t', f1, f2⟩ := begL (F := xF s) hN (fun k hk => begins eg hk) N 0 FU v' (by omega) (by unfold FU; omega) hb.2.2.1 g2.1.2.2.1 (by
      unfold xF
      rw [g2.2.2.2.2.1, h.2.2.2.2.1])
    have f1' : f_M_beginnings_L21 FU v' 0 0 = some (t', nI N) := f1
    rw [f1', cT_s]
    exact ⟨nI N, v, t', rfl, rfl, N, RLN_k hb hb.2.1 ⟨hb.2.2.2.2.2.1, rfl, rfl, rfl, rfl, rfl, rfl⟩ f2⟩
end RUN

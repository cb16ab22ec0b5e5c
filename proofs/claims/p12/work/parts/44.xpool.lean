/-! THE POOL of the class, read; what it has -/
theorem b_noteTexts {N r w : Nat} {z u : St} (h : SB N r w z u) : wp (f_P_noteTexts u) (fun p => SB N r w z p) := ⟨u, noteB h.1, h⟩
theorem b_readLinks {N r w : Nat} {z u : St} (h : SB N r w z u) : wp (f_P_readLinks u) (fun p => SB N r w z p) := by
  unfold f_P_readLinks
  rw [lk1_b h.1 FU (by decide), cT_s]
  refine wp_cT_b (lk2_b h FU (by decide)) (fun _ h => ?_)
  exact wp_some h
theorem b_readEntries {N r w : Nat} {z u : St} (h : SB N r w z u) : wp (f_P_readEntries u) (fun p => SB N r w z p) := by
  unfold f_P_readEntries
  rw [nx_b h.1, cI_s]
  refine wp_bnd ?_
  rw [nd_b h.1, cV_s, snd_b h.1, cI_s]
  refine wp_bnd ?_
  refine wp_bnd_sv (by decide) h (fun v h => ?_)
  rw [entsB (c := 0) h.1 FU (by decide), cT_s]
  exact wp_some h
/-- what the links leave -/
def LK (F : Nat → Nat) (c : Nat) (K B : Nat → Nat) : Prop := NmOK F c K B ∧ (∀ k, isK c K k 7 = true → isK c K (n2 F (B k + 1)) 1 = true) ∧ ∀ k, 1 ≤ k → k < c → 9 ≤ K k → K k ≤ 11 → isK c K (n2 F (B k + 1)) 7 = true ∧ isK c K (n2 F (B k + 3)) 12 = true
/-- what the links leave -/
def LK_o (F : Nat → Nat) (c : Nat) (K B : Nat → Nat) : Prop := NmOK_o F c K B ∧ (∀ k, isK c K k 7 = true → isK c K (n2 F (B k + 1)) 1 = true) ∧ ∀ k, 1 ≤ k → k < c → 9 ≤ K k → K k ≤ 11 → isK c K (n2 F (B k + 1)) 7 = true ∧ isK c K (n2 F (B k + 3)) 12 = true
theorem LK_of {F : Nat → Nat} {c i j : Nat} {K B : Nat → Nat} {q q' : Unit × Nat} (h : sAll (sLk1 F c K B) (c - 1) 1 i = .ok q) (h' : sAll (sLk2 F c K B) (c - 1) 1 j = .ok q') : LK F c K B := by
  refine ⟨NmOK_of h, ?_, ?_⟩
  · intro m hm
    obtain ⟨m1, m2, m3⟩ := isK_t.mp hm
    have e := (sAll_ok sLk1_i _ _ _ _ h).2 m m1 (by omega)
    unfold sLk1 at e
    rw [if_pos m3] at e
    obtain ⟨a, j, h1, h2⟩ := pb_ok e
    exact (pn_ok h1).1
  · intro m m1 m2 m3 m4
    have e := (sAll_ok sLk2_i _ _ _ _ h').2 m m1 (by omega)
    unfold sLk2 at e
    rw [if_pos (by omega)] at e
    obtain ⟨a, j, h1, h2⟩ := pb_ok e
    obtain ⟨a2, j2, h3, h4⟩ := pb_ok h2
    exact ⟨(pn_ok h1).1, (pn_ok h3).1⟩
theorem LK_of_o {F : Nat → Nat} {c i j : Nat} {K B : Nat → Nat} {q q' : Unit × Nat} (h : sAll (sLk1_o F c K B) (c - 1) 1 i = .ok q) (h' : sAll (sLk2_o F c K B) (c - 1) 1 j = .ok q') : LK_o F c K B := by
  refine ⟨NmOK_of_o h, ?_, ?_⟩
  · intro m hm
    obtain ⟨m1, m2, m3⟩ := isK_t.mp hm
    have e := (sAll_ok sLk1_i_o _ _ _ _ h).2 m m1 (by omega)
    unfold sLk1_o at e
    rw [if_pos m3] at e
    obtain ⟨a, j, h1, h2⟩ := pb_ok e
    exact (pn_ok h1).1
  · intro m m1 m2 m3 m4
    have e := (sAll_ok sLk2_i_o _ _ _ _ h').2 m m1 (by omega)
    unfold sLk2_o at e
    rw [if_pos (by omega)] at e
    obtain ⟨a, j, h1, h2⟩ := pb_ok e
    obtain ⟨a2, j2, h3, h4⟩ := pb_ok h2
    exact ⟨(pn_ok h1).1, (pn_ok h3).1⟩
/-- the pool as the class has it -/
def PW_o (F : Nat → Nat) (N c : Nat) (K B : Nat → Nat) (u : St) : Prop := xF u = F ∧ u.1 6 = nI c ∧ c ≤ 300 ∧ TabG F N c K B (fs2_o F c K B c) (ms2_o F c K B c) u ∧ LK_o F c K B
theorem pool_W_o {γ β : Type} {F : Nat → Nat} {N i : Nat} {z u : St} {k : St → Option γ} {f : (Nat × (Nat → Nat) × (Nat → Nat)) → P β} {st : γ → St} {ψ : β → γ → Prop} (hO : SO N i z u) (hF : xF u = F) (h1 : ∀ c K B j v, SO N j z v → PW_o F N c K B v → ko [1, 2, 3, 6] [4, 5, 6, 7, 8] u v → 1 ≤ c → wp (k v) (XP N z st (f (c, K, B) j) ψ)) (h2 : ∀ r w u, SB N r w z u → wp (k u) (XP N z st (.error (r, w)) ψ)) : wp (cV (f_P_readEntries u) fun u5 => cV (f_P_noteTexts u5) fun u7 => cV (f_P_readLinks u7) k) (XP N z st (pb (sPool_o F N) f i) ψ) := by
  obtain ⟨u1, e1, k1, -, r1⟩ := readEntries_eq F hO.1 hF
  rw [e1, cV_s]
  have kp1 : kp z u1 := kp_ko hO.2 k1 (by decide) (by decide)
  unfold sPool_o
  cases hp : sPre F N i with
  | error e =>
    rw [hp] at r1
    rw [pb_x (pb_x hp)]
    have h : SB N e.1 e.2 z u1 := ⟨r1, kp1⟩
    refine wp_cV_b (b_noteTexts h) (fun _ h => ?_)
    refine wp_cV_b (b_readLinks h) (fun _ h => ?_)
    exact h2 _ _ _ h
  | ok q =>
    obtain ⟨⟨c, K, B⟩, j⟩ := q
    rw [hp] at r1
    obtain ⟨o1, c6, c1, c2, T1⟩ : XO N j u1 ∧ u1.1 6 = nI c ∧ 1 ≤ c ∧ c ≤ 300 ∧ Tab F N c K B u1 := r1
    have F1 : xF u1 = F := (ko_F k1 (by decide)).trans hF
    obtain ⟨u2, e2, k2, T2⟩ := noteTexts_eq_o F K B c1 c2 o1 F1 c6 T1
    rw [e2, cV_s]
    have o2 : XO N j u2 := XO_ko o1 k2 (by decide) (by decide)
    have F2 : xF u2 = F := (ko_F k2 (by decide)).trans F1
    have c62 : u2.1 6 = nI c := (k2.1 6 (by decide)).trans c6
    unfold f_P_readLinks
    obtain ⟨u3, e3, k3, r3⟩ := lk1_eq_o F K B c2 (c - 1) 1 FU j u2 (by omega) (by unfold FU; omega) (by omega) o2 F2 c62 (by
      intro t a1 a2
      obtain ⟨s1, s2, s3, s4, s5, s6⟩ := T2 t a1 a2
      exact ⟨s1, s2, s3, by rw [s4, ms1_o, if_neg (by omega)], s5, s6⟩)
    have e3' : f_P_readLinks_L2 FU u2 1 = some u3 := e3
    rw [e3', cT_s]
    have kp3 : kp z u3 := kp_ko (kp_ko kp1 k2 (by decide) (by decide)) k3 (by decide) (by decide)
    have hq : ∀ {a : Type} (g : (Nat × (Nat → Nat) × (Nat → Nat)) → P a), pb (sPre F N) g i = g (c, K, B) j := fun g => pb_s hp
    cases hl : sAll (sLk1_o F c K B) (c - 1) 1 j with
    | error e =>
      rw [hl] at r3
      have h : SB N e.1 e.2 z u3 := ⟨r3, kp3⟩
      have : (pb (pb (sPre F N) fun q => pb (sAll (sLk1_o F q.1 q.2.1 q.2.2) (q.1 - 1) 1) fun _ => pb (sAll (sLk2_o F q.1 q.2.1 q.2.2) (q.1 - 1) 1) fun _ => pp q) f) i = .error e := by
        refine pb_x ?_
        rw [hq]
        exact pb_x hl
      rw [this]
      refine wp_cV (wp_cT_b (lk2_b h FU (by decide)) (fun _ h => wp_some ?_))
      exact h2 _ _ _ h
    | ok q1 =>
      obtain ⟨x1, j1⟩ := q1
      rw [hl] at r3
      obtain ⟨o3, T3⟩ : XO N j1 u3 ∧ TabG F N c K B (nfs_o F K B c) (ms1_o F c K B c) u3 := r3
      have F3 : xF u3 = F := (ko_F k3 (by decide)).trans F2
      have c63 : u3.1 6 = nI c := (k3.1 6 (by decide)).trans c62
      have w2 := lk2_eq_o (z := z) c2 (NmOK_of_o hl) (c - 1) 1 FU j1 u3 (by omega) (by unfold FU; omega) (by omega) ⟨o3, kp3⟩ F3 c63 (by
        intro t a1 a2
        obtain ⟨s1, s2, s3, s4, s5, s6⟩ := T3 t a1 a2
        exact ⟨s1, s2, by rw [s3, fs2_o, if_neg (by omega)], by rw [s4, ms2_o, if_neg (by omega)], s5, s6⟩)
      have w2' : wp (f_P_readLinks_L101 FU u3 1) _ := w2
      refine wp_cV (wp_cT (wp_mono w2' fun v hv => wp_some ?_))
      cases hm : sAll (sLk2_o F c K B) (c - 1) 1 j1 with
      | error e =>
        rw [hm] at hv
        have : (pb (pb (sPre F N) fun q => pb (sAll (sLk1_o F q.1 q.2.1 q.2.2) (q.1 - 1) 1) fun _ => pb (sAll (sLk2_o F q.1 q.2.1 q.2.2) (q.1 - 1) 1) fun _ => pp q) f) i = .error e := by
          refine pb_x ?_
          rw [hq]
          dsimp only
          rw [pb_s hl]
          exact pb_x hm
        rw [this]
        exact h2 _ _ _ hv
      | ok q2 =>
        obtain ⟨x2, j2⟩ := q2
        rw [hm] at hv
        obtain ⟨ov, kv, Tv⟩ : SO N j2 z v ∧ ko [] [6, 7] u3 v ∧ TabG F N c K B (fs2_o F c K B c) (ms2_o F c K B c) v := hv
        have : (pb (pb (sPre F N) fun q => pb (sAll (sLk1_o F q.1 q.2.1 q.2.2) (q.1 - 1) 1) fun _ => pb (sAll (sLk2_o F q.1 q.2.1 q.2.2) (q.1 - 1) 1) fun _ => pp q) f) i = f (c, K, B) j2 := by
          refine pb_s ?_
          rw [hq]
          dsimp only
          rw [pb_s hl, pb_s hm]
          rfl
        rw [this]
        refine h1 c K B j2 v ov ⟨(ko_F kv (by decide)).trans F3, (kv.1 6 (by decide)).trans c63, c2, Tv, LK_of_o hl hm⟩ ?_ c1
        have a1 : ko [1, 2, 3, 6] [4, 5, 6, 7, 8] u1 u2 := ko_mono k2 (fun _ h => by cases h) (fun k h => by simp at h ⊢; omega)
        have a2 : ko [1, 2, 3, 6] [4, 5, 6, 7, 8] u2 u3 := ko_mono k3 (fun k h => by simp at h ⊢; omega) (fun k h => by simp at h ⊢; omega)
        have a3 : ko [1, 2, 3, 6] [4, 5, 6, 7, 8] u3 v := ko_mono kv (fun _ h => by cases h) (fun k h => by simp at h ⊢; omega)
        exact ko_tr k1 (ko_tr a1 (ko_tr a2 a3))
section PW_o
variable {F : Nat → Nat} {N c i : Nat} {K B : Nat → Nat} {z u : St}
theorem PW_F_o (h : PW_o F N c K B u) (j : Nat) : F j < 256 := by rw [← h.1]; exact by8_lt _ _
theorem n2_lt_o (h : PW_o F N c K B u) (w : Nat) : n2 F w < 65536 := be_lt (PW_F_o h) w 2
theorem PW_o.X (h : PW_o F N c K B u) (hO : SO N i z u) : XI N c u := XI_o hO.1 h.2.1 h.2.2.1
/-- a state with the same pool -/
theorem PW_o.keep {v : St} (h : PW_o F N c K B u) (h6 : v.1 6 = u.1 6) (ha : ∀ k, k = 0 ∨ (4 ≤ k ∧ k ≤ 8) → v.2 k = u.2 k) : PW_o F N c K B v := by
  obtain ⟨a, b, d, e, f⟩ := h
  refine ⟨by unfold xF; rw [ha 0 (by omega)]; exact a, h6.trans b, d, ?_, f⟩
  intro t h1 h2
  obtain ⟨s1, s2, s3, s4, s5, s6⟩ := e t h1 h2
  exact ⟨by rw [ha 4 (by omega)]; exact s1, s2, by rw [ha 6 (by omega)]; exact s3, by rw [ha 7 (by omega)]; exact s4, fun q => by rw [ha 5 (by omega)]; exact s5 q, fun q => by rw [ha 8 (by omega)]; exact s6 q⟩
theorem PW_o.kind (h : PW_o F N c K B u) (hO : SO N i z u) {t kd : Nat} (ht : t < 65536) (hkd : 1 ≤ kd ∧ kd < 256) : ∃ x, f_P_kindOf u (nI t) = some (x, u) ∧ ((x = nI kd) ↔ isK c K t kd = true) := kind_is h.2.2.2.1 (h.X hO) ht hkd
theorem PW_o.fact (h : PW_o F N c K B u) (hO : SO N i z u) {t : Nat} (ht : isK c K t 1 = true) : f_P_factsOf u (nI t) = some (fcv_o F (tn F B t) (ta B t), u) := by rw [fact_T (h.X hO) h.2.2.2.1 ht, fs2_t_o ht]
theorem PW_o.meas (h : PW_o F N c K B u) (hO : SO N i z u) {t : Nat} (ht : isK c K t 1 = true) : f_P_measureOf u (nI t) = some (nI (slT_o F B t), u) := by rw [meas_T (h.X hO) h.2.2.2.1 ht, ms2_t_o ht, (ms_sl_o F B t).1]
theorem PW_o.measC (h : PW_o F N c K B u) (hO : SO N i z u) {t : Nat} (ht : isK c K t 7 = true) : f_P_measureOf u (nI t) = some (nI (bkC F B t), u) := by
  obtain ⟨q1, q2, q3⟩ := isK_t.mp ht
  rw [meas_T (h.X hO) h.2.2.2.1 ht, ms2_o, if_neg (by omega), ms1_o, if_pos ⟨q2, q3⟩]
theorem PW_o.factM (h : PW_o F N c K B u) (hO : SO N i z u) {t kd : Nat} (ht : isK c K t kd = true) (hk : kd = 9 ∨ kd = 10 ∨ kd = 11) : f_P_factsOf u (nI t) = some (if wT F B 0 (nmM F B t) then 4 else 0, u) := by
  obtain ⟨q1, q2, q3⟩ := isK_t.mp ht
  rw [fact_T (h.X hO) h.2.2.2.1 ht, fs2_o, if_pos ⟨q2, by omega⟩, fc_4_o]
theorem PW_o.measM (h : PW_o F N c K B u) (hO : SO N i z u) {t kd : Nat} (ht : isK c K t kd = true) (hk : kd = 9 ∨ kd = 10 ∨ kd = 11) : f_P_measureOf u (nI t) = some (nI (slT_o F B (tyM F B t)), u) := by
  obtain ⟨q1, q2, q3⟩ := isK_t.mp ht
  rw [meas_T (h.X hO) h.2.2.2.1 ht, ms2_o, if_pos ⟨q2, by omega⟩, (ms_sl_o F B _).1]
theorem PW_o.first (h : PW_o F N c K B u) (hO : SO N i z u) {t kd : Nat} (ht : isK c K t kd = true) (hk : kd = 1 ∨ kd = 7 ∨ kd = 8 ∨ kd = 12) : f_P_firstOf u (nI t) = some (nI (n2 F (B t + 1)), u) := first_T (h.X hO) h.1 h.2.2.2.1 ht hk
theorem PW_o.text (h : PW_o F N c K B u) {t : Nat} (ht : isK c K t 1 = true) : u.2 5 t = nI (B t) ∧ B t + 3 + tn F B t ≤ N ∧ u.2 8 t = hs F (tn F B t) (ta B t) 0 ∧ 1 ≤ t ∧ t < c := by
  obtain ⟨q1, q2, q3⟩ := isK_t.mp ht
  obtain ⟨-, -, -, -, s5, s6⟩ := h.2.2.2.1 t q1 q2
  exact ⟨(s5 (by omega)).1, (s5 (by omega)).2.2.1 q3, s6 q3, q1, q2⟩
theorem PW_o.spell (h : PW_o F N c K B u) (hO : SO N i z u) {t j : Nat} (ht : isK c K t 1 = true) (hj : j < 10) : f_P_spells u (nI t) j = some (if wT F B j t then 1 else 0, u) := by
  obtain ⟨a1, a2, -, a3, a4⟩ := h.text ht
  rw [spells_eq (h.X hO) ⟨a3, a4⟩ hj a1 (by rw [h.1]; exact a2), h.1]
  rfl
end PW_o
/-! equal texts -/
theorem hs_eq {F : Nat → Nat} : ∀ (m a b : Nat) (s : Int32), (∀ k, k < m → F (a + k) = F (b + k)) → hs F m a s = hs F m b s
  | 0, _, _, _, _ => rfl
  | m + 1, a, b, s, h => by
    rw [hs, hs, h 0 (by omega) |> fun e => (by simpa using e : F a = F b)]
    exact hs_eq m (a + 1) (b + 1) _ fun k hk => by
      have := h (k + 1) (by omega)
      rwa [show a + (k + 1) = a + 1 + k by omega, show b + (k + 1) = b + 1 + k by omega] at this
theorem eqT_i {F : Nat → Nat} {a b : Nat} : ∀ m, eqT F a b m = true ↔ ∀ k, k < m → F (a + k) = F (b + k)
  | 0 => by simp [eqT]
  | m + 1 => by
    rw [eqT, Bool.and_eq_true, eqT_i m, beq_iff_eq]
    constructor
    · rintro ⟨h1, h2⟩ k hk
      by_cases e : k = m
      · subst e; exact h1
      · exact h2 k (by omega)
    · intro h
      exact ⟨h m (by omega), fun k hk => h k (by omega)⟩
theorem alL_eq {N : Nat} {u : St} {F : Nat → Nat} (hF : xF u = F) (h4 : N ≤ 4000) (hN : u.1 0 = nI N) {s t p q n : Nat} (hs : s < 300) (ht : t < 300) (hp : u.2 5 s = nI p) (hq : u.2 5 t = nI q) (h1 : p + 3 + n ≤ N) (h2 : q + 3 + n ≤ N) : ∀ (m i f : Nat), m < f → i + m = n → f_P_alike_L67 (fun u25 => gb 1 (some (1, u25))) (nI s) (nI t) (nI n) f u (nI i) = some (if (∀ k, k < m → F (p + 3 + i + k) = F (q + 3 + i + k)) then 1 else 0, u)
  | 0, i, f + 1, _, hi => by
    rw [f_P_alike_L67, if_pos (nI_le (by omega) (by omega)), gb_1, if_pos (fun k hk => by omega)]
  | m + 1, i, f + 1, hf, hi => by
    have n1 : f_W_numberAt u (nI (p + 3 + i)) 1 = some (nI (xF u (p + 3 + i)), u) := by
      have := num_in u (k := 1) (w := p + 3 + i) hN h4 (by decide) (by omega)
      rwa [be1] at this
    have n2 : f_W_numberAt u (nI (q + 3 + i)) 1 = some (nI (xF u (q + 3 + i)), u) := by
      have := num_in u (k := 1) (w := q + 3 + i) hN h4 (by decide) (by omega)
      rwa [be1] at this
    rw [f_P_alike_L67, if_neg (nI_ge (by omega) (by omega)), gd_in hs (by decide), ncl (by omega), hp, show nI p + 3 = nI (p + 3) from nI_add p 3, nI_add, n1, cI_s, gd_in ht (by decide), ncl (by omega), hq, show nI q + 3 = nI (q + 3) from nI_add q 3, nI_add, n2, cI_s]
    have l1 : xF u (p + 3 + i) < 256 := by8_lt _ _
    have l2 : xF u (q + 3 + i) < 256 := by8_lt _ _
    by_cases e : xF u (p + 3 + i) = xF u (q + 3 + i)
    · rw [if_pos (by rw [e]), show nI i + 1 = nI (i + 1) from nI_add i 1, alL_eq hF h4 hN hs ht hp hq h1 h2 m (i + 1) f (by omega) (by omega)]
      have : (∀ k, k < m → F (p + 3 + (i + 1) + k) = F (q + 3 + (i + 1) + k)) ↔ (∀ k, k < m + 1 → F (p + 3 + i + k) = F (q + 3 + i + k)) := by
        constructor
        · intro h k hk
          cases k with
          | zero => rw [← hF]; exact e
          | succ k =>
            have := h k (by omega)
            rwa [show p + 3 + (i + 1) + k = p + 3 + i + (k + 1) by omega, show q + 3 + (i + 1) + k = q + 3 + i + (k + 1) by omega] at this
        · intro h k hk
          have := h (k + 1) (by omega)
          rwa [show p + 3 + i + (k + 1) = p + 3 + (i + 1) + k by omega, show q + 3 + i + (k + 1) = q + 3 + (i + 1) + k by omega] at this
      simp only [this]
    · rw [if_neg (fun z => e ((nI_eq (by omega) (by omega)).mp z)), gb_0, if_neg]
      intro h
      have := h 0 (by omega)
      rw [← hF] at this
      exact e this
theorem PW_o.alike {F : Nat → Nat} {N c i : Nat} {K B : Nat → Nat} {z u : St} (h : PW_o F N c K B u) (hO : SO N i z u) {s t : Nat} (hs' : isK c K s 1 = true) (ht : isK c K t 1 = true) : f_P_alike u (nI s) (nI t) = some (if smT F B s t then 1 else 0, u) := by
  obtain ⟨a1, a2, a3, a4, a5⟩ := h.text hs'
  obtain ⟨b1, b2, b3, b4, b5⟩ := h.text ht
  have hc := h.2.2.1
  have h4 := hO.1.1
  have hX := h.X hO
  unfold f_P_alike
  by_cases e : s = t
  · subst e
    have : smT F B s s = true := by
      unfold smT
      rw [Bool.and_eq_true]
      exact ⟨by simp, (eqT_i _).mpr fun _ _ => rfl⟩
    rw [if_pos rfl, if_pos rfl, bnd_s, gb_1, if_pos this]
  · have ne : ¬ nI s = nI t := fun q => e ((nI_eq (by omega) (by omega)).mp q)
    have w1 : f_P_within u (nI s) = some (1, u) := by rw [within_eq hX (by omega), if_pos ⟨a4, a5⟩]
    have w2 : f_P_within u (nI t) = some (1, u) := by rw [within_eq hX (by omega), if_pos ⟨b4, b5⟩]
    rw [if_neg ne, w1, cI_s, if_neg (show ¬ (1 : Int32) = 0 by decide), w2, cI_s, if_neg (show ¬ (1 : Int32) = 0 by decide), gd_in (by omega) (by decide), gd_in (by omega) (by decide), ncl (by omega), ncl (by omega), a3, b3]
    have l1 : tn F B s < 65536 := n2_lt_o h _
    have l2 : tn F B t < 65536 := n2_lt_o h _
    by_cases hh : hs F (tn F B s) (ta B s) 0 = hs F (tn F B t) (ta B t) 0
    · rw [if_pos hh, h.first hO hs' (by decide), cI_s, h.first hO ht (by decide), cI_s]
      show (if nI (tn F B s) = nI (tn F B t) then _ else _) = _
      by_cases en : tn F B s = tn F B t
      · rw [if_pos (by rw [en])]
        have := alL_eq h.1 h4 hO.1.2.1 (s := s) (t := t) (p := B s) (q := B t) (n := tn F B s) (by omega) (by omega) a1 b1 (by omega) (by omega) (tn F B s) 0 FU (by unfold FU; omega) (by omega)
        rw [nI_0] at this
        refine this.trans ?_
        have e2 : smT F B s t = true ↔ (∀ k, k < tn F B s → F (B s + 3 + 0 + k) = F (B t + 3 + 0 + k)) := by
          unfold smT
          rw [Bool.and_eq_true, eqT_i]
          exact ⟨fun q => q.2, fun q => ⟨by simp [en], q⟩⟩
        by_cases g : smT F B s t = true
        · rw [if_pos g, if_pos (e2.mp g)]
        · rw [if_neg g, if_neg (fun q => g (e2.mpr q))]
      · rw [if_neg (fun q => en ((nI_eq (by omega) (by omega)).mp q)), gb_0, if_neg]
        intro g
        unfold smT at g
        rw [Bool.and_eq_true, beq_iff_eq] at g
        exact en g.1
    · rw [if_neg hh, if_neg ne, bnd_s, gb_0, if_neg]
      intro g
      unfold smT at g
      rw [Bool.and_eq_true, beq_iff_eq, eqT_i] at g
      apply hh
      rw [← g.1]
      exact hs_eq _ _ _ _ g.2

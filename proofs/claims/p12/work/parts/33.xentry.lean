/-! ENTRIES in the class -/
theorem ko_F {s t : List Nat} {u v : St} (h : ko s t u v) (h0 : 0 ∉ t) : xF v = xF u := by unfold xF; rw [h.2 0 h0]
theorem readText_eq {N i k : Nat} {u : St} (F : Nat → Nat) (hO : XO N i u) (hF : xF u = F) (hk : k < 300) : ∃ u', f_P_readText u (nI k) = some u' ∧ ko [1, 2, 3] [8] u u' ∧ (∀ j, j ≠ k → u'.2 8 j = u.2 8 j) ∧ XR N ((pb pa fun z => pb (pu F N 2) fun n => sTxt F N z n 0 0 0) i) (fun _ => u'.2 8 k = hs F (be F i 2) (i + 2) 0 ∧ u'.1 1 = nI (i + 2 + be F i 2)) u' := by
  have hN := hO.1
  have hat : u.1 1 = nI i := hO.2.2.2.2.1
  have fin : ∀ (v : St) (x : Int32), ko [1, 2, 3] [] u v → gd (nI k) 300 (bnd (sa v 8 (nI k).toNatClampNeg x) fun u37 => some u37) = some (sa v 8 k x) ∧ ko [1, 2, 3] [8] u (sa v 8 k x) ∧ (∀ j, j ≠ k → (sa v 8 k x).2 8 j = u.2 8 j) := by
    intro v x hv
    refine ⟨by rw [gd_in hk (by decide), ncl (by omega)]; rfl, ko_tr (ko_mono hv (fun _ h => h) (fun _ h => by cases h)) (ko_sa (by decide)), fun j hj => ?_⟩
    rw [sa_a, if_pos rfl, upd, if_neg hj, hv.2 8 (by decide)]
  have fB : ∀ (v : St) (x : Int32) (r w : Nat), XB N r w v → XB N r w (sa v 8 k x) := fun v x r w h => XB_ko (s := []) (t := [8]) h (ko_sa (by decide)) (by decide) (by decide)
  unfold f_P_readText
  rw [pb_s (pa_i i)]
  by_cases c1 : i + 2 ≤ N
  · rw [nx_o2 hO c1, cI_s, pb_s (pu_s c1), hF]
    have hO1 : XO N (i + 2) (sv u 1 (nI (i + 2))) := XO_at hO c1
    have hF1 : xF (sv u 1 (nI (i + 2))) = F := hF
    have hk1 : ko [1, 2, 3] [] u (sv u 1 (nI (i + 2))) := ko_sv (by decide)
    generalize sv u 1 (nI (i + 2)) = v at hO1 hF1 hk1 ⊢
    have hn : be F i 2 < 65536 := by rw [← hF]; exact be_lt (fun j => by8_lt _ _) i 2
    generalize be F i 2 = n at hn ⊢
    obtain ⟨u', s', x', h1, h2, h3⟩ := txL_eq (sz := i) hn (nI k) (u.1 1) F n 0 0 0 0 (i + 2) FU 0 v (by unfold FU; omega) (by omega) hO1 hF1 (by decide) (by decide) (by decide)
    rw [nI_0] at h1
    rw [h1, cT_s, bnd_s, hat]
    have hk2 : ko [1, 2, 3] [] u u' := ko_tr hk1 h2
    cases hres : sTxt F N i n 0 0 0 (i + 2) with
    | ok q =>
      rw [hres] at h3
      obtain ⟨a1, a2, a3, a4⟩ := h3
      rw [if_pos a2, nd_t (by decide), cV_s]
      obtain ⟨b1, b2, b3⟩ := fin u' s' hk2
      refine ⟨_, b1, b2, b3, XO_ko (s := []) (t := [8]) a1 (ko_sa (by decide)) (by decide) (by decide), ?_, ?_⟩
      · rw [sa_a, if_pos rfl, upd, if_pos rfl]
        exact a3
      · rw [sa_g]
        have := a1.2.2.2.2.1
        rw [this, a4]
    | error e =>
      obtain ⟨r, w⟩ := e
      rw [hres] at h3
      rcases h3 with a | ⟨a1, a2, rfl, rfl⟩
      · rw [nd_b a, cV_s]
        obtain ⟨b1, b2, b3⟩ := fin u' s' hk2
        exact ⟨_, b1, b2, b3, fB _ _ _ _ a⟩
      · rw [if_neg a2, nd_5 a1, cV_s]
        obtain ⟨b1, b2, b3⟩ := fin (brk u' 5 w) s' (ko_tr hk2 brk_ko)
        exact ⟨_, b1, b2, b3, fB _ _ 5 _ (brk_B a1 (by decide) (by decide))⟩
  · rw [nx_e2 hO c1, cI_s, pb_x (pu_x c1), show FU = 69999 + 1 from rfl, f_P_readText_L32, if_pos (show (0 : Int32) ≤ 0 by decide), cT_s, bnd_s, if_pos rfl, nd_t (by decide), cV_s]
    obtain ⟨b1, b2, b3⟩ := fin (brk u 1 N) 0 brk_ko
    exact ⟨_, b1, b2, b3, fB _ _ 1 _ (brk_B hO (by decide) (by decide))⟩
theorem clear_eq {u : St} {k : Nat} (hk : k < 300) (x : Int32) : f_P_clear u (nI k) x = some (sa (sa (sa (sa u 4 k x) 5 k (u.1 1)) 6 k 0) 7 k 0) := by
  unfold f_P_clear
  rw [gd_in hk (by decide), bnd_s, gd_in hk (by decide), bnd_s, gd_in hk (by decide), bnd_s, gd_in hk (by decide), bnd_s, ncl (by omega)]
  rfl
/-- eight bytes: some number -/
theorem num8 (u : St) {N w : Nat} (hN : u.1 0 = nI N) (h4 : N ≤ 4000) (h : w + 8 ≤ N) : ∃ v, f_W_numberAt u (nI w) 8 = some (v, u) := by
  have loop : ∀ (m j f : Nat) (v : Int32), m < f → j + m = 8 → ∃ z, f_W_numberAt_L21 (nI w) 8 u f v (nI (w + j)) = some z := by
    intro m
    induction m with
    | zero =>
      intro j f v hf hj
      cases f with
      | zero => omega
      | succ f =>
        rw [f_W_numberAt_L21, if_pos (show nI w + 8 ≤ nI (w + j) by rw [show nI w + 8 = nI (w + 8) from nI_add w 8]; exact nI_le (by omega) (by omega))]
        exact ⟨_, rfl⟩
    | succ m ih =>
      intro j f v hf hj
      cases f with
      | zero => omega
      | succ f =>
        rw [f_W_numberAt_L21, if_neg (show ¬ nI w + 8 ≤ nI (w + j) by rw [show nI w + 8 = nI (w + 8) from nI_add w 8]; exact nI_ge (by omega) (by omega)), gd_in (by omega) (by decide), nI_1, show w + j + 1 = w + (j + 1) by omega]
        exact ih (j + 1) f _ (by omega) (by omega)
  obtain ⟨z, hz⟩ := loop 8 0 FU 0 (by unfold FU; omega) (by omega)
  refine ⟨z, ?_⟩
  unfold f_W_numberAt
  rw [Nat.add_zero] at hz
  rw [if_neg (nI_pos (by omega)), hN, if_pos (show nI w ≤ nI N - 8 from (nsI (c := 8) (by omega) (by omega) (by omega)).mpr h), hz, cT_s]
theorem nx_o8 {N i : Nat} {u : St} (h : XO N i u) (hi : i + 8 ≤ N) : ∃ v, f_W_next u 8 = some (v, sv u 1 (nI (i + 8))) := by
  have h4 := h.1
  obtain ⟨v, e⟩ := num8 u h.2.1 h.1 hi
  refine ⟨v, ?_⟩
  unfold f_W_next
  rw [if_pos h.2.2.2.1, h.2.2.2.2.1, h.2.1, if_pos (show nI i ≤ nI N - 8 from (nsI (c := 8) (by omega) (by omega) (by omega)).mpr hi), e, cI_s, bnd_s, h.2.2.2.2.1, show nI i + 8 = nI (i + 8) from nI_add i 8]

/-! ALL ENTRIES in the class -/
def Tab (F : Nat → Nat) (N k : Nat) (K B : Nat → Nat) (u : St) : Prop := ∀ t, 1 ≤ t → t < k → (K t = 0 ∧ u.2 4 t = 0 ∧ u.2 6 t = 0 ∧ u.2 7 t = 0) ∨ row F N u t (K t) (B t)
theorem sEnt_5 {F : Nat → Nat} {N c k w i j : Nat} (h : sEnt F N c k w i = .ok (5, j)) : k + 1 < c := by
  unfold sEnt at h
  unfold pb at h
  split at h
  · rename_i q hq
    simp only at h
    split at h
    · rename_i q2 hq2
      simp only [pp, Except.ok.injEq, Prod.mk.injEq] at h
      obtain ⟨h5, -⟩ := h
      rw [h5, if_neg (by omega), if_neg (by omega), if_pos rfl] at hq2
      split at hq2
      · unfold pn at hq2
        split at hq2
        · rename_i hd
          simpa using hd
        · cases hq2
      · cases hq2
    · cases h
  · cases h
theorem row_keep {F : Nat → Nat} {N t kd b : Nat} {u v : St} (h : row F N u t kd b) (e : ∀ a, v.2 a t = u.2 a t) : row F N v t kd b := ⟨h.1, by rw [e]; exact h.2.1, by rw [e]; exact h.2.2.1, by rw [e]; exact h.2.2.2.1, by rw [e]; exact h.2.2.2.2.1, fun z => by rw [e]; exact h.2.2.2.2.2.1 z, h.2.2.2.2.2.2⟩
theorem Tab_keep {F : Nat → Nat} {N k : Nat} {K B K' B' : Nat → Nat} {u v : St} (h : Tab F N k K B u) (e : ∀ a t, 1 ≤ t → t < k → v.2 a t = u.2 a t) (eK : ∀ t, t < k → K' t = K t) (eB : ∀ t, t < k → B' t = B t) : Tab F N k K' B' v := by
  intro t h1 h2
  rw [eK t h2, eB t h2]
  rcases h t h1 h2 with q | q
  · exact Or.inl ⟨q.1, by rw [e _ t h1 h2]; exact q.2.1, by rw [e _ t h1 h2]; exact q.2.2.1, by rw [e _ t h1 h2]; exact q.2.2.2⟩
  · exact Or.inr (row_keep q (fun a => e a t h1 h2))
theorem entsB {N r w c : Nat} {u : St} (h : XB N r w u) : ∀ g, 0 < g → ∀ x, f_P_readEntries_L64 g u x = some u := by
  intro g hg x
  cases g with
  | zero => omega
  | succ g =>
    rw [f_P_readEntries_L64]
    by_cases c1 : u.1 6 ≤ x
    · rw [if_pos c1]
    · rw [if_neg c1, snd_b h, cI_s, if_pos rfl]
theorem entsL_eq {N c : Nat} (F : Nat → Nat) (hc : c ≤ 300) : ∀ (f g k i : Nat) (K B : Nat → Nat) (u : St), c ≤ k + f → c + 1 < k + g → 1 ≤ k → k ≤ c → XO N i u → xF u = F → u.1 6 = nI c → Tab F N k K B u → ∃ u', f_P_readEntries_L64 g u (nI k) = some u' ∧ ko [1, 2, 3] [4, 5, 6, 7, 8] u u' ∧ XR N (sEnts F N c f k K B i) (fun q => Tab F N c q.1 q.2 u') u' := by
  intro f
  induction f with
  | zero =>
    intro g k i K B u h1 h2 h3 h4 hO hF h6 hT
    have : k = c := by omega
    subst this
    cases g with
    | zero => omega
    | succ g =>
      rw [f_P_readEntries_L64, h6, if_pos (nI_le (Nat.le_refl _) (by omega))]
      exact ⟨u, rfl, ko_rf, hO, hT⟩
  | succ f ih =>
    intro g k i K B u h1 h2 h3 h4 hO hF h6 hT
    cases g with
    | zero => omega
    | succ g =>
      rw [f_P_readEntries_L64, h6, sEnts]
      by_cases c1 : k < c
      · rw [if_neg (nI_ge c1 (by omega)), if_pos c1, snd_o hO, cI_s, if_neg (by decide), pb_s (pa_i i)]
        obtain ⟨v, e1, e2, e3, e4⟩ := readEntry_eq F hO hF (k := k) (by omega) h6 hc
        rw [e1, cV_s, gd_in (by omega) (by decide), ncl (by omega)]
        have h6v : v.1 6 = nI c := (e2.1 6 (by decide)).trans h6
        have hFv : xF v = F := (ko_F e2 (by decide)).trans hF
        cases hres : sEnt F N c k i i with
        | error er =>
          rw [hres] at e4
          rw [pb_x hres]
          have hB : XB N er.1 er.2 v := e4
          by_cases d : v.2 4 k = 5
          · rw [if_pos d, h6v, nI_1]
            by_cases c2 : k + 1 < c
            · rw [if_neg (nI_ge c2 (by omega)), clear_eq (by omega), cV_s, cT_s]
              have hk2 : ko [] [4, 5, 6, 7] v (sa (sa (sa (sa v 4 (k + 1) 0) 5 (k + 1) (v.1 1)) 6 (k + 1) 0) 7 (k + 1) 0) := ko_tr (ko_tr (ko_tr (ko_sa (by decide)) (ko_sa (by decide))) (ko_sa (by decide))) (ko_sa (by decide))
              have hB2 := XB_ko hB hk2 (by decide) (by decide)
              refine ⟨_, entsB (c := c) hB2 g (by omega) _, ko_tr e2 (ko_mono hk2 (by decide) (by decide)), hB2⟩
            · rw [if_pos (nI_le (by omega) (by omega)), cT_s]
              exact ⟨v, entsB (c := c) hB g (by omega) _, e2, hB⟩
          · rw [if_neg d, cT_s]
            exact ⟨v, entsB (c := c) hB g (by omega) _, e2, hB⟩
        | ok q =>
          obtain ⟨kd, j⟩ := q
          rw [hres] at e4
          rw [pb_s hres]
          obtain ⟨hOv, hr⟩ : XO N j v ∧ row F N v k kd i := e4
          have hT1 : Tab F N (k + 1) (upn K k kd) (upn B k i) v := by
            intro t t1 t2
            by_cases tk : t = k
            · subst tk
              exact Or.inr (by simpa [upn] using hr)
            · have := Tab_keep (K' := upn K k kd) (B' := upn B k i) hT (fun a t _ h => e3 a t (by omega)) (fun t h => by simp [upn, show t ≠ k by omega]) (fun t h => by simp [upn, show t ≠ k by omega])
              exact this t t1 (by omega)
          have hkd : kd < 256 := hr.1
          by_cases d : kd = 5
          · subst d
            have c2 := sEnt_5 hres
            rw [if_pos (show v.2 4 k = 5 from hr.2.1), if_pos rfl, h6v, nI_1, if_neg (nI_ge c2 (by omega)), clear_eq (by omega), cV_s, cT_s]
            obtain ⟨w, hw⟩ : ∃ w, w = sa (sa (sa (sa v 4 (k + 1) 0) 5 (k + 1) (v.1 1)) 6 (k + 1) 0) 7 (k + 1) 0 := ⟨_, rfl⟩
            have hk2 : ko [] [4, 5, 6, 7] v w := by rw [hw]; exact ko_tr (ko_tr (ko_tr (ko_sa (by decide)) (ko_sa (by decide))) (ko_sa (by decide))) (ko_sa (by decide))
            have jw : ∀ a j, j ≠ k + 1 → w.2 a j = v.2 a j := by
              intro a j hj
              rw [hw, sa_ne hj, sa_ne hj, sa_ne hj, sa_ne hj]
            have tw : w.2 4 (k + 1) = 0 ∧ w.2 6 (k + 1) = 0 ∧ w.2 7 (k + 1) = 0 := by
              rw [hw]
              simp [sa_a, upd]
            rw [← hw]
            clear hw
            have hT2 : Tab F N (k + 2) (upn (upn K k 5) (k + 1) 0) (upn B k i) w := by
              intro t t1 t2
              by_cases tk : t = k + 1
              · subst tk
                exact Or.inl ⟨by simp [upn], tw⟩
              · exact Tab_keep (K' := upn (upn K k 5) (k + 1) 0) hT1 (fun a t _ h => jw a t (by omega)) (fun t h => by simp only [upn]; rw [if_neg (by omega)]) (fun t _ => rfl) t t1 (by omega)
            obtain ⟨u', g1, g2, g3⟩ := ih g (k + 2) j _ _ w (by omega) (by omega) (by omega) (by omega) (XO_ko hOv hk2 (by decide) (by decide)) ((ko_F hk2 (by decide)).trans hFv) ((hk2.1 6 (by decide)).trans h6v) hT2
            rw [nI_1, show k + 1 + 1 = k + 2 by omega]
            exact ⟨u', g1, ko_tr e2 (ko_tr (ko_mono hk2 (by decide) (by decide)) g2), g3⟩
          · rw [if_neg (show ¬ v.2 4 k = 5 by rw [hr.2.1]; exact fun z => d ((nq (by omega) 5 (by decide)).mp z)), if_neg d, cT_s]
            obtain ⟨u', g1, g2, g3⟩ := ih g (k + 1) j _ _ v (by omega) (by omega) (by omega) (by omega) hOv hFv h6v hT1
            rw [nI_1]
            exact ⟨u', g1, ko_tr e2 g2, g3⟩
      · have : k = c := by omega
        subst this
        rw [if_pos (nI_le (Nat.le_refl _) (by omega)), if_neg c1]
        exact ⟨u, rfl, ko_rf, hO, hT⟩
theorem readEntries_eq {N i : Nat} {u : St} (F : Nat → Nat) (hO : XO N i u) (hF : xF u = F) : ∃ u', f_P_readEntries u = some u' ∧ ko [1, 2, 3, 6] [4, 5, 6, 7, 8] u u' ∧ (∃ c, c ≤ 300 ∧ u'.1 6 = nI c) ∧ XR N (sPre F N i) (fun q => u'.1 6 = nI q.1 ∧ 1 ≤ q.1 ∧ q.1 ≤ 300 ∧ Tab F N q.1 q.2.1 q.2.2 u') u' := by
  have hN := hO.1
  have hat : u.1 1 = nI i := hO.2.2.2.2.1
  unfold f_P_readEntries sPre
  rw [pb_s (pa_i i), hat]
  have bad : ∀ (v : St) (r w : Nat), XB N r w v → ko [1, 2, 3] [] u v → (cT (f_P_readEntries_L64 FU (sv v 6 0) 1) fun (u23 : St) => some u23) = some (sv v 6 0) ∧ ko [1, 2, 3, 6] [4, 5, 6, 7, 8] u (sv v 6 0) ∧ (∃ c, c ≤ 300 ∧ (sv v 6 0).1 6 = nI c) ∧ XB N r w (sv v 6 0) := by
    intro v r w hB hk
    have hB2 : XB N r w (sv v 6 0) := XB_ko (s := [6]) (t := []) hB (ko_sv (by decide)) (by decide) (by decide)
    rw [entsB (c := 0) hB2 FU (by unfold FU; omega), cT_s]
    exact ⟨rfl, ko_tr (ko_mono hk (by decide) (by decide)) (ko_sv (by decide)), ⟨0, by omega, rfl⟩, hB2⟩
  by_cases c1 : i + 2 ≤ N
  · rw [nx_o2 hO c1, cI_s, pb_s (pu_s c1), hF, bnd_s]
    have hO1 : XO N (i + 2) (sv u 1 (nI (i + 2))) := XO_at hO c1
    have hF1 : xF (sv u 1 (nI (i + 2))) = F := hF
    have hk1 : ko [1, 2, 3] [] u (sv u 1 (nI (i + 2))) := ko_sv (by decide)
    generalize sv u 1 (nI (i + 2)) = v at hO1 hF1 hk1 ⊢
    have hn : be F i 2 < 65536 := by rw [← hF]; exact be_lt (fun j => by8_lt _ _) i 2
    generalize be F i 2 = n at hn ⊢
    by_cases c2 : 1 ≤ n ∧ n ≤ 300
    · rw [if_neg (show ¬ nI n < 1 from nI_nlt (b := 1) c2.1 (by omega)), if_neg (show ¬ 300 < nI n from nI_nlt (a := 300) c2.2 (by decide)), nd_t (by decide), cV_s, snd_o hO1, cI_s, bnd_s, if_neg (by decide), bnd_s, pb_s (pn_s (by simp [c2.1, c2.2]))]
      have hO2 : XO N (i + 2) (sv v 6 (nI n)) := XO_ko (s := [6]) (t := []) hO1 (ko_sv (by decide)) (by decide) (by decide)
      obtain ⟨u', g1, g2, g3⟩ := entsL_eq F c2.2 n FU 1 (i + 2) (fun _ => 0) (fun _ => 0) (sv v 6 (nI n)) (by omega) (by unfold FU; omega) (by omega) c2.1 hO2 hF1 rfl (fun t h1 h2 => by omega)
      have g1' : f_P_readEntries_L64 FU (sv v 6 (nI n)) 1 = some u' := g1
      rw [g1', cT_s]
      have h6 : u'.1 6 = nI n := (g2.1 6 (by decide)).trans rfl
      refine ⟨u', rfl, ko_tr (ko_tr (ko_mono hk1 (by decide) (by decide)) (ko_sv (by decide))) (ko_mono g2 (by decide) (by decide)), ⟨n, c2.2, h6⟩, ?_⟩
      cases hres : sEnts F N n n 1 (fun _ => 0) (fun _ => 0) (i + 2) with
      | ok q =>
        rw [hres] at g3
        rw [pb_s (a := q.1) (j := q.2) hres]
        exact ⟨g3.1, h6, c2.1, c2.2, g3.2⟩
      | error er =>
        rw [hres] at g3
        rw [pb_x hres]
        exact g3
    · have ez : (if nI n < 1 then (0 : Int32) else if 300 < nI n then 0 else 1) = 0 := by
        by_cases z : n < 1
        · rw [if_pos (show nI n < 1 from nI_lt (b := 1) z (by decide))]
        · rw [if_neg (show ¬ nI n < 1 from nI_nlt (b := 1) (by omega) (by omega)), if_pos (show 300 < nI n from nI_lt (a := 300) (by omega) (by omega))]
      have hB : XB N 4 i (brk v 4 i) := brk_B hO1 (by decide) (by decide)
      rw [ez, nd_4 hO1, cV_s, snd_b hB, cI_s, bnd_s, if_pos rfl, bnd_s, pb_x (pn_x (by simpa using c2))]
      obtain ⟨b1, b2, b3, b4⟩ := bad _ _ _ hB (ko_tr hk1 brk_ko)
      exact ⟨_, b1, b2, b3, b4⟩
  · have hB : XB N 1 N (brk u 1 N) := brk_B hO (by decide) (by decide)
    rw [nx_e2 hO c1, cI_s, pb_x (pu_x c1), bnd_s, nd_b hB, cV_s, snd_b hB, cI_s, bnd_s, if_pos rfl, bnd_s]
    obtain ⟨b1, b2, b3, b4⟩ := bad _ _ _ hB brk_ko
    exact ⟨_, b1, b2, b3, b4⟩

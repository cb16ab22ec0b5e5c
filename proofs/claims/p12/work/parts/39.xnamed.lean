/-! LINKS in the class: NAMED, and all of the first round -/
theorem text_f_o {F : Nat → Nat} {N c i t : Nat} {K B : Nat → Nat} {ms : Nat → Int32} {u : St} (hO : XO N i u) (h6 : u.1 6 = nI c) (hc : c ≤ 300) (hT : TabG F N c K B (nfs_o F K B c) ms u) (h : isK c K t 1 = true) : f_P_factsOf u (nI t) = some (fcv_o F (tn F B t) (ta B t), u) := by
  obtain ⟨q1, q2, q3⟩ := isK_t.mp h
  obtain ⟨s1, s2, s3, -⟩ := hT t q1 q2
  rw [factsOf_eq (XI_o hO h6 hc) (by omega), if_pos ⟨q1, q2⟩, s3, nfs_o, if_pos ⟨q2, q3⟩]
/-- a check of the spec that leaves the place, in the class: done, or broken -/
def CK (N i : Nat) (u u' : St) (res : Except Er (Unit × Nat)) : Prop := (res = .ok ((), i) ∧ u' = u) ∨ ∃ r w, res = .error (r, w) ∧ 1 ≤ r ∧ r ≤ 29 ∧ u' = brk u r w
theorem CK_R {N i : Nat} {u u' : St} {res : Except Er (Unit × Nat)} (hO : XO N i u) (h : CK N i u u' res) : ko [1, 2, 3] [] u u' ∧ XR N res (fun _ => True) u' := by
  rcases h with ⟨rfl, rfl⟩ | ⟨r, w, rfl, h1, h2, rfl⟩
  · exact ⟨ko_rf, hO, trivial⟩
  · exact ⟨brk_ko, brk_B hO h1 h2⟩
theorem needType_48_o {F : Nat → Nat} {N c i t w : Nat} {K B : Nat → Nat} {ms : Nat → Int32} {u : St} (hO : XO N i u) (h6 : u.1 6 = nI c) (hc : c ≤ 300) (hT : TabG F N c K B (nfs_o F K B c) ms u) (h : isK c K t 1 = true) (asked : Int32) (o : Bool) (ha : (fcv_o F (tn F B t) (ta B t) &&& asked = 0) ↔ o = false) : ∃ u', f_P_needType u (nI t) asked (nI w) = some u' ∧ CK N i u u' ((pb (pn o 11 w) fun _ => pn (dsT_o F B t != some true) 12 w) i) := by
  obtain ⟨q1, q2, q3⟩ := isK_t.mp h
  have hf := text_f_o hO h6 hc hT h
  unfold f_P_needType
  rw [hf, cI_s, bnd_s]
  by_cases e1 : o = true
  · rw [if_neg (fun z => by rw [ha.mp z] at e1; cases e1), nd_t (by decide), cV_s, hf, cI_s, bnd_s, pb_s (pn_s e1)]
    by_cases e2 : (dsT_o F B t != some true) = true
    · rw [if_pos ((fc_64_o F B t).mpr e2), nd_t (by decide), cV_s, pn_s e2]
      exact ⟨u, rfl, Or.inl ⟨rfl, rfl⟩⟩
    · have e2' : (dsT_o F B t != some true) = false := by simpa using e2
      rw [if_neg (fun z => e2 ((fc_64_o F B t).mp z)), nd_12 hO, cV_s, pn_x e2']
      exact ⟨_, rfl, Or.inr ⟨12, w, rfl, by decide, by decide, rfl⟩⟩
  · have e1' : o = false := by simpa using e1
    have hB : XB N 11 w (brk u 11 w) := brk_B hO (by decide) (by decide)
    obtain ⟨x, hx⟩ := fact_x (XI_b hB h6 hc) (k := t) (by omega)
    rw [if_pos (ha.mpr e1'), nd_11 hO, cV_s, hx, cI_s, bnd_s, nd_b hB, cV_s, pb_x (pn_x e1')]
    exact ⟨_, rfl, Or.inr ⟨11, w, rfl, by decide, by decide, rfl⟩⟩
theorem linkNamed_eq_o {F : Nat → Nat} {N c i k : Nat} {K B : Nat → Nat} {ms : Nat → Int32} {u : St} (hO : XO N i u) (hF : xF u = F) (h6 : u.1 6 = nI c) (hc : c ≤ 300) (hT : TabG F N c K B (nfs_o F K B c) ms u) (hk : 1 ≤ k ∧ k < c) (h12 : K k = 12) : ∃ u', f_P_linkNamed u (nI k) = some u' ∧ CK N i u u' (sLk1_o F c K B k i) := by
  have hN := hO.1
  obtain ⟨t1, t2, t3, t4, t5, t6⟩ := hT k hk.1 hk.2
  obtain ⟨p1, p2⟩ := t5 (by omega)
  have hx : B k + 5 ≤ N := p2.2.2.2 (Or.inr (Or.inr (Or.inr h12)))
  have hlt : ∀ w, n2 F w < 65536 := fun w => by unfold n2; rw [← hF]; exact be_lt (fun j => by8_lt _ _) _ 2
  unfold f_P_linkNamed sLk1_o
  rw [if_neg (by omega), if_neg (by omega), if_pos h12, gd_in (by omega) (by decide), ncl (by omega), p1, nI_1, refer_1 hO hF h6 hc hT (by omega), cI_s, show nI (B k + 1) + 2 = nI (B k + 3) from nI_add (B k + 1) 2]
  have bad : ∀ (r w : Nat) (v : St), XB N r w v → v.1 6 = nI c → ∃ u', (cI (f_P_refer v (nI (B k + 3)) 1) fun r12 u10 => cV (f_P_needType u10 r12 48 (nI (B k + 3))) fun u13 => some u13) = some u' ∧ u' = v := by
    intro r w v hB h6v
    obtain ⟨y, hy, ey⟩ := refer_b hB h6v hc (nI (B k + 3)) 1
    rw [ey, cI_s, needType_b hB h6v hc hy, cV_s]
    exact ⟨v, rfl, rfl⟩
  by_cases q : isK c K (n2 F (B k + 1)) 1 = true
  · rw [if_pos q, pb_s (pn_s q), text_f_o hO h6 hc hT q, cI_s, bnd_s]
    by_cases e1 : (plT F B (n2 F (B k + 1)) || wT F B 0 (n2 F (B k + 1)) || wT F B 1 (n2 F (B k + 1))) = true
    · rw [if_neg (fun z => by rw [(fc_13_o F B _).mp z] at e1; cases e1), nd_t (by decide), cV_s, pb_s (pn_s e1), refer_1 hO hF h6 hc hT (by omega), cI_s]
      by_cases q2 : isK c K (n2 F (B k + 3)) 1 = true
      · rw [if_pos q2, pb_s (pn_s q2)]
        obtain ⟨u', g1, g2⟩ := needType_48_o (w := B k + 3) hO h6 hc hT q2 48 _ (fc_48_o F B _)
        rw [g1, cV_s]
        exact ⟨u', rfl, g2⟩
      · have q2' : isK c K (n2 F (B k + 3)) 1 = false := by simpa using q2
        have hB : XB N 8 (B k + 3) (brk u 8 (B k + 3)) := brk_B hO (by decide) (by decide)
        rw [if_neg q2, pb_x (pn_x q2'), needType_b hB h6 hc (hlt _), cV_s]
        exact ⟨_, rfl, Or.inr ⟨8, _, rfl, by decide, by decide, rfl⟩⟩
    · have e1' : (plT F B (n2 F (B k + 1)) || wT F B 0 (n2 F (B k + 1)) || wT F B 1 (n2 F (B k + 1))) = false := by simpa using e1
      have hB : XB N 9 (B k + 1) (brk u 9 (B k + 1)) := brk_B hO (by decide) (by decide)
      rw [if_pos ((fc_13_o F B _).mpr e1'), nd_9 hO, cV_s, pb_x (pn_x e1')]
      obtain ⟨u', g1, rfl⟩ := bad _ _ _ hB h6
      exact ⟨_, g1, Or.inr ⟨9, _, rfl, by decide, by decide, rfl⟩⟩
  · have q' : isK c K (n2 F (B k + 1)) 1 = false := by simpa using q
    have hB : XB N 8 (B k + 1) (brk u 8 (B k + 1)) := brk_B hO (by decide) (by decide)
    obtain ⟨x, hx⟩ := fact_x (XI_b hB h6 hc) (hlt (B k + 1))
    rw [if_neg q, pb_x (pn_x q'), hx, cI_s, bnd_s, nd_b hB, cV_s]
    obtain ⟨u', g1, rfl⟩ := bad _ _ _ hB h6
    exact ⟨_, g1, Or.inr ⟨8, _, rfl, by decide, by decide, rfl⟩⟩
/-- measures behind the first round, up to k -/
def ms1_o (F : Nat → Nat) (c : Nat) (K B : Nat → Nat) (k : Nat) : Nat → Int32 := fun t => if t < k ∧ K t = 7 then nI (bkC F B t) else nms_o F K B c t
theorem lk1_b {N r w : Nat} {u : St} (h : XB N r w u) : ∀ g, 0 < g → ∀ x, f_P_readLinks_L2 g u x = some u := by
  intro g hg x
  cases g with
  | zero => omega
  | succ g =>
    rw [f_P_readLinks_L2]
    by_cases c1 : u.1 6 ≤ x
    · rw [if_pos c1]
    · rw [if_neg c1, snd_b h, cI_s, if_pos rfl]
theorem lk1_eq_o {N c : Nat} (F : Nat → Nat) (K B : Nat → Nat) (hc : c ≤ 300) : ∀ (m k g i : Nat) (u : St), k + m = c → m < g → 1 ≤ k → XO N i u → xF u = F → u.1 6 = nI c → TabG F N c K B (nfs_o F K B c) (ms1_o F c K B k) u → ∃ u', f_P_readLinks_L2 g u (nI k) = some u' ∧ ko [1, 2, 3] [7] u u' ∧ XR N (sAll (sLk1_o F c K B) m k i) (fun _ => TabG F N c K B (nfs_o F K B c) (ms1_o F c K B c) u') u' := by
  intro m
  induction m with
  | zero =>
    intro k g i u h1 h2 h3 hO hF h6 hT
    cases g with
    | zero => omega
    | succ g =>
      rw [f_P_readLinks_L2, h6, if_pos (nI_le (by omega) (by omega))]
      have : k = c := by omega
      subst this
      exact ⟨u, rfl, ko_rf, hO, hT⟩
  | succ m ih =>
    intro k g i u h1 h2 h3 hO hF h6 hT
    cases g with
    | zero => omega
    | succ g =>
      obtain ⟨t1, t2, t3, t4, t5, t6⟩ := hT k h3 (by omega)
      have nq' : ∀ x, x < 2 ^ 31 → (nI (K k) = (OfNat.ofNat x : Int32) ↔ K k = x) := fun x hx => nq (by omega) x hx
      rw [f_P_readLinks_L2, h6, if_neg (nI_ge (by omega) (by omega)), snd_o hO, cI_s, if_neg (by decide), gd_in (by omega) (by decide), ncl (by omega), t1, sAll]
      -- a check that leaves the tables
      have step : ∀ (v : St), K k ≠ 7 → CK N i u v (sLk1_o F c K B k i) → ∃ u', f_P_readLinks_L2 g v (nI k + 1) = some u' ∧ ko [1, 2, 3] [7] u u' ∧ XR N ((pb (sLk1_o F c K B k) fun _ => sAll (sLk1_o F c K B) m (k + 1)) i) (fun _ => TabG F N c K B (nfs_o F K B c) (ms1_o F c K B c) u') u' := by
        intro v h7 hck
        rcases hck with ⟨e, rfl⟩ | ⟨r, w, e, r1, r2, rfl⟩
        · rw [pb_s e, nI_1]
          refine ih (k + 1) g i v (by omega) (by omega) (by omega) hO hF h6 ?_
          intro t q1 q2
          obtain ⟨s1, s2, s3, s4, s5, s6⟩ := hT t q1 q2
          refine ⟨s1, s2, s3, ?_, s5, s6⟩
          rw [s4]
          unfold ms1_o
          have : (t < k ∧ K t = 7) ↔ (t < k + 1 ∧ K t = 7) := by
            constructor
            · intro z; exact ⟨by omega, z.2⟩
            · intro z
              refine ⟨?_, z.2⟩
              have : t ≠ k := fun e => h7 (e ▸ z.2)
              omega
          simp only [this]
        · rw [pb_x e]
          have hB : XB N r w (brk u r w) := brk_B hO r1 r2
          exact ⟨_, lk1_b hB g (by omega) _, ko_mono brk_ko (fun _ h => h) (fun _ h => by cases h), hB⟩
      by_cases d7 : K k = 7
      · rw [if_pos ((nq' 7 (by decide)).mpr d7)]
        obtain ⟨v, e1, e2, e3, e4⟩ := linkClass_eq_o hO hF h6 hc hT ⟨h3, by omega⟩ d7
        rw [e1, cV_s, cT_s]
        cases hres : sLk1_o F c K B k i with
        | error er =>
          rw [hres] at e4
          rw [pb_x hres]
          have hB : XB N er.1 er.2 v := e4
          exact ⟨v, lk1_b hB g (by omega) _, e2, hB⟩
        | ok q =>
          obtain ⟨x, j⟩ := q
          rw [hres] at e4
          rw [pb_s hres, nI_1]
          obtain ⟨a1, a2, a3⟩ : XO N j v ∧ v.2 7 k = nI (bkC F B k) ∧ v.1 1 = nI i := e4
          have hT' : TabG F N c K B (nfs_o F K B c) (ms1_o F c K B (k + 1)) v := by
            intro t q1 q2
            obtain ⟨s1, s2, s3, s4, s5, s6⟩ := hT t q1 q2
            by_cases tk : t = k
            · subst tk
              refine ⟨by rw [e2.2 4 (by decide)]; exact s1, s2, by rw [e2.2 6 (by decide)]; exact s3, ?_, fun z => by rw [e2.2 5 (by decide)]; exact s5 z, fun z => by rw [e2.2 8 (by decide)]; exact s6 z⟩
              rw [a2, ms1_o, if_pos ⟨by omega, d7⟩]
            · refine ⟨by rw [e3 _ _ tk]; exact s1, s2, by rw [e3 _ _ tk]; exact s3, ?_, fun z => by rw [e3 _ _ tk]; exact s5 z, fun z => by rw [e3 _ _ tk]; exact s6 z⟩
              rw [e3 _ _ tk, s4]
              unfold ms1_o
              have : (t < k ∧ K t = 7) ↔ (t < k + 1 ∧ K t = 7) := by omega
              simp only [this]
          obtain ⟨u', g1, g2, g3⟩ := ih (k + 1) g j v (by omega) (by omega) (by omega) a1 ((ko_F e2 (by decide)).trans hF) ((e2.1 6 (by decide)).trans h6) hT'
          exact ⟨u', g1, ko_tr e2 g2, g3⟩
      · rw [if_neg (fun z => d7 ((nq' 7 (by decide)).mp z))]
        by_cases d8 : K k = 8
        · obtain ⟨p1, p2⟩ := t5 (by omega)
          have hx : B k + 3 ≤ N := p2.2.2.1 (Or.inr d8)
          rw [if_pos ((nq' 8 (by decide)).mpr d8), gd_in (by omega) (by decide), p1, nI_1, refer_1 hO hF h6 hc hT (by omega), cI_s, cT_s]
          refine step _ d7 ?_
          unfold sLk1_o
          rw [if_neg d7, if_pos d8]
          by_cases q : isK c K (n2 F (B k + 1)) 1 = true
          · rw [if_pos q, pn_s q]
            exact Or.inl ⟨rfl, rfl⟩
          · have q' : isK c K (n2 F (B k + 1)) 1 = false := by simpa using q
            rw [if_neg q, pn_x q']
            exact Or.inr ⟨8, _, rfl, by decide, by decide, rfl⟩
        · rw [if_neg (fun z => d8 ((nq' 8 (by decide)).mp z))]
          by_cases d12 : K k = 12
          · rw [if_pos ((nq' 12 (by decide)).mpr d12)]
            obtain ⟨v, e1, e2⟩ := linkNamed_eq_o hO hF h6 hc hT ⟨h3, by omega⟩ d12
            rw [e1, cV_s, cT_s]
            exact step v d7 e2
          · rw [if_neg (fun z => d12 ((nq' 12 (by decide)).mp z)), cT_s]
            refine step u d7 ?_
            unfold sLk1_o
            rw [if_neg d7, if_neg d8, if_neg d12]
            exact Or.inl ⟨rfl, rfl⟩

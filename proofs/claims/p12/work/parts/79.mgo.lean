/-! THE REFERENCE: fields, methods, the whole FILE -/
section MGO
variable {F : Nat → Nat} {N c i r w ver cf : Nat} {K B : Nat → Nat} {z u : St}
theorem dead_F {x : Int32} (h : RB N r w z u) : wp (f_M_fields_L37 (fun u78 => some u78) FU u x) (fun v => RB N r w z v) := by
  rw [show FU = 69999 + 1 from rfl, f_M_fields_L37]
  refine wp_ite (fun _ => wp_some h) (fun _ => ?_)
  rw [ok_b h, cI_s, if_pos rfl]
  exact wp_some h
theorem dead_M {x : Int32} (h : RB N r w z u) : wp (f_M_methods_L37 (fun u139 => some u139) FU u x) (fun v => RB N r w z v) := by
  rw [show FU = 69999 + 1 from rfl, f_M_methods_L37]
  refine wp_ite (fun _ => wp_some h) (fun _ => ?_)
  rw [ok_b h, cI_s, if_pos rfl]
  exact wp_some h
def sFl2 (F : Nat → Nat) (N c : Nat) (K B : Nat → Nat) (cf ver : Nat) : P Nat := pb pa fun w => pb (pu F N 2) fun nf => pb (pn (decide (nf ≤ 60)) 15 w) fun _ => pb (sFlds F N c K B cf ver nf []) fun _ => pp nf
def sMt2 (F : Nat → Nat) (N c : Nat) (K B : Nat → Nat) (cf ver : Nat) : P (Nat × List Mr × Tl) := pb pa fun w => pb (pu F N 2) fun nm => pb (pn (decide (nm ≤ 60)) 15 w) fun _ => pb (sMths F N c K B cf ver nm [] [] (0, 0, 0, 0)) fun m => pp (nm, m)
theorem fields_m (hcf : cf < 65536) (hver : ver < 65536) (hM : ML2 F c K B) (hO : RO N i z u) (hW : MW F N c K B u) (h7 : u.1 7 = nI cf) (hv5 : u.1 5 = nI ver) : wp (f_M_fields u) (RQ N z (sFl2 F N c K B cf ver i) (fun nf v => ko [2, 10, 18] [4, 5] u v ∧ v.1 10 = nI nf)) := by
  unfold f_M_fields sFl2
  refine mq_pa ?_
  refine mq_u2 hO hW.1 (fun hi => ?_) (fun x v h => ?_)
  · refine wp_bnd (wp_bnd ?_)
    have hn' : be F i 2 < 65536 := hW.n2 _
    have hO1 : RO N (i + 2) z (sv (sv u 2 (nI (i + 2))) 10 (nI (be F i 2))) := RO_ko (s := [10]) (t := []) (RO_at hO hi) (ko_sv (by decide)) (by decide) (by decide)
    have k1 : ko [2, 10] [] u (sv (sv u 2 (nI (i + 2))) 10 (nI (be F i 2))) := ko_tr (ko_sv (by decide)) (ko_sv (by decide))
    have e1 : (sv (sv u 2 (nI (i + 2))) 10 (nI (be F i 2))).1 10 = nI (be F i 2) := rfl
    generalize be F i 2 = nf at hn' hO1 k1 e1 ⊢
    generalize sv (sv u 2 (nI (i + 2))) 10 (nI nf) = v1 at hO1 k1 e1 ⊢
    rw [e1, hO.1.2.2.2.2.1]
    refine mq_must hO1 rfl rfl (by decide) (i01 (i01lt (a := 60) (by decide) (by omega))) (fun hn => ?_) (fun u h => ?_)
    · rw [decide_eq_true_eq] at hn
      have fe := fldM (z := z) hn hcf hver hM nf [] FU (i + 2) v1 (by simp) (by unfold FU; omega) hO1 (MW_ko hW k1 (by decide) (by decide)) ((k1.1 7 (by decide)).trans h7) ((k1.1 5 (by decide)).trans hv5) e1 (fun j t h => by cases h) (fun q h => by cases h)
      have fe' : wp (f_M_fields_L37 (fun u78 => some u78) FU v1 0) _ := fe
      refine wp_mono fe' fun v5 h5 => ?_
      cases hr : sFlds F N c K B cf ver nf [] (i + 2) with
      | error e =>
        rw [hr] at h5
        rw [pb_x hr]
        exact h5
      | ok q =>
        obtain ⟨q1, j5⟩ := q
        rw [hr] at h5
        rw [pb_s hr]
        obtain ⟨h51, h52⟩ : RO N j5 z v5 ∧ ko [2, 18] [4, 5] v1 v5 := h5
        refine ⟨h51, ?_, ?_⟩
        · exact ko_tr (ko_mono k1 (fun k h => by simp at h ⊢; omega) (fun _ h => by cases h)) (ko_mono h52 (fun k h => by simp at h ⊢; omega) (fun _ h => h))
        · rw [h52.1 10 (by decide)]; exact e1
    · exact dead_F h
  · refine wp_bnd (wp_bnd ?_)
    have h' := RB_sv (k := 10) (x := x) (by decide) h
    rw [must_b h', cI_s]
    exact dead_F h'
theorem methods_m (hcf : cf < 65536) (hver : ver < 65536) (hM : ML2 F c K B) (hO : RO N i z u) (hW : MW F N c K B u) (h7 : u.1 7 = nI cf) (hv5 : u.1 5 = nI ver) (hT : TT (0, 0, 0, 0) u) : wp (f_M_methods u) (RQ N z (sMt2 F N c K B cf ver i) (fun q v => ko [2, 11, 12, 13, 14, 15, 18, 19, 20, 21, 22] [3, 4, 5, 7] u v ∧ v.1 11 = nI q.1 ∧ q.1 ≤ 60 ∧ RM q.2.1 v ∧ q.2.1.length = q.1 ∧ TT q.2.2 v)) := by
  unfold f_M_methods sMt2
  refine mq_pa ?_
  refine mq_u2 hO hW.1 (fun hi => ?_) (fun x v h => ?_)
  · refine wp_bnd (wp_bnd ?_)
    have hn' : be F i 2 < 65536 := hW.n2 _
    have hO1 : RO N (i + 2) z (sv (sv u 2 (nI (i + 2))) 11 (nI (be F i 2))) := RO_ko (s := [11]) (t := []) (RO_at hO hi) (ko_sv (by decide)) (by decide) (by decide)
    have k1 : ko [2, 11] [] u (sv (sv u 2 (nI (i + 2))) 11 (nI (be F i 2))) := ko_tr (ko_sv (by decide)) (ko_sv (by decide))
    have e1 : (sv (sv u 2 (nI (i + 2))) 11 (nI (be F i 2))).1 11 = nI (be F i 2) := rfl
    generalize be F i 2 = nm at hn' hO1 k1 e1 ⊢
    generalize sv (sv u 2 (nI (i + 2))) 11 (nI nm) = v1 at hO1 k1 e1 ⊢
    rw [e1, hO.1.2.2.2.2.1]
    refine mq_must hO1 rfl rfl (by decide) (i01 (i01lt (a := 60) (by decide) (by omega))) (fun hn => ?_) (fun u h => ?_)
    · rw [decide_eq_true_eq] at hn
      obtain ⟨t1, t2, t3, t4⟩ := hT
      have fe := mthM (z := z) hn hcf hver hM nm [] [] (0, 0, 0, 0) FU (i + 2) v1 (by simp) (by unfold FU; omega) rfl hO1 (MW_ko hW k1 (by decide) (by decide)) ((k1.1 7 (by decide)).trans h7) ((k1.1 5 (by decide)).trans hv5) e1 (fun j t h => by cases h) (fun q h => by cases h) (fun j t h => by cases h) ⟨(k1.1 12 (by decide)).trans t1, (k1.1 13 (by decide)).trans t2, (k1.1 14 (by decide)).trans t3, (k1.1 15 (by decide)).trans t4⟩
      have fe' : wp (f_M_methods_L37 (fun u139 => some u139) FU v1 0) _ := fe
      refine wp_mono fe' fun v5 h5 => ?_
      cases hr : sMths F N c K B cf ver nm [] [] (0, 0, 0, 0) (i + 2) with
      | error e =>
        rw [hr] at h5
        rw [pb_x hr]
        exact h5
      | ok q =>
        obtain ⟨⟨rs, tl⟩, j5⟩ := q
        rw [hr] at h5
        rw [pb_s hr]
        obtain ⟨h51, h52, h53, h54, h55⟩ := h5
        refine ⟨h51, ?_, ?_, hn, h53, h54, h55⟩
        · exact ko_tr (ko_mono k1 (fun k h => by simp at h ⊢; omega) (fun _ h => by cases h)) (ko_mono h52 (fun k h => by simp at h ⊢; omega) (fun _ h => h))
        · rw [h52.1 11 (by decide)]; exact e1
    · exact dead_M h
  · refine wp_bnd (wp_bnd ?_)
    have h' := RB_sv (k := 11) (x := x) (by decide) h
    rw [must_b h', cI_s]
    exact dead_M h'
theorem clrK : ∀ (m k g : Nat) (u : St), k + m = 300 → m < g → ∃ v, f_M_go_L22 g u (nI k) = some v ∧ ko [] [1] u v ∧ (∀ j, k ≤ j → j < 300 → v.2 1 j = 0) ∧ ∀ j, j < k → v.2 1 j = u.2 1 j
  | 0, k, g + 1, u, h1, _ => by
    refine ⟨u, ?_, ko_rf, fun j a b => by omega, fun _ _ => rfl⟩
    rw [f_M_go_L22, if_pos (show (300 : Int32) ≤ nI k from nI_le (a := 300) (by omega) (by omega))]
  | m + 1, k, g + 1, u, h1, h2 => by
    obtain ⟨v, e1, e2, e3, e4⟩ := clrK m (k + 1) g (sa u 1 k 0) (by omega) (by omega)
    refine ⟨v, ?_, ko_tr (ko_sa (by decide)) e2, fun j a b => ?_, fun j a => ?_⟩
    · rw [f_M_go_L22, if_neg (show ¬ (300 : Int32) ≤ nI k from nI_ge (b := 300) (by omega) (by omega)), gd_in (by omega) (by decide), bnd_s, ncl (by omega), nI_1]
      exact e1
    · by_cases e : j = k
      · rw [e4 j (by omega), sa_a, if_pos rfl, upd, if_pos e]
      · exact e3 j (by omega) b
    · rw [e4 j (by omega), sa_ne (by omega)]
theorem skp {g k : St → Option St} {φ : St → Prop} (h : RB N r w z u) (hk : wp (k u) φ) : wp (cI (f_M_ok u) fun r u' => cT (if r = 0 then some u' else cV (g u') fun v => some v) fun v => k v) φ := by
  rw [ok_b h, cI_s, if_pos rfl, cT_s]
  exact hk
theorem stg {α β : Type} {p : P α} {f : α → P β} {g k : St → Option St} {φ : α → St → Prop} {ψ : β → St → Prop} (hO : RO N i z u) (h : wp (g u) (RQ N z (p i) φ)) (h1 : ∀ a j v, p i = .ok (a, j) → RO N j z v → φ a v → wp (k v) (RQ N z (f a j) ψ)) (h2 : ∀ r w v, RB N r w z v → wp (k v) (RQ N z (.error (r, w)) ψ)) : wp (cI (f_M_ok u) fun r u' => cT (if r = 0 then some u' else cV (g u') fun v => some v) fun v => k v) (RQ N z (pb p f i) ψ) := by
  rw [ok_o hO, cI_s, if_neg (by decide), cT_cV]
  exact mq_V h h1 h2
theorem fin_b (h : RB N r w z u) : wp (bnd (if (u.1 2) = (u.1 1) then (1) else (0)) fun (z60 : Int32) => cI (f_M_must u z60 29 (u.1 2)) fun r63 u61 => some u61) (fun v => RB N r w z v) := by
  refine wp_bnd ?_
  rw [must_b h, cI_s]
  exact wp_some h
theorem cafe {s : Nat} (hs : s < 2 ^ 32) : (if lg_cmp (Int64.ofNat s) 3405691582 = 0 then (1 : Int32) else 0) = 0 ↔ (s == 3405691582) = false := by
  have g : (lg_cmp (Int64.ofNat s) 3405691582 = 0) = (s = 3405691582) := by
    apply propext
    rw [lg_cmp_eq, ← Int64.toInt_inj, j_toInt hs, show (3405691582 : Int64).toInt = 3405691582 from rfl]
    omega
  simp only [g]
  by_cases e : s = 3405691582
  · rw [if_pos e]; simp [e]
  · rw [if_neg e]; simp [e]
theorem zro {s : Nat} (hs : s < 65536) : (if nI s = 0 then (1 : Int32) else 0) = 0 ↔ (s == 0) = false := by
  have g : (nI s = 0) = (s = 0) := neq (b := 0) (by omega) (by decide)
  simp only [g]
  by_cases e : s = 0
  · rw [if_pos e]; simp [e]
  · rw [if_neg e]; simp [e]
theorem vrs {s : Nat} (hs : s < 65536) : (if nI s < 45 then (0 : Int32) else (if 61 < nI s then (0) else (1))) = 0 ↔ (decide (45 ≤ s) && decide (s ≤ 61)) = false := by
  have g1 : (nI s < 45) = (s < 45) := nlt (b := 45) (by omega) (by decide)
  have g2 : (61 < nI s) = (61 < s) := nlt (a := 61) (by decide) (by omega)
  simp only [g1, g2]
  by_cases a : s < 45
  · rw [if_pos a, decide_eq_false (by omega)]; simp
  · rw [if_neg a, decide_eq_true (by omega)]
    by_cases b : 61 < s
    · rw [if_pos b, decide_eq_false (by omega)]; simp
    · rw [if_neg b, decide_eq_true (by omega)]; simp
/-- the report, in the reference -/
def RMX (q : Rp) (v : St) : Prop := v.1 6 = nI q.1 ∧ q.1 ≤ 300 ∧ (∀ t, t < 300 → v.2 1 t = nI (q.2.1 t)) ∧ v.1 9 = nI q.2.2.1 ∧ v.1 10 = nI q.2.2.2.1 ∧ v.1 11 = nI q.2.2.2.2.1 ∧ TT q.2.2.2.2.2.1 v ∧ v.1 7 = nI q.2.2.2.2.2.2.1 ∧ RM q.2.2.2.2.2.2.2 v ∧ q.2.2.2.2.2.2.2.length = q.2.2.2.2.1 ∧ q.2.2.2.2.1 ≤ 60
theorem sGo2 (F : Nat → Nat) (N : Nat) : sGo F N = pb (pu F N 4) fun a => pb (pn (a == 3405691582) 2 0) fun _ => pb (pu F N 2) fun b => pb (pn (b == 0) 3 4) fun _ => pb (pu F N 2) fun ver => pb (pn (decide (45 ≤ ver) && decide (ver ≤ 61)) 3 6) fun _ => pb (sPre F N) fun q => pb (pb (sAll (sLk1 F q.1 q.2.1 q.2.2) (q.1 - 1) 1) fun _ => sAll (sLk2 F q.1 q.2.1 q.2.2) (q.1 - 1) 1) fun _ => pb (sHd F N q.1 q.2.1 q.2.2) fun h => pb (sFl2 F N q.1 q.2.1 q.2.2 h.1 ver) fun nf => pb (sMt2 F N q.1 q.2.1 q.2.2 h.1 ver) fun m => pb (sAtts F N q.1 q.2.1 q.2.2 8 ver 0 0) fun _ => pb pa fun w => pb (pn (decide (w = N)) 29 w) fun _ => pp (q.1, q.2.1, h.2, nf, m.1, m.2.2, h.1, m.2.1) := by
  unfold sGo sHead sPool sHd sFl2 sMt2 sCnt
  simp only [pb_as, pb_pp]
theorem go_m (hN : N ≤ 4000) (hb : bn (u.2 0)) (hF : xF u = F) (hz : kr z u) : wp (f_M_go u (nI N)) (RQ N z (sGo F N 0) (fun q v => RMX q v)) := by
  rw [sGo2]
  unfold f_M_go
  rw [bnd_s, bnd_s, bnd_s, bnd_s]
  obtain ⟨v0, c1, c2, c3, -⟩ := clrK 300 0 FU (sv (sv (sv (sv u 1 (nI N)) 2 0) 3 0) 4 0) (by omega) (by unfold FU; omega)
  have c1' : f_M_go_L22 FU (sv (sv (sv (sv u 1 (nI N)) 2 0) 3 0) 4 0) 0 = some v0 := c1
  rw [c1', cT_s, bnd_s, bnd_s, bnd_s, bnd_s, bnd_s, bnd_s, bnd_s]
  have hO00 : RO N 0 z (sv (sv (sv (sv u 1 (nI N)) 2 0) 3 0) 4 0) := ⟨⟨hN, rfl, hb, rfl, rfl, Nat.zero_le _⟩, hz⟩
  have hF0 : xF v0 = F := by
    rw [← hF]
    unfold xF
    rw [c2.2 0 (by decide)]
    rfl
  have hO0 : RO N 0 z (sv (sv (sv (sv (sv (sv (sv v0 10 0) 11 0) 9 0) 12 0) 13 0) 14 0) 15 0) := by
    have h0 := RO_ko hO00 c2 (by decide) (by decide)
    exact ⟨h0.1, h0.2⟩
  have hF1 : xF (sv (sv (sv (sv (sv (sv (sv v0 10 0) 11 0) 9 0) 12 0) 13 0) 14 0) 15 0) = F := hF0
  have hT0 : TT (0, 0, 0, 0) (sv (sv (sv (sv (sv (sv (sv v0 10 0) 11 0) 9 0) 12 0) 13 0) 14 0) 15 0) := ⟨rfl, rfl, rfl, rfl⟩
  have hK0 : ∀ t, t < 300 → (sv (sv (sv (sv (sv (sv (sv v0 10 0) 11 0) 9 0) 12 0) 13 0) 14 0) 15 0).2 1 t = 0 := fun t ht => c3 t (Nat.zero_le _) ht
  generalize sv (sv (sv (sv (sv (sv (sv v0 10 0) 11 0) 9 0) 12 0) 13 0) 14 0) 15 0 = u0 at hO0 hF1 hT0 hK0 ⊢
  have hF8 : ∀ j, F j < 256 := fun j => by rw [← hF1]; exact F8 u0 j
  -- the dead ends
  have d6 : ∀ {r w : Nat} {v : St}, RB N r w z v → wp (bnd (if (v.1 2) = (v.1 1) then (1) else (0)) fun (z60 : Int32) => cI (f_M_must v z60 29 (v.1 2)) fun r63 u61 => some u61) (RQ N z (.error (r, w)) (fun (q : Rp) v => RMX q v)) := fun h => fin_b h
  refine mq_u4 hO0 hF1 (fun hi => ?_) (fun x v h => ?_)
  · have b4 : be F 0 4 < 2 ^ 32 := be_lt hF8 0 4
    have hO1 := RO_at hO0 hi
    have k1 : ko [2] [] u0 (sv u0 2 (nI (0 + 4))) := ko_sv (by decide)
    generalize sv u0 2 (nI (0 + 4)) = v1 at hO1 k1 ⊢
    generalize be F 0 4 = s at b4 ⊢
    refine wp_bnd ?_
    refine mq_must hO1 rfl rfl (by decide) (cafe b4) (fun _ => ?_) (fun v h => ?_)
    · refine mq_u2 hO1 ((ko_F k1 (by decide)).trans hF1) (fun hi2 => ?_) (fun x v h => ?_)
      · have hb2 : be F (0 + 4) 2 < 65536 := be_lt hF8 _ 2
        have hO2 := RO_at hO1 hi2
        have k2 : ko [2] [] u0 (sv v1 2 (nI (0 + 4 + 2))) := ko_tr k1 (ko_sv (by decide))
        generalize sv v1 2 (nI (0 + 4 + 2)) = v2 at hO2 k2 ⊢
        generalize be F (0 + 4) 2 = s2 at hb2 ⊢
        refine wp_bnd ?_
        refine mq_must hO2 rfl rfl (by decide) (zro hb2) (fun _ => ?_) (fun v h => ?_)
        · refine mq_u2 hO2 ((ko_F k2 (by decide)).trans hF1) (fun hi3 => ?_) (fun x v h => ?_)
          · have hver : be F (0 + 4 + 2) 2 < 65536 := be_lt hF8 _ 2
            generalize be F (0 + 4 + 2) 2 = ver at hver ⊢
            refine wp_bnd (wp_bnd ?_)
            have hO3 : RO N (0 + 4 + 2 + 2) z (sv (sv v2 2 (nI (0 + 4 + 2 + 2))) 5 (nI ver)) := RO_ko (s := [5]) (t := []) (RO_at hO2 hi3) (ko_sv (by decide)) (by decide) (by decide)
            have k3 : ko [2, 5] [] u0 (sv (sv v2 2 (nI (0 + 4 + 2 + 2))) 5 (nI ver)) := ko_tr (ko_mono k2 (fun k h => by simp at h ⊢; omega) (fun _ h => h)) (ko_tr (ko_sv (by decide)) (ko_sv (by decide)))
            have e5 : (sv (sv v2 2 (nI (0 + 4 + 2 + 2))) 5 (nI ver)).1 5 = nI ver := rfl
            generalize sv (sv v2 2 (nI (0 + 4 + 2 + 2))) 5 (nI ver) = v3 at hO3 k3 e5 ⊢
            rw [e5]
            refine mq_must hO3 rfl rfl (by decide) (vrs hver) (fun _ => ?_) (fun v h => ?_)
            · have hF3 : xF v3 = F := (ko_F k3 (by decide)).trans hF1
              refine stg hO3 (pool_m hO3 hF3 (fun t ht => by rw [k3.2 1 (by decide)]; exact hK0 t ht)) ?_ ?_
              · rintro ⟨c, K, B⟩ j4 v4 - hO4 ⟨k4, e6, hc1, hc3, hTM⟩
                dsimp only at e6 hc1 hc3 hTM ⊢
                have hW4 : MW F N c K B v4 := ⟨(ko_F k4 (by decide)).trans hF3, e6, hc3, hTM⟩
                refine stg hO4 (refer_m hO4 hW4 hc1) ?_ ?_
                · intro _ j5 v5 hp5 hO5 k5
                  have hM : ML2 F c K B := by
                    cases ha : sAll (sLk1 F c K B) (c - 1) 1 j4 with
                    | error e =>
                      rw [pb_x ha] at hp5
                      cases hp5
                    | ok q =>
                      obtain ⟨q1, q2⟩ := q
                      rw [pb_s ha] at hp5
                      exact ML2_of ha hp5
                  have hW5 := MW_ko hW4 k5 (by decide) (by decide)
                  refine stg hO5 (head_m hO5 hW5 hM.1) ?_ ?_
                  · rintro ⟨cf, ni⟩ j6 v6 - hO6 ⟨k6, e7, hcf, e9⟩
                    dsimp only at e7 hcf e9 ⊢
                    have hW6 := MW_ko hW5 k6 (by decide) (by decide)
                    have f5 : v6.1 5 = nI ver := (k6.1 5 (by decide)).trans ((k5.1 5 (by decide)).trans ((k4.1 5 (by decide)).trans e5))
                    refine stg hO6 (fields_m hcf hver hM hO6 hW6 e7 f5) ?_ ?_
                    · rintro nf j7 v7 - hO7 ⟨k7, e10⟩
                      have hW7 := MW_ko hW6 k7 (by decide) (by decide)
                      have hT7 : TT (0, 0, 0, 0) v7 := by
                        obtain ⟨t1, t2, t3, t4⟩ := hT0
                        exact ⟨(k7.1 12 (by decide)).trans ((k6.1 12 (by decide)).trans ((k5.1 12 (by decide)).trans ((k4.1 12 (by decide)).trans ((k3.1 12 (by decide)).trans t1)))), (k7.1 13 (by decide)).trans ((k6.1 13 (by decide)).trans ((k5.1 13 (by decide)).trans ((k4.1 13 (by decide)).trans ((k3.1 13 (by decide)).trans t2)))), (k7.1 14 (by decide)).trans ((k6.1 14 (by decide)).trans ((k5.1 14 (by decide)).trans ((k4.1 14 (by decide)).trans ((k3.1 14 (by decide)).trans t3)))), (k7.1 15 (by decide)).trans ((k6.1 15 (by decide)).trans ((k5.1 15 (by decide)).trans ((k4.1 15 (by decide)).trans ((k3.1 15 (by decide)).trans t4))))⟩
                      refine stg hO7 (methods_m hcf hver hM hO7 hW7 ((k7.1 7 (by decide)).trans e7) ((k7.1 5 (by decide)).trans f5) hT7) ?_ ?_
                      · rintro ⟨nm, rs, tl⟩ j8 v8 - hO8 ⟨k8, e11, hnm, hR8, hlen, hT8⟩
                        dsimp only at e11 hnm hR8 hlen hT8 ⊢
                        have hW8 := MW_ko hW7 k8 (by decide) (by decide)
                        have at8 := atts_m (of := 3) (f := 0) (wx := 0) (ty := 0) (x4 := 0) (ver := ver) (Or.inr rfl) (by decide) hO8 hW8 hM ((k8.1 5 (by decide)).trans ((k7.1 5 (by decide)).trans f5)) hver (fun h => by cases h)
                        have at8' : wp (f_M_attributes v8 3 0 0 0) (RQ N z (sAtts F N c K B 8 ver 0 0 j8) (fun _ v => ko [2] [] v8 v)) := at8
                        refine stg (g := fun v => f_M_attributes v 3 0 0 0) hO8 at8' ?_ ?_
                        · rintro a j9 v9 - hO9 k9
                          have hj := hO9.1.2.2.2.2.2
                          refine wp_bnd ?_
                          rw [hO9.1.2.2.2.2.1, hO9.1.2.1]
                          refine mq_pa ?_
                          refine mq_must hO9 rfl rfl (by decide) (i10 ?_) (fun _ => ?_) (fun u h => ?_)
                          · rw [nI_eq (by omega) (by omega), decide_eq_true_eq]
                          · refine wp_some ⟨hO9, ?_, hc3, ?_, ?_, ?_, ?_, ?_, ?_, ?_, hlen, hnm⟩
                            · exact (k9.1 6 (by decide)).trans hW8.2.1
                            · intro t ht
                              show v9.2 1 t = nI (K t)
                              rw [k9.2 1 (by decide)]
                              exact hW8.2.2.2.1 t ht
                            · exact (k9.1 9 (by decide)).trans ((k8.1 9 (by decide)).trans ((k7.1 9 (by decide)).trans e9))
                            · exact (k9.1 10 (by decide)).trans ((k8.1 10 (by decide)).trans e10)
                            · exact (k9.1 11 (by decide)).trans e11
                            · obtain ⟨t1, t2, t3, t4⟩ := hT8
                              exact ⟨(k9.1 12 (by decide)).trans t1, (k9.1 13 (by decide)).trans t2, (k9.1 14 (by decide)).trans t3, (k9.1 15 (by decide)).trans t4⟩
                            · exact (k9.1 7 (by decide)).trans ((k8.1 7 (by decide)).trans ((k7.1 7 (by decide)).trans e7))
                            · intro j q e
                              show v9.2 3 _ = _ ∧ _
                              rw [k9.2 3 (by decide)]
                              exact hR8 j q e
                          · exact wp_some h
                        · intro r w v h
                          exact d6 h
                      · intro r w v h
                        exact skp h (d6 h)
                    · intro r w v h
                      exact skp h (skp h (d6 h))
                  · intro r w v h
                    exact skp h (skp h (skp h (d6 h)))
                · intro r w v h
                  exact skp h (skp h (skp h (skp h (d6 h))))
              · intro r w v h
                exact skp h (skp h (skp h (skp h (skp h (d6 h)))))
            · exact skp h (skp h (skp h (skp h (skp h (skp h (d6 h))))))
          · refine wp_bnd (wp_bnd ?_)
            have h' := RB_sv (k := 5) (x := x) (by decide) h
            rw [must_b h', cI_s]
            exact skp h' (skp h' (skp h' (skp h' (skp h' (skp h' (d6 h'))))))
        · rw [u2_b h, cI_s]
          refine wp_bnd (wp_bnd ?_)
          have h' := RB_sv (k := 5) (x := 0) (by decide) h
          rw [must_b h', cI_s]
          exact skp h' (skp h' (skp h' (skp h' (skp h' (skp h' (d6 h'))))))
      · refine wp_bnd ?_
        rw [must_b h, cI_s, u2_b h, cI_s]
        refine wp_bnd (wp_bnd ?_)
        have h' := RB_sv (k := 5) (x := 0) (by decide) h
        rw [must_b h', cI_s]
        exact skp h' (skp h' (skp h' (skp h' (skp h' (skp h' (d6 h'))))))
    · rw [u2_b h, cI_s]
      refine wp_bnd ?_
      rw [must_b h, cI_s, u2_b h, cI_s]
      refine wp_bnd (wp_bnd ?_)
      have h' := RB_sv (k := 5) (x := 0) (by decide) h
      rw [must_b h', cI_s]
      exact skp h' (skp h' (skp h' (skp h' (skp h' (skp h' (d6 h'))))))
  · refine wp_bnd ?_
    rw [must_b h, cI_s, u2_b h, cI_s]
    refine wp_bnd ?_
    rw [must_b h, cI_s, u2_b h, cI_s]
    refine wp_bnd (wp_bnd ?_)
    have h' := RB_sv (k := 5) (x := 0) (by decide) h
    rw [must_b h', cI_s]
    exact skp h' (skp h' (skp h' (skp h' (skp h' (skp h' (d6 h'))))))
end MGO

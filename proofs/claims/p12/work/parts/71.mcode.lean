/-! THE REFERENCE: all INSTRUCTIONS, and their aims -/
section MCO
variable {F : Nat → Nat} {N c i r w b sz lo ver pc : Nat} {K B : Nat → Nat} {z u : St} {st : Nat → Bool}
def MI3 (N : Nat) (z : St) (b pc : Nat) (res : Except Er (Nat × List Int32)) (u v : St) : Prop := match res with
  | .ok y => RO N (b + pc + y.1) z v ∧ ko [2, 18, 19] [] u v
  | .error e => RB N e.1 e.2 z v
theorem inst_m (hO : RO N (b + pc) z u) (hW : MW F N c K B u) (hM : ML2 F c K B) (hC : CM N b sz lo ver u) (hpc : pc < sz) : wp (f_M_instruction u) (MI3 N z b pc (stp F c K B ver lo b sz pc) u) := by
  have hN := hO.1.1
  have h5 := hC.2.2.2.2.1
  have hs := hC.2.2.2.2.2.1
  have f8 := hW.f8
  have hop := f8 (b + pc)
  obtain ⟨o1, o2, o3, -⟩ := op_c ⟨F (b + pc), hop⟩
  dsimp only at o1 o2 o3
  have tail : ∀ v, MC N (b + pc) z (stp F c K B ver lo b sz pc) u v → wp (cI (f_M_ok v) fun r16 u14 => cT (if r16 = 0 then (some (u14)) else (cI (f_M_after u14 (nI (b + pc))) fun r21 u19 => bnd (sv u19 2 r21) fun u22 => some (u22))) fun (u17 : St) => some u17) (MI3 N z b pc (stp F c K B ver lo b sz pc) u) := by
    intro v hv
    cases hst : stp F c K B ver lo b sz pc with
    | error e =>
      rw [hst] at hv
      have h : RB N e.1 e.2 z v := hv
      rw [ok_b h, cI_s, if_pos rfl, cT_s]
      exact wp_some h
    | ok y =>
      rw [hst] at hv
      obtain ⟨h, kv⟩ : RO N (b + pc) z v ∧ ko [18, 19] [] u v := hv
      obtain ⟨w1, w2, -⟩ := stp_ok hpc hst
      rw [ok_o h, cI_s, if_neg (by decide), after_m ((ko_F kv (by decide)).trans hW.1) (CM_ko hC kv (by decide)) hN hpc hst, cI_s, bnd_s, cT_s]
      exact wp_some ⟨RO_at h (by omega), ko_tr (ko_mono kv (fun k h => by simp at h ⊢; omega) (fun _ h => h)) (ko_sv (by decide))⟩
  unfold f_M_instruction
  rw [hO.1.2.2.2.2.1, byteOf_in (by omega), cI_s, hW.1, bar_eq hop, cI_s, bnd_s]
  by_cases d0 : fmN (F (b + pc)) = 0
  · have es : stp F c K B ver lo b sz pc = .error (22, b + pc) := by unfold stp; rw [if_pos d0]
    rw [es, if_pos d0, if_neg (by decide), must_fl 22 (r := 22) rfl hO (by decide) (by decide), cI_s, if_pos rfl]
    exact wp_some (RO_B hO (by decide) (by decide))
  · have h202 : F (b + pc) < 202 := Nat.lt_of_not_le fun q => d0 (fm_0 (by omega))
    rw [if_neg d0, if_pos rfl, must_t hO (by decide), cI_s, if_neg (by decide)]; simp only [show (nI (F (b + pc)) = 170) = (F (b + pc) = 170) from neq (b := 170) (by omega) (by decide), show (nI (F (b + pc)) = 171) = (F (b + pc) = 171) from neq (b := 171) (by omega) (by decide), show (nI (F (b + pc)) = 196) = (F (b + pc) = 196) from neq (b := 196) (by omega) (by decide)]
    by_cases d170 : F (b + pc) = 170
    · have e14 := o1.mp d170
      have es : stp F c K B ver lo b sz pc = sTab F b sz pc := by unfold stp; rw [if_neg d0, if_neg (by omega), if_pos e14]
      rw [if_pos d170, if_pos d170, bnd_s]
      refine wp_cV (wp_mono (tab_m hO hW.1 hC hpc) fun v hv => tail v (by rw [es]; exact hv))
    · rw [if_neg d170]
      by_cases d171 : F (b + pc) = 171
      · have e15 := o2.mp d171
        have es : stp F c K B ver lo b sz pc = sPai F b sz pc := by unfold stp; rw [if_neg d0, if_neg (by omega), if_neg (by omega), if_pos e15]
        rw [if_pos d171, if_neg d170, bnd_s]
        refine wp_cV (wp_mono (pai_m hO hW.1 hC hpc) fun v hv => tail v (by rw [es]; exact hv))
      · rw [if_neg d171]
        have n14 : ¬ fmN (F (b + pc)) = 14 := fun q => d170 (o1.mpr q)
        have n15 : ¬ fmN (F (b + pc)) = 15 := fun q => d171 (o2.mpr q)
        by_cases d196 : F (b + pc) = 196
        · have e22 := o3.mp d196
          have es : stp F c K B ver lo b sz pc = sWid F lo b sz pc := by unfold stp; rw [if_neg d0, if_neg (by omega), if_neg n14, if_neg n15, if_pos e22]
          rw [if_pos d196, show nI (b + pc) + 2 = nI (b + pc + 2) from nI_add _ 2, nI_1]
          by_cases d1 : sz ≤ pc + 1
          · have e1 : sWid F lo b sz pc = .error (25, b + pc) := by unfold sWid; rw [if_pos d1]
            rw [es, e1, there_x hO hC (by omega) (by omega), cI_s, if_pos rfl]
            exact wp_some (RO_B hO (by decide) (by decide))
          · have hop2 := f8 (b + pc + 1)
            obtain ⟨-, -, -, o4, o5, o6⟩ := op_c ⟨F (b + pc + 1), hop2⟩
            dsimp only at o4 o5 o6
            rw [there_o hO hC (by omega), cI_s, if_neg (by decide), byteOf_in (by omega), cI_s, hW.1, bnd_s]
            have q1 : ∀ {n : Nat}, n < 256 → (nI (F (b + pc + 1)) = nI n) = (F (b + pc + 1) = n) := fun h => neq (by omega) (by omega)
            have em : (if nI (F (b + pc + 1)) = 21 then (1 : Int32) else (if nI (F (b + pc + 1)) = 22 then (1) else (if nI (F (b + pc + 1)) = 25 then (1) else (if nI (F (b + pc + 1)) = 54 then (1) else (if nI (F (b + pc + 1)) = 55 then (1) else (if nI (F (b + pc + 1)) = 58 then (1) else (if nI (F (b + pc + 1)) = 132 then (1) else (0)))))))) = if (fmN (F (b + pc + 1)) = 7 ∨ fmN (F (b + pc + 1)) = 8 ∨ fmN (F (b + pc + 1)) = 11) then 1 else 0 := by
              simp only [show (nI (F (b + pc + 1)) = 21) = (F (b + pc + 1) = 21) from q1 (n := 21) (by decide), show (nI (F (b + pc + 1)) = 22) = (F (b + pc + 1) = 22) from q1 (n := 22) (by decide), show (nI (F (b + pc + 1)) = 25) = (F (b + pc + 1) = 25) from q1 (n := 25) (by decide), show (nI (F (b + pc + 1)) = 54) = (F (b + pc + 1) = 54) from q1 (n := 54) (by decide), show (nI (F (b + pc + 1)) = 55) = (F (b + pc + 1) = 55) from q1 (n := 55) (by decide), show (nI (F (b + pc + 1)) = 58) = (F (b + pc + 1) = 58) from q1 (n := 58) (by decide), show (nI (F (b + pc + 1)) = 132) = (F (b + pc + 1) = 132) from q1 (n := 132) (by decide)]
              by_cases g : (fmN (F (b + pc + 1)) = 7 ∨ fmN (F (b + pc + 1)) = 8 ∨ fmN (F (b + pc + 1)) = 11)
              · rw [if_pos g]
                have := o5.mpr g
                repeat' split
                all_goals first | rfl | omega
              · rw [if_neg g]
                have : ¬ _ := fun q => g (o5.mp q)
                repeat' split
                all_goals first | rfl | omega
            rw [em]
            by_cases d2 : (fmN (F (b + pc + 1)) = 7 ∨ fmN (F (b + pc + 1)) = 8 ∨ fmN (F (b + pc + 1)) = 11)
            · rw [if_pos d2, must_t hO (by decide), cI_s, if_neg (by decide), bnd_s]; simp only [show (nI (F (b + pc + 1)) = 132) = (F (b + pc + 1) = 132) from q1 (n := 132) (by decide)]
              have ew : (if F (b + pc + 1) = 132 then (6 : Int32) else 4) = nI (if fmN (F (b + pc + 1)) = 11 then 6 else 4) := by
                by_cases g : F (b + pc + 1) = 132
                · rw [if_pos g, if_pos (o4.mp g)]; rfl
                · rw [if_neg g, if_neg (fun q => g (o4.mpr q))]; rfl
              have hw : (if fmN (F (b + pc + 1)) = 11 then 6 else 4) ≤ 6 ∧ 4 ≤ (if fmN (F (b + pc + 1)) = 11 then 6 else 4) := by split <;> omega
              rw [ew, nI_add]
              have e3 : sWid F lo b sz pc = if sz < pc + (if fmN (F (b + pc + 1)) = 11 then 6 else 4) then .error (25, b + pc) else if lo < be F (b + pc + 2) 2 + (if fmN (F (b + pc + 1)) = 8 then 2 else 1) then .error (23, b + pc) else .ok (if fmN (F (b + pc + 1)) = 11 then 6 else 4, []) := by
                unfold sWid
                rw [if_neg d1, if_neg (fun q => q d2)]
              by_cases d3 : sz < pc + (if fmN (F (b + pc + 1)) = 11 then 6 else 4)
              · rw [if_pos d3] at e3
                rw [es, e3, there_x hO hC (by omega) (by omega), cI_s, if_pos rfl]
                exact wp_some (RO_B hO (by decide) (by decide))
              · rw [if_neg d3] at e3
                have ht : twoL (F (b + pc + 1)) = if fmN (F (b + pc + 1)) = 8 then 2 else 1 := by
                  unfold twoL
                  by_cases g : fmN (F (b + pc + 1)) = 8
                  · rw [if_pos (o6.mpr g), if_pos g]
                  · rw [if_neg (fun q => g (o6.mp q)), if_neg g]
                rw [← ht] at e3
                rw [there_o hO hC (by omega), cI_s, if_neg (by decide), two_in (by omega), cI_s, hW.1, loc_m hO hC hop2 (hW.b2 _), cV_s]
                refine tail _ ?_
                rw [es, e3]
                by_cases d4 : lo < be F (b + pc + 2) 2 + twoL (F (b + pc + 1))
                · rw [if_pos d4, if_pos d4]
                  exact RO_B hO (by decide) (by decide)
                · rw [if_neg d4, if_neg d4]
                  exact ⟨hO, ko_rf⟩
            · have e1 : sWid F lo b sz pc = .error (22, b + pc) := by unfold sWid; rw [if_neg d1, if_pos d2]
              rw [es, e1, if_neg d2, must_fl 22 (r := 22) rfl hO (by decide) (by decide), cI_s, if_pos rfl]
              exact wp_some (RO_B hO (by decide) (by decide))
        · have n22 : ¬ fmN (F (b + pc)) = 22 := fun q => d196 (o3.mpr q)
          have hfm := fm_lt (F (b + pc))
          obtain ⟨tw, tn1, hnm, hwd⟩ := tab_ok ⟨fmN (F (b + pc)), hfm⟩
          dsimp only at tw tn1 hnm hwd
          rw [if_neg d196, lenX_eq, cI_s, len_t ⟨F (b + pc), h202⟩ d0 n14 n15 n22]
          dsimp only
          rw [nI_add]
          by_cases d1 : fmN (F (b + pc)) = 1
          · have es : stp F c K B ver lo b sz pc = .ok (1, []) := by unfold stp; rw [if_neg d0, if_pos d1]
            have e1 : wdN (fmN (F (b + pc))) = 1 := by rw [d1]; decide
            rw [e1, there_o hO hC (by omega), cI_s, if_neg (by decide), plain_1 h202 d1, cV_s, cT_s]
            exact tail u (by rw [es]; exact ⟨hO, ko_rf⟩)
          · have es : stp F c K B ver lo b sz pc = sFix F c K B ver lo b sz pc (F (b + pc)) (fmN (F (b + pc))) := by unfold stp; rw [if_neg d0, if_neg d1, if_neg n14, if_neg n15, if_neg n22]
            by_cases d2 : sz < pc + wdN (fmN (F (b + pc)))
            · have e1 : sFix F c K B ver lo b sz pc (F (b + pc)) (fmN (F (b + pc))) = .error (25, b + pc) := by unfold sFix; rw [if_pos d2]
              rw [there_x hO hC (by omega) (by omega), cI_s, if_pos rfl, cT_s]
              exact tail _ (by rw [es, e1]; exact RO_B hO (by decide) (by decide))
            · rw [there_o hO hC (by omega), cI_s, if_neg (by decide)]
              refine wp_cT (wp_cV (wp_mono (plain_m hO hW hM hC h202 ⟨d0, n14, n15, n22⟩ d1 (by omega)) fun v hv => wp_some (tail v (by rw [es]; exact hv))))
/-- which bytes are first, in the reference -/
def FM (sz : Nat) (st : Nat → Bool) (u : St) : Prop := ∀ j, j < sz → u.2 7 j = if st j then 1 else 0
def XLM (N : Nat) (z : St) (b sz : Nat) (res : Except Er (Nat × Nat × (Nat → Bool) × List (Nat × Int32))) (u : St) (p : St × Int32 × Int32) : Prop := match res with
  | .error e => RB N e.1 e.2 z p.1
  | .ok q => RO N (b + sz) z p.1 ∧ p.2.1 = nI (b + q.2.1) ∧ q.2.1 < sz ∧ p.2.2 = nI q.1 ∧ FM sz q.2.2.1 p.1 ∧ ko [2, 18, 19] [7] u p.1
theorem XLM_mono {res : Except Er (Nat × Nat × (Nat → Bool) × List (Nat × Int32))} {u v : St} {p : St × Int32 × Int32} (h : XLM N z b sz res v p) (k : ko [2, 18, 19] [7] u v) : XLM N z b sz res u p := by
  cases res with
  | error e => exact h
  | ok q =>
    obtain ⟨a1, a2, a3, a4, a5, a6⟩ := h
    exact ⟨a1, a2, a3, a4, a5, ko_tr k a6⟩
theorem insM {x2 x4 : Int32} {x5 : Int64} (hM : ML2 F c K B) : ∀ (f g pc cn la : Nat) (st : Nat → Bool) (jl : List (Nat × Int32)) (u : St), sz ≤ pc + f → sz < pc + g → pc ≤ sz → la < sz → RO N (b + pc) z u → MW F N c K B u → CM N b sz lo ver u → FM sz st u → wp (f_M_code_L244 x2 x4 x5 g u (nI (b + la)) (nI cn)) (XLM N z b sz (sIns F c K B ver lo b sz f pc cn la st jl) u) := by
  intro f
  induction f with
  | zero =>
    intro g pc cn la st jl u h1 h2 h3 h4 hO hW hC hS
    have hN := hO.1.1
    have h5 := hC.2.2.2.2.1
    cases g with
    | zero => omega
    | succ g =>
      rw [f_M_code_L244, hC.2.1, hO.1.2.2.2.2.1, if_pos (nI_le (by omega) (by omega)), sIns]
      have : pc = sz := by omega
      subst this
      exact wp_some ⟨hO, rfl, h4, rfl, hS, ko_rf⟩
  | succ f ih =>
    intro g pc cn la st jl u h1 h2 h3 h4 hO hW hC hS
    have hN := hO.1.1
    have h5 := hC.2.2.2.2.1
    have hs := hC.2.2.2.2.2.1
    cases g with
    | zero => omega
    | succ g =>
      rw [f_M_code_L244, hC.2.1, hO.1.2.2.2.2.1, sIns]
      by_cases d : pc < sz
      · rw [if_neg (nI_ge (by omega) (by omega)), if_pos d, ok_o hO, cI_s, if_neg (by decide), hO.1.2.2.2.2.1, hC.1, nI_sub (show b ≤ b + pc by omega), show b + pc - b = pc by omega, gd_in (by omega) (by decide), ncl (by omega), show (vp_nar .boolean 1 : Int32) = 1 from rfl, nI_1]
        refine wp_bnd ?_
        have kv : ko [] [7] u (sa u 7 pc 1) := ko_sa (by decide)
        have hv7 : ∀ j, (sa u 7 pc 1).2 7 j = if j = pc then 1 else u.2 7 j := fun j => by
          rw [sa_a, if_pos rfl]; rfl
        generalize sa u 7 pc 1 = v at kv hv7 ⊢
        have hOv : RO N (b + pc) z v := RO_ko hO kv (by decide) (by decide)
        have hWv := MW_ko hW kv (by decide) (by decide)
        have hCv := CM_ko hC kv (by decide)
        refine wp_cV (wp_mono (inst_m hOv hWv hM hCv d) fun q hq => ?_)
        cases hr : stp F c K B ver lo b sz pc with
        | error e =>
          rw [hr] at hq
          have h : RB N e.1 e.2 z q := hq
          cases g with
          | zero => omega
          | succ g =>
            rw [f_M_code_L244]
            refine wp_ite (fun _ => wp_some h) (fun _ => ?_)
            rw [ok_b h, cI_s, if_pos rfl]
            exact wp_some h
        | ok y =>
          obtain ⟨y1, y2, y3⟩ := stp_ok d hr
          rw [hr] at hq
          obtain ⟨hO1, k1⟩ : RO N (b + pc + y.1) z q ∧ ko [2, 18, 19] [] v q := hq
          have ih' := ih g (pc + y.1) (cn + 1) pc (fun j => if j = pc then true else st j) (jl ++ y.2.map fun x => (pc, x)) q (by omega) (by omega) (by omega) d (by rw [← Nat.add_assoc]; exact hO1) (MW_ko hWv k1 (by decide) (by decide)) (CM_ko hCv k1 (by decide)) (by
            intro j hj
            rw [k1.2 7 (by decide), hv7]
            by_cases e : j = pc
            · rw [if_pos e]; show _ = (if (if j = pc then true else st j) = true then (1 : Int32) else 0); rw [if_pos e]; rfl
            · rw [if_neg e]; show _ = (if (if j = pc then true else st j) = true then (1 : Int32) else 0); rw [if_neg e]; exact hS j hj)
          refine wp_mono ih' fun p hp => XLM_mono hp ?_
          exact ko_tr (ko_mono kv (fun k h => by cases h) (fun _ h => h)) (ko_mono k1 (fun _ h => h) (fun _ h => by cases h))
      · rw [if_pos (nI_le (by omega) (by omega)), if_neg d]
        have : pc = sz := by omega
        subst this
        exact wp_some ⟨hO, rfl, h4, rfl, hS, ko_rf⟩
theorem clrM {x2 x4 : Int32} {x5 : Int64} (hx : x5.toInt = sz) (hs : sz ≤ 2000) : ∀ (m j g : Nat) (u : St), j + m = sz + 1 → m < g → (∀ t, t < j → u.2 7 t = 0) → ∃ v, f_M_code_L212 x2 x4 x5 g u (nI j) = some v ∧ ko [] [7] u v ∧ ∀ t, t < sz + 1 → v.2 7 t = 0
  | 0, j, g + 1, u, h1, _, hz => by
    refine ⟨u, ?_, ko_rf, fun t ht => hz t (by omega)⟩
    have : (0 < lg_cmp (nI j).toInt64 x5) := by
      rw [lg_cmp_gt, Int64.lt_iff_toInt_lt, hx, Int32.toInt_toInt64, nI_toInt (by omega)]
      omega
    rw [f_M_code_L212, if_pos this]
  | m + 1, j, g + 1, u, h1, h2, hz => by
    obtain ⟨v, e1, e2, e3⟩ := clrM (x2 := x2) (x4 := x4) hx hs m (j + 1) g (sa u 7 j 0) (by omega) (by omega) (by
      intro t ht
      rw [sa_a, if_pos rfl, upd]
      by_cases e : t = j
      · rw [if_pos e]
      · rw [if_neg e]; exact hz t (by omega))
    refine ⟨v, ?_, ko_tr (ko_sa (by decide)) e2, e3⟩
    have : ¬ (0 < lg_cmp (nI j).toInt64 x5) := by
      rw [lg_cmp_gt, Int64.lt_iff_toInt_lt, hx, Int32.toInt_toInt64, nI_toInt (by omega)]
      omega
    rw [f_M_code_L212, if_neg this, gd_in (by omega) (by decide), bnd_s, ncl (by omega), show (vp_nar .boolean 0 : Int32) = 0 from rfl, nI_1]
    exact e1
/-! aims -/
theorem tgt_m {x : Int32} {x2 : Int64} {jn : Nat} (hO : RO N i z u) (hC : CM N b sz lo ver u) (hS : FM sz st u) (h14 : u.1 14 = nI jn) (hx : x2.toInt = (pc : Int) + x.toInt) : wp (f_M_target u (nI (b + pc)) x2) (fun v => if aimOK sz st (pc, x) = true then RO N i z v ∧ v.1 14 = nI (jn + 1) ∧ ko [14] [] u v else RB N 26 (b + pc) z v ∧ ko [3, 4, 14] [] u v) := by
  have hN := hO.1.1
  have h5 := hC.2.2.2.2.1
  have hs := hC.2.2.2.2.2.1
  unfold f_M_target
  rw [h14, nI_1, bnd_s]
  have k1 : ko [14] [] u (sv u 14 (nI (jn + 1))) := ko_sv (by decide)
  have e14 : (sv u 14 (nI (jn + 1))).1 14 = nI (jn + 1) := rfl
  generalize sv u 14 (nI (jn + 1)) = v at k1 e14 ⊢
  have hO1 : RO N i z v := RO_ko hO k1 (by decide) (by decide)
  have hC1 := CM_ko hC k1 (by decide)
  have hS1 : FM sz st v := fun j hj => by rw [k1.2 7 (by decide)]; exact hS j hj
  rw [hC1.1, hC1.2.1, nI_sub (show b ≤ b + sz by omega), show b + sz - b = sz by omega]
  have g1 : (lg_cmp x2 0 < 0) = ((pc : Int) + x.toInt < 0) := by
    apply propext
    rw [lg_cmp_lt, Int64.lt_iff_toInt_lt, hx, show (0 : Int64).toInt = 0 from rfl]
  have g2 : (0 ≤ lg_cmp x2 (nI sz).toInt64) = ((sz : Int) ≤ (pc : Int) + x.toInt) := by
    apply propext
    rw [lg_cmp_ge, Int64.le_iff_toInt_le, hx, Int32.toInt_toInt64, nI_toInt (by omega)]
  simp only [g1, g2]
  have good : wp (cI (f_M_must v 1 26 (nI (b + pc))) fun r5 u3 => some u3) (fun v => RO N i z v ∧ v.1 14 = nI (jn + 1) ∧ ko [14] [] u v) := by
    rw [must_t hO1 (by decide), cI_s]
    exact wp_some ⟨hO1, e14, k1⟩
  have bad : wp (cI (f_M_must v 0 26 (nI (b + pc))) fun r5 u3 => some u3) (fun v => RB N 26 (b + pc) z v ∧ ko [3, 4, 14] [] u v) := by
    rw [must_fl 26 (r := 26) rfl hO1 (by decide) (by decide), cI_s]
    exact wp_some ⟨RO_B hO1 (by decide) (by decide), ko_tr (ko_mono k1 (fun k h => by simp at h ⊢; omega) (fun _ h => h)) (rbk_ko (by decide) (by decide))⟩
  unfold aimOK
  dsimp only
  by_cases d1 : (pc : Int) + x.toInt < 0
  · rw [if_pos d1, cT_s, decide_eq_false (by omega), Bool.false_and, Bool.false_and]
    exact bad
  · rw [if_neg d1, decide_eq_true (by omega), Bool.true_and]
    by_cases d2 : (sz : Int) ≤ (pc : Int) + x.toInt
    · rw [if_pos d2, cT_s, decide_eq_false (by omega), Bool.false_and]
      exact bad
    · rw [if_neg d2, decide_eq_true (by omega), Bool.true_and]
      obtain ⟨k, hk⟩ : ∃ k : Nat, (pc : Int) + x.toInt = k := ⟨((pc : Int) + x.toInt).toNat, by omega⟩
      rw [hk] at hx d2 ⊢
      rw [j32 (by omega) hx, gd_in (by omega) (by decide), ncl (by omega), hS1 k (by omega), Int.toNat_natCast]
      cases st k
      · rw [if_neg (show ¬ (false = true) by decide), if_pos rfl, cT_s]
        exact bad
      · rw [if_pos (show true = true from rfl), if_neg (by decide), cT_s]
        exact good
/-- the outcome of aims -/
def TG (N i : Nat) (z : St) (res : Except Er Unit) (jn : Nat) (u v : St) : Prop := match res with
  | .ok _ => RO N i z v ∧ v.1 14 = nI jn ∧ ko [14] [] u v
  | .error e => RB N e.1 e.2 z v ∧ ko [3, 4, 14] [] u v
theorem sAim_a {l l' : List (Nat × Int32)} : sAim b sz st (l ++ l') = match sAim b sz st l with
    | .ok _ => sAim b sz st l'
    | .error e => .error e := by
  induction l with
  | nil => rfl
  | cons j l ih =>
    rw [List.cons_append, sAim, sAim]
    by_cases h : aimOK sz st j = true
    · rw [if_pos h, if_pos h, ih]
    · rw [if_neg h, if_neg h]
theorem tL_m {op d q : Nat} {x3 : Int64} {n : Nat} (hd : d = if op = 170 then 4 else 8) (hop : op < 256) (hx3 : x3.toInt = pc) (hpc : pc < 2000) (hn : n ≤ 500) (hq : q + 16 + d * n ≤ sz + d) (hF : ∀ v, ko [14] [] u v → xF v = F) (hC : CM N b sz lo ver u) (hS : FM sz st u) : ∀ (m j g : Nat) (v : St) (jn : Nat), j + m = n → m < g → RO N i z v → ko [14] [] u v → v.1 14 = nI jn → wp (f_M_targets_L159 (nI (b + pc)) (nI op) x3 (nI (b + q)) (nI n) g v (nI j)) (TG N i z (sAim b sz st ((nms4 F d m (b + (q + 12 + d * j))).map fun x => (pc, x))) (jn + m) u)
  | 0, j, g + 1, v, jn, h1, _, hO, kv, h14 => by
    rw [f_M_targets_L159, if_pos (nI_le (by omega) (by omega)), nms4, List.map_nil, sAim]
    exact wp_some ⟨hO, h14, kv⟩
  | m + 1, j, g + 1, v, jn, h1, h2, hO, kv, h14 => by
    have hN := hO.1.1
    have h5 := hC.2.2.2.2.1
    have hs := hC.2.2.2.2.2.1
    have hd' : d = 4 ∨ d = 8 := by rw [hd]; split <;> omega
    have hjm : d * j + d * (m + 1) = d * n := by rw [← Nat.mul_add, h1]
    have hdm : d ≤ d * (m + 1) := Nat.le_mul_of_pos_right d (by omega)
    have ez : (if nI op = 170 then ((nI (b + q) + 12) + (4 * nI j)) else ((nI (b + q) + 12) + (8 * nI j))) = nI (b + (q + 12 + d * j)) := by
      simp only [show (nI op = 170) = (op = 170) from neq (b := 170) (by omega) (by decide)]; rw [show nI (b + q) + 12 = nI (b + q + 12) from nI_add _ 12, show (4 : Int32) * nI j = nI (4 * j) from nmul 4 j, show (8 : Int32) * nI j = nI (8 * j) from nmul 8 j, nI_add, nI_add]
      by_cases e : op = 170
      · rw [if_pos e]
        rw [if_pos e] at hd
        rw [hd, show b + q + 12 + 4 * j = b + (q + 12 + 4 * j) by omega]
      · rw [if_neg e]
        rw [if_neg e] at hd
        rw [hd, show b + q + 12 + 8 * j = b + (q + 12 + 8 * j) by omega]
    rw [f_M_targets_L159, if_neg (nI_ge (by omega) (by omega)), ok_o hO, cI_s, if_neg (by decide), ez, bnd_s, four_m (hF v kv) (by omega), cI_s, nI_1, nms4, List.map_cons, sAim]
    have hCv := CM_ko hC kv (by decide)
    have hSv : FM sz st v := fun j hj => by rw [kv.2 7 (by decide)]; exact hS j hj
    have hx : (x3 + (nI (be F (b + (q + 12 + d * j)) 4)).toInt64).toInt = (pc : Int) + (nI (be F (b + (q + 12 + d * j)) 4)).toInt := by
      have a1 := Int32.le_toInt (nI (be F (b + (q + 12 + d * j)) 4))
      have a2 := Int32.toInt_lt (nI (be F (b + (q + 12 + d * j)) 4))
      rw [Int64.toInt_add, hx3, Int32.toInt_toInt64, bm64 (by omega) (by omega)]
    refine wp_cV (wp_mono (tgt_m hO hCv hSv h14 hx) fun v2 hv2 => ?_)
    by_cases ha : aimOK sz st (pc, nI (be F (b + (q + 12 + d * j)) 4)) = true
    · rw [if_pos ha] at hv2 ⊢
      obtain ⟨a1, a2, a3⟩ := hv2
      have ih := tL_m hd hop hx3 hpc hn hq hF hC hS m (j + 1) g v2 (jn + 1) (by omega) (by omega) a1 (ko_tr kv a3) a2
      rw [show jn + 1 + m = jn + (m + 1) by omega, show b + (q + 12 + d * (j + 1)) = b + (q + 12 + d * j) + d by rw [Nat.mul_succ]; omega] at ih
      exact ih
    · rw [if_neg ha] at hv2 ⊢
      obtain ⟨a1, a2⟩ := hv2
      cases g with
      | zero => omega
      | succ g =>
        rw [f_M_targets_L159]
        refine wp_ite (fun _ => wp_some ⟨a1, ?_⟩) (fun _ => ?_)
        · exact ko_tr (ko_mono kv (fun k h => by simp at h ⊢; omega) (fun _ h => h)) a2
        · rw [ok_b a1, cI_s, if_pos rfl]
          exact wp_some ⟨a1, ko_tr (ko_mono kv (fun k h => by simp at h ⊢; omega) (fun _ h => h)) a2⟩
end MCO

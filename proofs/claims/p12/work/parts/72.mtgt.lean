/-! THE REFERENCE: aims of all INSTRUCTIONS, handlers -/
theorem op_j : ∀ op : Fin 202, (fmN op.val = 12 ↔ ((153 ≤ op.val ∧ op.val ≤ 167) ∨ op.val = 198 ∨ op.val = 199)) ∧ (fmN op.val = 13 ↔ op.val = 200) := by decide +kernel
section MTG
variable {F : Nat → Nat} {N c i r w b sz lo ver pc : Nat} {K B : Nat → Nat} {z u : St} {st : Nat → Bool}
theorem TG_1 {x : Int32} {jn : Nat} {v : St} (h : if aimOK sz st (pc, x) = true then RO N i z v ∧ v.1 14 = nI (jn + 1) ∧ ko [14] [] u v else RB N 26 (b + pc) z v ∧ ko [3, 4, 14] [] u v) : TG N i z (sAim b sz st [(pc, x)]) (jn + 1) u v := by
  rw [sAim]
  by_cases a : aimOK sz st (pc, x) = true
  · rw [if_pos a] at h ⊢; rw [sAim]; exact h
  · rw [if_neg a] at h ⊢; exact h
theorem from_m (hC : CM N b sz lo ver u) (hN : N ≤ 4000) (hpc : pc < sz) : (nI (b + pc) - u.1 20).toInt64.toInt = pc := by
  have := hC.2.2.2.2.1
  rw [hC.1, nI_sub (by omega), show b + pc - b = pc by omega, Int32.toInt_toInt64, nI_toInt (by omega)]
theorem addJ {a : Int64} {x : Int32} (h : a.toInt = pc) (hp : pc < 2000) : (a + x.toInt64).toInt = (pc : Int) + x.toInt := by
  have a1 := Int32.le_toInt x
  have a2 := Int32.toInt_lt x
  rw [Int64.toInt_add, h, Int32.toInt_toInt64, bm64 (by omega) (by omega)]
theorem tgts_m {y : Nat × List Int32} {jn : Nat} (hO : RO N i z u) (hF : xF u = F) (hC : CM N b sz lo ver u) (hS : FM sz st u) (h14 : u.1 14 = nI jn) (hpc : pc < sz) (hst : stp F c K B ver lo b sz pc = .ok y) : wp (f_M_targets u (nI (b + pc))) (TG N i z (sAim b sz st (y.2.map fun x => (pc, x))) (jn + y.2.length) u) := by
  have hN := hO.1.1
  have h5 := hC.2.2.2.2.1
  have hs := hC.2.2.2.2.2.1
  have hp := pst_lt (pc := pc)
  have f8 : ∀ j, F j < 256 := fun j => by rw [← hF]; exact F8 u j
  have hop := f8 (b + pc)
  obtain ⟨o1, o2, o3, -⟩ := op_c ⟨F (b + pc), hop⟩
  dsimp only at o1 o2 o3
  obtain ⟨w1, w2, -⟩ := stp_ok hpc hst
  have hfr := from_m hC hN hpc
  have d0 : ¬ fmN (F (b + pc)) = 0 := fun q => by unfold stp at hst; rw [if_pos q] at hst; cases hst
  have h202 : F (b + pc) < 202 := Nat.lt_of_not_le fun q => d0 (fm_0 (by omega))
  obtain ⟨o12, o13⟩ := op_j ⟨F (b + pc), h202⟩
  dsimp only at o12 o13
  unfold f_M_targets
  rw [byteOf_in (by omega), cI_s, hF]
  generalize hopn : F (b + pc) = op at *
  simp only [show (nI op < 153) = (op < 153) from nlt (b := 153) (by omega) (by decide), show (nI op ≤ 167) = (op ≤ 167) from nle (b := 167) (by omega) (by decide), show (nI op = 198) = (op = 198) from neq (b := 198) (by omega) (by decide), show (nI op = 199) = (op = 199) from neq (b := 199) (by omega) (by decide), show (nI op = 200) = (op = 200) from neq (b := 200) (by omega) (by decide), show (nI op = 170) = (op = 170) from neq (b := 170) (by omega) (by decide), show (nI op = 171) = (op = 171) from neq (b := 171) (by omega) (by decide)]; rw [nI_1]
  generalize (nI (b + pc) - u.1 20).toInt64 = fr at hfr ⊢
  by_cases c12 : fmN op = 12
  · have ho := o12.mp c12
    have ey : y.2 = [(nI (be F (b + pc + 1) 2)).toInt16.toInt32] ∧ y.1 = 3 := by
      unfold stp at hst
      rw [hopn, if_neg (by omega), if_neg (by omega), if_neg (by omega), if_neg (by omega), if_neg (by omega), c12] at hst
      unfold sFix at hst
      split at hst
      · cases hst
      · cases hst
        exact ⟨rfl, by show wdN 12 = 3; decide⟩
    obtain ⟨ey, ey1⟩ := ey
    rw [ey]
    have go : wp (cI (f_M_two u (nI (b + pc + 1))) fun r71 u69 => cV (f_M_target u69 (nI (b + pc)) (fr + (r71).toInt16.toInt32.toInt64)) fun u72 => some (u72)) (TG N i z (sAim b sz st [(pc, (nI (be F (b + pc + 1) 2)).toInt16.toInt32)]) (jn + 1) u) := by
      rw [two_in (by omega), cI_s, hF]
      exact wp_cV (wp_mono (tgt_m hO hC hS h14 (addJ hfr (by omega))) fun v hv => wp_some (TG_1 hv))
    refine wp_cT (wp_mono (o := _) (Q := TG N i z (sAim b sz st [(pc, (nI (be F (b + pc + 1) 2)).toInt16.toInt32)]) (jn + 1) u) ?_ fun v hv => ?_)
    · by_cases e : op < 153
      · omega
      · rw [if_neg e]
        by_cases e1 : op ≤ 167
        · rw [if_pos e1]; exact go
        · rw [if_neg e1]
          by_cases e2 : op = 198
          · rw [if_pos e2]; exact go
          · rw [if_neg e2, if_pos (by omega)]; exact go
    · rw [if_neg (by omega), cT_s, if_neg (by omega), if_neg (by omega)]
      exact wp_some hv
  · have n12 : ¬ ((153 ≤ op ∧ op ≤ 167) ∨ op = 198 ∨ op = 199) := fun q => c12 (o12.mpr q)
    have sk : (if op < 153 then (if op = 198 then (cI (f_M_two u (nI (b + pc + 1))) fun r71 u69 => cV (f_M_target u69 (nI (b + pc)) (fr + (r71).toInt16.toInt32.toInt64)) fun u72 => some (u72)) else (if op = 199 then (cI (f_M_two u (nI (b + pc + 1))) fun r76 u74 => cV (f_M_target u74 (nI (b + pc)) (fr + (r76).toInt16.toInt32.toInt64)) fun u77 => some (u77)) else (some (u)))) else (if op ≤ 167 then (cI (f_M_two u (nI (b + pc + 1))) fun r81 u79 => cV (f_M_target u79 (nI (b + pc)) (fr + (r81).toInt16.toInt32.toInt64)) fun u82 => some (u82)) else (if op = 198 then (cI (f_M_two u (nI (b + pc + 1))) fun r86 u84 => cV (f_M_target u84 (nI (b + pc)) (fr + (r86).toInt16.toInt32.toInt64)) fun u87 => some (u87)) else (if op = 199 then (cI (f_M_two u (nI (b + pc + 1))) fun r91 u89 => cV (f_M_target u89 (nI (b + pc)) (fr + (r91).toInt16.toInt32.toInt64)) fun u92 => some (u92)) else (some (u)))))) = some u := by
      by_cases e : op < 153
      · rw [if_pos e, if_neg (by omega), if_neg (by omega)]
      · rw [if_neg e, if_neg (by omega), if_neg (by omega), if_neg (by omega)]
    rw [sk, cT_s]
    by_cases c13 : fmN op = 13
    · have ho := o13.mp c13
      have ey : y.2 = [nI (be F (b + pc + 1) 4)] ∧ y.1 = 5 := by
        unfold stp at hst
        rw [hopn, if_neg (by omega), if_neg (by omega), if_neg (by omega), if_neg (by omega), if_neg (by omega), c13] at hst
        unfold sFix at hst
        split at hst
        · cases hst
        · cases hst
          exact ⟨rfl, by show wdN 13 = 5; decide⟩
      obtain ⟨ey, ey1⟩ := ey
      rw [ey, if_pos ho, show b + pc + 1 = b + (pc + 1) by omega, four_m hF (by omega), cI_s]
      refine wp_cT (wp_cV (wp_mono (tgt_m hO hC hS h14 (addJ hfr (by omega))) fun v hv => wp_some ?_))
      rw [if_neg (by omega), if_neg (by omega)]
      exact wp_some (TG_1 hv)
    · rw [if_neg (fun q => c13 (o13.mpr q)), cT_s]
      have sw : ∀ (d n : Nat), (d = if op = 170 then 4 else 8) → n ≤ 500 → pst pc + 16 + d * n ≤ sz + d → pst pc + 4 ≤ sz → y.2 = nI (be F (b + pst pc) 4) :: nms4 F d n (b + (pst pc + 12)) → ∀ (g1 : St → Option (Int32 × St)), (∀ v, xF v = F → g1 v = some (nI n, v)) → wp (cI (f_M_four u (nI (b + pst pc))) fun r11 u9 => cV (f_M_target u9 (nI (b + pc)) (fr + (r11).toInt64)) fun u12 => cT (g1 u12) fun (p38 : Int32 × St) => cT (f_M_targets_L159 (nI (b + pc)) (nI op) fr (nI (b + pst pc)) p38.1 FU p38.2 0) fun (u26 : St) => some u26) (TG N i z (sAim b sz st (y.2.map fun x => (pc, x))) (jn + y.2.length) u) := by
        intro d n hd hn hq hq4 ey g1 hg1
        rw [four_m hF (by omega), cI_s, ey, List.map_cons, List.length_cons, nms4_len, sAim]
        refine wp_cV (wp_mono (tgt_m hO hC hS h14 (addJ hfr (by omega))) fun v hv => ?_)
        by_cases a : aimOK sz st (pc, nI (be F (b + pst pc) 4)) = true
        · rw [if_pos a] at hv ⊢
          obtain ⟨a1, a2, a3⟩ := hv
          rw [hg1 v ((ko_F a3 (by decide)).trans hF), cT_s]
          have tl := tL_m (i := i) (z := z) (F := F) (q := pst pc) hd (show op < 256 by omega) hfr (by omega) hn hq (fun v' kv' => (ko_F kv' (by decide)).trans hF) hC hS n 0 FU v (jn + 1) (by omega) (by unfold FU; omega) a1 a3 a2
          rw [Nat.mul_zero, Nat.add_zero, show jn + 1 + n = jn + (n + 1) by omega] at tl
          have tl' : wp (f_M_targets_L159 (nI (b + pc)) (nI op) fr (nI (b + pst pc)) (nI n) FU v 0) _ := tl
          exact wp_cT (wp_mono tl' fun x hx => wp_some hx)
        · rw [if_neg a] at hv ⊢
          obtain ⟨a1, a2⟩ := hv
          rw [hg1 v ((ko_F a2 (by decide)).trans hF), cT_s, show FU = 69999 + 1 from rfl, f_M_targets_L159]
          refine wp_cT (wp_ite (fun _ => wp_some (wp_some ⟨a1, a2⟩)) (fun _ => ?_))
          rw [ok_b a1, cI_s, if_pos rfl]
          exact wp_some (wp_some ⟨a1, a2⟩)
      have e4 : ∀ v : St, nI (b + pst pc) + 4 = nI (b + (pst pc + 4)) ∧ nI (b + pst pc) + 8 = nI (b + (pst pc + 8)) := fun v => ⟨by rw [show nI (b + pst pc) + 4 = nI (b + pst pc + 4) from nI_add _ 4]; rfl, by rw [show nI (b + pst pc) + 8 = nI (b + pst pc + 8) from nI_add _ 8]; rfl⟩
      by_cases d170 : op = 170
      · have e14 := o1.mp d170
        unfold stp at hst
        rw [hopn, if_neg d0, if_neg (by omega), if_pos e14] at hst
        unfold sTab at hst
        split at hst
        · cases hst
        · split at hst
          · cases hst
          · split at hst
            · cases hst
            · split at hst
              · cases hst
              · cases hst
                have hx : (nI (be F (b + (pst pc + 8)) 4)).toInt - (nI (be F (b + (pst pc + 4)) 4)).toInt + 1 = ((sx (be F (b + (pst pc + 8)) 4) - sx (be F (b + (pst pc + 4)) 4) + 1).toNat : Int) := by
                  show sx (be F (b + (pst pc + 8)) 4) - sx (be F (b + (pst pc + 4)) 4) + 1 = _
                  omega
                rw [if_pos d170, nums_m hC hN hpc, cI_s]
                refine sw 4 (sx (be F (b + (pst pc + 8)) 4) - sx (be F (b + (pst pc + 4)) 4) + 1).toNat (by rw [if_pos d170]) (by omega) (by omega) (by omega) rfl (fun u12 => if op = 170 then (cI (f_M_four u12 (nI (b + pst pc) + 8)) fun r34 u32 => cI (f_M_four u32 (nI (b + pst pc) + 4)) fun r37 u35 => some (((r34 - r37) + 1), u35)) else (cI (f_M_four u12 (nI (b + pst pc) + 4)) fun r31 u29 => some (r31, u29))) ?_
                intro v hv
                rw [if_pos d170, (e4 v).1, (e4 v).2, four_m hv (by omega), cI_s, four_m hv (by omega), cI_s, ways32 (by omega) hx]
      · rw [if_neg d170]
        by_cases d171 : op = 171
        · have e15 := o2.mp d171
          unfold stp at hst
          rw [hopn, if_neg d0, if_neg (by omega), if_neg (by omega), if_pos e15] at hst
          unfold sPai at hst
          split at hst
          · cases hst
          · split at hst
            · cases hst
            · split at hst
              · cases hst
              · split at hst
                · cases hst
                · rename_i hpr
                  have hpo := sPrs_ok _ _ _ (by omega) hpr
                  cases hst
                  have hx : nI (be F (b + (pst pc + 4)) 4) = nI (sx (be F (b + (pst pc + 4)) 4)).toNat := by
                    apply Int32.toInt_inj.mp
                    rw [nI_toInt (show (sx (be F (b + (pst pc + 4)) 4)).toNat < 2 ^ 31 by omega)]
                    show sx (be F (b + (pst pc + 4)) 4) = _
                    omega
                  rw [if_pos d171, nums_m hC hN hpc, cI_s]
                  refine sw 8 (sx (be F (b + (pst pc + 4)) 4)).toNat (by rw [if_neg d170]) (by omega) (by omega) (by omega) rfl (fun u12 => if op = 170 then (cI (f_M_four u12 (nI (b + pst pc) + 8)) fun r34 u32 => cI (f_M_four u32 (nI (b + pst pc) + 4)) fun r37 u35 => some (((r34 - r37) + 1), u35)) else (cI (f_M_four u12 (nI (b + pst pc) + 4)) fun r31 u29 => some (r31, u29))) ?_
                  intro v hv
                  rw [if_neg d170, (e4 v).1, four_m hv (by omega), cI_s, hx]
        · rw [if_neg d171]
          have n14 : ¬ fmN op = 14 := fun q => d170 (o1.mpr q)
          have n15 : ¬ fmN op = 15 := fun q => d171 (o2.mpr q)
          have ey : y.2 = [] := by
            unfold stp at hst
            rw [hopn, if_neg d0] at hst
            by_cases d1 : fmN op = 1
            · rw [if_pos d1] at hst; cases hst; rfl
            · rw [if_neg d1, if_neg n14, if_neg n15] at hst
              by_cases d22 : fmN op = 22
              · rw [if_pos d22] at hst
                unfold sWid at hst
                by_cases a1 : sz ≤ pc + 1
                · rw [if_pos a1] at hst; cases hst
                · rw [if_neg a1] at hst
                  by_cases a2 : ¬ (fmN (F (b + pc + 1)) = 7 ∨ fmN (F (b + pc + 1)) = 8 ∨ fmN (F (b + pc + 1)) = 11)
                  · rw [if_pos a2] at hst; cases hst
                  · rw [if_neg a2] at hst
                    by_cases a3 : sz < pc + (if fmN (F (b + pc + 1)) = 11 then 6 else 4)
                    · rw [if_pos a3] at hst; cases hst
                    · rw [if_neg a3] at hst
                      by_cases a4 : lo < be F (b + pc + 2) 2 + (if fmN (F (b + pc + 1)) = 8 then 2 else 1)
                      · rw [if_pos a4] at hst; cases hst
                      · rw [if_neg a4] at hst
                        cases hst
                        rfl
              · rw [if_neg d22] at hst
                unfold sFix at hst
                rw [if_neg c12, if_neg c13] at hst
                repeat' split at hst
                all_goals first | (cases hst; done) | (cases hst; rfl)
          rw [ey, List.map_nil, sAim]
          exact wp_some ⟨hO, h14, ko_rf⟩
/-! the second round over the INSTRUCTIONS -/
def jw (F : Nat → Nat) (c : Nat) (K B : Nat → Nat) (ver lo b sz : Nat) : Nat → Nat → List (Nat × Int32)
  | 0, _ => []
  | f + 1, pc => if pc < sz then (match stp F c K B ver lo b sz pc with
      | .error _ => []
      | .ok y => (y.2.map fun x => (pc, x)) ++ jw F c K B ver lo b sz f (pc + y.1)) else []
/-- all of them can be read -/
def okW (F : Nat → Nat) (c : Nat) (K B : Nat → Nat) (ver lo b sz : Nat) : Nat → Nat → Prop
  | 0, _ => True
  | f + 1, pc => pc < sz → ∃ y, stp F c K B ver lo b sz pc = .ok y ∧ okW F c K B ver lo b sz f (pc + y.1)
theorem sIns_jw : ∀ (f pc cn la : Nat) (st : Nat → Bool) (jl : List (Nat × Int32)) (q : Nat × Nat × (Nat → Bool) × List (Nat × Int32)), sIns F c K B ver lo b sz f pc cn la st jl = .ok q → q.2.2.2 = jl ++ jw F c K B ver lo b sz f pc ∧ okW F c K B ver lo b sz f pc
  | 0, pc, cn, la, st, jl, q, h => by
    cases h
    exact ⟨(List.append_nil _).symm, trivial⟩
  | f + 1, pc, cn, la, st, jl, q, h => by
    rw [sIns] at h
    split at h
    · rename_i d
      split at h
      · cases h
      · rename_i y hy
        obtain ⟨a1, a2⟩ := sIns_jw f _ _ _ _ _ _ h
        refine ⟨?_, fun _ => ⟨y, hy, a2⟩⟩
        rw [a1, jw, if_pos d, hy, List.append_assoc]
    · rename_i d
      cases h
      refine ⟨?_, fun q => absurd q d⟩
      rw [jw, if_neg d, List.append_nil]
theorem aimM {x2 x4 x7 x8 : Int32} {x5 : Int64} (hF : ∀ v, ko [14] [] u v → xF v = F) (hC : CM N b sz lo ver u) (hS : FM sz st u) : ∀ (f g pc jn : Nat) (v : St), sz ≤ pc + f → sz < pc + g → pc ≤ sz → okW F c K B ver lo b sz f pc → RO N i z v → ko [14] [] u v → v.1 14 = nI jn → wp (f_M_code_L307 x2 x4 x5 x7 x8 g v (nI (b + pc))) (TG N i z (sAim b sz st (jw F c K B ver lo b sz f pc)) (jn + (jw F c K B ver lo b sz f pc).length) u) := by
  intro f
  induction f with
  | zero =>
    intro g pc jn v h1 h2 h3 hW hO kv h14
    have hN := hO.1.1
    have h5 := hC.2.2.2.2.1
    cases g with
    | zero => omega
    | succ g =>
      rw [f_M_code_L307, (CM_ko hC kv (by decide)).2.1, if_pos (nI_le (by omega) (by omega)), jw, sAim]
      exact wp_some ⟨hO, h14, kv⟩
  | succ f ih =>
    intro g pc jn v h1 h2 h3 hW hO kv h14
    have hN := hO.1.1
    have h5 := hC.2.2.2.2.1
    have hs := hC.2.2.2.2.2.1
    have hCv := CM_ko hC kv (by decide)
    cases g with
    | zero => omega
    | succ g =>
      rw [f_M_code_L307, hCv.2.1, jw]
      by_cases d : pc < sz
      · obtain ⟨y, hy, hW'⟩ := hW d
        obtain ⟨w1, w2, -⟩ := stp_ok d hy
        have hSv : FM sz st v := fun j hj => by rw [kv.2 7 (by decide)]; exact hS j hj
        rw [if_neg (nI_ge (by omega) (by omega)), if_pos d, ok_o hO, cI_s, if_neg (by decide), hy]
        dsimp only
        rw [sAim_a, List.length_append, List.length_map]
        refine wp_cV (wp_mono (tgts_m hO (hF v kv) hCv hSv h14 d hy) fun v2 hv2 => ?_)
        cases hr : sAim b sz st (y.2.map fun x => (pc, x)) with
        | error e =>
          rw [hr] at hv2
          obtain ⟨a1, a2⟩ : RB N e.1 e.2 z v2 ∧ ko [3, 4, 14] [] v v2 := hv2
          have a3 : ko [3, 4, 14] [] u v2 := ko_tr (ko_mono kv (fun k h => by simp at h ⊢; omega) (fun _ h => h)) a2
          rw [after_m ((ko_F a2 (by decide)).trans (hF v kv)) (CM_ko hCv a2 (by decide)) hN d hy, cI_s]
          cases g with
          | zero => omega
          | succ g =>
            rw [f_M_code_L307]
            refine wp_ite (fun _ => wp_some ⟨a1, a3⟩) (fun _ => ?_)
            rw [ok_b a1, cI_s, if_pos rfl]
            exact wp_some ⟨a1, a3⟩
        | ok q =>
          rw [hr] at hv2
          obtain ⟨a1, a2, a3⟩ : RO N i z v2 ∧ v2.1 14 = nI (jn + y.2.length) ∧ ko [14] [] v v2 := hv2
          rw [after_m ((ko_F a3 (by decide)).trans (hF v kv)) (CM_ko hCv a3 (by decide)) hN d hy, cI_s, ← Nat.add_assoc, show b + pc + y.1 = b + (pc + y.1) by omega]
          exact ih g (pc + y.1) (jn + y.2.length) v2 (by omega) (by omega) (by omega) hW' a1 (ko_tr kv a3) a2
      · rw [if_pos (nI_le (by omega) (by omega)), if_neg d, sAim]
        exact wp_some ⟨hO, h14, kv⟩
/-! handlers -/
theorem right_m (hC : CM N b sz lo ver u) (hN : N ≤ 4000) (hS : FM sz st u) {fr to hd : Nat} (hf : fr < 65536) (ht : to < 65536) (hh : hd < 65536) : (if nI to ≤ nI fr then (some ((0 : Int32))) else (if ((u.1 21) - (u.1 20)) ≤ nI fr then (some (0)) else (gd (nI fr) 2001 (if (u.2 7 (nI fr).toNatClampNeg) = 0 then (some (0)) else (if ((u.1 21) - (u.1 20)) ≤ nI hd then (some (0)) else (gd (nI hd) 2001 (if (u.2 7 (nI hd).toNatClampNeg) = 0 then (some (0)) else (if ((u.1 21) - (u.1 20)) < nI to then (some (0)) else (if nI to = ((u.1 21) - (u.1 20)) then (some (1)) else (gd (nI to) 2001 (if (u.2 7 (nI to).toNatClampNeg) = 0 then (some (0)) else (some (1))))))))))))) = some (if (decide (fr < to) && (decide (to = sz) || fst' sz st to) && fst' sz st fr && fst' sz st hd) = true then 1 else 0) := by
  have h5 := hC.2.2.2.2.1
  have hs := hC.2.2.2.2.2.1
  rw [hC.1, hC.2.1, nI_sub (show b ≤ b + sz by omega), show b + sz - b = sz by omega, ncl (by omega), ncl (by omega), ncl (by omega)]
  unfold fst'
  by_cases d1 : to ≤ fr
  · rw [if_pos (nI_le d1 (by omega)), decide_eq_false (show ¬ fr < to by omega)]; rfl
  · rw [if_neg (nI_ge (by omega) (by omega)), decide_eq_true (show fr < to by omega), Bool.true_and]
    by_cases d2 : sz ≤ fr
    · rw [if_pos (nI_le d2 (by omega)), decide_eq_false (show ¬ fr < sz by omega), Bool.false_and, Bool.and_false, Bool.false_and]; rfl
    · rw [if_neg (nI_ge (by omega) (by omega)), gd_in (by omega) (by decide), hS fr (by omega), decide_eq_true (show fr < sz by omega), Bool.true_and]
      cases st fr
      · rw [if_neg (show ¬ (false = true) by decide), if_pos rfl, Bool.and_false, Bool.false_and]; rfl
      · rw [if_pos (show true = true from rfl), if_neg (by decide), Bool.and_true]
        by_cases d3 : sz ≤ hd
        · rw [if_pos (nI_le d3 (by omega)), decide_eq_false (show ¬ hd < sz by omega), Bool.false_and, Bool.and_false]; rfl
        · rw [if_neg (nI_ge (by omega) (by omega)), gd_in (by omega) (by decide), hS hd (by omega), decide_eq_true (show hd < sz by omega), Bool.true_and]
          cases st hd
          · rw [if_neg (show ¬ (false = true) by decide), if_pos rfl, Bool.and_false]; rfl
          · rw [if_pos (show true = true from rfl), if_neg (by decide), Bool.and_true]
            by_cases d4 : sz < to
            · rw [if_pos (nI_lt d4 (by omega)), decide_eq_false (show ¬ to = sz by omega), decide_eq_false (show ¬ to < sz by omega)]; rfl
            · rw [if_neg (nI_nlt (by omega) (by omega))]
              by_cases d6 : to = sz
              · rw [if_pos (by rw [d6]), decide_eq_true d6]; rfl
              · rw [if_neg (fun q => d6 ((nI_eq (by omega) (by omega)).mp q)), gd_in (by omega) (by decide), hS to (by omega), decide_eq_false d6, decide_eq_true (show to < sz by omega)]
                cases st to <;> rfl
theorem hdL_m {nr : Nat} (hnr : nr ≤ 30) : ∀ (m j g i rn : Nat) (u : St), j + m = nr → m < g → RO N i z u → MW F N c K B u → CM N b sz lo ver u → FM sz st u → u.1 15 = nI rn → wp (f_M_handlers_L31 (fun u42 => some u42) (nI nr) g u (nI j)) (RQ N z (sRows F N c K sz st m i) (fun _ v => ko [2, 15] [] u v ∧ v.1 15 = nI (rn + m)))
  | 0, j, g + 1, i, rn, u, h1, _, hO, hW, hC, hS, h15 => by
    rw [f_M_handlers_L31, if_pos (nI_le (by omega) (by omega))]
    exact wp_some ⟨hO, ko_rf, h15⟩
  | m + 1, j, g + 1, i, rn, u, h1, h2, hO, hW, hC, hS, h15 => by
    have hN := hO.1.1
    rw [f_M_handlers_L31, if_neg (nI_ge (by omega) (by omega)), ok_o hO, cI_s, if_neg (by decide), nI_1, sRows_s, hO.1.2.2.2.2.1]
    refine mq_pa ?_
    have dead : ∀ {r w : Nat} {v : St} {β : Type} {ψ : β → St → Prop} {k : Int32 → St → Option St}, RB N r w z v → wp (cI (f_M_ok v) fun r25 u23 => if r25 = 0 then (some u23) else k r25 u23) (MP N z (fun v => v) (.error (r, w)) ψ) := fun h => by
      rw [ok_b h, cI_s, if_pos rfl]
      exact wp_some h
    refine mq_u2 hO hW.1 (fun hi1 => ?_) (fun x u h => ?_)
    · have hO1 := RO_at (j := i + 2) hO hi1
      refine mq_u2 hO1 hW.1 (fun hi2 => ?_) (fun x u h => ?_)
      · have hO2 := RO_at (j := i + 2 + 2) hO1 hi2
        refine mq_u2 hO2 hW.1 (fun hi3 => ?_) (fun x u h => ?_)
        · have hO3 := RO_at (j := i + 2 + 2 + 2) hO2 hi3
          have eat : (sv (sv (sv u 2 (nI (i + 2))) 2 (nI (i + 2 + 2))) 2 (nI (i + 2 + 2 + 2))).1 2 = nI (i + 6) := rfl
          rw [eat]
          refine mq_u2 hO3 hW.1 (fun hi4 => ?_) (fun x u h => ?_)
          · have hO4 := RO_at (j := i + 2 + 2 + 2 + 2) hO3 hi4
            have k4 : ko [2] [] u (sv (sv (sv (sv u 2 (nI (i + 2))) 2 (nI (i + 2 + 2))) 2 (nI (i + 2 + 2 + 2))) 2 (nI (i + 2 + 2 + 2 + 2))) := ko_tr (ko_sv (by decide)) (ko_tr (ko_sv (by decide)) (ko_tr (ko_sv (by decide)) (ko_sv (by decide))))
            generalize sv (sv (sv (sv u 2 (nI (i + 2))) 2 (nI (i + 2 + 2))) 2 (nI (i + 2 + 2 + 2))) 2 (nI (i + 2 + 2 + 2 + 2)) = v at hO4 k4 ⊢
            have hW4 := MW_ko hW k4 (by decide) (by decide)
            have hC4 := CM_ko hC k4 (by decide)
            have hS4 : FM sz st v := fun j hj => by rw [k4.2 7 (by decide)]; exact hS j hj
            rw [ok_o hO4, cI_s, if_neg (by decide), right_m hC4 hN hS4 (hW.b2 _) (hW.b2 _) (hW.b2 _), cT_s]
            refine mq_must hO4 rfl rfl (by decide) b10 (fun _ => ?_) (fun u h => ?_)
            · rw [if_neg (by decide), kind_l 7 (kd := 7) rfl hW4 (hW.b2 _) (by decide), cI_s]
              have ec : (if nI (n2 F (i + 2 + 2 + 2)) = 0 then some ((1 : Int32), v) else (if (if isK c K (n2 F (i + 2 + 2 + 2)) 7 = true then (1 : Int32) else 0) = 0 then some (0, v) else some (1, v))) = some (if (decide (n2 F (i + 2 + 2 + 2) = 0) || isK c K (n2 F (i + 2 + 2 + 2)) 7) = true then 1 else 0, v) := by
                have hn := hW.n2 (i + 2 + 2 + 2)
                simp only [show (nI (n2 F (i + 2 + 2 + 2)) = 0) = (n2 F (i + 2 + 2 + 2) = 0) from neq (b := 0) (by omega) (by decide)]
                by_cases d : n2 F (i + 2 + 2 + 2) = 0
                · rw [if_pos d, decide_eq_true d]; rfl
                · rw [if_neg d, decide_eq_false d, Bool.false_or]
                  cases isK c K (n2 F (i + 2 + 2 + 2)) 7 <;> rfl
              have ec' : (if nI (be F (i + 2 + 2 + 2) 2) = 0 then some ((1 : Int32), v) else (if (if isK c K (be F (i + 2 + 2 + 2) 2) 7 = true then (1 : Int32) else 0) = 0 then some (0, v) else some (1, v))) = _ := ec
              show wp (cT (if nI (be F (i + 2 + 2 + 2) 2) = 0 then some ((1 : Int32), v) else (if (if isK c K (be F (i + 2 + 2 + 2) 2) 7 = true then (1 : Int32) else 0) = 0 then some (0, v) else some (1, v))) _) _
              rw [ec', cT_s]
              refine mq_must hO4 rfl rfl (by decide) b10 (fun _ => ?_) (fun u h => ?_)
              · rw [(k4.1 15 (by decide)).trans h15, nI_1]
                refine wp_bnd ?_
                have k5 : ko [2, 15] [] u (sv v 15 (nI (rn + 1))) := ko_tr (ko_mono k4 (fun k h => by simp at h ⊢; omega) (fun _ h => h)) (ko_sv (by decide))
                have hO5 : RO N (i + 2 + 2 + 2 + 2) z (sv v 15 (nI (rn + 1))) := RO_ko (s := [15]) (t := []) hO4 (ko_sv (by decide)) (by decide) (by decide)
                have ih := hdL_m hnr m (j + 1) g (i + 2 + 2 + 2 + 2) (rn + 1) (sv v 15 (nI (rn + 1))) (by omega) (by omega) hO5 (MW_ko hW k5 (by decide) (by decide)) (CM_ko hC k5 (by decide)) (fun j hj => by rw [k5.2 7 (by decide)]; exact hS j hj) rfl
                exact wp_mono ih fun x hx => MP_mono hx fun _ q => ⟨ko_tr k5 q.1, by rw [q.2]; congr 1; omega⟩
              · refine wp_bnd ?_
                have h' := RB_sv (k := 15) (x := u.1 15 + 1) (by decide) h
                cases g with
                | zero => omega
                | succ g =>
                  rw [f_M_handlers_L31]
                  refine wp_ite (fun _ => wp_some h') (fun _ => ?_)
                  rw [ok_b h', cI_s, if_pos rfl]
                  exact wp_some h'
            · rw [if_pos rfl]
              exact wp_some h
          · exact dead h
        · rw [u2_b h, cI_s]
          exact dead h
      · rw [u2_b h, cI_s, u2_b h, cI_s]
        exact dead h
    · rw [u2_b h, cI_s, u2_b h, cI_s, u2_b h, cI_s]
      exact dead h
theorem hd_m {rn : Nat} (hO : RO N i z u) (hW : MW F N c K B u) (hC : CM N b sz lo ver u) (hS : FM sz st u) (h15 : u.1 15 = nI rn) : wp (f_M_handlers u) (RQ N z (sRw F N c K sz st i) (fun nr v => ko [2, 15] [] u v ∧ v.1 15 = nI (rn + nr))) := by
  unfold f_M_handlers sRw
  rw [hO.1.2.2.2.2.1]
  refine mq_pa ?_
  refine mq_u2 hO hW.1 (fun hi => ?_) (fun x u h => ?_)
  · have hn' : be F i 2 < 65536 := hW.n2 i
    have hO1 := RO_at (j := i + 2) hO hi
    have k1 : ko [2] [] u (sv u 2 (nI (i + 2))) := ko_sv (by decide)
    refine wp_bnd ?_
    refine mq_must hO1 rfl rfl (by decide) (i01 (i01lt (a := 30) (by decide) (by omega))) (fun hnr => ?_) (fun u h => ?_)
    · rw [decide_eq_true_eq] at hnr
      generalize be F i 2 = nr at *
      have hl := hdL_m (z := z) (st := st) hnr nr 0 FU (i + 2) rn (sv u 2 (nI (i + 2))) (by omega) (by unfold FU; omega) hO1 (MW_ko hW k1 (by decide) (by decide)) (CM_ko hC k1 (by decide)) (fun j hj => by rw [k1.2 7 (by decide)]; exact hS j hj) h15
      have hl' : wp (f_M_handlers_L31 (fun u42 => some u42) (nI nr) FU (sv u 2 (nI (i + 2))) 0) _ := hl
      refine wp_mono hl' fun v hv => ?_
      cases hr : sRows F N c K sz st nr (i + 2) with
      | error e => rw [hr] at hv; rw [pb_x hr]; exact hv
      | ok q =>
        rw [hr] at hv
        obtain ⟨q1, q2⟩ := q
        rw [pb_s hr]
        obtain ⟨a1, a2, a3⟩ : RO N q2 z v ∧ ko [2, 15] [] (sv u 2 (nI (i + 2))) v ∧ v.1 15 = nI (rn + nr) := hv
        exact ⟨a1, ko_tr (ko_mono k1 (fun k h => by simp at h ⊢; omega) (fun _ h => h)) a2, a3⟩
    · rw [show FU = 69999 + 1 from rfl, f_M_handlers_L31]
      refine wp_ite (fun _ => wp_some h) (fun _ => ?_)
      rw [ok_b h, cI_s, if_pos rfl]
      exact wp_some h
  · refine wp_bnd ?_
    rw [must_b h, cI_s, show FU = 69999 + 1 from rfl, f_M_handlers_L31]
    refine wp_ite (fun _ => wp_some h) (fun _ => ?_)
    rw [ok_b h, cI_s, if_pos rfl]
    exact wp_some h
end MTG

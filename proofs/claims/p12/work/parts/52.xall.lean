/-! THE CLASS: all of the CODE -/
section ALL
variable {F : Nat → Nat} {N c i r w b sz lo ver pc : Nat} {K B : Nat → Nat} {z u : St} {jl : List (Nat × Int32)} {st : Nat → Bool}
/-- which bytes are first -/
def FS (sz : Nat) (st : Nat → Bool) (u : St) : Prop := ∀ j, j < sz → u.2 9 j = if st j then 1 else 0
theorem isFirst_eq (h9 : u.1 9 = nI sz) (hs : sz ≤ 2000) (hS : FS sz st u) (x : Int32) : f_C_isFirst u x = some (if (decide (0 ≤ x.toInt) && decide (x.toInt < sz) && st x.toInt.toNat) = true then 1 else 0, u) := by
  unfold f_C_isFirst
  by_cases h0 : x < 0
  · have : ¬ 0 ≤ x.toInt := by have := Int32.lt_iff_toInt_lt.mp h0; rw [show (0 : Int32).toInt = 0 from rfl] at this; omega
    rw [if_pos h0, cT_s, gb_0, decide_eq_false this]; rfl
  · obtain ⟨k, hk, rfl⟩ := nI_of h0
    rw [if_neg h0, h9, nI_toInt hk, decide_eq_true (show (0 : Int) ≤ (k : Int) by omega), Bool.true_and, Int.toNat_natCast]
    by_cases d : k < sz
    · rw [if_neg (nI_ge d (by omega)), if_neg (show ¬ (2000 : Int32) ≤ nI k from nI_ge (b := 2000) (by omega) (by decide)), gd_in (by omega) (by decide), ncl hk, hS k d, decide_eq_true (show (k : Int) < (sz : Int) by omega), Bool.true_and]
      cases st k
      · rw [if_neg (show ¬ (false = true) by decide), if_neg (by decide), cT_s, gb_0]
      · rw [if_pos (show true = true from rfl), if_pos rfl, cT_s, gb_1]
    · rw [if_pos (nI_le (by omega) hk), cT_s, gb_0, decide_eq_false (show ¬ (k : Int) < (sz : Int) by omega)]; rfl
theorem isFirst_n (h9 : u.1 9 = nI sz) (hs : sz ≤ 2000) (hS : FS sz st u) {p : Nat} (hp : p < 65536) : f_C_isFirst u (nI p) = some (if fst' sz st p then 1 else 0, u) := by
  rw [isFirst_eq h9 hs hS, nI_toInt (by omega), decide_eq_true (show (0 : Int) ≤ (p : Int) by omega), Bool.true_and, Int.toNat_natCast]
  unfold fst'
  have : decide ((p : Int) < (sz : Int)) = decide (p < sz) := decide_eq_decide.mpr (by omega)
  rw [this]
theorem bm32 {x : Int} (h1 : -2147483648 ≤ x) (h2 : x < 2147483648) : x.bmod (2 ^ 32) = x := by
  rw [Int.bmod_def]
  split <;> omega
theorem bm32n {x : Int} (h1 : 2147483648 ≤ x) (h2 : x < 4294967296) : x.bmod (2 ^ 32) < 0 := by
  rw [Int.bmod_def]
  split <;> omega
theorem isFirst_a (h9 : u.1 9 = nI sz) (hs : sz ≤ 2000) (hS : FS sz st u) {q : Nat × Int32} (hp : q.1 < 2000) : f_C_isFirst u (nI q.1 + q.2) = some (if aimOK sz st q then 1 else 0, u) := by
  rw [isFirst_eq h9 hs hS, Int32.toInt_add, nI_toInt (by omega)]
  have h3 := Int32.le_toInt q.2
  have h4 := Int32.toInt_lt q.2
  unfold aimOK
  by_cases d : (q.1 : Int) + q.2.toInt < 2147483648
  · rw [bm32 (by omega) d]
  · have n1 := bm32n (x := (q.1 : Int) + q.2.toInt) (by omega) (by omega)
    rw [decide_eq_false (show ¬ 0 ≤ ((q.1 : Int) + q.2.toInt).bmod (2 ^ 32) by omega), decide_eq_false (show ¬ (q.1 : Int) + q.2.toInt < (sz : Int) by omega)]
    simp
/-! the INSTRUCTIONS -/
theorem nms4_len {d : Nat} : ∀ (m a : Nat), (nms4 F d m a).length = m
  | 0, _ => rfl
  | m + 1, a => by rw [nms4, List.length_cons, nms4_len m]
theorem sPrs_ok : ∀ (m a : Nat) (pr : Option Int), a ≤ sz → sPrs F b sz m a pr = none → a + 8 * m ≤ sz
  | 0, a, pr, h, _ => by omega
  | m + 1, a, pr, h, e => by
    rw [sPrs_s] at e
    by_cases h1 : sz < a + 4
    · rw [if_pos h1] at e; cases e
    · rw [if_neg h1] at e
      have e' : (if sz < a + 8 then some 25 else sPrs F b sz m (a + 8) (some (sx (be F (b + a) 4)))) = none := by
        cases pr with
        | none => exact e
        | some x =>
          dsimp only at e
          by_cases h3 : decide (sx (be F (b + a) 4) ≤ x) = true
          · rw [if_pos h3] at e; cases e
          · rw [if_neg h3] at e; exact e
      by_cases h2 : sz < a + 8
      · rw [if_pos h2] at e'; cases e'
      · rw [if_neg h2] at e'
        have := sPrs_ok m (a + 8) _ (by omega) e'
        omega
theorem stp_ok {q : Nat × List Int32} (hpc : pc < sz) (h : stp F c K B ver lo b sz pc = .ok q) : 1 ≤ q.1 ∧ pc + q.1 ≤ sz ∧ 3 * q.2.length ≤ q.1 := by
  have hp := pst_lt (pc := pc)
  unfold stp at h
  split at h
  · cases h
  · rename_i d0
    split at h
    · cases h
      exact ⟨by decide, by omega, by simp⟩
    · split at h
      · unfold sTab at h
        split at h
        · cases h
        · split at h
          · cases h
          · split at h
            · cases h
            · split at h
              · cases h
              · cases h
                dsimp only
                rw [List.length_cons, nms4_len]
                omega
      · rename_i d14
        split at h
        · unfold sPai at h
          split at h
          · cases h
          · split at h
            · cases h
            · split at h
              · cases h
              · split at h
                · cases h
                · rename_i e
                  have := sPrs_ok _ _ _ (by omega) e
                  cases h
                  dsimp only
                  rw [List.length_cons, nms4_len]
                  omega
        · rename_i d15
          split at h
          · unfold sWid at h
            by_cases a1 : sz ≤ pc + 1
            · rw [if_pos a1] at h; cases h
            · rw [if_neg a1] at h
              by_cases a2 : ¬ (fmN (F (b + pc + 1)) = 7 ∨ fmN (F (b + pc + 1)) = 8 ∨ fmN (F (b + pc + 1)) = 11)
              · rw [if_pos a2] at h; cases h
              · rw [if_neg a2] at h
                by_cases a3 : sz < pc + (if fmN (F (b + pc + 1)) = 11 then 6 else 4)
                · rw [if_pos a3] at h; cases h
                · rw [if_neg a3] at h
                  by_cases a4 : lo < be F (b + pc + 2) 2 + (if fmN (F (b + pc + 1)) = 8 then 2 else 1)
                  · rw [if_pos a4] at h; cases h
                  · rw [if_neg a4] at h
                    cases h
                    dsimp only
                    refine ⟨?_, by omega, by simp⟩
                    split <;> omega
          · rename_i d22
            have hfm := fm_lt (F (b + pc))
            generalize fmN (F (b + pc)) = fm at *
            obtain ⟨t1, t2, -⟩ := tab_ok2 ⟨fm, hfm⟩ d0 d14 d15 d22
            dsimp only at t1 t2
            unfold sFix at h
            split at h
            · cases h
            · repeat' split at h
              all_goals first | (cases h; done) | (cases h; dsimp only; simp only [List.length_nil, List.length_singleton]; omega)
theorem stp_ok_o {q : Nat × List Int32} (hpc : pc < sz) (h : stp_o F c K B ver lo b sz pc = .ok q) : 1 ≤ q.1 ∧ pc + q.1 ≤ sz ∧ 3 * q.2.length ≤ q.1 := by
  have hp := pst_lt (pc := pc)
  unfold stp_o at h
  split at h
  · cases h
  · rename_i d0
    split at h
    · cases h
      exact ⟨by decide, by omega, by simp⟩
    · split at h
      · unfold sTab at h
        split at h
        · cases h
        · split at h
          · cases h
          · split at h
            · cases h
            · split at h
              · cases h
              · cases h
                dsimp only
                rw [List.length_cons, nms4_len]
                omega
      · rename_i d14
        split at h
        · unfold sPai at h
          split at h
          · cases h
          · split at h
            · cases h
            · split at h
              · cases h
              · split at h
                · cases h
                · rename_i e
                  have := sPrs_ok _ _ _ (by omega) e
                  cases h
                  dsimp only
                  rw [List.length_cons, nms4_len]
                  omega
        · rename_i d15
          split at h
          · unfold sWid at h
            by_cases a1 : sz ≤ pc + 1
            · rw [if_pos a1] at h; cases h
            · rw [if_neg a1] at h
              by_cases a2 : ¬ (fmN (F (b + pc + 1)) = 7 ∨ fmN (F (b + pc + 1)) = 8 ∨ fmN (F (b + pc + 1)) = 11)
              · rw [if_pos a2] at h; cases h
              · rw [if_neg a2] at h
                by_cases a3 : sz < pc + (if fmN (F (b + pc + 1)) = 11 then 6 else 4)
                · rw [if_pos a3] at h; cases h
                · rw [if_neg a3] at h
                  by_cases a4 : lo < be F (b + pc + 2) 2 + (if fmN (F (b + pc + 1)) = 8 then 2 else 1)
                  · rw [if_pos a4] at h; cases h
                  · rw [if_neg a4] at h
                    cases h
                    dsimp only
                    refine ⟨?_, by omega, by simp⟩
                    split <;> omega
          · rename_i d22
            have hfm := fm_lt (F (b + pc))
            generalize fmN (F (b + pc)) = fm at *
            obtain ⟨t1, t2, -⟩ := tab_ok2 ⟨fm, hfm⟩ d0 d14 d15 d22
            dsimp only at t1 t2
            unfold sFix_o at h
            split at h
            · cases h
            · repeat' split at h
              all_goals first | (cases h; done) | (cases h; dsimp only; simp only [List.length_nil, List.length_singleton]; omega)
def JP (jl : List (Nat × Int32)) : Prop := ∀ q ∈ jl, q.1 < 2000
/-- the outcome of all INSTRUCTIONS -/
def XL (N i : Nat) (z : St) (sz : Nat) (res : Except Er (Nat × Nat × (Nat → Bool) × List (Nat × Int32))) (u : St) (p : St × Int32) : Prop := match res with
  | .error e => SB N e.1 e.2 z p.1
  | .ok q => SO N i z p.1 ∧ p.2 = nI q.2.1 ∧ q.2.1 < sz ∧ p.1.1 10 = nI q.1 ∧ FS sz q.2.2.1 p.1 ∧ JL q.2.2.2 p.1 ∧ JP q.2.2.2 ∧ q.2.2.2.length ≤ 667 ∧ ko [10, 11] [9, 10, 11] u p.1
theorem b_L15g {x y : Int32} (h : SB N r w z u) : ∀ g, 0 < g → wp (f_C_readAll_L15 g u x y) (fun p => SB N r w z p.1)
  | g + 1, _ => by
    rw [f_C_readAll_L15]
    refine wp_ite (fun _ => wp_some h) (fun _ => wp_ite (fun _ => wp_some h) (fun _ => b_sound0 h ?_))
    exact wp_some h
theorem XL_mono {res : Except Er (Nat × Nat × (Nat → Bool) × List (Nat × Int32))} {u v : St} {p : St × Int32} (h : XL N i z sz res v p) (k : ko [10, 11] [9, 10, 11] u v) : XL N i z sz res u p := by
  cases res with
  | error e => exact h
  | ok q =>
    obtain ⟨a1, a2, a3, a4, a5, a6, a7, a8, a9⟩ := h
    exact ⟨a1, a2, a3, a4, a5, a6, a7, a8, ko_tr k a9⟩
theorem insL_eq_o : ∀ (f g pc cn la : Nat) (st : Nat → Bool) (jl : List (Nat × Int32)) (u : St), sz ≤ pc + f → sz < pc + g → pc ≤ sz → la < sz → SO N i z u → PW_o F N c K B u → CI N b sz lo ver u → JL jl u → 3 * jl.length ≤ pc → JP jl → FS sz st u → u.1 10 = nI cn → wp (f_C_readAll_L15 g u (nI la) (nI pc)) (XL N i z sz (sIns_o F c K B ver lo b sz f pc cn la st jl) u) := by
  intro f
  induction f with
  | zero =>
    intro g pc cn la st jl u h1 h2 h3 h4 hO hP hC hJ hl hp hS h10
    have hs := hC.2.2.2.2.2.1
    cases g with
    | zero => omega
    | succ g =>
      rw [f_C_readAll_L15, hC.2.1, if_pos (nI_le (by omega) (by omega)), sIns_o]
      exact wp_some ⟨hO, rfl, h4, h10, hS, hJ, hp, by show jl.length ≤ 667; omega, ko_rf⟩
  | succ f ih =>
    intro g pc cn la st jl u h1 h2 h3 h4 hO hP hC hJ hl hp hS h10
    have hs := hC.2.2.2.2.2.1
    cases g with
    | zero => omega
    | succ g =>
      rw [f_C_readAll_L15, hC.2.1, sIns_o]
      by_cases d : pc < sz
      · rw [if_neg (nI_ge d (by omega)), if_pos d, if_neg (show ¬ (2000 : Int32) ≤ nI pc from nI_ge (b := 2000) (by omega) (by decide)), snd_o hO.1, cI_s, if_neg (by decide), gd_in (by omega) (by decide), ncl (by omega), show (vp_nar .byte 1 : Int32) = 1 from rfl]
        refine wp_bnd (wp_bnd ?_)
        rw [show (sa u 9 pc 1).1 10 = nI cn from h10, nI_1]
        have kv : ko [10] [9] u (sv (sa u 9 pc 1) 10 (nI (cn + 1))) := ko_tr (ko_sa (by decide)) (ko_sv (by decide))
        have hv11 : ¬ (sv (sa u 9 pc 1) 10 (nI (cn + 1))).1 11 < 0 := hO.2.1
        have hv10 : (sv (sa u 9 pc 1) 10 (nI (cn + 1))).1 10 = nI (cn + 1) := rfl
        have hv9 : ∀ j, (sv (sa u 9 pc 1) 10 (nI (cn + 1))).2 9 j = if j = pc then 1 else u.2 9 j := fun j => by
          rw [sv_a, sa_a, if_pos rfl]; rfl
        generalize sv (sa u 9 pc 1) 10 (nI (cn + 1)) = v at kv hv11 hv10 hv9 ⊢
        have hOv : SO N i z v := SO_ko hO kv (by decide) (by decide) hv11
        have hPv : PW_o F N c K B v := PW_ko_o hP kv (by decide) (by decide)
        have hCv : CI N b sz lo ver v := CI_ko hC kv (by decide)
        have hJv : JL jl v := ⟨(kv.1 11 (by decide)).trans hJ.1, fun j q e => by rw [kv.2 10 (by decide), kv.2 11 (by decide)]; exact hJ.2 j q e⟩
        refine wp_cI (wp_mono (step_eq_o hOv hPv hCv hJv hl d) fun q hq => ?_)
        cases hr : stp_o F c K B ver lo b sz pc with
        | error e =>
          rw [hr] at hq
          have h : SB N e.1 e.2 z q.2 := hq
          exact b_L15g h g (by omega)
        | ok y =>
          obtain ⟨y1, y2, y3⟩ := stp_ok_o d hr
          rw [hr] at hq
          obtain ⟨e1, hO1, hJ1, k1⟩ : q.1 = nI y.1 ∧ SO N i z q.2 ∧ JL (jl ++ y.2.map fun x => (pc, x)) q.2 ∧ ko [11] [10, 11] v q.2 := hq
          have ew : (if 1 < q.1 then q.1 else 1) = nI y.1 := by
            rw [e1]
            by_cases dd : 1 < y.1
            · rw [if_pos (show (1 : Int32) < nI y.1 from nI_lt (a := 1) dd (by omega))]
            · have : y.1 = 1 := by omega
              rw [this, if_neg (by decide)]; rfl
          rw [ew, nI_add]
          have ih' := ih g (pc + y.1) (cn + 1) pc (fun j => if j = pc then true else st j) (jl ++ y.2.map fun x => (pc, x)) q.2 (by omega) (by omega) (by omega) d hO1 (PW_ko_o hPv k1 (by decide) (by decide)) (CI_ko hCv k1 (by decide)) hJ1 (by rw [List.length_append, List.length_map]; omega) (by
            intro x hx
            rw [List.mem_append] at hx
            rcases hx with e | e
            · exact hp x e
            · rw [List.mem_map] at e
              obtain ⟨a, -, rfl⟩ := e
              show pc < 2000
              omega) (by
            intro j hj
            rw [k1.2 9 (by decide), hv9]
            by_cases e : j = pc
            · rw [if_pos e]; show _ = (if (if j = pc then true else st j) = true then (1 : Int32) else 0); rw [if_pos e]; rfl
            · rw [if_neg e]; show _ = (if (if j = pc then true else st j) = true then (1 : Int32) else 0); rw [if_neg e]; exact hS j hj) ((k1.1 10 (by decide)).trans hv10)
          refine wp_mono ih' fun p hp => XL_mono hp ?_
          exact ko_tr (ko_mono kv (fun k h => by simp at h ⊢; omega) (fun k h => by simp at h ⊢; omega)) (ko_mono k1 (fun k h => by simp at h ⊢; omega) (fun k h => by simp at h ⊢; omega))
      · rw [if_pos (nI_le (by omega) (by omega)), if_neg d]
        exact wp_some ⟨hO, rfl, h4, h10, hS, hJ, hp, by show jl.length ≤ 667; omega, ko_rf⟩
/-! aims -/
theorem b_L84g {x y : Int32} (h : SB N r w z u) : ∀ g, 0 < g → wp (f_C_readAll_L84 x g u y) (fun p => SB N r w z p)
  | g + 1, _ => by
    rw [f_C_readAll_L84]
    refine wp_ite (fun _ => wp_some h) (fun _ => b_sound0 h ?_)
    exact wp_some h
theorem aimL_eq {x3 : Int32} (hO : SO N i z u) (hC : CI N b sz lo ver u) (hS : FS sz st u) (hJ : JL jl u) (hp : JP jl) (hl : jl.length ≤ 667) : ∀ (m j g : Nat), j + m = jl.length → m < g → wp (f_C_readAll_L84 x3 g u (nI j)) (fun v => match sAim b sz st (jl.drop j) with
    | .ok _ => v = u
    | .error e => SB N e.1 e.2 z v)
  | 0, j, g + 1, h1, _ => by
    rw [f_C_readAll_L84, hJ.1, if_pos (nI_le (by omega) (by omega)), List.drop_eq_nil_of_le (by omega)]
    exact wp_some rfl
  | m + 1, j, g + 1, h1, h2 => by
    have hj : j < jl.length := by omega
    obtain ⟨e1, e2⟩ := hJ.2 j _ (List.getElem?_eq_getElem hj)
    have hq := hp _ (List.getElem_mem hj)
    rw [f_C_readAll_L84, hJ.1, if_neg (nI_ge (by omega) (by omega)), snd_o hO.1, cI_s, if_neg (by decide), gd_in (by omega) (by decide), ncl (by omega), e2, isFirst_a hC.2.1 hC.2.2.2.2.2.1 hS hq, cI_s, gd_in (by omega) (by decide), e1, hC.1, nI_add, nI_1, List.drop_eq_getElem_cons hj, sAim]
    cases ha : aimOK sz st jl[j] with
    | true =>
      rw [if_pos (show true = true from rfl), if_pos (show true = true from rfl), nd_t (by decide), cV_s]
      exact aimL_eq hO hC hS hJ hp hl m (j + 1) g (by omega) (by omega)
    | false =>
      rw [if_neg (show ¬ (false = true) by decide), if_neg (show ¬ (false = true) by decide)]
      refine ws_need hO rfl rfl (by decide) (fun q => absurd rfl q) (fun _ u h => ?_)
      exact b_L84g h g (by omega)
/-! the table of handlers -/
theorem bounded_eq (h9 : u.1 9 = nI sz) (hs : sz ≤ 2000) (hS : FS sz st u) {fr to : Nat} (hf : fr < 65536) (ht : to < 65536) : (if nI to ≤ nI fr then some ((0 : Int32), u) else (if nI to = (u.1 9) then (some (1, u)) else (cI (f_C_isFirst u (nI to)) fun r49 u47 => if r49 = 0 then (some (0, u47)) else (some (1, u47))))) = some (if (decide (fr < to) && (decide (to = sz) || fst' sz st to)) = true then 1 else 0, u) := by
  rw [h9, isFirst_n h9 hs hS ht, cI_s]
  by_cases d1 : to ≤ fr
  · rw [if_pos (nI_le d1 (by omega)), decide_eq_false (by omega)]; rfl
  · rw [if_neg (nI_ge (by omega) (by omega)), decide_eq_true (by omega), Bool.true_and]
    by_cases d2 : to = sz
    · rw [if_pos (by rw [d2]), decide_eq_true d2]; rfl
    · rw [if_neg (fun q => d2 ((nI_eq (by omega) (by omega)).mp q)), decide_eq_false d2, Bool.false_or]
      cases fst' sz st to
      · rfl
      · rfl
theorem two_eq (h9 : u.1 9 = nI sz) (hs : sz ≤ 2000) (hS : FS sz st u) {fr hd : Nat} (hf : fr < 65536) (hh : hd < 65536) (A : Bool) : (if (if A = true then (1 : Int32) else 0) = 0 then some ((0 : Int32), u) else (cI (f_C_isFirst u (nI fr)) fun r41 u39 => if r41 = 0 then (some (0, u39)) else (cI (f_C_isFirst u39 (nI hd)) fun r44 u42 => if r44 = 0 then (some (0, u42)) else (some (1, u42))))) = some (if (A && fst' sz st fr && fst' sz st hd) = true then 1 else 0, u) := by
  rw [isFirst_n h9 hs hS hf, cI_s, isFirst_n h9 hs hS hh, cI_s]
  cases A <;> cases fst' sz st fr <;> cases fst' sz st hd <;> rfl
theorem caught_eq_o (hO : SO N i z u) (hP : PW_o F N c K B u) {t : Nat} (ht : t < 65536) : (if nI t = 0 then some ((1 : Int32), u) else (cI (f_P_kindOf u (nI t)) fun r36 u34 => if r36 = 7 then (some (1, u34)) else (some (0, u34)))) = some (if (decide (t = 0) || isK c K t 7) = true then 1 else 0, u) := by
  obtain ⟨x, e, hx⟩ := hP.kind hO ht (kd := 7) (by decide)
  rw [e, cI_s]
  by_cases d : t = 0
  · rw [if_pos (by rw [d]; rfl), decide_eq_true d]; rfl
  · rw [if_neg (nI_ne0 (by omega) (by omega)), decide_eq_false d, Bool.false_or]
    cases h : isK c K t 7 with
    | true => rw [if_pos (show x = 7 from hx.mpr h)]; rfl
    | false => rw [if_neg (show ¬ x = 7 from fun q => by rw [hx.mp q] at h; cases h)]; rfl
theorem sRows_s {n : Nat} : sRows F N c K sz st (n + 1) = pb pa fun w => pb (pu F N 2) fun fr => pb (pu F N 2) fun to => pb (pu F N 2) fun h => pb (pu F N 2) fun cl => pb (pn (decide (fr < to) && (decide (to = sz) || fst' sz st to) && fst' sz st fr && fst' sz st h) 28 w) fun _ => pb (pn (decide (cl = 0) || isK c K cl 7) 8 (w + 6)) fun _ => sRows F N c K sz st n := by
  rw [sRows]
  unfold sRow
  simp only [pb_as]
theorem SO_2 {j : Nat} (h : SO N i z u) (hj : j ≤ N) : SO N j z (sv u 1 (nI j)) := SO_at h hj
theorem b_isFirst {x : Int32} (h : SB N r w z u) : wp (f_C_isFirst u x) (fun p => SB N r w z p.2) := by
  unfold f_C_isFirst
  by_cases c0 : x < 0
  · rw [if_pos c0, cT_s, gb_0]; exact wp_some h
  · rw [if_neg c0]
    refine wp_cT (wp_ite (fun _ => wp_some ?_) (fun _ => ?_))
    · rw [gb_0]; exact wp_some h
    · by_cases c1 : 2000 ≤ x
      · rw [if_pos c1]; refine wp_some ?_; rw [gb_0]; exact wp_some h
      · rw [if_neg c1, gd, if_neg (ix_in0 (n := 2000) (by decide) c0 c1)]
        refine wp_ite (fun _ => wp_some ?_) (fun _ => wp_some ?_)
        · rw [gb_1]; exact wp_some h
        · rw [gb_0]; exact wp_some h
theorem rowL_eq_o {nr : Nat} (hnr : nr ≤ 30) : ∀ (m j g i : Nat) (u : St), j + m = nr → m < g → SO N i z u → PW_o F N c K B u → CI N b sz lo ver u → FS sz st u → u.1 12 = nI nr → wp (f_C_readRows_L46 g u (nI j)) (XQ N z (sRows F N c K sz st m i) (fun _ v => ko [1] [] u v))
  | 0, j, g + 1, i, u, h1, _, hO, hP, hC, hS, h12 => by
    rw [f_C_readRows_L46, h12, if_pos (nI_le (by omega) (by omega))]
    exact wp_some ⟨hO, ko_rf⟩
  | m + 1, j, g + 1, i, u, h1, h2, hO, hP, hC, hS, h12 => by
    have hs := hC.2.2.2.2.2.1
    rw [f_C_readRows_L46, h12, if_neg (nI_ge (by omega) (by omega)), snd_o hO.1, cI_s, if_neg (by decide), nI_1, sRows_s, hO.1.2.2.2.2.1]
    have rb : ∀ {N r w : Nat} {z u : St} (h : SB N r w z u), ∀ x, wp (f_C_readRows_L46 g u x) (fun p => SB N r w z p) := fun h _ => b_rwL h g (by omega)
    refine wq_pa ?_
    refine wq_next hO hP.1 rfl (by decide) (fun hi1 => ?_) (fun u h => ?_)
    · have hO1 := SO_at hO hi1
      refine wq_next hO1 hP.1 rfl (by decide) (fun hi2 => ?_) (fun u h => ?_)
      · have hO2 := SO_at hO1 hi2
        refine wq_next hO2 hP.1 rfl (by decide) (fun hi3 => ?_) (fun u h => ?_)
        · have hO3 := SO_at hO2 hi3
          refine wq_next hO3 hP.1 rfl (by decide) (fun hi4 => ?_) (fun u h => ?_)
          · have hO4 := SO_at hO3 hi4
            have k4 : ko [1] [] u (sv (sv (sv (sv u 1 (nI (i + 2))) 1 (nI (i + 2 + 2))) 1 (nI (i + 2 + 2 + 2))) 1 (nI (i + 2 + 2 + 2 + 2))) := ko_tr (ko_sv (by decide)) (ko_tr (ko_sv (by decide)) (ko_tr (ko_sv (by decide)) (ko_sv (by decide))))
            generalize sv (sv (sv (sv u 1 (nI (i + 2))) 1 (nI (i + 2 + 2))) 1 (nI (i + 2 + 2 + 2))) 1 (nI (i + 2 + 2 + 2 + 2)) = v at hO4 k4 ⊢
            have hP4 := PW_ko_o hP k4 (by decide) (by decide)
            have hC4 := CI_ko hC k4 (by decide)
            have hS4 : FS sz st v := fun j hj => by rw [k4.2 9 (by decide)]; exact hS j hj
            rw [bounded_eq hC4.2.1 hs hS4 (be2_lt_o hP _) (be2_lt_o hP _), cT_s]
            dsimp only
            rw [two_eq hC4.2.1 hs hS4 (be2_lt_o hP _) (be2_lt_o hP _), cT_s]
            refine wq_need hO4 rfl rfl (by decide) b10 (fun _ => ?_) (fun u h => ?_)
            · rw [caught_eq_o hO4 hP4 (be2_lt_o hP _), cT_s]
              refine wq_need hO4 rfl (show nI i + 6 = nI (i + 6) from nI_add i 6) (by decide) b10 (fun _ => ?_) (fun u h => ?_)
              · exact wp_mono (rowL_eq_o hnr m (j + 1) g _ v (by omega) (by omega) hO4 hP4 hC4 hS4 ((k4.1 12 (by decide)).trans h12)) fun x hx => XP_mono hx fun _ q => ko_tr k4 q
              · exact rb h _
            · refine wp_cT (wp_ite (fun _ => wp_some (wp_cV_b (b_need h) (fun _ h => rb h _))) (fun _ => wp_cI_b (b_kindOf h) (fun _ _ h => wp_ite (fun _ => wp_some (wp_cV_b (b_need h) (fun _ h => rb h _))) (fun _ => wp_some (wp_cV_b (b_need h) (fun _ h => rb h _))))))
          · repeat' (first | exact rb h _ | exact h | (refine SB_sv (by decide) h) | (refine SB_sa (by decide) h) | (with_reducible refine wp_some ?_; try dsimp only) | (with_reducible refine wp_bnd_sv (by decide) h (fun _ h => ?_)) | (with_reducible refine wp_bnd_sa (by decide) h (fun _ h => ?_)) | (with_reducible refine wp_bnd ?_) | with_reducible refine wp_gb0 ?_ | with_reducible refine wp_gb1 ?_ | with_reducible refine wp_gb01 ?_ | with_reducible refine wp_gb10 ?_ | (with_reducible refine wp_cI_b (b_next h) (fun _ _ h => ?_)) | (with_reducible refine wp_cI_b (b_num1 h) (fun _ _ h => ?_)) | (with_reducible refine wp_cI_b (b_num2 h) (fun _ _ h => ?_)) | (with_reducible refine wp_cI_b (b_num4 h) (fun _ _ h => ?_)) | (with_reducible refine wp_cI_b (b_kindOf h) (fun _ _ h => ?_)) | (with_reducible refine wp_cI_b (b_factsOf h) (fun _ _ h => ?_)) | (with_reducible refine wp_cI_b (b_measureOf h) (fun _ _ h => ?_)) | (with_reducible refine wp_cI_b (b_firstOf h) (fun _ _ h => ?_)) | (with_reducible refine wp_cI_b (b_alike h) (fun _ _ h => ?_)) | (with_reducible refine wp_cI_b (b_take h) (fun _ _ h => ?_)) | (with_reducible refine wp_cI_b (b_bitCount h) (fun _ _ h => ?_)) | (with_reducible refine wp_cI_b (b_mayBeLast h) (fun _ _ h => ?_)) | (with_reducible refine wp_cI_b (b_kindFits h) (fun _ _ h => ?_)) | (with_reducible refine wp_cI_b (b_restFits h) (fun _ _ h => ?_)) | (with_reducible refine wp_cI_b (b_switchNumber h) (fun _ _ h => ?_)) | (with_reducible refine wp_cI_b (b_attributeOf h) (fun _ _ h => ?_)) | (with_reducible refine wp_cI_b (b_constantKind h) (fun _ _ h => ?_)) | (with_reducible refine wp_cI_b (b_readAttributes h) (fun _ _ h => ?_)) | (with_reducible refine wp_cI_b (b_classFlagsHold h) (fun _ _ h => ?_)) | (with_reducible refine wp_cI_b (b_takeClassText h) (fun _ _ h => ?_)) | (with_reducible refine wp_cI_b (b_refer h) (fun _ _ h => ?_)) | (with_reducible refine wp_cI_b (b_fits h) (fun _ _ h => ?_)) | (with_reducible refine wp_cI_b (b_secondOf h) (fun _ _ h => ?_)) | (with_reducible refine wp_cI_b (b_refer h) (fun _ _ h => ?_)) | (with_reducible refine wp_cI_b (b_specialNameHolds h) (fun _ _ h => ?_)) | (with_reducible refine wp_cI_b (b_fieldFlagsHold h) (fun _ _ h => ?_)) | (with_reducible refine wp_cI_b (b_methodFlagsHold h) (fun _ _ h => ?_)) | (with_reducible refine wp_cI_b (b_localInCode h) (fun _ _ h => ?_)) | (with_reducible refine wp_cI_b (b_isFirst h) (fun _ _ h => ?_)) | (with_reducible refine wp_cV_b (b_need h) (fun _ h => ?_)) | (with_reducible refine wp_cV_b (b_needType h) (fun _ h => ?_)) | (with_reducible refine wp_cV_b (b_addJump h) (fun _ h => ?_)) | (with_reducible refine wp_cV_b (b_readConstant h) (fun _ h => ?_)) | (with_reducible refine wp_cV_b (b_readExceptions h) (fun _ h => ?_)) | (with_reducible refine wp_cV_b (b_readLinks h) (fun _ h => ?_)) | (with_reducible refine wp_cV_b (b_noteTexts h) (fun _ h => ?_)) | (with_reducible refine wp_cV_b (b_readEntries h) (fun _ h => ?_)) | (with_reducible refine wp_cV_b (b_readClass h) (fun _ h => ?_)) | (with_reducible refine wp_cV_b (b_clearCodeTallies h) (fun _ h => ?_)) | (with_reducible refine wp_cV_b (b_addMember h) (fun _ h => ?_)) | (with_reducible refine wp_cT_b (b_exL h) (fun _ h => ?_)) | (with_reducible refine wp_cI_b (b_spells (by decide) h) (fun _ _ h => ?_)) | (with_reducible refine wp_gb (by repeat' (first | exact Or.inl rfl | exact Or.inr rfl | apply ite01)) ?_) | (with_reducible refine wp_cI_b (b_num hnm h) (fun _ _ h => ?_)) | (with_reducible refine wp_gdn (by omega) (by decide) ?_) | (with_reducible refine wp_cT ?_) | (with_reducible refine wp_ite (fun _ => ?_) (fun _ => ?_)))
        · repeat' (first | exact rb h _ | exact h | (refine SB_sv (by decide) h) | (refine SB_sa (by decide) h) | (with_reducible refine wp_some ?_; try dsimp only) | (with_reducible refine wp_bnd_sv (by decide) h (fun _ h => ?_)) | (with_reducible refine wp_bnd_sa (by decide) h (fun _ h => ?_)) | (with_reducible refine wp_bnd ?_) | with_reducible refine wp_gb0 ?_ | with_reducible refine wp_gb1 ?_ | with_reducible refine wp_gb01 ?_ | with_reducible refine wp_gb10 ?_ | (with_reducible refine wp_cI_b (b_next h) (fun _ _ h => ?_)) | (with_reducible refine wp_cI_b (b_num1 h) (fun _ _ h => ?_)) | (with_reducible refine wp_cI_b (b_num2 h) (fun _ _ h => ?_)) | (with_reducible refine wp_cI_b (b_num4 h) (fun _ _ h => ?_)) | (with_reducible refine wp_cI_b (b_kindOf h) (fun _ _ h => ?_)) | (with_reducible refine wp_cI_b (b_factsOf h) (fun _ _ h => ?_)) | (with_reducible refine wp_cI_b (b_measureOf h) (fun _ _ h => ?_)) | (with_reducible refine wp_cI_b (b_firstOf h) (fun _ _ h => ?_)) | (with_reducible refine wp_cI_b (b_alike h) (fun _ _ h => ?_)) | (with_reducible refine wp_cI_b (b_take h) (fun _ _ h => ?_)) | (with_reducible refine wp_cI_b (b_bitCount h) (fun _ _ h => ?_)) | (with_reducible refine wp_cI_b (b_mayBeLast h) (fun _ _ h => ?_)) | (with_reducible refine wp_cI_b (b_kindFits h) (fun _ _ h => ?_)) | (with_reducible refine wp_cI_b (b_restFits h) (fun _ _ h => ?_)) | (with_reducible refine wp_cI_b (b_switchNumber h) (fun _ _ h => ?_)) | (with_reducible refine wp_cI_b (b_attributeOf h) (fun _ _ h => ?_)) | (with_reducible refine wp_cI_b (b_constantKind h) (fun _ _ h => ?_)) | (with_reducible refine wp_cI_b (b_readAttributes h) (fun _ _ h => ?_)) | (with_reducible refine wp_cI_b (b_classFlagsHold h) (fun _ _ h => ?_)) | (with_reducible refine wp_cI_b (b_takeClassText h) (fun _ _ h => ?_)) | (with_reducible refine wp_cI_b (b_refer h) (fun _ _ h => ?_)) | (with_reducible refine wp_cI_b (b_fits h) (fun _ _ h => ?_)) | (with_reducible refine wp_cI_b (b_secondOf h) (fun _ _ h => ?_)) | (with_reducible refine wp_cI_b (b_refer h) (fun _ _ h => ?_)) | (with_reducible refine wp_cI_b (b_specialNameHolds h) (fun _ _ h => ?_)) | (with_reducible refine wp_cI_b (b_fieldFlagsHold h) (fun _ _ h => ?_)) | (with_reducible refine wp_cI_b (b_methodFlagsHold h) (fun _ _ h => ?_)) | (with_reducible refine wp_cI_b (b_localInCode h) (fun _ _ h => ?_)) | (with_reducible refine wp_cI_b (b_isFirst h) (fun _ _ h => ?_)) | (with_reducible refine wp_cV_b (b_need h) (fun _ h => ?_)) | (with_reducible refine wp_cV_b (b_needType h) (fun _ h => ?_)) | (with_reducible refine wp_cV_b (b_addJump h) (fun _ h => ?_)) | (with_reducible refine wp_cV_b (b_readConstant h) (fun _ h => ?_)) | (with_reducible refine wp_cV_b (b_readExceptions h) (fun _ h => ?_)) | (with_reducible refine wp_cV_b (b_readLinks h) (fun _ h => ?_)) | (with_reducible refine wp_cV_b (b_noteTexts h) (fun _ h => ?_)) | (with_reducible refine wp_cV_b (b_readEntries h) (fun _ h => ?_)) | (with_reducible refine wp_cV_b (b_readClass h) (fun _ h => ?_)) | (with_reducible refine wp_cV_b (b_clearCodeTallies h) (fun _ h => ?_)) | (with_reducible refine wp_cV_b (b_addMember h) (fun _ h => ?_)) | (with_reducible refine wp_cT_b (b_exL h) (fun _ h => ?_)) | (with_reducible refine wp_cI_b (b_spells (by decide) h) (fun _ _ h => ?_)) | (with_reducible refine wp_gb (by repeat' (first | exact Or.inl rfl | exact Or.inr rfl | apply ite01)) ?_) | (with_reducible refine wp_cI_b (b_num hnm h) (fun _ _ h => ?_)) | (with_reducible refine wp_gdn (by omega) (by decide) ?_) | (with_reducible refine wp_cT ?_) | (with_reducible refine wp_ite (fun _ => ?_) (fun _ => ?_)))
      · repeat' (first | exact rb h _ | exact h | (refine SB_sv (by decide) h) | (refine SB_sa (by decide) h) | (with_reducible refine wp_some ?_; try dsimp only) | (with_reducible refine wp_bnd_sv (by decide) h (fun _ h => ?_)) | (with_reducible refine wp_bnd_sa (by decide) h (fun _ h => ?_)) | (with_reducible refine wp_bnd ?_) | with_reducible refine wp_gb0 ?_ | with_reducible refine wp_gb1 ?_ | with_reducible refine wp_gb01 ?_ | with_reducible refine wp_gb10 ?_ | (with_reducible refine wp_cI_b (b_next h) (fun _ _ h => ?_)) | (with_reducible refine wp_cI_b (b_num1 h) (fun _ _ h => ?_)) | (with_reducible refine wp_cI_b (b_num2 h) (fun _ _ h => ?_)) | (with_reducible refine wp_cI_b (b_num4 h) (fun _ _ h => ?_)) | (with_reducible refine wp_cI_b (b_kindOf h) (fun _ _ h => ?_)) | (with_reducible refine wp_cI_b (b_factsOf h) (fun _ _ h => ?_)) | (with_reducible refine wp_cI_b (b_measureOf h) (fun _ _ h => ?_)) | (with_reducible refine wp_cI_b (b_firstOf h) (fun _ _ h => ?_)) | (with_reducible refine wp_cI_b (b_alike h) (fun _ _ h => ?_)) | (with_reducible refine wp_cI_b (b_take h) (fun _ _ h => ?_)) | (with_reducible refine wp_cI_b (b_bitCount h) (fun _ _ h => ?_)) | (with_reducible refine wp_cI_b (b_mayBeLast h) (fun _ _ h => ?_)) | (with_reducible refine wp_cI_b (b_kindFits h) (fun _ _ h => ?_)) | (with_reducible refine wp_cI_b (b_restFits h) (fun _ _ h => ?_)) | (with_reducible refine wp_cI_b (b_switchNumber h) (fun _ _ h => ?_)) | (with_reducible refine wp_cI_b (b_attributeOf h) (fun _ _ h => ?_)) | (with_reducible refine wp_cI_b (b_constantKind h) (fun _ _ h => ?_)) | (with_reducible refine wp_cI_b (b_readAttributes h) (fun _ _ h => ?_)) | (with_reducible refine wp_cI_b (b_classFlagsHold h) (fun _ _ h => ?_)) | (with_reducible refine wp_cI_b (b_takeClassText h) (fun _ _ h => ?_)) | (with_reducible refine wp_cI_b (b_refer h) (fun _ _ h => ?_)) | (with_reducible refine wp_cI_b (b_fits h) (fun _ _ h => ?_)) | (with_reducible refine wp_cI_b (b_secondOf h) (fun _ _ h => ?_)) | (with_reducible refine wp_cI_b (b_refer h) (fun _ _ h => ?_)) | (with_reducible refine wp_cI_b (b_specialNameHolds h) (fun _ _ h => ?_)) | (with_reducible refine wp_cI_b (b_fieldFlagsHold h) (fun _ _ h => ?_)) | (with_reducible refine wp_cI_b (b_methodFlagsHold h) (fun _ _ h => ?_)) | (with_reducible refine wp_cI_b (b_localInCode h) (fun _ _ h => ?_)) | (with_reducible refine wp_cI_b (b_isFirst h) (fun _ _ h => ?_)) | (with_reducible refine wp_cV_b (b_need h) (fun _ h => ?_)) | (with_reducible refine wp_cV_b (b_needType h) (fun _ h => ?_)) | (with_reducible refine wp_cV_b (b_addJump h) (fun _ h => ?_)) | (with_reducible refine wp_cV_b (b_readConstant h) (fun _ h => ?_)) | (with_reducible refine wp_cV_b (b_readExceptions h) (fun _ h => ?_)) | (with_reducible refine wp_cV_b (b_readLinks h) (fun _ h => ?_)) | (with_reducible refine wp_cV_b (b_noteTexts h) (fun _ h => ?_)) | (with_reducible refine wp_cV_b (b_readEntries h) (fun _ h => ?_)) | (with_reducible refine wp_cV_b (b_readClass h) (fun _ h => ?_)) | (with_reducible refine wp_cV_b (b_clearCodeTallies h) (fun _ h => ?_)) | (with_reducible refine wp_cV_b (b_addMember h) (fun _ h => ?_)) | (with_reducible refine wp_cT_b (b_exL h) (fun _ h => ?_)) | (with_reducible refine wp_cI_b (b_spells (by decide) h) (fun _ _ h => ?_)) | (with_reducible refine wp_gb (by repeat' (first | exact Or.inl rfl | exact Or.inr rfl | apply ite01)) ?_) | (with_reducible refine wp_cI_b (b_num hnm h) (fun _ _ h => ?_)) | (with_reducible refine wp_gdn (by omega) (by decide) ?_) | (with_reducible refine wp_cT ?_) | (with_reducible refine wp_ite (fun _ => ?_) (fun _ => ?_)))
    · repeat' (first | exact rb h _ | exact h | (refine SB_sv (by decide) h) | (refine SB_sa (by decide) h) | (with_reducible refine wp_some ?_; try dsimp only) | (with_reducible refine wp_bnd_sv (by decide) h (fun _ h => ?_)) | (with_reducible refine wp_bnd_sa (by decide) h (fun _ h => ?_)) | (with_reducible refine wp_bnd ?_) | with_reducible refine wp_gb0 ?_ | with_reducible refine wp_gb1 ?_ | with_reducible refine wp_gb01 ?_ | with_reducible refine wp_gb10 ?_ | (with_reducible refine wp_cI_b (b_next h) (fun _ _ h => ?_)) | (with_reducible refine wp_cI_b (b_num1 h) (fun _ _ h => ?_)) | (with_reducible refine wp_cI_b (b_num2 h) (fun _ _ h => ?_)) | (with_reducible refine wp_cI_b (b_num4 h) (fun _ _ h => ?_)) | (with_reducible refine wp_cI_b (b_kindOf h) (fun _ _ h => ?_)) | (with_reducible refine wp_cI_b (b_factsOf h) (fun _ _ h => ?_)) | (with_reducible refine wp_cI_b (b_measureOf h) (fun _ _ h => ?_)) | (with_reducible refine wp_cI_b (b_firstOf h) (fun _ _ h => ?_)) | (with_reducible refine wp_cI_b (b_alike h) (fun _ _ h => ?_)) | (with_reducible refine wp_cI_b (b_take h) (fun _ _ h => ?_)) | (with_reducible refine wp_cI_b (b_bitCount h) (fun _ _ h => ?_)) | (with_reducible refine wp_cI_b (b_mayBeLast h) (fun _ _ h => ?_)) | (with_reducible refine wp_cI_b (b_kindFits h) (fun _ _ h => ?_)) | (with_reducible refine wp_cI_b (b_restFits h) (fun _ _ h => ?_)) | (with_reducible refine wp_cI_b (b_switchNumber h) (fun _ _ h => ?_)) | (with_reducible refine wp_cI_b (b_attributeOf h) (fun _ _ h => ?_)) | (with_reducible refine wp_cI_b (b_constantKind h) (fun _ _ h => ?_)) | (with_reducible refine wp_cI_b (b_readAttributes h) (fun _ _ h => ?_)) | (with_reducible refine wp_cI_b (b_classFlagsHold h) (fun _ _ h => ?_)) | (with_reducible refine wp_cI_b (b_takeClassText h) (fun _ _ h => ?_)) | (with_reducible refine wp_cI_b (b_refer h) (fun _ _ h => ?_)) | (with_reducible refine wp_cI_b (b_fits h) (fun _ _ h => ?_)) | (with_reducible refine wp_cI_b (b_secondOf h) (fun _ _ h => ?_)) | (with_reducible refine wp_cI_b (b_refer h) (fun _ _ h => ?_)) | (with_reducible refine wp_cI_b (b_specialNameHolds h) (fun _ _ h => ?_)) | (with_reducible refine wp_cI_b (b_fieldFlagsHold h) (fun _ _ h => ?_)) | (with_reducible refine wp_cI_b (b_methodFlagsHold h) (fun _ _ h => ?_)) | (with_reducible refine wp_cI_b (b_localInCode h) (fun _ _ h => ?_)) | (with_reducible refine wp_cI_b (b_isFirst h) (fun _ _ h => ?_)) | (with_reducible refine wp_cV_b (b_need h) (fun _ h => ?_)) | (with_reducible refine wp_cV_b (b_needType h) (fun _ h => ?_)) | (with_reducible refine wp_cV_b (b_addJump h) (fun _ h => ?_)) | (with_reducible refine wp_cV_b (b_readConstant h) (fun _ h => ?_)) | (with_reducible refine wp_cV_b (b_readExceptions h) (fun _ h => ?_)) | (with_reducible refine wp_cV_b (b_readLinks h) (fun _ h => ?_)) | (with_reducible refine wp_cV_b (b_noteTexts h) (fun _ h => ?_)) | (with_reducible refine wp_cV_b (b_readEntries h) (fun _ h => ?_)) | (with_reducible refine wp_cV_b (b_readClass h) (fun _ h => ?_)) | (with_reducible refine wp_cV_b (b_clearCodeTallies h) (fun _ h => ?_)) | (with_reducible refine wp_cV_b (b_addMember h) (fun _ h => ?_)) | (with_reducible refine wp_cT_b (b_exL h) (fun _ h => ?_)) | (with_reducible refine wp_cI_b (b_spells (by decide) h) (fun _ _ h => ?_)) | (with_reducible refine wp_gb (by repeat' (first | exact Or.inl rfl | exact Or.inr rfl | apply ite01)) ?_) | (with_reducible refine wp_cI_b (b_num hnm h) (fun _ _ h => ?_)) | (with_reducible refine wp_gdn (by omega) (by decide) ?_) | (with_reducible refine wp_cT ?_) | (with_reducible refine wp_ite (fun _ => ?_) (fun _ => ?_)))
end ALL

/-! THE START: statics and strings out of what the Statement gives; the two objects are made; then the loop -/
theorem mem_dt {l : List Cond} {b n : Nat} {f : Nat → Cond} (h : (l.drop b).take n = (List.range n).map f) : ∀ j, j < n → f j ∈ l := fun j hj => List.mem_of_mem_drop (List.mem_of_mem_take (i := n) (by rw [h]; exact List.mem_map.mpr ⟨j, List.mem_range.mpr hj, rfl⟩))
theorem se_FORMS : ∀ j, j < 202 → (Cond.eq (.elem (.static "CodeGate$Code" "FORMS" "[I") (.int (Int32.ofNat j))) (.int (tab_FORMS j))) ∈ flatC (Jvm.Cond.and given_1 narrow_1) := mem_dt (b := 12) (f := fun j => Cond.eq (.elem (.static "CodeGate$Code" "FORMS" "[I") (.int (Int32.ofNat j))) (.int (tab_FORMS j))) (by decide +kernel)
theorem sl_FORMS : (Cond.eq (.length (.static "CodeGate$Code" "FORMS" "[I")) (.int 202)) ∈ flatC (Jvm.Cond.and given_1 narrow_1) := by decide +kernel
theorem sa_FORMS : (Cond.arrayOf (.static "CodeGate$Code" "FORMS" "[I") .int) ∈ flatC (Jvm.Cond.and given_1 narrow_1) := by decide +kernel
theorem se_WIDTHS : ∀ j, j < 23 → (Cond.eq (.elem (.static "CodeGate$Code" "WIDTHS" "[I") (.int (Int32.ofNat j))) (.int (tab_WIDTHS j))) ∈ flatC (Jvm.Cond.and given_1 narrow_1) := mem_dt (b := 217) (f := fun j => Cond.eq (.elem (.static "CodeGate$Code" "WIDTHS" "[I") (.int (Int32.ofNat j))) (.int (tab_WIDTHS j))) (by decide +kernel)
theorem sl_WIDTHS : (Cond.eq (.length (.static "CodeGate$Code" "WIDTHS" "[I")) (.int 23)) ∈ flatC (Jvm.Cond.and given_1 narrow_1) := by decide +kernel
theorem sa_WIDTHS : (Cond.arrayOf (.static "CodeGate$Code" "WIDTHS" "[I") .int) ∈ flatC (Jvm.Cond.and given_1 narrow_1) := by decide +kernel
theorem se_NUMBERS : ∀ j, j < 23 → (Cond.eq (.elem (.static "CodeGate$Code" "NUMBERS" "[I") (.int (Int32.ofNat j))) (.int (tab_NUMBERS j))) ∈ flatC (Jvm.Cond.and given_1 narrow_1) := mem_dt (b := 243) (f := fun j => Cond.eq (.elem (.static "CodeGate$Code" "NUMBERS" "[I") (.int (Int32.ofNat j))) (.int (tab_NUMBERS j))) (by decide +kernel)
theorem sl_NUMBERS : (Cond.eq (.length (.static "CodeGate$Code" "NUMBERS" "[I")) (.int 23)) ∈ flatC (Jvm.Cond.and given_1 narrow_1) := by decide +kernel
theorem sa_NUMBERS : (Cond.arrayOf (.static "CodeGate$Code" "NUMBERS" "[I") .int) ∈ flatC (Jvm.Cond.and given_1 narrow_1) := by decide +kernel
def tmS (i : Nat) : Term := match strR[i]? with
  | some q => .string q.1 q.2.1
  | none => .string "" 0
theorem ss_ex : ∀ i, i < 10 → (Cond.exactly (tmS i) "java/lang/String") ∈ flatC (Jvm.Cond.and given_1 narrow_1) := by decide +kernel
theorem ss_co : ∀ i, i < 10 → (Cond.eq (.field (tmS i) "java/lang/String" "coder" "B") (.int 0)) ∈ flatC (Jvm.Cond.and given_1 narrow_1) := by decide +kernel
theorem ss_ar : ∀ i, i < 10 → (Cond.arrayOf (.field (tmS i) "java/lang/String" "value" "[B") .byte) ∈ flatC (Jvm.Cond.and given_1 narrow_1) := by decide +kernel
theorem ss_le : ∀ i, i < 10 → (Cond.eq (.length (.field (tmS i) "java/lang/String" "value" "[B")) (.int (Int32.ofNat (lenL.getD i 0)))) ∈ flatC (Jvm.Cond.and given_1 narrow_1) := by decide +kernel
theorem se_0 : ∀ j, j < 6 → (Cond.eq (.elem (.field (tmS 0) "java/lang/String" "value" "[B") (.int (Int32.ofNat j))) (.int ((bytL.getD 0 []).getD j 0))) ∈ flatC (Jvm.Cond.and given_1 narrow_1) := mem_dt (b := 270) (f := fun j => Cond.eq (.elem (.field (tmS 0) "java/lang/String" "value" "[B") (.int (Int32.ofNat j))) (.int ((bytL.getD 0 []).getD j 0))) (by decide +kernel)
theorem se_1 : ∀ j, j < 8 → (Cond.eq (.elem (.field (tmS 1) "java/lang/String" "value" "[B") (.int (Int32.ofNat j))) (.int ((bytL.getD 1 []).getD j 0))) ∈ flatC (Jvm.Cond.and given_1 narrow_1) := mem_dt (b := 280) (f := fun j => Cond.eq (.elem (.field (tmS 1) "java/lang/String" "value" "[B") (.int (Int32.ofNat j))) (.int ((bytL.getD 1 []).getD j 0))) (by decide +kernel)
theorem se_2 : ∀ j, j < 16 → (Cond.eq (.elem (.field (tmS 2) "java/lang/String" "value" "[B") (.int (Int32.ofNat j))) (.int ((bytL.getD 2 []).getD j 0))) ∈ flatC (Jvm.Cond.and given_1 narrow_1) := mem_dt (b := 293) (f := fun j => Cond.eq (.elem (.field (tmS 2) "java/lang/String" "value" "[B") (.int (Int32.ofNat j))) (.int ((bytL.getD 2 []).getD j 0))) (by decide +kernel)
theorem se_3 : ∀ j, j < 4 → (Cond.eq (.elem (.field (tmS 3) "java/lang/String" "value" "[B") (.int (Int32.ofNat j))) (.int ((bytL.getD 3 []).getD j 0))) ∈ flatC (Jvm.Cond.and given_1 narrow_1) := mem_dt (b := 315) (f := fun j => Cond.eq (.elem (.field (tmS 3) "java/lang/String" "value" "[B") (.int (Int32.ofNat j))) (.int ((bytL.getD 3 []).getD j 0))) (by decide +kernel)
theorem se_4 : ∀ j, j < 13 → (Cond.eq (.elem (.field (tmS 4) "java/lang/String" "value" "[B") (.int (Int32.ofNat j))) (.int ((bytL.getD 4 []).getD j 0))) ∈ flatC (Jvm.Cond.and given_1 narrow_1) := mem_dt (b := 326) (f := fun j => Cond.eq (.elem (.field (tmS 4) "java/lang/String" "value" "[B") (.int (Int32.ofNat j))) (.int ((bytL.getD 4 []).getD j 0))) (by decide +kernel)
theorem se_5 : ∀ j, j < 10 → (Cond.eq (.elem (.field (tmS 5) "java/lang/String" "value" "[B") (.int (Int32.ofNat j))) (.int ((bytL.getD 5 []).getD j 0))) ∈ flatC (Jvm.Cond.and given_1 narrow_1) := mem_dt (b := 347) (f := fun j => Cond.eq (.elem (.field (tmS 5) "java/lang/String" "value" "[B") (.int (Int32.ofNat j))) (.int ((bytL.getD 5 []).getD j 0))) (by decide +kernel)
theorem se_6 : ∀ j, j < 10 → (Cond.eq (.elem (.field (tmS 6) "java/lang/String" "value" "[B") (.int (Int32.ofNat j))) (.int ((bytL.getD 6 []).getD j 0))) ∈ flatC (Jvm.Cond.and given_1 narrow_1) := mem_dt (b := 366) (f := fun j => Cond.eq (.elem (.field (tmS 6) "java/lang/String" "value" "[B") (.int (Int32.ofNat j))) (.int ((bytL.getD 6 []).getD j 0))) (by decide +kernel)
theorem se_7 : ∀ j, j < 1 → (Cond.eq (.elem (.field (tmS 7) "java/lang/String" "value" "[B") (.int (Int32.ofNat j))) (.int ((bytL.getD 7 []).getD j 0))) ∈ flatC (Jvm.Cond.and given_1 narrow_1) := mem_dt (b := 386) (f := fun j => Cond.eq (.elem (.field (tmS 7) "java/lang/String" "value" "[B") (.int (Int32.ofNat j))) (.int ((bytL.getD 7 []).getD j 0))) (by decide +kernel)
theorem se_8 : ∀ j, j < 18 → (Cond.eq (.elem (.field (tmS 8) "java/lang/String" "value" "[B") (.int (Int32.ofNat j))) (.int ((bytL.getD 8 []).getD j 0))) ∈ flatC (Jvm.Cond.and given_1 narrow_1) := mem_dt (b := 398) (f := fun j => Cond.eq (.elem (.field (tmS 8) "java/lang/String" "value" "[B") (.int (Int32.ofNat j))) (.int ((bytL.getD 8 []).getD j 0))) (by decide +kernel)
theorem se_9 : ∀ j, j < 3 → (Cond.eq (.elem (.field (tmS 9) "java/lang/String" "value" "[B") (.int (Int32.ofNat j))) (.int ((bytL.getD 9 []).getD j 0))) ∈ flatC (Jvm.Cond.and given_1 narrow_1) := mem_dt (b := 428) (f := fun j => Cond.eq (.elem (.field (tmS 9) "java/lang/String" "value" "[B") (.int (Int32.ofNat j))) (.int ((bytL.getD 9 []).getD j 0))) (by decide +kernel)
theorem ss_el : ∀ i, i < 10 → ∀ j, j < lenL.getD i 0 → (Cond.eq (.elem (.field (tmS i) "java/lang/String" "value" "[B") (.int (Int32.ofNat j))) (.int ((bytL.getD i []).getD j 0))) ∈ flatC (Jvm.Cond.and given_1 narrow_1) := by
  intro i hi
  rcases (show i = 0 ∨ i = 1 ∨ i = 2 ∨ i = 3 ∨ i = 4 ∨ i = 5 ∨ i = 6 ∨ i = 7 ∨ i = 8 ∨ i = 9 by omega) with rfl | rfl | rfl | rfl | rfl | rfl | rfl | rfl | rfl | rfl
  · exact se_0
  · exact se_1
  · exact se_2
  · exact se_3
  · exact se_4
  · exact se_5
  · exact se_6
  · exact se_7
  · exact se_8
  · exact se_9
theorem ss_ne : ∀ i, i < 10 → ∀ j, j < 10 → i ≠ j → ((Cond.not (Cond.eq (tmS i) (tmS j))) ∈ flatC (Jvm.Cond.and given_1 narrow_1) ∨ (Cond.not (Cond.eq (tmS j) (tmS i))) ∈ flatC (Jvm.Cond.and given_1 narrow_1)) := by decide +kernel
theorem s_cs : (Cond.eq (.static "java/lang/String" "COMPACT_STRINGS" "Z") (.int 1)) ∈ flatC (Jvm.Cond.and given_1 narrow_1) := by decide +kernel
theorem s_fm : (Cond.isRef (.static "jdk/internal/util/Preconditions" "SIOOBE_FORMATTER" "Ljava/util/function/BiFunction;")) ∈ flatC (Jvm.Cond.and given_1 narrow_1) := by decide +kernel
theorem ly_FORMS : (.laysStatic "CodeGate$Code" "FORMS" "[I" : Cond) ∈ lw_tbl := (List.mem_append_right _ (List.mem_of_getElem? (i := 558) (by decide +kernel)))
theorem ly_WIDTHS : (.laysStatic "CodeGate$Code" "WIDTHS" "[I" : Cond) ∈ lw_tbl := (List.mem_append_right _ (List.mem_of_getElem? (i := 589) (by decide +kernel)))
theorem ly_NUMBERS : (.laysStatic "CodeGate$Code" "NUMBERS" "[I" : Cond) ∈ lw_tbl := (List.mem_append_right _ (List.mem_of_getElem? (i := 591) (by decide +kernel)))
theorem ly_cs : (.laysStatic "java/lang/String" "COMPACT_STRINGS" "Z" : Cond) ∈ lw_tbl := (List.mem_append_right _ (List.mem_of_getElem? (i := 380) (by decide +kernel)))
theorem ly_fm : (.laysStatic "jdk/internal/util/Preconditions" "SIOOBE_FORMATTER" "Ljava/util/function/BiFunction;" : Cond) ∈ lw_tbl := (List.mem_append_right _ (List.mem_of_getElem? (i := 396) (by decide +kernel)))
theorem sr_0 : (.stringRef "CodeGate$Pool" 101 "<init>" : Cond) ∈ lw_tbl := (List.mem_append_right _ (List.mem_of_getElem? (i := 366) (by decide +kernel)))
theorem sr_1 : (.stringRef "CodeGate$Pool" 106 "<clinit>" : Cond) ∈ lw_tbl := (List.mem_append_right _ (List.mem_of_getElem? (i := 419) (by decide +kernel)))
theorem sr_2 : (.stringRef "CodeGate$Gate" 137 "java/lang/Object" : Cond) ∈ lw_tbl := (List.mem_append_right _ (List.mem_of_getElem? (i := 494) (by decide +kernel)))
theorem sr_3 : (.stringRef "CodeGate$Gate" 197 "Code" : Cond) ∈ lw_tbl := (List.mem_append_right _ (List.mem_of_getElem? (i := 533) (by decide +kernel)))
theorem sr_4 : (.stringRef "CodeGate$Gate" 199 "ConstantValue" : Cond) ∈ lw_tbl := (List.mem_append_right _ (List.mem_of_getElem? (i := 534) (by decide +kernel)))
theorem sr_5 : (.stringRef "CodeGate$Gate" 201 "Exceptions" : Cond) ∈ lw_tbl := (List.mem_append_right _ (List.mem_of_getElem? (i := 535) (by decide +kernel)))
theorem sr_6 : (.stringRef "CodeGate$Gate" 203 "SourceFile" : Cond) ∈ lw_tbl := (List.mem_append_right _ (List.mem_of_getElem? (i := 536) (by decide +kernel)))
theorem sr_7 : (.stringRef "CodeGate$Gate" 211 "J" : Cond) ∈ lw_tbl := (List.mem_append_right _ (List.mem_of_getElem? (i := 629) (by decide +kernel)))
theorem sr_8 : (.stringRef "CodeGate$Gate" 213 "Ljava/lang/String;" : Cond) ∈ lw_tbl := (List.mem_append_right _ (List.mem_of_getElem? (i := 630) (by decide +kernel)))
theorem sr_9 : (.stringRef "CodeGate$Gate" 181 "()V" : Cond) ∈ lw_tbl := (List.mem_append_right _ (List.mem_of_getElem? (i := 651) (by decide +kernel)))
theorem nx_9 : (.methodLinkNest "CodeGate" 9 ⟨"CodeGate$Walk", "<init>", "()V"⟩ "CodeGate" : Cond) ∈ lw_tbl := (List.mem_append_right _ (List.mem_of_getElem? (i := 26) (by decide +kernel)))
theorem nx_27 : (.methodLinkNest "CodeGate" 27 ⟨"CodeGate$Report", "<init>", "()V"⟩ "CodeGate" : Cond) ∈ lw_tbl := (List.mem_append_right _ (List.mem_of_getElem? (i := 204) (by decide +kernel)))
set_option maxHeartbeats 4000000 in
theorem xZ_start {s : State} {args : Array Value} (hts0 : ∀ w ∈ lw_tbl, w.before args s = true) (hts : ∀ x ∈ tb, x.before args s = true) (hgv : (Jvm.Cond.and given_1 narrow_1).before args s = true) : ∃ sk sv9 st : Nat → Nat, xZ sk sv9 st (fun q => s.heap.size ≤ q) s s.heap := by
  have hs := flat_of_before _ hgv
  have hA : ∀ a : Nat, a < s.heap.size → ¬ (fun q => s.heap.size ≤ q) a := fun a h h2 => absurd h (Nat.not_lt.mpr h2)
  obtain ⟨tFORMS, eFORMS, hFORMS⟩ := va_Tof (tm := .static "CodeGate$Code" "FORMS" "[I") (ty := .int) (N := 202) (f := fun j => .int (tab_FORMS j)) (A := fun q => s.heap.size ≤ q) (by decide) (hs _ sa_FORMS) (va_eqt (hs _ sl_FORMS)) (fun j hj => va_eqt (hs _ (se_FORMS j hj))) hA
  obtain ⟨tWIDTHS, eWIDTHS, hWIDTHS⟩ := va_Tof (tm := .static "CodeGate$Code" "WIDTHS" "[I") (ty := .int) (N := 23) (f := fun j => .int (tab_WIDTHS j)) (A := fun q => s.heap.size ≤ q) (by decide) (hs _ sa_WIDTHS) (va_eqt (hs _ sl_WIDTHS)) (fun j hj => va_eqt (hs _ (se_WIDTHS j hj))) hA
  obtain ⟨tNUMBERS, eNUMBERS, hNUMBERS⟩ := va_Tof (tm := .static "CodeGate$Code" "NUMBERS" "[I") (ty := .int) (N := 23) (f := fun j => .int (tab_NUMBERS j)) (A := fun q => s.heap.size ≤ q) (by decide) (hs _ sa_NUMBERS) (va_eqt (hs _ sl_NUMBERS)) (fun j hj => va_eqt (hs _ (se_NUMBERS j hj))) hA
  obtain ⟨sk, sv9, hS, hT⟩ := vk_Sof (N := 10) (tm := tmS) (len := lenL) (byt := bytL) (A := fun q => s.heap.size ≤ q) (args := args) (s := s) (fun i hi => lnS_lt i hi) (fun i hi => hs _ (ss_ex i hi)) (fun i hi => hs _ (ss_co i hi)) (fun i hi => hs _ (ss_ar i hi)) (fun i hi => hs _ (ss_le i hi)) (fun i hi j hj => hs _ (ss_el i hi j hj)) (fun i j hi hj h => (ss_ne i hi j hj h).imp (hs _) (hs _)) hA
  refine ⟨sk, sv9, fun i => ([tFORMS, tWIDTHS, tNUMBERS] : List Nat).getD i 0, ⟨va_Zref (hts0 _ ly_FORMS) (hts _ k_6) eFORMS hA, hFORMS⟩, ⟨va_Zref (hts0 _ ly_WIDTHS) (hts _ k_6) eWIDTHS hA, hWIDTHS⟩, ⟨va_Zref (hts0 _ ly_NUMBERS) (hts _ k_6) eNUMBERS hA, hNUMBERS⟩, va_Zof (hts0 _ ly_cs) (hts _ k_10) (va_eqi (hs _ s_cs)) hA, va_Zqof (hts0 _ ly_fm) (hts _ k_12) (hs _ s_fm) hA, hS, ?_⟩
  intro k q hk
  have hk10 : k < 10 := (List.getElem?_eq_some_iff.mp hk).1
  have e1 := hT k hk10
  rcases (show k = 0 ∨ k = 1 ∨ k = 2 ∨ k = 3 ∨ k = 4 ∨ k = 5 ∨ k = 6 ∨ k = 7 ∨ k = 8 ∨ k = 9 by omega) with rfl | rfl | rfl | rfl | rfl | rfl | rfl | rfl | rfl | rfl
  · cases hk
    exact vk_R.of (hts0 _ sr_0) e1
  · cases hk
    exact vk_R.of (hts0 _ sr_1) e1
  · cases hk
    exact vk_R.of (hts0 _ sr_2) e1
  · cases hk
    exact vk_R.of (hts0 _ sr_3) e1
  · cases hk
    exact vk_R.of (hts0 _ sr_4) e1
  · cases hk
    exact vk_R.of (hts0 _ sr_5) e1
  · cases hk
    exact vk_R.of (hts0 _ sr_6) e1
  · cases hk
    exact vk_R.of (hts0 _ sr_7) e1
  · cases hk
    exact vk_R.of (hts0 _ sr_8) e1
  · cases hk
    exact vk_R.of (hts0 _ sr_9) e1
theorem K_start {s : State} {args : Array Value} (hts : ∀ x ∈ tb, x.before args s = true) : ∃ (D : va_G) (cs : Nat → ClassId), va_K D clA (tyA cs) s := by
  obtain ⟨c0, j0, h0⟩ := u_known (C := R_C) (T := F_C) (N := 13) (n := 13) hts i_C (hts _ k_108)
  obtain ⟨c1, j1, h1⟩ := u_known (C := R_G) (T := F_G) (N := 13) (n := 13) hts i_G (hts _ k_58)
  obtain ⟨c2, j2, h2⟩ := u_known (C := R_P) (T := F_P) (N := 8) (n := 8) hts i_P (hts _ k_64)
  obtain ⟨c3, j3, h3⟩ := u_known (C := R_R) (T := F_R) (N := 5) (n := 5) hts i_R (hts _ k_203)
  obtain ⟨c4, j4, h4⟩ := u_known (C := R_W) (T := F_W) (N := 5) (n := 5) hts i_W (hts _ k_25)
  obtain ⟨c5, j5, h5⟩ := u_known (C := R_D) (T := F_D) (N := 1) (n := 1) hts i_D (hts _ k_70)
  obtain ⟨c6, j6, h6⟩ := u_known (C := R_X) (T := F_X) (N := 3) (n := 3) hts i_X (hts _ k_17)
  obtain ⟨c7, j7, h7⟩ := u_known (C := R_M) (T := F_M) (N := 34) (n := 34) hts i_M (hts _ k_689)
  obtain ⟨a0, b0, m0, p0, q0, r0⟩ := Cond.arrayClass_spec (hts _ k_56)
  obtain ⟨a1, b1, m1, p1, q1, r1⟩ := Cond.arrayClass_spec (hts _ k_79)
  obtain ⟨a2, b2, m2, p2, q2, r2⟩ := Cond.arrayClass_spec (hts _ k_797)
  refine ⟨(fun k => ([c0, c1, c2, c3, c4, c5, c6, c7] : List ClassId).getD k c0, fun k => ([j0, j1, j2, j3, j4, j5, j6, j7] : List (Nat → Nat)).getD k j0), fun k => ([a0, a1, a2] : List ClassId).getD k a0, ⟨fun k q hk => ?_, fun k q hk => ?_⟩⟩
  · have h8 : k < 8 := (List.getElem?_eq_some_iff.mp hk).1
    rcases (show k = 0 ∨ k = 1 ∨ k = 2 ∨ k = 3 ∨ k = 4 ∨ k = 5 ∨ k = 6 ∨ k = 7 by omega) with rfl | rfl | rfl | rfl | rfl | rfl | rfl | rfl
    · cases hk
      exact h0
    · cases hk
      exact h1
    · cases hk
      exact h2
    · cases hk
      exact h3
    · cases hk
      exact h4
    · cases hk
      exact h5
    · cases hk
      exact h6
    · cases hk
      exact h7
  · have h3 : k < 3 := (List.getElem?_eq_some_iff.mp hk).1
    rcases (show k = 0 ∨ k = 1 ∨ k = 2 by omega) with rfl | rfl | rfl
    · cases hk
      exact ⟨fun n z => ⟨fun k h => (by cases h), b0, q0, m0, r0⟩, p0⟩
    · cases hk
      exact ⟨fun n z => ⟨fun k h => (by cases h), b1, q1, m1, r1⟩, p1⟩
    · cases hk
      exact ⟨fun n z => ⟨fun k h => (by cases h), b2, q2, m2, r2⟩, p2⟩
theorem xW_ad {a : Nat → Nat} {cs : Nat → ClassId} {u v : St} {k : Nat} {q : Nat × va_E} (h : (xW a cs u)[k]? = some q) : ∃ q2, (xW a cs v)[k]? = some q2 ∧ q2.1 = q.1 ∧ k < 23 := by
  have h1 : ((xW a cs u).map Prod.fst)[k]? = some q.1 := by rw [List.getElem?_map, h]; rfl
  have h2 : (xW a cs u).map Prod.fst = (xW a cs v).map Prod.fst := rfl
  rw [h2, List.getElem?_map] at h1
  cases hk : (xW a cs v)[k]? with
  | none => rw [hk] at h1; cases h1
  | some q2 =>
    rw [hk] at h1
    exact ⟨q2, rfl, Option.some.inj h1, (List.getElem?_eq_some_iff.mp h).1⟩
theorem mW_ad {a : Nat → Nat} {cs : Nat → ClassId} {u v : St} {k : Nat} {q : Nat × va_E} (h : (mW a cs u)[k]? = some q) : ∃ q2, (mW a cs v)[k]? = some q2 ∧ q2.1 = q.1 ∧ k < 12 := by
  have h1 : ((mW a cs u).map Prod.fst)[k]? = some q.1 := by rw [List.getElem?_map, h]; rfl
  have h2 : (mW a cs u).map Prod.fst = (mW a cs v).map Prod.fst := rfl
  rw [h2, List.getElem?_map] at h1
  cases hk : (mW a cs v)[k]? with
  | none => rw [hk] at h1; cases h1
  | some q2 =>
    rw [hk] at h1
    exact ⟨q2, rfl, Option.some.inj h1, (List.getElem?_eq_some_iff.mp h).1⟩
set_option maxHeartbeats 4000000 in
set_option maxRecDepth 100000 in
theorem whole_open {Rel : St → St → Prop} (hRel : RelOK Rel) {p : Program} {e : Env} {s : State} {m : MethodId} {below : List Frame} {meth : Method} {c : Code} (l : Launch) {b L : Nat} {xs : Nat → Int32} (hL : L ≤ 3072) (C0 : lw_At p s m meth c b L xs) : W p l e room_1 s m #[Value.ref b] below meth c s.heap [] 0 0 (lw_Z below #[Value.ref b] s) (entryFrame m ([Value.ref b] : List Value).toArray 4) := by
  obtain ⟨hx, hb, hr, hml, hown, hts0, hX, hbl, hlocks, hgv⟩ := id C0
  have hts : ∀ x ∈ tb, x.before #[Value.ref b] s = true := fun x hx => hts0 x (tb_tbl hx)
  obtain ⟨D, cs, hK⟩ := K_start hts
  obtain ⟨sk, sv9, st, hZ⟩ := xZ_start hts0 hts hgv
  have hN : nst s := ⟨va_Nw.of rfl (hts0 _ nx_9), va_Nw.of rfl (hts0 _ nx_27)⟩
  obtain ⟨A, hAe⟩ : ∃ A : Nat → Prop, A = fun q => s.heap.size ≤ q := ⟨_, rfl⟩
  have hA : ∀ q : Nat, s.heap.size ≤ q → A q := fun q h => by rw [hAe]; exact h
  have hS : va_S A s.heap s.heap [] := va_S.rf
  have hP : va_P D clA [] s.heap := fun k q h => by simp at h
  have hD : va_D A [] := ⟨fun i j p q h => by simp at h, fun k q h => by simp at h⟩
  refine ent (Nat.le_of_ble_eq_true rfl) fun ls hl => ?_
  have hl : lv_has ls 4 [(0, .ref b)] := hl
  refine va_new (ci := 6) (fs := [.null, .null, .null]) (C := R_X) (T := F_X) (N := 3) hx hb hts i_X t_X t_X_ok hown (hts _ k_16) (hts _ k_17) (hts _ k_1) hK hP hD hS hA rfl (fun j hj => by rcases (show j = 0 ∨ j = 1 ∨ j = 2 by omega) with rfl | rfl | rfl <;> rfl) (by decide) (by decide) d_L_0 (fun xh0 H hP hD hS => ?_)
  have hP : va_P D clA [(xh0, .inr (6, [.null, .null, .null]))] H := hP
  have hD : va_D A [(xh0, .inr (6, [.null, .null, .null]))] := hD
  refine W.widen (k := 1) (n := 3) (by decide) (by decide) ?_
  refine lv_dup hx hb d_L_3 rfl ?_
  refine goC (n := 0) (rest := [.ref xh0]) hx hb hml hown hts hK NOK_nst hN (c_X_init l xh0) (Or.inl (cbI hts k_20 k_1 (by decide +kernel) (by decide +kernel) (by decide +kernel) k_18 ⟨rfl, rfl⟩ ⟨by decide, by decide⟩)) rfl k_19 hP hD hS hA [0] [] (wr := []) rfl rfl (by decide) rfl (by decide) (by decide) rfl hl.1 rfl (Nat.le_of_ble_eq_true rfl) ⟨by decide, by decide⟩ d_L_4 (fun uq H locs hP hD hS => ?_)
  obtain ⟨xq1, xq2, xq3, xq4, xq5, xq6, xq7, xq8, xq9, xq10, xq11, xq12, xq13, xq14, xq15, xq16, xq17, xq18, xq19, xq20, xq21, xq22⟩ := uq
  have hP : va_P D clA [(xh0, .inr (6, [.ref xq1, .ref xq3, .ref xq19])), (xq2, .inl (cs 0, 4000, .inl (fun _ => 0))), (xq3, .inr (1, [.ref xq8, .ref xq4, .ref xq5, .ref xq1, .ref xq15, .ref xq6, .ref xq7, .int 0, .int 0, .int 0, .int 0, .int 0, .int 0])), (xq4, .inl (cs 1, 9, .inl (fun _ => 0))), (xq5, .inl (cs 1, 360, .inl (fun _ => 0))), (xq6, .inl (cs 1, 60, .inl (fun _ => 0))), (xq7, .inl (cs 1, 60, .inl (fun _ => 0))), (xq8, .inr (2, [.ref xq9, .int 0, .ref xq1, .ref xq14, .ref xq10, .ref xq11, .ref xq12, .ref xq13])), (xq1, .inr (4, [.ref xq2, .int 0, .int 0, .int 0, .int 0])), (xq9, .inl (cs 1, 300, .inl (fun _ => 0))), (xq10, .inl (cs 1, 300, .inl (fun _ => 0))), (xq11, .inl (cs 1, 300, .inl (fun _ => 0))), (xq12, .inl (cs 1, 300, .inl (fun _ => 0))), (xq13, .inl (cs 1, 300, .inl (fun _ => 0))), (xq14, .inr (5, [.ref xq2])), (xq15, .inr (0, [.int 0, .int 0, .int 0, .int 0, .int 0, .int 0, .ref xq1, .ref xq8, .ref xq16, .ref xq17, .ref xq18, .int 0, .int 0])), (xq16, .inl (cs 0, 2000, .inl (fun _ => 0))), (xq17, .inl (cs 1, 667, .inl (fun _ => 0))), (xq18, .inl (cs 1, 667, .inl (fun _ => 0))), (xq19, .inr (3, [.ref xq20, .ref xq21, .ref xq22, .int 0, .int 0])), (xq20, .inl (cs 1, 9, .inl (fun _ => 0))), (xq21, .inl (cs 1, 360, .inl (fun _ => 0))), (xq22, .inl (cs 1, 300, .inl (fun _ => 0)))] H := hP
  have hD : va_D A [(xh0, .inr (6, [.ref xq1, .ref xq3, .ref xq19])), (xq2, .inl (cs 0, 4000, .inl (fun _ => 0))), (xq3, .inr (1, [.ref xq8, .ref xq4, .ref xq5, .ref xq1, .ref xq15, .ref xq6, .ref xq7, .int 0, .int 0, .int 0, .int 0, .int 0, .int 0])), (xq4, .inl (cs 1, 9, .inl (fun _ => 0))), (xq5, .inl (cs 1, 360, .inl (fun _ => 0))), (xq6, .inl (cs 1, 60, .inl (fun _ => 0))), (xq7, .inl (cs 1, 60, .inl (fun _ => 0))), (xq8, .inr (2, [.ref xq9, .int 0, .ref xq1, .ref xq14, .ref xq10, .ref xq11, .ref xq12, .ref xq13])), (xq1, .inr (4, [.ref xq2, .int 0, .int 0, .int 0, .int 0])), (xq9, .inl (cs 1, 300, .inl (fun _ => 0))), (xq10, .inl (cs 1, 300, .inl (fun _ => 0))), (xq11, .inl (cs 1, 300, .inl (fun _ => 0))), (xq12, .inl (cs 1, 300, .inl (fun _ => 0))), (xq13, .inl (cs 1, 300, .inl (fun _ => 0))), (xq14, .inr (5, [.ref xq2])), (xq15, .inr (0, [.int 0, .int 0, .int 0, .int 0, .int 0, .int 0, .ref xq1, .ref xq8, .ref xq16, .ref xq17, .ref xq18, .int 0, .int 0])), (xq16, .inl (cs 0, 2000, .inl (fun _ => 0))), (xq17, .inl (cs 1, 667, .inl (fun _ => 0))), (xq18, .inl (cs 1, 667, .inl (fun _ => 0))), (xq19, .inr (3, [.ref xq20, .ref xq21, .ref xq22, .int 0, .int 0])), (xq20, .inl (cs 1, 9, .inl (fun _ => 0))), (xq21, .inl (cs 1, 360, .inl (fun _ => 0))), (xq22, .inl (cs 1, 300, .inl (fun _ => 0)))] := hD
  refine W.widen (k := 23) (n := 10040) (by decide) (by decide) ?_
  refine lv_astore_n (lv' := [(1, .ref xh0), (0, .ref b)]) hx hb d_L_7 rfl hl (by decide) rfl (fun ls hl => ?_)
  refine va_new (ci := 7) (fs := [.null, .int 0, .int 0, .int 0, .int 0, .int 0, .int 0, .int 0, .null, .null, .int 0, .int 0, .int 0, .int 0, .int 0, .int 0, .int 0, .int 0, .int 0, .null, .null, .null, .null, .null, .int 0, .int 0, .null, .null, .null, .int 0, .int 0, .int 0, .int 0, .int 0]) (C := R_M) (T := F_M) (N := 34) hx hb hts i_M t_M t_M_ok hown (hts _ k_688) (hts _ k_689) (hts _ k_8) hK hP hD hS hA rfl (fun j hj => by rcases (show j = 0 ∨ j = 1 ∨ j = 2 ∨ j = 3 ∨ j = 4 ∨ j = 5 ∨ j = 6 ∨ j = 7 ∨ j = 8 ∨ j = 9 ∨ j = 10 ∨ j = 11 ∨ j = 12 ∨ j = 13 ∨ j = 14 ∨ j = 15 ∨ j = 16 ∨ j = 17 ∨ j = 18 ∨ j = 19 ∨ j = 20 ∨ j = 21 ∨ j = 22 ∨ j = 23 ∨ j = 24 ∨ j = 25 ∨ j = 26 ∨ j = 27 ∨ j = 28 ∨ j = 29 ∨ j = 30 ∨ j = 31 ∨ j = 32 ∨ j = 33 by omega) with rfl | rfl | rfl | rfl | rfl | rfl | rfl | rfl | rfl | rfl | rfl | rfl | rfl | rfl | rfl | rfl | rfl | rfl | rfl | rfl | rfl | rfl | rfl | rfl | rfl | rfl | rfl | rfl | rfl | rfl | rfl | rfl | rfl | rfl <;> rfl) (by decide) (by decide) d_L_8 (fun mh0 H hP hD hS => ?_)
  have hP : va_P D clA [(xh0, .inr (6, [.ref xq1, .ref xq3, .ref xq19])), (xq2, .inl (cs 0, 4000, .inl (fun _ => 0))), (xq3, .inr (1, [.ref xq8, .ref xq4, .ref xq5, .ref xq1, .ref xq15, .ref xq6, .ref xq7, .int 0, .int 0, .int 0, .int 0, .int 0, .int 0])), (xq4, .inl (cs 1, 9, .inl (fun _ => 0))), (xq5, .inl (cs 1, 360, .inl (fun _ => 0))), (xq6, .inl (cs 1, 60, .inl (fun _ => 0))), (xq7, .inl (cs 1, 60, .inl (fun _ => 0))), (xq8, .inr (2, [.ref xq9, .int 0, .ref xq1, .ref xq14, .ref xq10, .ref xq11, .ref xq12, .ref xq13])), (xq1, .inr (4, [.ref xq2, .int 0, .int 0, .int 0, .int 0])), (xq9, .inl (cs 1, 300, .inl (fun _ => 0))), (xq10, .inl (cs 1, 300, .inl (fun _ => 0))), (xq11, .inl (cs 1, 300, .inl (fun _ => 0))), (xq12, .inl (cs 1, 300, .inl (fun _ => 0))), (xq13, .inl (cs 1, 300, .inl (fun _ => 0))), (xq14, .inr (5, [.ref xq2])), (xq15, .inr (0, [.int 0, .int 0, .int 0, .int 0, .int 0, .int 0, .ref xq1, .ref xq8, .ref xq16, .ref xq17, .ref xq18, .int 0, .int 0])), (xq16, .inl (cs 0, 2000, .inl (fun _ => 0))), (xq17, .inl (cs 1, 667, .inl (fun _ => 0))), (xq18, .inl (cs 1, 667, .inl (fun _ => 0))), (xq19, .inr (3, [.ref xq20, .ref xq21, .ref xq22, .int 0, .int 0])), (xq20, .inl (cs 1, 9, .inl (fun _ => 0))), (xq21, .inl (cs 1, 360, .inl (fun _ => 0))), (xq22, .inl (cs 1, 300, .inl (fun _ => 0))), (mh0, .inr (7, [.null, .int 0, .int 0, .int 0, .int 0, .int 0, .int 0, .int 0, .null, .null, .int 0, .int 0, .int 0, .int 0, .int 0, .int 0, .int 0, .int 0, .int 0, .null, .null, .null, .null, .null, .int 0, .int 0, .null, .null, .null, .int 0, .int 0, .int 0, .int 0, .int 0]))] H := hP
  have hD : va_D A [(xh0, .inr (6, [.ref xq1, .ref xq3, .ref xq19])), (xq2, .inl (cs 0, 4000, .inl (fun _ => 0))), (xq3, .inr (1, [.ref xq8, .ref xq4, .ref xq5, .ref xq1, .ref xq15, .ref xq6, .ref xq7, .int 0, .int 0, .int 0, .int 0, .int 0, .int 0])), (xq4, .inl (cs 1, 9, .inl (fun _ => 0))), (xq5, .inl (cs 1, 360, .inl (fun _ => 0))), (xq6, .inl (cs 1, 60, .inl (fun _ => 0))), (xq7, .inl (cs 1, 60, .inl (fun _ => 0))), (xq8, .inr (2, [.ref xq9, .int 0, .ref xq1, .ref xq14, .ref xq10, .ref xq11, .ref xq12, .ref xq13])), (xq1, .inr (4, [.ref xq2, .int 0, .int 0, .int 0, .int 0])), (xq9, .inl (cs 1, 300, .inl (fun _ => 0))), (xq10, .inl (cs 1, 300, .inl (fun _ => 0))), (xq11, .inl (cs 1, 300, .inl (fun _ => 0))), (xq12, .inl (cs 1, 300, .inl (fun _ => 0))), (xq13, .inl (cs 1, 300, .inl (fun _ => 0))), (xq14, .inr (5, [.ref xq2])), (xq15, .inr (0, [.int 0, .int 0, .int 0, .int 0, .int 0, .int 0, .ref xq1, .ref xq8, .ref xq16, .ref xq17, .ref xq18, .int 0, .int 0])), (xq16, .inl (cs 0, 2000, .inl (fun _ => 0))), (xq17, .inl (cs 1, 667, .inl (fun _ => 0))), (xq18, .inl (cs 1, 667, .inl (fun _ => 0))), (xq19, .inr (3, [.ref xq20, .ref xq21, .ref xq22, .int 0, .int 0])), (xq20, .inl (cs 1, 9, .inl (fun _ => 0))), (xq21, .inl (cs 1, 360, .inl (fun _ => 0))), (xq22, .inl (cs 1, 300, .inl (fun _ => 0))), (mh0, .inr (7, [.null, .int 0, .int 0, .int 0, .int 0, .int 0, .int 0, .int 0, .null, .null, .int 0, .int 0, .int 0, .int 0, .int 0, .int 0, .int 0, .int 0, .int 0, .null, .null, .null, .null, .null, .int 0, .int 0, .null, .null, .null, .int 0, .int 0, .int 0, .int 0, .int 0]))] := hD
  refine W.widen (k := 24) (n := 10074) (by decide) (by decide) ?_
  refine lv_dup hx hb d_L_11 rfl ?_
  refine goC (n := 0) (rest := [.ref mh0]) hx hb hml hown hts hK NOK_T trivial (c_M_init l mh0) (Or.inl (cbI hts k_692 k_8 (by decide +kernel) (by decide +kernel) (by decide +kernel) k_690 ⟨rfl, rfl⟩ ⟨by decide, by decide⟩)) rfl k_691 hP hD hS hA [23] [0, 1, 2, 3, 4, 5, 6, 7, 8, 9, 10, 11, 12, 13, 14, 15, 16, 17, 18, 19, 20, 21, 22] (wr := [(xh0, .inr (6, [.ref xq1, .ref xq3, .ref xq19])), (xq2, .inl (cs 0, 4000, .inl (fun _ => 0))), (xq3, .inr (1, [.ref xq8, .ref xq4, .ref xq5, .ref xq1, .ref xq15, .ref xq6, .ref xq7, .int 0, .int 0, .int 0, .int 0, .int 0, .int 0])), (xq4, .inl (cs 1, 9, .inl (fun _ => 0))), (xq5, .inl (cs 1, 360, .inl (fun _ => 0))), (xq6, .inl (cs 1, 60, .inl (fun _ => 0))), (xq7, .inl (cs 1, 60, .inl (fun _ => 0))), (xq8, .inr (2, [.ref xq9, .int 0, .ref xq1, .ref xq14, .ref xq10, .ref xq11, .ref xq12, .ref xq13])), (xq1, .inr (4, [.ref xq2, .int 0, .int 0, .int 0, .int 0])), (xq9, .inl (cs 1, 300, .inl (fun _ => 0))), (xq10, .inl (cs 1, 300, .inl (fun _ => 0))), (xq11, .inl (cs 1, 300, .inl (fun _ => 0))), (xq12, .inl (cs 1, 300, .inl (fun _ => 0))), (xq13, .inl (cs 1, 300, .inl (fun _ => 0))), (xq14, .inr (5, [.ref xq2])), (xq15, .inr (0, [.int 0, .int 0, .int 0, .int 0, .int 0, .int 0, .ref xq1, .ref xq8, .ref xq16, .ref xq17, .ref xq18, .int 0, .int 0])), (xq16, .inl (cs 0, 2000, .inl (fun _ => 0))), (xq17, .inl (cs 1, 667, .inl (fun _ => 0))), (xq18, .inl (cs 1, 667, .inl (fun _ => 0))), (xq19, .inr (3, [.ref xq20, .ref xq21, .ref xq22, .int 0, .int 0])), (xq20, .inl (cs 1, 9, .inl (fun _ => 0))), (xq21, .inl (cs 1, 360, .inl (fun _ => 0))), (xq22, .inl (cs 1, 300, .inl (fun _ => 0)))]) rfl rfl (by decide) rfl (by decide) (by decide) rfl hl.1 rfl (Nat.le_of_ble_eq_true rfl) ⟨by decide, by decide⟩ d_L_12 (fun uq H locs hP hD hS => ?_)
  obtain ⟨mq1, mq2, mq3, mq4, mq5, mq6, mq7, mq8, mq9, mq10, mq11⟩ := uq
  have hP : va_P D clA [(xh0, .inr (6, [.ref xq1, .ref xq3, .ref xq19])), (xq2, .inl (cs 0, 4000, .inl (fun _ => 0))), (xq3, .inr (1, [.ref xq8, .ref xq4, .ref xq5, .ref xq1, .ref xq15, .ref xq6, .ref xq7, .int 0, .int 0, .int 0, .int 0, .int 0, .int 0])), (xq4, .inl (cs 1, 9, .inl (fun _ => 0))), (xq5, .inl (cs 1, 360, .inl (fun _ => 0))), (xq6, .inl (cs 1, 60, .inl (fun _ => 0))), (xq7, .inl (cs 1, 60, .inl (fun _ => 0))), (xq8, .inr (2, [.ref xq9, .int 0, .ref xq1, .ref xq14, .ref xq10, .ref xq11, .ref xq12, .ref xq13])), (xq1, .inr (4, [.ref xq2, .int 0, .int 0, .int 0, .int 0])), (xq9, .inl (cs 1, 300, .inl (fun _ => 0))), (xq10, .inl (cs 1, 300, .inl (fun _ => 0))), (xq11, .inl (cs 1, 300, .inl (fun _ => 0))), (xq12, .inl (cs 1, 300, .inl (fun _ => 0))), (xq13, .inl (cs 1, 300, .inl (fun _ => 0))), (xq14, .inr (5, [.ref xq2])), (xq15, .inr (0, [.int 0, .int 0, .int 0, .int 0, .int 0, .int 0, .ref xq1, .ref xq8, .ref xq16, .ref xq17, .ref xq18, .int 0, .int 0])), (xq16, .inl (cs 0, 2000, .inl (fun _ => 0))), (xq17, .inl (cs 1, 667, .inl (fun _ => 0))), (xq18, .inl (cs 1, 667, .inl (fun _ => 0))), (xq19, .inr (3, [.ref xq20, .ref xq21, .ref xq22, .int 0, .int 0])), (xq20, .inl (cs 1, 9, .inl (fun _ => 0))), (xq21, .inl (cs 1, 360, .inl (fun _ => 0))), (xq22, .inl (cs 1, 300, .inl (fun _ => 0))), (mh0, .inr (7, [.ref mq1, .int 0, .int 0, .int 0, .int 0, .int 0, .int 0, .int 0, .ref mq2, .ref mq3, .int 0, .int 0, .int 0, .int 0, .int 0, .int 0, .int 0, .int 0, .int 0, .ref mq4, .ref mq5, .ref mq6, .ref mq7, .ref mq8, .int 0, .int 0, .ref mq9, .ref mq10, .ref mq11, .int 0, .int 0, .int 0, .int 0, .int 0])), (mq1, .inl (cs 0, 4000, .inl (fun _ => 0))), (mq2, .inl (cs 1, 300, .inl (fun _ => 0))), (mq3, .inl (cs 1, 300, .inl (fun _ => 0))), (mq4, .inl (cs 1, 360, .inl (fun _ => 0))), (mq5, .inl (cs 1, 60, .inl (fun _ => 0))), (mq6, .inl (cs 1, 60, .inl (fun _ => 0))), (mq7, .inl (cs 1, 20, .inl (fun _ => 0))), (mq8, .inl (cs 2, 2001, .inl (fun _ => 0))), (mq9, .inl (cs 1, 9, .inl (fun _ => 0))), (mq10, .inl (cs 1, 360, .inl (fun _ => 0))), (mq11, .inl (cs 1, 300, .inl (fun _ => 0)))] H := hP
  have hD : va_D A [(xh0, .inr (6, [.ref xq1, .ref xq3, .ref xq19])), (xq2, .inl (cs 0, 4000, .inl (fun _ => 0))), (xq3, .inr (1, [.ref xq8, .ref xq4, .ref xq5, .ref xq1, .ref xq15, .ref xq6, .ref xq7, .int 0, .int 0, .int 0, .int 0, .int 0, .int 0])), (xq4, .inl (cs 1, 9, .inl (fun _ => 0))), (xq5, .inl (cs 1, 360, .inl (fun _ => 0))), (xq6, .inl (cs 1, 60, .inl (fun _ => 0))), (xq7, .inl (cs 1, 60, .inl (fun _ => 0))), (xq8, .inr (2, [.ref xq9, .int 0, .ref xq1, .ref xq14, .ref xq10, .ref xq11, .ref xq12, .ref xq13])), (xq1, .inr (4, [.ref xq2, .int 0, .int 0, .int 0, .int 0])), (xq9, .inl (cs 1, 300, .inl (fun _ => 0))), (xq10, .inl (cs 1, 300, .inl (fun _ => 0))), (xq11, .inl (cs 1, 300, .inl (fun _ => 0))), (xq12, .inl (cs 1, 300, .inl (fun _ => 0))), (xq13, .inl (cs 1, 300, .inl (fun _ => 0))), (xq14, .inr (5, [.ref xq2])), (xq15, .inr (0, [.int 0, .int 0, .int 0, .int 0, .int 0, .int 0, .ref xq1, .ref xq8, .ref xq16, .ref xq17, .ref xq18, .int 0, .int 0])), (xq16, .inl (cs 0, 2000, .inl (fun _ => 0))), (xq17, .inl (cs 1, 667, .inl (fun _ => 0))), (xq18, .inl (cs 1, 667, .inl (fun _ => 0))), (xq19, .inr (3, [.ref xq20, .ref xq21, .ref xq22, .int 0, .int 0])), (xq20, .inl (cs 1, 9, .inl (fun _ => 0))), (xq21, .inl (cs 1, 360, .inl (fun _ => 0))), (xq22, .inl (cs 1, 300, .inl (fun _ => 0))), (mh0, .inr (7, [.ref mq1, .int 0, .int 0, .int 0, .int 0, .int 0, .int 0, .int 0, .ref mq2, .ref mq3, .int 0, .int 0, .int 0, .int 0, .int 0, .int 0, .int 0, .int 0, .int 0, .ref mq4, .ref mq5, .ref mq6, .ref mq7, .ref mq8, .int 0, .int 0, .ref mq9, .ref mq10, .ref mq11, .int 0, .int 0, .int 0, .int 0, .int 0])), (mq1, .inl (cs 0, 4000, .inl (fun _ => 0))), (mq2, .inl (cs 1, 300, .inl (fun _ => 0))), (mq3, .inl (cs 1, 300, .inl (fun _ => 0))), (mq4, .inl (cs 1, 360, .inl (fun _ => 0))), (mq5, .inl (cs 1, 60, .inl (fun _ => 0))), (mq6, .inl (cs 1, 60, .inl (fun _ => 0))), (mq7, .inl (cs 1, 20, .inl (fun _ => 0))), (mq8, .inl (cs 2, 2001, .inl (fun _ => 0))), (mq9, .inl (cs 1, 9, .inl (fun _ => 0))), (mq10, .inl (cs 1, 360, .inl (fun _ => 0))), (mq11, .inl (cs 1, 300, .inl (fun _ => 0)))] := hD
  refine W.widen (k := 35) (n := 17844) (by decide) (by decide) ?_
  refine lv_astore_n (lv' := [(2, .ref mh0), (1, .ref xh0), (0, .ref b)]) hx hb d_L_15 rfl hl (by decide) rfl (fun ls hl => ?_)
  refine lv_iconst (v := 0) hx hb d_L_16 (by decide) ?_
  refine lv_istore_n (lv' := [(3, .int 0), (2, .ref mh0), (1, .ref xh0), (0, .ref b)]) hx hb d_L_17 rfl hl (by decide) rfl (fun ls hl => ?_)
  obtain ⟨fa, hfa⟩ : ∃ z : Nat → Nat, z = (fun i => ([xq15, xq3, xq8, xq19, xq1, xq14, xh0, xq2, xq20, xq21, xq22, xq9, xq10, xq11, xq12, xq13, xq16, xq17, xq18, xq4, xq5, xq6, xq7] : List Nat).getD i 0) := ⟨_, rfl⟩
  obtain ⟨fb, hfb⟩ : ∃ z : Nat → Nat, z = (fun i => ([mh0, mq1, mq2, mq3, mq4, mq5, mq6, mq7, mq8, mq9, mq10, mq11] : List Nat).getD i 0) := ⟨_, rfl⟩
  have hPX : va_P D clA (xW fa cs u0) H := by rw [hfa]; exact hP.sub [15, 2, 7, 19, 8, 14, 0, 1, 20, 21, 22, 9, 10, 11, 12, 13, 16, 17, 18, 3, 4, 5, 6] rfl
  have hPM : va_P D clA (mW fb cs u0) H := by rw [hfb]; exact hP.sub [23, 24, 25, 26, 27, 28, 29, 30, 31, 32, 33, 34] rfl
  have hDD : va_D A (xW fa cs u0 ++ mW fb cs u0) := by rw [hfa, hfb]; exact hD.sub [15, 2, 7, 19, 8, 14, 0, 1, 20, 21, 22, 9, 10, 11, 12, 13, 16, 17, 18, 3, 4, 5, 6, 23, 24, 25, 26, 27, 28, 29, 30, 31, 32, 33, 34] (by decide) rfl
  have e6 : fa 6 = xh0 := by rw [hfa]; rfl
  have e0 : fb 0 = mh0 := by rw [hfb]; rfl
  have inX : ∀ (u : St) (k : Nat) (q : Nat × va_E), (xW fa cs u)[k]? = some q → ∃ q2, (xW fa cs u0 ++ mW fb cs u0)[k]? = some q2 ∧ q2.1 = q.1 ∧ k < 23 := by
    intro u k q h
    obtain ⟨q2, h1, h2, h3⟩ := xW_ad (v := u0) h
    exact ⟨q2, by rw [List.getElem?_append_left h3]; exact h1, h2, h3⟩
  have inM : ∀ (u : St) (k : Nat) (q : Nat × va_E), (mW fb cs u)[k]? = some q → ∃ q2, (xW fa cs u0 ++ mW fb cs u0)[23 + k]? = some q2 ∧ q2.1 = q.1 := by
    intro u k q h
    obtain ⟨q2, h1, h2, h3⟩ := mW_ad (v := u0) h
    refine ⟨q2, ?_, h2⟩
    rw [List.getElem?_append_right (show (xW fa cs u0).length ≤ 23 + k from Nat.le_add_right _ _), show 23 + k - (xW fa cs u0).length = k from Nat.add_sub_cancel_left _ _]
    exact h1
  have hwX : wD (xW fa cs) := by
    intro u
    refine ⟨fun i j p q h1 h2 h3 => ?_, fun _ _ _ => trivial⟩
    obtain ⟨p2, a1, a2, -⟩ := inX u i p h1
    obtain ⟨q2, b1, b2, -⟩ := inX u j q h2
    exact hDD.1 i j p2 q2 a1 b1 (by rw [a2, b2, h3])
  have hwM : wD (mW fb cs) := by
    intro u
    refine ⟨fun i j p q h1 h2 h3 => ?_, fun _ _ _ => trivial⟩
    obtain ⟨p2, a1, a2⟩ := inM u i p h1
    obtain ⟨q2, b1, b2⟩ := inM u j q h2
    have := hDD.1 _ _ p2 q2 a1 b1 (by rw [a2, b2, h3])
    omega
  subst hAe
  rw [← e6, ← e0] at hl
  refine law_loop hRel hL C0 hK hwX hwM hZ ?_ ?_ ?_ (L + 1) 0 u0 u0 H locs ls (Nat.zero_le _) (by omega) (fun _ => ⟨rfl, rfl⟩) hRel.1 hPX hPM hS (lv_sub hl [3, 2, 1, 0] rfl)
  · intro u k q h
    obtain ⟨q2, a1, a2, -⟩ := inX u k q h
    rw [← a2]
    exact hDD.2 _ q2 a1
  · intro u k q h
    obtain ⟨q2, a1, a2⟩ := inM u k q h
    rw [← a2]
    exact hDD.2 _ q2 a1
  · intro u v k j q1 q2 h1 h2 h3
    obtain ⟨p1, a1, a2, a3⟩ := inX u k q1 h1
    obtain ⟨p2, b1, b2⟩ := inM v j q2 h2
    have := hDD.1 _ _ p1 p2 a1 b1 (by rw [a2, b2, h3])
    omega

/-! THE BITS of what the class notes -/
theorem mf_bits : ∀ sl, sl < 251 → ∀ fl vd : Bool, (((fb fl ||| (nI sl <<< (8 &&& 31))) ||| (if vd then 128 else 0)) &&& 255 = fb fl ||| (if vd then 128 else 0)) ∧ (((fb fl ||| (nI sl <<< (8 &&& 31))) ||| (if vd then 128 else 0)) >>> (8 &&& 31) = nI sl) := by decide +kernel
theorem mdE_sl {F : Nat → Nat} {n a : Nat} {fl vd : Bool} {sl : Nat} (h : mdE F n a = some (fl, sl, vd)) : sl < 251 := by
  unfold mdE at h
  split at h
  · cases h
  · split at h
    · cases h
    · rename_i q
      split at h
      · split at h
        · cases h; omega
        · cases h
      · split at h
        · cases h
        · split at h
          · cases h; omega
          · cases h
theorem mdE_sl_o {F : Nat → Nat} {n a : Nat} {fl vd : Bool} {sl : Nat} (h : mdE_o F n a = some (fl, sl, vd)) : sl < 251 := by
  unfold mdE_o at h
  split at h
  · cases h
  · split at h
    · cases h
    · rename_i q
      split at h
      · split at h
        · cases h; omega
        · cases h
      · split at h
        · cases h
        · split at h
          · cases h; omega
          · cases h
section BITS
variable (F : Nat → Nat) (B : Nat → Nat) (t : Nat)
/-- the name's case -/
theorem nm_case : (wT F B 1 t = true ∧ wT F B 0 t = false ∧ plT F B t = false ∧ cnT F B t = false ∧ nmv F (tn F B t) (ta B t) = 8) ∨ (wT F B 1 t = false ∧ wT F B 0 t = true ∧ plT F B t = false ∧ cnT F B t = false ∧ nmv F (tn F B t) (ta B t) = 4) ∨ (wT F B 1 t = false ∧ wT F B 0 t = false ∧ plT F B t = true ∧ cnT F B t = true ∧ nmv F (tn F B t) (ta B t) = 3) ∨ (wT F B 1 t = false ∧ wT F B 0 t = false ∧ plT F B t = false ∧ cnT F B t = true ∧ nmv F (tn F B t) (ta B t) = 2) ∨ (wT F B 1 t = false ∧ wT F B 0 t = false ∧ plT F B t = false ∧ cnT F B t = false ∧ nmv F (tn F B t) (ta B t) = 0) := by
  unfold wT plT cnT nmv
  generalize tn F B t = n
  generalize ta B t = a
  have w0 : isW F 0 n a = true → n = 6 ∧ F a = 60 := by
    intro h
    unfold isW at h
    simp only [Bool.and_eq_true, beq_iff_eq] at h
    have e : lnS 0 = 6 := by decide
    rw [e] at h
    refine ⟨h.1, ?_⟩
    rw [h.1] at h
    have := h.2
    simp only [spN, Bool.and_eq_true, beq_iff_eq] at this
    exact this.1
  have w1 : isW F 1 n a = true → n = 8 ∧ F a = 60 := by
    intro h
    unfold isW at h
    simp only [Bool.and_eq_true, beq_iff_eq] at h
    have e : lnS 1 = 8 := by decide
    rw [e] at h
    refine ⟨h.1, ?_⟩
    rw [h.1] at h
    have := h.2
    simp only [spN, Bool.and_eq_true, beq_iff_eq] at this
    exact this.1
  have bad : ∀ m, n = m + 1 → F a = 60 → cn F n a false = false ∧ pl F n a = false := by
    intro m hm hf
    rw [hm, cn, pl, hf]
    simp [badc]
  by_cases a1 : isW F 1 n a = true
  · obtain ⟨q1, q2⟩ := w1 a1
    obtain ⟨b1, b2⟩ := bad 7 q1 q2
    have a0 : isW F 0 n a = false := by
      by_cases z : isW F 0 n a = true
      · have := (w0 z).1; omega
      · simpa using z
    simp [a1, a0, b1, b2]
  · have a1' : isW F 1 n a = false := by simpa using a1
    by_cases a0 : isW F 0 n a = true
    · obtain ⟨q1, q2⟩ := w0 a0
      obtain ⟨b1, b2⟩ := bad 5 q1 q2
      simp [a1', a0, b1, b2]
    · have a0' : isW F 0 n a = false := by simpa using a0
      by_cases c1 : pl F n a = true
      · have c2 := cn_pl n a false c1
        by_cases z : 0 < n
        · simp [a1', a0', c1, c2, z]
        · simp [a1', a0', c1, c2, z]
      · have c1' : pl F n a = false := by simpa using c1
        by_cases c2 : cn F n a false = true
        · simp [a1', a0', c1', c2]
        · have c2' : cn F n a false = false := by simpa using c2
          simp [a1', a0', c1', c2']
theorem tyE_40 {n a : Nat} (h : F a = 40) : tyE F n a = none := by
  unfold tyE
  have hb : br F n a = 0 := by
    cases n with
    | zero => rfl
    | succ n => rw [br, if_neg (by omega)]
  rw [hb]
  by_cases h0 : n ≤ 0
  · rw [if_pos (Or.inl h0)]
  · rw [if_neg (by omega), Nat.add_zero, h, if_neg (by decide), if_neg (by decide)]
/-- the type's case -/
theorem tf_case : (dsT F B t = none ∧ fdT F B t = none ∧ mtT F B t = none ∧ tfR F (tn F B t) (ta B t) &&& 255 = 0 ∧ msv F (tn F B t) (ta B t) = 0) ∨ (∃ r, hdT F B 40 t = false ∧ dsT F B t = some r ∧ fdT F B t = some r ∧ mtT F B t = none ∧ tfR F (tn F B t) (ta B t) &&& 255 = (if r then 80 else 16) ∧ msv F (tn F B t) (ta B t) = 0) ∨ (∃ fl sl vd, hdT F B 40 t = true ∧ sl < 251 ∧ dsT F B t = some fl ∧ fdT F B t = none ∧ mtT F B t = some (fl, sl, vd) ∧ tfR F (tn F B t) (ta B t) &&& 255 = fb fl ||| (if vd then 128 else 0) ∧ msv F (tn F B t) (ta B t) = nI sl) := by
  by_cases h : hdT F B 40 t = true
  · have h2 := h
    unfold hdT at h2
    simp only [Bool.and_eq_true, decide_eq_true_eq, beq_iff_eq] at h2
    have e2 : fdT F B t = none := by unfold fdT; rw [tyE_40 F h2.2]
    have e4 : tfR F (tn F B t) (ta B t) = mfR (mdE F (tn F B t - 1) (ta B t + 1)) := by unfold tfR; rw [if_neg (by omega), if_pos h2.2]
    have e1 : mtT F B t = mdE F (tn F B t - 1) (ta B t + 1) := by unfold mtT; rw [if_pos h]
    have e3 : dsT F B t = (mtT F B t).map (fun q => q.1) := by unfold dsT; rw [if_pos h]
    unfold msv
    rw [e3, e1, e2, e4]
    cases hm : mdE F (tn F B t - 1) (ta B t + 1) with
    | none => exact Or.inl ⟨rfl, rfl, rfl, by decide, by decide⟩
    | some q =>
      obtain ⟨fl, sl, vd⟩ := q
      have hs := mdE_sl hm
      have hb := mf_bits sl hs fl vd
      exact Or.inr (Or.inr ⟨fl, sl, vd, h, hs, rfl, rfl, rfl, hb.1, hb.2⟩)
  · have h' : hdT F B 40 t = false := by simpa using h
    have e1 : mtT F B t = none := by unfold mtT; rw [if_neg h]
    have e3 : dsT F B t = fdT F B t := by unfold dsT; rw [if_neg h]
    unfold msv
    rw [e3, e1]
    by_cases h0 : tn F B t = 0
    · have hty : tyE F (tn F B t) (ta B t) = none := by
        rw [h0]; unfold tyE; rw [if_pos (Or.inl (Nat.zero_le _))]
      have e2 : fdT F B t = none := by unfold fdT; rw [hty]
      have e4 : tfR F (tn F B t) (ta B t) = 0 := by unfold tfR; rw [if_pos h0]
      rw [e2, e4]
      exact Or.inl ⟨rfl, rfl, rfl, by decide, by decide⟩
    · have hne : ¬ F (ta B t) = 40 := by
        intro z
        unfold hdT at h'
        simp [z] at h'
        omega
      cases hty : tyE F (tn F B t) (ta B t) with
      | none =>
        have e2 : fdT F B t = none := by unfold fdT; rw [hty]
        have e4 : tfR F (tn F B t) (ta B t) = 0 := by unfold tfR; rw [if_neg h0, if_neg hne, hty]
        rw [e2, e4]
        exact Or.inl ⟨rfl, rfl, rfl, by decide, by decide⟩
      | some q =>
        by_cases hq : q = tn F B t
        · have e2 : fdT F B t = some (isR (F (ta B t + tn F B t - 1))) := by unfold fdT; rw [hty]; simp only [if_pos hq]
          have e4 : tfR F (tn F B t) (ta B t) = if isR (F (ta B t + tn F B t - 1)) then 80 else 16 := by unfold tfR; rw [if_neg h0, if_neg hne, hty]; simp only [if_pos hq]
          rw [e2, e4]
          refine Or.inr (Or.inl ⟨_, h', rfl, rfl, rfl, ?_, ?_⟩)
          · split <;> decide
          · split <;> decide
        · have e2 : fdT F B t = none := by unfold fdT; rw [hty]; simp only [if_neg hq]
          have e4 : tfR F (tn F B t) (ta B t) = 0 := by unfold tfR; rw [if_neg h0, if_neg hne, hty]; simp only [if_neg hq]
          rw [e2, e4]
          exact Or.inl ⟨rfl, rfl, rfl, by decide, by decide⟩
/-- the type's case -/
theorem tf_case_o : (dsT_o F B t = none ∧ fdT F B t = none ∧ mtT_o F B t = none ∧ tfR_o F (tn F B t) (ta B t) &&& 255 = 0 ∧ msv_o F (tn F B t) (ta B t) = 0) ∨ (∃ r, hdT F B 40 t = false ∧ dsT_o F B t = some r ∧ fdT F B t = some r ∧ mtT_o F B t = none ∧ tfR_o F (tn F B t) (ta B t) &&& 255 = (if r then 80 else 16) ∧ msv_o F (tn F B t) (ta B t) = 0) ∨ (∃ fl sl vd, hdT F B 40 t = true ∧ sl < 251 ∧ dsT_o F B t = some fl ∧ fdT F B t = none ∧ mtT_o F B t = some (fl, sl, vd) ∧ tfR_o F (tn F B t) (ta B t) &&& 255 = fb fl ||| (if vd then 128 else 0) ∧ msv_o F (tn F B t) (ta B t) = nI sl) := by
  by_cases h : hdT F B 40 t = true
  · have h2 := h
    unfold hdT at h2
    simp only [Bool.and_eq_true, decide_eq_true_eq, beq_iff_eq] at h2
    have e2 : fdT F B t = none := by unfold fdT; rw [tyE_40 F h2.2]
    have e4 : tfR_o F (tn F B t) (ta B t) = mfR (mdE_o F (tn F B t - 1) (ta B t + 1)) := by unfold tfR_o; rw [if_neg (by omega), if_pos h2.2]
    have e1 : mtT_o F B t = mdE_o F (tn F B t - 1) (ta B t + 1) := by unfold mtT_o; rw [if_pos h]
    have e3 : dsT_o F B t = (mtT_o F B t).map (fun q => q.1) := by unfold dsT_o; rw [if_pos h]
    unfold msv_o
    rw [e3, e1, e2, e4]
    cases hm : mdE_o F (tn F B t - 1) (ta B t + 1) with
    | none => exact Or.inl ⟨rfl, rfl, rfl, by decide, by decide⟩
    | some q =>
      obtain ⟨fl, sl, vd⟩ := q
      have hs := mdE_sl_o hm
      have hb := mf_bits sl hs fl vd
      exact Or.inr (Or.inr ⟨fl, sl, vd, h, hs, rfl, rfl, rfl, hb.1, hb.2⟩)
  · have h' : hdT F B 40 t = false := by simpa using h
    have e1 : mtT_o F B t = none := by unfold mtT_o; rw [if_neg h]
    have e3 : dsT_o F B t = fdT F B t := by unfold dsT_o; rw [if_neg h]
    unfold msv_o
    rw [e3, e1]
    by_cases h0 : tn F B t = 0
    · have hty : tyE F (tn F B t) (ta B t) = none := by
        rw [h0]; unfold tyE; rw [if_pos (Or.inl (Nat.zero_le _))]
      have e2 : fdT F B t = none := by unfold fdT; rw [hty]
      have e4 : tfR_o F (tn F B t) (ta B t) = 0 := by unfold tfR_o; rw [if_pos h0]
      rw [e2, e4]
      exact Or.inl ⟨rfl, rfl, rfl, by decide, by decide⟩
    · have hne : ¬ F (ta B t) = 40 := by
        intro z
        unfold hdT at h'
        simp [z] at h'
        omega
      cases hty : tyE F (tn F B t) (ta B t) with
      | none =>
        have e2 : fdT F B t = none := by unfold fdT; rw [hty]
        have e4 : tfR_o F (tn F B t) (ta B t) = 0 := by unfold tfR_o; rw [if_neg h0, if_neg hne, hty]
        rw [e2, e4]
        exact Or.inl ⟨rfl, rfl, rfl, by decide, by decide⟩
      | some q =>
        by_cases hq : q = tn F B t
        · have e2 : fdT F B t = some (isR (F (ta B t + tn F B t - 1))) := by unfold fdT; rw [hty]; simp only [if_pos hq]
          have e4 : tfR_o F (tn F B t) (ta B t) = if isR (F (ta B t + tn F B t - 1)) then 80 else 16 := by unfold tfR_o; rw [if_neg h0, if_neg hne, hty]; simp only [if_pos hq]
          rw [e2, e4]
          refine Or.inr (Or.inl ⟨_, h', rfl, rfl, rfl, ?_, ?_⟩)
          · split <;> decide
          · split <;> decide
        · have e2 : fdT F B t = none := by unfold fdT; rw [hty]; simp only [if_neg hq]
          have e4 : tfR_o F (tn F B t) (ta B t) = 0 := by unfold tfR_o; rw [if_neg h0, if_neg hne, hty]; simp only [if_neg hq]
          rw [e2, e4]
          exact Or.inl ⟨rfl, rfl, rfl, by decide, by decide⟩
theorem fc_1_o : (fcv_o F (tn F B t) (ta B t) &&& 1 = 0) ↔ plT F B t = false := by
  unfold fcv_o
  rcases nm_case F B t with ⟨-, -, h, -, e⟩ | ⟨-, -, h, -, e⟩ | ⟨-, -, h, -, e⟩ | ⟨-, -, h, -, e⟩ | ⟨-, -, h, -, e⟩ <;> rcases tf_case_o F B t with ⟨-, -, -, g, -⟩ | ⟨r, -, -, -, -, g, -⟩ | ⟨fl, sl, vd, -, -, -, -, -, g, -⟩ <;> rw [e, g, h] <;> first | decide | (cases r <;> decide) | (cases fl <;> cases vd <;> decide)
theorem fc_2_o : (fcv_o F (tn F B t) (ta B t) &&& 2 = 0) ↔ cnT F B t = false := by
  unfold fcv_o
  rcases nm_case F B t with ⟨-, -, -, h, e⟩ | ⟨-, -, -, h, e⟩ | ⟨-, -, -, h, e⟩ | ⟨-, -, -, h, e⟩ | ⟨-, -, -, h, e⟩ <;> rcases tf_case_o F B t with ⟨-, -, -, g, -⟩ | ⟨r, -, -, -, -, g, -⟩ | ⟨fl, sl, vd, -, -, -, -, -, g, -⟩ <;> rw [e, g, h] <;> first | decide | (cases r <;> decide) | (cases fl <;> cases vd <;> decide)
theorem fc_4_o : fcv_o F (tn F B t) (ta B t) &&& 4 = if wT F B 0 t then 4 else 0 := by
  unfold fcv_o
  rcases nm_case F B t with ⟨-, h, -, -, e⟩ | ⟨-, h, -, -, e⟩ | ⟨-, h, -, -, e⟩ | ⟨-, h, -, -, e⟩ | ⟨-, h, -, -, e⟩ <;> rcases tf_case_o F B t with ⟨-, -, -, g, -⟩ | ⟨r, -, -, -, -, g, -⟩ | ⟨fl, sl, vd, -, -, -, -, -, g, -⟩ <;> rw [e, g, h] <;> first | decide | (cases r <;> decide) | (cases fl <;> cases vd <;> decide)
theorem fc_13_o : (fcv_o F (tn F B t) (ta B t) &&& 13 = 0) ↔ (plT F B t || wT F B 0 t || wT F B 1 t) = false := by
  unfold fcv_o
  rcases nm_case F B t with ⟨h1, h2, h, -, e⟩ | ⟨h1, h2, h, -, e⟩ | ⟨h1, h2, h, -, e⟩ | ⟨h1, h2, h, -, e⟩ | ⟨h1, h2, h, -, e⟩ <;> rcases tf_case_o F B t with ⟨-, -, -, g, -⟩ | ⟨r, -, -, -, -, g, -⟩ | ⟨fl, sl, vd, -, -, -, -, -, g, -⟩ <;> rw [e, g, h, h1, h2] <;> first | decide | (cases r <;> decide) | (cases fl <;> cases vd <;> decide)
theorem fc_8_o : (fcv_o F (tn F B t) (ta B t) &&& 8 = 0) ↔ wT F B 1 t = false := by
  unfold fcv_o
  rcases nm_case F B t with ⟨h, -, -, -, e⟩ | ⟨h, -, -, -, e⟩ | ⟨h, -, -, -, e⟩ | ⟨h, -, -, -, e⟩ | ⟨h, -, -, -, e⟩ <;> rcases tf_case_o F B t with ⟨-, -, -, g, -⟩ | ⟨r, -, -, -, -, g, -⟩ | ⟨fl, sl, vd, -, -, -, -, -, g, -⟩ <;> rw [e, g, h] <;> first | decide | (cases r <;> decide) | (cases fl <;> cases vd <;> decide)
theorem fc_16_o : (fcv_o F (tn F B t) (ta B t) &&& 16 = 0) ↔ (fdT F B t).isSome = false := by
  unfold fcv_o
  rcases nm_case F B t with ⟨-, -, -, -, e⟩ | ⟨-, -, -, -, e⟩ | ⟨-, -, -, -, e⟩ | ⟨-, -, -, -, e⟩ | ⟨-, -, -, -, e⟩ <;> rcases tf_case_o F B t with ⟨-, h, -, g, -⟩ | ⟨r, -, -, h, -, g, -⟩ | ⟨fl, sl, vd, -, -, -, h, -, g, -⟩ <;> rw [e, g, h] <;> first | decide | (cases r <;> decide) | (cases fl <;> cases vd <;> decide)
theorem fc_32_o : (fcv_o F (tn F B t) (ta B t) &&& 32 = 0) ↔ (mtT_o F B t).isSome = false := by
  unfold fcv_o
  rcases nm_case F B t with ⟨-, -, -, -, e⟩ | ⟨-, -, -, -, e⟩ | ⟨-, -, -, -, e⟩ | ⟨-, -, -, -, e⟩ | ⟨-, -, -, -, e⟩ <;> rcases tf_case_o F B t with ⟨-, -, h, g, -⟩ | ⟨r, -, -, -, h, g, -⟩ | ⟨fl, sl, vd, -, -, -, -, h, g, -⟩ <;> rw [e, g, h] <;> first | decide | (cases r <;> decide) | (cases fl <;> cases vd <;> simp [fb] <;> decide)
theorem fc_48_o : (fcv_o F (tn F B t) (ta B t) &&& 48 = 0) ↔ (dsT_o F B t).isSome = false := by
  unfold fcv_o
  rcases nm_case F B t with ⟨-, -, -, -, e⟩ | ⟨-, -, -, -, e⟩ | ⟨-, -, -, -, e⟩ | ⟨-, -, -, -, e⟩ | ⟨-, -, -, -, e⟩ <;> rcases tf_case_o F B t with ⟨h, -, -, g, -⟩ | ⟨r, -, h, -, -, g, -⟩ | ⟨fl, sl, vd, -, -, h, -, -, g, -⟩ <;> rw [e, g, h] <;> first | decide | (cases r <;> decide) | (cases fl <;> cases vd <;> decide)
theorem fc_64_o : (fcv_o F (tn F B t) (ta B t) &&& 64 = 0) ↔ (dsT_o F B t != some true) = true := by
  unfold fcv_o
  rcases nm_case F B t with ⟨-, -, -, -, e⟩ | ⟨-, -, -, -, e⟩ | ⟨-, -, -, -, e⟩ | ⟨-, -, -, -, e⟩ | ⟨-, -, -, -, e⟩ <;> rcases tf_case_o F B t with ⟨h, -, -, g, -⟩ | ⟨r, -, h, -, -, g, -⟩ | ⟨fl, sl, vd, -, -, h, -, -, g, -⟩ <;> rw [e, g, h] <;> first | decide | (cases r <;> decide) | (cases fl <;> cases vd <;> decide)
theorem fc_128_o : (fcv_o F (tn F B t) (ta B t) &&& 128 = 0) ↔ voT_o F B t = false := by
  unfold fcv_o voT_o
  rcases nm_case F B t with ⟨-, -, -, -, e⟩ | ⟨-, -, -, -, e⟩ | ⟨-, -, -, -, e⟩ | ⟨-, -, -, -, e⟩ | ⟨-, -, -, -, e⟩ <;> rcases tf_case_o F B t with ⟨-, -, h, g, -⟩ | ⟨r, -, -, -, h, g, -⟩ | ⟨fl, sl, vd, -, -, -, -, h, g, -⟩ <;> rw [e, g, h] <;> first | decide | (cases r <;> decide) | (cases fl <;> cases vd <;> simp [fb] <;> decide)
theorem ms_sl : msv F (tn F B t) (ta B t) = nI (slT F B t) ∧ slT F B t < 251 := by
  unfold slT
  rcases tf_case F B t with ⟨-, -, h, -, g⟩ | ⟨r, -, -, -, h, -, g⟩ | ⟨fl, sl, vd, -, q, -, -, h, -, g⟩ <;> rw [g, h]
  · exact ⟨rfl, by decide⟩
  · exact ⟨rfl, by decide⟩
  · exact ⟨rfl, q⟩
theorem ms_sl_o : msv_o F (tn F B t) (ta B t) = nI (slT_o F B t) ∧ slT_o F B t < 251 := by
  unfold slT_o
  rcases tf_case_o F B t with ⟨-, -, h, -, g⟩ | ⟨r, -, -, -, h, -, g⟩ | ⟨fl, sl, vd, -, q, -, -, h, -, g⟩ <;> rw [g, h]
  · exact ⟨rfl, by decide⟩
  · exact ⟨rfl, by decide⟩
  · exact ⟨rfl, q⟩
end BITS

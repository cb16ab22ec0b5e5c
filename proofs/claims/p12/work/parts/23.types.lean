/-! DESCRIPTORS in the class -/
theorem brL_eq {u : St} (hb : bn (u.2 0)) (x1 : Int32) : ∀ (m a f : Nat), m < f → a + m ≤ 4000 → f_D_typeEnd_L2 x1 (nI (a + m)) u f (nI a) = some (nI (a + br (xF u) m a))
  | 0, a, f + 1, _, ha => by
    rw [f_D_typeEnd_L2, if_pos (show nI (a + 0) ≤ nI a from nI_le (Nat.le_refl _) (by omega))]
    rfl
  | m + 1, a, f + 1, hf, ha => by
    rw [f_D_typeEnd_L2, if_neg (nI_ge (by omega) (by omega)), gd_in (by omega) (by decide), ncl (by omega), br]
    have h1 : u.2 0 a = 91 ↔ xF u a = 91 := bn_l hb a 91 (by decide)
    by_cases h : xF u a = 91
    · rw [if_pos (h1.mpr h), if_pos h, nI_1]
      have ih := brL_eq hb x1 m (a + 1) f (by omega) (by omega)
      rw [show a + 1 + m = a + (m + 1) by omega] at ih
      rw [ih, show a + 1 + br (xF u) m (a + 1) = a + (br (xF u) m (a + 1) + 1) by omega]
    · rw [if_neg (fun q => h (h1.mp q)), if_neg h]
      rfl
theorem scL_eq {u : St} (hb : bn (u.2 0)) (x4 : Int32) : ∀ (m a f : Nat), m < f → a + m ≤ 4000 → f_D_typeEnd_L75 (nI (a + m)) x4 u f (nI a) = some (nI (a + scn (xF u) m a))
  | 0, a, f + 1, _, ha => by
    rw [f_D_typeEnd_L75, if_pos (show nI (a + 0) ≤ nI a from nI_le (Nat.le_refl _) (by omega))]
    rfl
  | m + 1, a, f + 1, hf, ha => by
    rw [f_D_typeEnd_L75, if_neg (nI_ge (by omega) (by omega)), gd_in (by omega) (by decide), ncl (by omega), scn]
    have h1 : u.2 0 a = 59 ↔ xF u a = 59 := bn_l hb a 59 (by decide)
    by_cases h : xF u a = 59
    · rw [if_pos (h1.mpr h), if_pos h]
      rfl
    · rw [if_neg (fun q => h (h1.mp q)), if_neg h, nI_1]
      have ih := scL_eq hb x4 m (a + 1) f (by omega) (by omega)
      rw [show a + 1 + m = a + (m + 1) by omega] at ih
      rw [ih, show a + 1 + scn (xF u) m (a + 1) = a + (scn (xF u) m (a + 1) + 1) by omega]
def teR (a : Nat) (o : Option Nat) : Int32 := match o with
  | none => -1
  | some t => nI (a + t)
theorem smp_eq {u : St} (hb : bn (u.2 0)) (a : Nat) : f_D_isSimple u (u.2 0 a) = some (if smp (xF u a) then 1 else 0, u) := by
  unfold f_D_isSimple
  have h : (u.2 0 a = 66 ∨ u.2 0 a = 67 ∨ u.2 0 a = 68 ∨ u.2 0 a = 70 ∨ u.2 0 a = 73 ∨ u.2 0 a = 74 ∨ u.2 0 a = 83 ∨ u.2 0 a = 90) ↔ smp (xF u a) = true := by
    rw [bn_l hb a 66 (by decide), bn_l hb a 67 (by decide), bn_l hb a 68 (by decide), bn_l hb a 70 (by decide), bn_l hb a 73 (by decide), bn_l hb a 74 (by decide), bn_l hb a 83 (by decide), bn_l hb a 90 (by decide)]
    simp [smp, xF, or_assoc]
  by_cases q : smp (xF u a) = true
  · rw [if_pos (h.mpr q), if_pos q]
    rfl
  · rw [if_neg (fun z => q (h.mp z)), if_neg q]
    rfl
theorem typeEnd_eq {u : St} (hb : bn (u.2 0)) {a n : Nat} (h4 : a + n ≤ 4000) : f_D_typeEnd u (nI a) (nI (a + n)) = some (teR a (tyE (xF u) n a), u) := by
  unfold f_D_typeEnd
  rw [brL_eq hb _ n a FU (by unfold FU; omega) h4]
  simp only [cT]
  have hle := br_le (xF u) n a
  unfold tyE
  generalize br (xF u) n a = b at hle ⊢
  by_cases h1 : n ≤ b
  · rw [if_pos (nI_le (by omega) (by omega)), if_pos (Or.inl h1)]
    rfl
  · rw [if_neg (nI_ge (by omega) (by omega))]
    have e8 : nI (a + b) - nI a = nI b := by
      rw [pk_sub (by omega), Nat.add_sub_cancel_left]
    rw [e8]
    by_cases h2 : 8 < b
    · rw [if_neg (show ¬ nI b ≤ 8 from nI_ge (a := 8) (by omega) (by omega)), if_pos (Or.inr h2)]
      rfl
    · rw [if_pos (show nI b ≤ 8 from nI_le (b := 8) (by omega) (by omega)), if_neg (show ¬ (n ≤ b ∨ 8 < b) by omega), gd_in (by omega) (by decide), ncl (by omega)]
      have hL : u.2 0 (a + b) = 76 ↔ xF u (a + b) = 76 := bn_l hb _ 76 (by decide)
      by_cases h3 : xF u (a + b) = 76
      · rw [if_pos (hL.mpr h3), if_pos h3]
        have hs := scL_eq hb (nI (a + b) + 1) (n - b) (a + b) FU (by unfold FU; omega) (by omega)
        rw [show a + b + (n - b) = a + n by omega] at hs
        rw [hs]
        simp only
        have hsl := scn_le (xF u) (n - b) (a + b)
        have hpos : 0 < n - b → 0 < scn (xF u) (n - b) (a + b) := by
          intro hp
          cases hq : n - b with
          | zero => omega
          | succ r =>
            rw [scn, if_neg (by rw [h3]; decide)]
            omega
        generalize scn (xF u) (n - b) (a + b) = t at hsl hpos ⊢
        by_cases h5 : n - b ≤ t
        · rw [if_pos (nI_le (by omega) (by omega)), if_pos h5]
          rfl
        · rw [if_neg (nI_ge (by omega) (by omega)), if_neg h5]
          have hp := hpos (by omega)
          have hn := name_eq hb (a := a + b + 1) (m := t - 1) (by omega)
          rw [show a + b + 1 + (t - 1) = a + b + t by omega] at hn
          rw [nI_1, hn]
          simp only [cI]
          by_cases h6 : cn (xF u) (t - 1) (a + b + 1) false = true
          · rw [if_pos h6, if_pos h6]
            have e : ¬ (if pl (xF u) (t - 1) (a + b + 1) = true then (3 : Int32) else 2) = 0 := by split <;> decide
            rw [if_neg e, nI_1]
            show some (nI (a + b + t + 1), u) = some (nI (a + (b + t + 1)), u)
            rw [show a + b + t + 1 = a + (b + t + 1) by omega]
          · rw [if_neg h6, if_neg h6]
            rfl
      · rw [if_neg (fun q => h3 (hL.mp q)), if_neg h3, gd_in (by omega) (by decide), smp_eq hb]
        simp only [cI, bnd]
        by_cases h6 : smp (xF u (a + b)) = true
        · rw [if_pos h6, if_pos h6, if_neg (by decide), nI_1]
          show some (nI (a + b + 1), u) = some (nI (a + (b + 1)), u)
          rw [show a + b + 1 = a + (b + 1) by omega]
        · rw [if_neg h6, if_neg h6]
          rfl
theorem float_eq {u : St} (hb : bn (u.2 0)) {e : Nat} (h0 : 0 < e) (h4 : e ≤ 4000) : f_D_floatFacts u (nI e) = some (if isR (xF u (e - 1)) then 64 else 0, u) := by
  unfold f_D_floatFacts
  have e1 : nI e - 1 = nI (e - 1) := by
    have := nI_pred (e - 1)
    rw [Nat.sub_add_cancel h0] at this
    exact this
  rw [e1, gd_in (by omega) (by decide), gd_in (by omega) (by decide), ncl (by omega)]
  have h1 : u.2 0 (e - 1) = 70 ↔ xF u (e - 1) = 70 := bn_l hb _ 70 (by decide)
  have h2 : u.2 0 (e - 1) = 68 ↔ xF u (e - 1) = 68 := bn_l hb _ 68 (by decide)
  by_cases q1 : xF u (e - 1) = 70
  · rw [if_pos (h1.mpr q1)]
    simp [cT, isR, q1]
  · rw [if_neg (fun z => q1 (h1.mp z))]
    by_cases q2 : xF u (e - 1) = 68
    · rw [if_pos (h2.mpr q2)]
      simp [cT, isR, q2]
    · rw [if_neg (fun z => q2 (h2.mp z))]
      simp [cT, isR, q1, q2]
theorem slotsB_eq {u : St} (hb : bn (u.2 0)) {a t : Nat} (h1 : 1 ≤ t) (h4 : a + t ≤ 4000) : f_D_slotsBetween u (nI a) (nI (a + t)) = some (nI (if t = 1 ∧ xF u a = 74 then 2 else 1), u) := by
  unfold f_D_slotsBetween
  rw [pk_sub (by omega), Nat.add_sub_cancel_left, gd_in (by omega) (by decide), ncl (by omega)]
  have q1 : u.2 0 a = 74 ↔ xF u a = 74 := bn_l hb _ 74 (by decide)
  have q3 : nI t = 1 ↔ t = 1 := nI_eq (b := 1) (by omega) (by decide)
  by_cases c1 : t = 1
  · rw [if_pos (q3.mpr c1)]
    by_cases c2 : xF u a = 74
    · rw [if_pos (q1.mpr c2), if_pos ⟨c1, c2⟩]
      rfl
    · rw [if_neg (fun z => c2 (q1.mp z)), if_neg (fun z => c2 z.2)]
      rfl
  · rw [if_neg (fun z => c1 (q3.mp z)), if_neg (fun z => c1 z.1)]
    rfl
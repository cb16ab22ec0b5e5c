/-! METHODS' DESCRIPTORS in the class -/
def fb (fl : Bool) : Int32 := if fl then 96 else 32
theorem fb_or (fl r : Bool) : fb fl ||| (if r then 64 else 0) = fb (fl || r) := by cases fl <;> cases r <;> decide
theorem fb_or2 (fl r : Bool) (s : Int32) : (fb fl ||| s) ||| (if r then 64 else 0) = fb (fl || r) ||| s := by
  rw [Int32.or_assoc, Int32.or_comm s, ← Int32.or_assoc, fb_or]
theorem mdL_eq_o {u : St} (hb : bn (u.2 0)) (K : St → Int32 → Int32 → Int32 → Option (Int32 × St)) : ∀ (f g m a : Nat) (fl : Bool) (sl : Nat), m < f → m < g → a + m ≤ 4000 → f_D_methodFacts_L9 K (nI (a + m)) g u (fb fl) (nI sl) (nI a) = (match mdL_o (xF u) f m a fl sl with
  | none => some (0, u)
  | some (_, a', fl', sl') => K u (fb fl') (nI sl') (nI a')) := by
  intro f
  induction f with
  | zero => intro g m a fl sl h; omega
  | succ f ih =>
    intro g m a fl sl hf hg h4
    cases g with
    | zero => omega
    | succ g =>
      rw [f_D_methodFacts_L9, mdL_o]
      by_cases h0 : m = 0
      · subst h0
        rw [if_pos (show nI (a + 0) ≤ nI a from nI_le (Nat.le_refl _) (by omega)), if_pos rfl]
      · rw [if_neg (nI_ge (by omega) (by omega)), if_neg h0, gd_in (by omega) (by decide), ncl (by omega)]
        have h1 : u.2 0 a = 41 ↔ xF u a = 41 := bn_l hb _ 41 (by decide)
        by_cases c1 : xF u a = 41
        · rw [if_pos (h1.mpr c1), if_pos c1]
        · rw [if_neg (fun z => c1 (h1.mp z)), if_neg c1, typeEnd_eq hb h4, cI_s]
          cases ht : tyE (xF u) m a with
          | none =>
            have : ¬ nI a < teR a none := by
              show ¬ nI a < -1
              rw [Int32.lt_iff_toInt_lt, nI_toInt (by omega)]
              have : (-1 : Int32).toInt = -1 := by decide
              omega
            rw [if_neg this]
          | some t =>
            have hl := tyE_le ht
            rw [show teR a (some t) = nI (a + t) from rfl, if_pos (nI_lt (by omega) (by omega)), slotsB_eq hb hl.1 (by omega), cI_s, float_eq hb (by omega) (by omega), cI_s, fb_or, nI_add]
            have := ih g (m - t) (a + t) (fl || isR (xF u (a + t - 1))) (sl + if t = 1 ∧ xF u a = 74 then 2 else 1) (by omega) (by omega) (by omega)
            rw [show a + t + (m - t) = a + m by omega] at this
            exact this
theorem mdL_le_o {F : Nat → Nat} : ∀ (f m a : Nat) (fl : Bool) (sl : Nat) {q : Nat × Nat × Bool × Nat}, mdL_o F f m a fl sl = some q → q.1 ≤ m ∧ q.2.1 + q.1 = a + m := by
  intro f
  induction f with
  | zero => intro m a fl sl q h; cases h
  | succ f ih =>
    intro m a fl sl q h
    rw [mdL_o] at h
    split at h
    · cases h; exact ⟨Nat.le_refl _, rfl⟩
    · split at h
      · cases h; exact ⟨Nat.le_refl _, rfl⟩
      · split at h
        · cases h
        · rename_i t ht
          have hl := tyE_le ht
          have := ih _ _ _ _ h
          omega
theorem mdL_sl_o {F : Nat → Nat} : ∀ (f m a : Nat) (fl : Bool) (sl : Nat) {q : Nat × Nat × Bool × Nat}, mdL_o F f m a fl sl = some q → sl + 2 * m ≤ 10000 → q.2.2.2 ≤ 10000 := by
  intro f
  induction f with
  | zero => intro m a fl sl q h; cases h
  | succ f ih =>
    intro m a fl sl q h hs
    rw [mdL_o] at h
    split at h
    · cases h; show sl ≤ _; omega
    · split at h
      · cases h; show sl ≤ _; omega
      · split at h
        · cases h
        · rename_i t ht
          have hl := tyE_le ht
          refine ih _ _ _ _ h ?_
          split <;> omega
/-- a method's descriptor as the class keeps it -/
def mfR (o : Option (Bool × Nat × Bool)) : Int32 := match o with
  | none => 0
  | some (fl, sl, vd) => (fb fl ||| (nI sl <<< (8 &&& 31))) ||| (if vd then 128 else 0)
theorem methodFacts_eq_o {u : St} (hb : bn (u.2 0)) {a n : Nat} (h4 : a + n ≤ 4000) : f_D_methodFacts u (nI a) (nI (a + n)) = some (mfR (mdE_o (xF u) n a), u) := by
  unfold f_D_methodFacts
  have h := mdL_eq_o hb (fun u10 z11 z12 z13 => if 250 < z12 then (some (0, u10)) else (if (z13 + 1) < nI (a + n) then (gd (z13 + 1) 4000 (if (u10.2 0 (z13 + 1).toNatClampNeg) = 86 then (bnd (if ((z13 + 1) + 1) = nI (a + n) then (((z11 ||| (z12 <<< (8 &&& 31))) ||| 128)) else (0)) fun (z24 : Int32) => some (z24, u10)) else (cI (f_D_typeEnd u10 (z13 + 1) (nI (a + n))) fun r16 u14 => cT (if r16 = nI (a + n) then (cI (f_D_floatFacts u14 (nI (a + n))) fun r22 u20 => some (((z11 ||| (z12 <<< (8 &&& 31))) ||| r22), u20)) else (some (0, u14))) fun (p23 : Int32 × St) => some (p23.1, p23.2)))) else (some (0, u10)))) (n + 1) FU n a false 0 (by omega) (by unfold FU; omega) h4
  refine h.trans ?_
  unfold mdE_o
  cases hm : mdL_o (xF u) (n + 1) n a false 0 with
  | none => rfl
  | some q =>
    obtain ⟨n', a', fl, sl⟩ := q
    have hl := mdL_le_o _ _ _ _ _ hm
    simp only at hl ⊢
    have hsl : sl < 2 ^ 31 ∨ 2 ^ 31 ≤ sl := by omega
    have hbd : sl ≤ 10000 := mdL_sl_o _ _ _ _ _ hm (by omega)
    by_cases c1 : 250 < sl
    · rw [if_pos (show (250 : Int32) < nI sl from nI_lt (a := 250) c1 (by omega)), if_pos (Or.inl c1)]
      rfl
    · rw [if_neg (show ¬ (250 : Int32) < nI sl from nI_nlt (a := 250) (by omega) (by omega)), nI_1]
      by_cases c2 : n' ≤ 1
      · rw [if_neg (nI_nlt (by omega) (by omega)), if_pos (Or.inr c2)]
        rfl
      · rw [if_pos (nI_lt (by omega) (by omega)), if_neg (show ¬ (250 < sl ∨ n' ≤ 1) by omega), gd_in (by omega) (by decide), ncl (by omega)]
        have h1 : u.2 0 (a' + 1) = 86 ↔ xF u (a' + 1) = 86 := bn_l hb _ 86 (by decide)
        by_cases c3 : xF u (a' + 1) = 86
        · rw [if_pos (h1.mpr c3), if_pos c3, nI_1]
          simp only [bnd]
          by_cases c4 : n' = 2
          · rw [if_pos ((nI_eq (by omega) (by omega)).mpr (by omega)), if_pos c4]
            rfl
          · rw [if_neg (fun z => c4 (by have := (nI_eq (by omega) (by omega)).mp z; omega)), if_neg c4]
            rfl
        · rw [if_neg (fun z => c3 (h1.mp z)), if_neg c3]
          have ht := typeEnd_eq hb (a := a' + 1) (n := n' - 1) (by omega)
          rw [show a' + 1 + (n' - 1) = a + n by omega] at ht
          rw [ht, cI_s]
          cases hq : tyE (xF u) (n' - 1) (a' + 1) with
          | none =>
            have : ¬ teR (a' + 1) none = nI (a + n) := by
              show ¬ (-1 : Int32) = nI (a + n)
              intro z
              have z2 := congrArg Int32.toInt z
              rw [nI_toInt (by omega)] at z2
              have : (-1 : Int32).toInt = -1 := by decide
              omega
            rw [if_neg this, cT_s]
            rfl
          | some t =>
            have hl2 := tyE_le hq
            rw [show teR (a' + 1) (some t) = nI (a' + 1 + t) from rfl]
            simp only
            by_cases c5 : t = n' - 1
            · rw [if_pos ((nI_eq (by omega) (by omega)).mpr (by omega)), if_pos c5, float_eq hb (by omega) (by omega), cI_s, cT_s]
              simp only [mfR, Bool.false_eq_true, if_false]
              rw [fb_or2, show a + n - 1 = a' + n' - 1 by omega, show (0 : Int32) = nI 0 from rfl]
              rw [show nI 0 = (0 : Int32) from rfl, Int32.or_zero]
            · rw [if_neg (fun z => c5 (by have := (nI_eq (by omega) (by omega)).mp z; omega)), if_neg c5, cT_s]
              rfl

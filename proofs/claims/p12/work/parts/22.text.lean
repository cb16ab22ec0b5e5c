/-! TEXTS: names and descriptors over bytes F, n letters from a place a -/
def badc (c : Nat) : Bool := c == 46 || c == 59 || c == 60 || c == 62 || c == 91
/-- a CLASS NAME; p: the part at hand has a letter -/
def cn (F : Nat → Nat) : Nat → Nat → Bool → Bool
  | 0, _, p => p
  | n + 1, a, p => if badc (F a) then false else if F a = 47 then p && cn F n (a + 1) false else cn F n (a + 1) true
/-- plain letters alone -/
def pl (F : Nat → Nat) : Nat → Nat → Bool
  | 0, _ => true
  | n + 1, a => !badc (F a) && (F a != 47) && pl F n (a + 1)
def br (F : Nat → Nat) : Nat → Nat → Nat
  | 0, _ => 0
  | n + 1, a => if F a = 91 then br F n (a + 1) + 1 else 0
def scn (F : Nat → Nat) : Nat → Nat → Nat
  | 0, _ => 0
  | n + 1, a => if F a = 59 then 0 else scn F n (a + 1) + 1
def smp (c : Nat) : Bool := c == 66 || c == 67 || c == 68 || c == 70 || c == 73 || c == 74 || c == 83 || c == 90
def isR (c : Nat) : Bool := c == 70 || c == 68
/-- how many letters the type at a has, n being left -/
def tyE (F : Nat → Nat) (n a : Nat) : Option Nat :=
  if n ≤ br F n a ∨ 8 < br F n a then none
  else if F (a + br F n a) = 76 then
    (if n - br F n a ≤ scn F (n - br F n a) (a + br F n a) then none
     else if cn F (scn F (n - br F n a) (a + br F n a) - 1) (a + br F n a + 1) false then some (br F n a + scn F (n - br F n a) (a + br F n a) + 1) else none)
  else if smp (F (a + br F n a)) then some (br F n a + 1) else none
theorem br_le (F : Nat → Nat) : ∀ n a, br F n a ≤ n
  | 0, _ => Nat.le_refl _
  | n + 1, a => by
    rw [br]
    have := br_le F n (a + 1)
    split <;> omega
theorem scn_le (F : Nat → Nat) : ∀ n a, scn F n a ≤ n
  | 0, _ => Nat.le_refl _
  | n + 1, a => by
    rw [scn]
    have := scn_le F n (a + 1)
    split <;> omega
theorem tyE_le {F : Nat → Nat} {n a t : Nat} (h : tyE F n a = some t) : 1 ≤ t ∧ t ≤ n := by
  unfold tyE at h
  have h1 := br_le F n a
  have h2 := scn_le F (n - br F n a) (a + br F n a)
  split at h
  · cases h
  · rename_i q
    split at h
    · split at h
      · cases h
      · split at h
        · cases h
          omega
        · cases h
    · split at h
      · cases h
        omega
      · cases h
/-- arguments up to the bracket: letters left, place, a real one, slots -/
def mdL (F : Nat → Nat) : Nat → Nat → Nat → Bool → Nat → Option (Nat × Nat × Bool × Nat)
  | 0, _, _, _, _ => none
  | f + 1, n, a, fl, sl => if n = 0 then some (n, a, fl, sl) else if F a = 41 then some (n, a, fl, sl) else match tyE F n a with
    | none => none
    | some t => mdL F f (n - t) (a + t) (fl || isR (F (a + t - 1))) (sl + if t = 1 ∧ (F a = 74 ∨ F a = 68) then 2 else 1)
/-- arguments up to the bracket: letters left, place, a real one, slots -/
def mdL_o (F : Nat → Nat) : Nat → Nat → Nat → Bool → Nat → Option (Nat × Nat × Bool × Nat)
  | 0, _, _, _, _ => none
  | f + 1, n, a, fl, sl => if n = 0 then some (n, a, fl, sl) else if F a = 41 then some (n, a, fl, sl) else match tyE F n a with
    | none => none
    | some t => mdL_o F f (n - t) (a + t) (fl || isR (F (a + t - 1))) (sl + if t = 1 ∧ F a = 74 then 2 else 1)
/-- a method's descriptor behind its first bracket: real ones, slots, void -/
def mdE (F : Nat → Nat) (n a : Nat) : Option (Bool × Nat × Bool) := match mdL F (n + 1) n a false 0 with
  | none => none
  | some (n', a', fl, sl) => if 250 < sl ∨ n' ≤ 1 then none else if F (a' + 1) = 86 then (if n' = 2 then some (fl, sl, true) else none) else match tyE F (n' - 1) (a' + 1) with
    | none => none
    | some t => if t = n' - 1 then some (fl || isR (F (a' + n' - 1)), sl, false) else none
/-- a method's descriptor behind its first bracket: real ones, slots, void -/
def mdE_o (F : Nat → Nat) (n a : Nat) : Option (Bool × Nat × Bool) := match mdL_o F (n + 1) n a false 0 with
  | none => none
  | some (n', a', fl, sl) => if 250 < sl ∨ n' ≤ 1 then none else if F (a' + 1) = 86 then (if n' = 2 then some (fl, sl, true) else none) else match tyE F (n' - 1) (a' + 1) with
    | none => none
    | some t => if t = n' - 1 then some (fl || isR (F (a' + n' - 1)), sl, false) else none
/-- bytes as Java has them -/
def bn (f : Nat → Int32) : Prop := ∀ j, (f j).toInt8.toInt32 = f j
theorem bn_eq {f : Nat → Int32} (h : bn f) (j : Nat) {c : Nat} (hc : c < 128) : (f j = nI c) = (by8 f j = c) := by
  apply propext
  have e := by8_and f j
  constructor
  · intro q
    rw [q, show nI 255 = (255 : Int32) from rfl] at e
    have e2 : nI c &&& nI 255 = nI (c % 256) := pk_andN (by omega) 8 (by decide)
    have e3 : nI (c % 256) = nI (by8 f j) := e2.symm.trans e
    rw [nI_eq (by omega) (by have := by8_lt f j; omega)] at e3
    omega
  · intro q
    have k := (sc_eq (h j) (n := c) (by omega)).mpr (by show f j &&& nI 255 = nI c; rw [e, q])
    rw [k]
    have : ∀ c : Fin 128, (nI c.val).toInt8.toInt32 = nI c.val := by decide +kernel
    exact this ⟨c, hc⟩
theorem bn_l {f : Nat → Int32} (h : bn f) (j : Nat) (c : Nat) (hc : c < 128) : f j = (OfNat.ofNat c : Int32) ↔ by8 f j = c := by
  rw [lit_nI, bn_eq h j hc]
theorem cn_pl {F : Nat → Nat} : ∀ (n a : Nat) (p : Bool), pl F n a = true → cn F n a p = (p || decide (0 < n))
  | 0, a, p, _ => by simp [cn]
  | n + 1, a, p, h => by
    rw [pl] at h
    simp only [Bool.and_eq_true, Bool.not_eq_true', bne_iff_ne, ne_eq] at h
    rw [cn, if_neg (by rw [h.1.1]; decide), if_neg h.1.2, cn_pl n (a + 1) true h.2]
    simp
theorem nameL_eq {u : St} (hb : bn (u.2 0)) : ∀ (m a p f : Nat) (fc : Int32), m < f → a + m ≤ 4000 → p + m ≤ 8000 → f_D_nameFacts_L8 (fun z1 z2 => bnd (if z1 = 0 then (0) else (z2)) fun (z3 : Int32) => some (z3, u)) (nI (a + m)) u f (nI p) fc (nI a) = some (if cn (xF u) m a (decide (p ≠ 0)) then (if pl (xF u) m a then fc else 2) else 0, u)
  | 0, a, p, f + 1, fc, _, ha, hp => by
    rw [f_D_nameFacts_L8, if_pos (show nI (a + 0) ≤ nI a from nI_le (Nat.le_refl _) (by omega))]
    simp only [bnd, cn, pl]
    by_cases h : p = 0
    · subst h
      simp [nI_0]
    · have : ¬ nI p = 0 := nI_ne0 (by omega) (by omega)
      simp [h, this]
  | m + 1, a, p, f + 1, fc, hf, ha, hp => by
    rw [f_D_nameFacts_L8, if_neg (nI_ge (by omega) (by omega)), gd_in (by omega) (by decide), ncl (by omega)]
    rw [cn, pl]
    have hbad : (u.2 0 a = 46 ∨ u.2 0 a = 59 ∨ u.2 0 a = 60 ∨ u.2 0 a = 62 ∨ u.2 0 a = 91) ↔ badc (xF u a) = true := by
      rw [bn_l hb a 46 (by decide), bn_l hb a 59 (by decide), bn_l hb a 60 (by decide), bn_l hb a 62 (by decide), bn_l hb a 91 (by decide)]
      simp [badc, xF, or_assoc]
    have hsl : u.2 0 a = 47 ↔ xF u a = 47 := bn_l hb a 47 (by decide)
    by_cases h1 : badc (xF u a) = true
    · rw [if_pos (hbad.mpr h1), if_pos h1]
      rfl
    · rw [if_neg (fun q => h1 (hbad.mp q)), if_neg h1]
      have h5 : badc (xF u a) = false := by simpa using h1
      by_cases h2 : xF u a = 47
      · rw [if_pos (hsl.mpr h2), if_pos h2]
        have h4 : (xF u a != 47) = false := by simp [h2]
        by_cases h3 : p = 0
        · subst h3
          rw [if_pos nI_0]
          simp
        · rw [if_neg (nI_ne0 (by omega) (by omega))]
          have ih := nameL_eq hb m (a + 1) 0 f 2 (by omega) (by omega) (by omega)
          rw [show a + 1 + m = a + (m + 1) by omega, nI_0] at ih
          rw [nI_1]
          refine ih.trans ?_
          simp [h3, h4]
      · rw [if_neg (fun q => h2 (hsl.mp q)), if_neg h2]
        have ih := nameL_eq hb m (a + 1) (p + 1) f fc (by omega) (by omega) (by omega)
        rw [show a + 1 + m = a + (m + 1) by omega] at ih
        rw [nI_1, nI_1]
        refine ih.trans ?_
        have h4 : (xF u a != 47) = true := by simp [h2]
        simp [h4, h5]
theorem name_eq {u : St} (hb : bn (u.2 0)) {a m : Nat} (h : a + m ≤ 4000) : f_D_nameFacts u (nI a) (nI (a + m)) = some (if cn (xF u) m a false then (if pl (xF u) m a then 3 else 2) else 0, u) := by
  have := nameL_eq hb m a 0 FU 3 (by unfold FU; omega) h (by omega)
  exact this

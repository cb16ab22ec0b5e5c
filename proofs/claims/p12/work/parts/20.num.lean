/-! NUMBERS: Int32 by Nat -/
theorem lit_nI (n : Nat) : (OfNat.ofNat n : Int32) = nI n := id rfl
theorem nle {a b : Nat} (ha : a < 2 ^ 31) (hb : b < 2 ^ 31) : (nI a ≤ nI b) = (a ≤ b) := propext (nI_leI ha hb)
theorem nlt {a b : Nat} (ha : a < 2 ^ 31) (hb : b < 2 ^ 31) : (nI a < nI b) = (a < b) := propext (nI_ltI ha hb)
theorem neq {a b : Nat} (ha : a < 2 ^ 31) (hb : b < 2 ^ 31) : (nI a = nI b) = (a = b) := propext (nI_eq ha hb)
theorem nsl {a b c : Nat} (ha : a < 2 ^ 30) (hb : b < 2 ^ 30) (hc : c < 2 ^ 30) : (nI a ≤ nI b - nI c) = (a + c ≤ b) := by
  apply propext
  rw [Int32.le_iff_toInt_le, nI_toInt (by omega), pk_sub_toInt hb hc]
  omega
theorem nsI {a b c : Nat} (ha : a < 2 ^ 30) (hb : b < 2 ^ 30) (hc : c < 2 ^ 30) : nI a ≤ nI b - nI c ↔ a + c ≤ b := by rw [nsl ha hb hc]
theorem ncl {a : Nat} (h : a < 2 ^ 31) : (nI a).toNatClampNeg = a := nI_clamp h
theorem nor (a b : Nat) : nI a ||| nI b = nI (a ||| b) := by
  apply Int32.toBitVec_inj.mp
  simp [nI]
theorem nand (a b : Nat) : nI a &&& nI b = nI (a &&& b) := by
  apply Int32.toBitVec_inj.mp
  simp [nI]
theorem nshl8 {v : Nat} (hv : v * 256 < 2 ^ 32) : nI v <<< (nI 8 &&& nI 31) = nI (v * 256) := pk_shlN (nI 8 &&& nI 31) 8 (by decide) hv
theorem nI_or8 {v b : Nat} (hb : b < 256) (hv : v * 256 + b < 2 ^ 32) : (nI v <<< (nI 8 &&& nI 31)) ||| nI b = nI (v * 256 + b) := by
  rw [nshl8 (Nat.lt_of_le_of_lt (Nat.le_add_right _ _) hv), nor, Nat.mul_comm, show (256 : Nat) = 2 ^ 8 from rfl, ← Nat.two_pow_add_eq_or_of_lt (i := 8) hb]
theorem gd_in {β : Type} {i n : Nat} {k : Option β} (h : i < n) (hn : n < 2 ^ 31) : gd (nI i) n k = k := by
  unfold gd
  rw [if_neg]
  exact vp_in_nI h hn
/-- the byte at a place of an array, and the number of k bytes there -/
def by8 (f : Nat → Int32) (j : Nat) : Nat := (f j).toBitVec.toNat % 256
theorem by8_lt (f : Nat → Int32) (j : Nat) : by8 f j < 256 := Nat.mod_lt _ (by decide)
theorem by8_and (f : Nat → Int32) (j : Nat) : f j &&& nI 255 = nI (by8 f j) := pk_and (f j) 8 (by decide)
def be (F : Nat → Nat) (w : Nat) : Nat → Nat
  | 0 => 0
  | k + 1 => be F w k * 256 + F (w + k)
theorem be_lt {F : Nat → Nat} (hF : ∀ j, F j < 256) (w : Nat) : ∀ k, be F w k < 256 ^ k
  | 0 => by simp [be]
  | k + 1 => by
    have h1 := be_lt hF w k
    have h2 := hF (w + k)
    rw [be, Nat.pow_succ]
    omega
theorem cI_s {β : Type} {r : Int32} {u : St} {k : Int32 → St → Option β} : cI (some (r, u)) k = k r u := rfl
theorem cJ_s {β : Type} {r : Int64} {u : St} {k : Int64 → St → Option β} : cJ (some (r, u)) k = k r u := rfl
theorem cV_s {β : Type} {u : St} {k : St → Option β} : cV (some u) k = k u := rfl
theorem cT_s {α β : Type} {u : α} {k : α → Option β} : cT (some u) k = k u := rfl
theorem bnd_s {α β : Type} {x : α} {f : α → β} : bnd x f = f x := rfl
theorem gb_1 {β : Type} {k : Option β} : gb 1 k = k := if_pos (Or.inr rfl)
theorem gb_0 {β : Type} {k : Option β} : gb 0 k = k := if_pos (Or.inl rfl)

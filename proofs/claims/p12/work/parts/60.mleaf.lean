/-! THE REFERENCE: frame, and its leaves -/
/-- what stays of z in u: the file, its size, the latest report -/
def kr (z u : St) : Prop := u.1 0 = z.1 0 ∧ u.1 16 = z.1 16 ∧ u.1 17 = z.1 17 ∧ u.2 0 = z.2 0 ∧ u.2 8 = z.2 8 ∧ u.2 9 = z.2 9 ∧ u.2 10 = z.2 10
def RO (N i : Nat) (z u : St) : Prop := (N ≤ 4000 ∧ u.1 1 = nI N ∧ bn (u.2 0) ∧ u.1 3 = 0 ∧ u.1 2 = nI i ∧ i ≤ N) ∧ kr z u
def RB (N r w : Nat) (z u : St) : Prop := (N ≤ 4000 ∧ u.1 1 = nI N ∧ bn (u.2 0) ∧ u.1 3 = nI r ∧ 1 ≤ r ∧ r ≤ 29 ∧ u.1 4 = nI w) ∧ kr z u
def rvS (k : Nat) : Bool := k != 0 && k != 1 && k != 3 && k != 4 && k != 16 && k != 17
def raS (k : Nat) : Bool := k != 0 && k != 8 && k != 9 && k != 10
theorem svsv {u : St} {k : Nat} {a b : Int32} : sv (sv u k a) k b = sv u k b := by
  unfold sv
  congr 1
  funext j
  by_cases h : j = k <;> simp [upd, h]
/-- broken now -/
def rbk (u : St) (r w : Nat) : St := sv (sv u 3 (nI r)) 4 (nI w)
section RF
variable {N i r w : Nat} {z u : St}
theorem kr_ko {s t : List Nat} {v : St} (h : kr z u) (hk : ko s t u v) (hs : 0 ∉ s ∧ 16 ∉ s ∧ 17 ∉ s) (ht : 0 ∉ t ∧ 8 ∉ t ∧ 9 ∉ t ∧ 10 ∉ t) : kr z v := by
  obtain ⟨a, b, c, d, e, f, g⟩ := h
  exact ⟨(hk.1 _ hs.1).trans a, (hk.1 _ hs.2.1).trans b, (hk.1 _ hs.2.2).trans c, (hk.2 _ ht.1).trans d, (hk.2 _ ht.2.1).trans e, (hk.2 _ ht.2.2.1).trans f, (hk.2 _ ht.2.2.2).trans g⟩
theorem RO_ko {s t : List Nat} {v : St} (h : RO N i z u) (hk : ko s t u v) (hs : 0 ∉ s ∧ 16 ∉ s ∧ 17 ∉ s ∧ 1 ∉ s ∧ 2 ∉ s ∧ 3 ∉ s) (ht : 0 ∉ t ∧ 8 ∉ t ∧ 9 ∉ t ∧ 10 ∉ t) : RO N i z v := by
  obtain ⟨⟨a1, a2, a3, a4, a5, a6⟩, b⟩ := h
  exact ⟨⟨a1, (hk.1 _ hs.2.2.2.1).trans a2, by rw [hk.2 _ ht.1]; exact a3, (hk.1 _ hs.2.2.2.2.2).trans a4, (hk.1 _ hs.2.2.2.2.1).trans a5, a6⟩, kr_ko b hk ⟨hs.1, hs.2.1, hs.2.2.1⟩ ht⟩
theorem RB_sv {k : Nat} {x : Int32} (hk : rvS k = true) (h : RB N r w z u) : RB N r w z (sv u k x) := by
  have e : ∀ j, rvS j = false → (sv u k x).1 j = u.1 j := fun j hj => by
    rw [sv_g, if_neg]
    intro q
    rw [q, hk] at hj
    cases hj
  obtain ⟨⟨a1, a2, a3, a4, a5, a6, a7⟩, b1, b2, b3, b4⟩ := h
  exact ⟨⟨a1, by rw [e 1 rfl]; exact a2, a3, by rw [e 3 rfl]; exact a4, a5, a6, by rw [e 4 rfl]; exact a7⟩, by rw [e 0 rfl]; exact b1, by rw [e 16 rfl]; exact b2, by rw [e 17 rfl]; exact b3, b4⟩
theorem RB_sa {k j : Nat} {x : Int32} (hk : raS k = true) (h : RB N r w z u) : RB N r w z (sa u k j x) := by
  have e : ∀ j', raS j' = false → (sa u k j x).2 j' = u.2 j' := fun j' hj => by
    rw [sa_a, if_neg]
    intro q
    rw [q, hk] at hj
    cases hj
  obtain ⟨⟨a1, a2, a3, a4, a5, a6, a7⟩, b1, b2, b3, b4, b5, b6, b7⟩ := h
  exact ⟨⟨a1, a2, by rw [e 0 rfl]; exact a3, a4, a5, a6, a7⟩, b1, b2, b3, by rw [e 0 rfl]; exact b4, by rw [e 8 rfl]; exact b5, by rw [e 9 rfl]; exact b6, by rw [e 10 rfl]; exact b7⟩
theorem RO_B (h : RO N i z u) (h1 : 1 ≤ r) (h2 : r ≤ 29) : RB N r w z (rbk u r w) := ⟨⟨h.1.1, h.1.2.1, h.1.2.2.1, rfl, h1, h2, rfl⟩, h.2⟩
theorem RO_at {j : Nat} (h : RO N i z u) (hj : j ≤ N) : RO N j z (sv u 2 (nI j)) := ⟨⟨h.1.1, h.1.2.1, h.1.2.2.1, h.1.2.2.2.1, rfl, hj⟩, h.2⟩
theorem RB_ne (h : RB N r w z u) : ¬ u.1 3 = 0 := by
  have h1 := h.1.2.2.2.2.1
  have h2 := h.1.2.2.2.2.2.1
  rw [h.1.2.2.2.1]
  exact nI_ne0 (by omega) (by omega)
theorem ok_o (h : RO N i z u) : f_M_ok u = some (1, u) := by
  unfold f_M_ok
  rw [if_pos h.1.2.2.2.1, bnd_s, gb_1]
theorem ok_b (h : RB N r w z u) : f_M_ok u = some (0, u) := by
  unfold f_M_ok
  rw [if_neg (RB_ne h), bnd_s, gb_0]
theorem fails_o (h : RO N i z u) : f_M_fails u (nI r) (nI w) = some (1, rbk u r w) := by
  unfold f_M_fails
  rw [if_pos h.1.2.2.2.1, bnd_s, bnd_s, cT_s, gb_1]
  rfl
theorem fails_b {a b : Int32} (h : RB N r w z u) : f_M_fails u a b = some (1, u) := by
  unfold f_M_fails
  rw [if_neg (RB_ne h), cT_s, gb_1]
theorem must_t {x a b : Int32} (h : RO N i z u) (hx : ¬ x = 0) : f_M_must u x a b = some (1, u) := by
  unfold f_M_must
  rw [ok_o h, cI_s, if_neg (by decide), if_neg hx, cT_s, ok_o h, cI_s, gb_1]
theorem must_f (h : RO N i z u) (h1 : 1 ≤ r) (h2 : r ≤ 29) : f_M_must u 0 (nI r) (nI w) = some (0, rbk u r w) := by
  unfold f_M_must
  rw [ok_o h, cI_s, if_neg (by decide), if_pos rfl, fails_o h, cI_s, cT_s, ok_b (RO_B h h1 h2), cI_s, gb_0]
theorem must_fl (y : Int32) (hy : y = nI r) (h : RO N i z u) (h1 : 1 ≤ r) (h2 : r ≤ 29) : f_M_must u 0 y (nI w) = some (0, rbk u r w) := by rw [hy]; exact must_f h h1 h2
theorem must_b {x a b : Int32} (h : RB N r w z u) : f_M_must u x a b = some (0, u) := by
  unfold f_M_must
  rw [ok_b h, cI_s, if_pos rfl, cT_s, ok_b h, cI_s, gb_0]
theorem b8_and {f : Nat → Int32} {j : Nat} : f j &&& 255 = nI (by8 f j) := by8_and f j
theorem u1_o (h : RO N i z u) (hi : i + 1 ≤ N) : f_M_u1 u = some (nI (xF u i), sv u 2 (nI (i + 1))) := by
  have hN := h.1.1
  unfold f_M_u1
  rw [ok_o h, cI_s, if_neg (by decide), h.1.2.2.2.2.1, h.1.2.1, if_pos (nI_lt hi (by omega)), bnd_s, nI_1]
  have e : (sv u 2 (nI (i + 1))).1 2 - 1 = nI i := by
    show nI (i + 1) - nI 1 = nI i
    rw [nI_sub (by omega)]
    rfl
  rw [e, gd_in (by omega) (by decide), ncl (by omega), b8_and]
  rfl
theorem u1_x (h : RO N i z u) (hi : ¬ i + 1 ≤ N) : f_M_u1 u = some (0, rbk u 1 N) := by
  have hN := h.1.1
  have := h.1.2.2.2.2.2
  unfold f_M_u1
  rw [ok_o h, cI_s, if_neg (by decide), h.1.2.2.2.2.1, h.1.2.1, if_neg (nI_nlt (by omega) (by omega)), show (1 : Int32) = nI 1 from rfl, fails_o h, cI_s]
theorem u1_b (h : RB N r w z u) : f_M_u1 u = some (0, u) := by
  unfold f_M_u1
  rw [ok_b h, cI_s, if_pos rfl]
theorem be_2 (F : Nat → Nat) (i : Nat) : be F i 2 = F i * 256 + F (i + 1) := by simp [be]
theorem F8 (u : St) (j : Nat) : xF u j < 256 := by8_lt _ _
theorem shl8 {a b : Nat} (ha : a < 256) (hb : b < 256) : (nI a <<< ((8 : Int32) &&& 31)) ||| nI b = nI (a * 256 + b) := nI_or8 hb (by omega)
theorem u2_o (h : RO N i z u) (hi : i + 2 ≤ N) : f_M_u2 u = some (nI (be (xF u) i 2), sv u 2 (nI (i + 2))) := by
  have h1 := RO_at (j := i + 1) h (by omega)
  unfold f_M_u2
  rw [u1_o h (by omega), cI_s, u1_o h1 (by omega), cI_s, svsv, show xF (sv u 2 (nI (i + 1))) (i + 1) = xF u (i + 1) from rfl, shl8 (F8 u _) (F8 u _), be_2]
theorem u2_b (h : RB N r w z u) : f_M_u2 u = some (0, u) := by
  unfold f_M_u2
  rw [u1_b h, cI_s, u1_b h, cI_s]
  rfl
theorem rbk_ko {s t : List Nat} (h3 : 3 ∈ s) (h4 : 4 ∈ s) : ko s t u (rbk u r w) := ko_tr (ko_sv h3) (ko_sv h4)
theorem u2_xk (h : RO N i z u) (hi : ¬ i + 2 ≤ N) : ∃ y v, f_M_u2 u = some (y, v) ∧ RB N 1 N z v ∧ ko [2, 3, 4] [] u v := by
  unfold f_M_u2
  by_cases h1 : i + 1 ≤ N
  · have h2 := RO_at (j := i + 1) h h1
    refine ⟨(nI (xF u i) <<< ((8 : Int32) &&& 31)) ||| 0, rbk (sv u 2 (nI (i + 1))) 1 N, ?_, RO_B h2 (by decide) (by decide), ko_tr (ko_sv (by decide)) (rbk_ko (by decide) (by decide))⟩
    rw [u1_o h h1, cI_s, u1_x h2 (by omega), cI_s]
  · have hb : RB N 1 N z (rbk u 1 N) := RO_B h (by decide) (by decide)
    refine ⟨((0 : Int32) <<< ((8 : Int32) &&& 31)) ||| 0, rbk u 1 N, ?_, hb, rbk_ko (by decide) (by decide)⟩
    rw [u1_x h h1, cI_s, u1_b hb, cI_s]
theorem u2_x (h : RO N i z u) (hi : ¬ i + 2 ≤ N) : ∃ y v, f_M_u2 u = some (y, v) ∧ RB N 1 N z v := by
  obtain ⟨y, v, a, b, -⟩ := u2_xk h hi
  exact ⟨y, v, a, b⟩
theorem j_of {n : Nat} (h : n < 2 ^ 31) : (nI n).toInt64 = Int64.ofNat n := by
  apply Int64.toInt_inj.mp
  rw [Int32.toInt_toInt64, nI_toInt h]
  have : (Int64.ofNat n).toInt = (n : Int).bmod (2 ^ 64) := by
    first
    | exact Int64.toInt_ofNat'
    | exact Int64.toInt_ofNat
    | simp
  rw [this, bm64 (by omega) (by omega)]
theorem j_toInt {n : Nat} (h : n < 2 ^ 32) : (Int64.ofNat n).toInt = n := by
  have : (Int64.ofNat n).toInt = (n : Int).bmod (2 ^ 64) := by
    first
    | exact Int64.toInt_ofNat'
    | exact Int64.toInt_ofNat
    | simp
  rw [this, bm64 (by omega) (by omega)]
theorem j_sh {a b : Nat} (ha : a < 65536) (hb : b < 65536) : (Int64.ofNat a <<< (((16 : Int32)).toInt64 &&& 63)) ||| Int64.ofNat b = Int64.ofNat (a * 65536 + b) := by
  apply Int64.toBitVec_inj.mp
  apply BitVec.eq_of_toNat_eq
  have e : (((16 : Int32)).toInt64 &&& 63) = (16 : Int64) := by decide
  rw [e]
  have e2 : a * 65536 + b = (a <<< 16) ||| b := by
    rw [Nat.shiftLeft_eq, Nat.mul_comm a, show (65536 : Nat) = 2 ^ 16 from rfl, ← Nat.two_pow_add_eq_or_of_lt (i := 16) hb, Nat.mul_comm]
  rw [e2]
  simp
  rw [Nat.mod_eq_of_lt (show a < 18446744073709551616 by omega)]
theorem be_4 (F : Nat → Nat) (i : Nat) : be F i 4 = be F i 2 * 65536 + be F (i + 2) 2 := by
  simp only [be, Nat.add_assoc, Nat.reduceAdd, Nat.add_zero]
  omega
theorem u4_o (h : RO N i z u) (hi : i + 4 ≤ N) : f_M_u4 u = some (Int64.ofNat (be (xF u) i 4), sv u 2 (nI (i + 4))) := by
  have h1 := RO_at (j := i + 2) h (by omega)
  have b1 := be_lt (F := xF u) (F8 u) i 2
  have b2 := be_lt (F := xF u) (F8 u) (i + 2) 2
  unfold f_M_u4
  rw [u2_o h (by omega), cI_s, u2_o h1 (by omega), cI_s, svsv, show be (xF (sv u 2 (nI (i + 2)))) (i + 2) 2 = be (xF u) (i + 2) 2 from rfl, j_of (by omega), j_of (by omega), j_sh (by omega) (by omega)]
  rw [be_4]
theorem u4_b (h : RB N r w z u) : f_M_u4 u = some (0, u) := by
  unfold f_M_u4
  rw [u2_b h, cI_s, u2_b h, cI_s]
  rfl
theorem u4_x (h : RO N i z u) (hi : ¬ i + 4 ≤ N) : ∃ y v, f_M_u4 u = some (y, v) ∧ RB N 1 N z v := by
  unfold f_M_u4
  by_cases h1 : i + 2 ≤ N
  · have h2 := RO_at (j := i + 2) h h1
    obtain ⟨y, v, e, hb⟩ := u2_x h2 (by omega)
    exact ⟨_, v, by rw [u2_o h h1, cI_s, e, cI_s], hb⟩
  · obtain ⟨y, v, e, hb⟩ := u2_x h h1
    exact ⟨_, v, by rw [e, cI_s, u2_b hb, cI_s], hb⟩
theorem two_in {w : Nat} (hw : w + 2 ≤ 4000) : f_M_two u (nI w) = some (nI (be (xF u) w 2), u) := by
  unfold f_M_two
  rw [gd_in (by omega) (by decide), nI_1, gd_in (by omega) (by decide), ncl (by omega), ncl (by omega), b8_and, b8_and, shl8 (F8 u _) (F8 u _), be_2]
theorem byteOf_in {w : Nat} (hw : w < 4000) : f_M_byteOf u (nI w) = some (nI (xF u w), u) := by
  unfold f_M_byteOf
  rw [gd_in hw (by decide), ncl (by omega), b8_and]
theorem shl16 {a b : Nat} (ha : a < 65536) (hb : b < 65536) : (nI a <<< ((16 : Int32) &&& 31)) ||| nI b = nI (a * 65536 + b) := by
  have e : nI a <<< ((16 : Int32) &&& 31) = nI (a * 65536) := pk_shlN ((16 : Int32) &&& 31) 16 (by decide) (by omega)
  rw [e, nor, Nat.mul_comm, show (65536 : Nat) = 2 ^ 16 from rfl, ← Nat.two_pow_add_eq_or_of_lt (i := 16) hb]
theorem four_in {w : Nat} (hw : w + 4 ≤ 4000) : f_M_four u (nI w) = some (nI (be (xF u) w 4), u) := by
  have b1 := be_lt (F := xF u) (F8 u) w 2
  have b2 := be_lt (F := xF u) (F8 u) (w + 2) 2
  unfold f_M_four
  rw [two_in (by omega), cI_s, show nI w + 2 = nI (w + 2) from nI_add w 2, two_in (by omega), cI_s, shl16 (by omega) (by omega)]
  rw [be_4]
end RF
/-- the outcome of the spec in the reference, with what stays of z -/
def MP {α γ : Type} (N : Nat) (z : St) (st : γ → St) (res : Except Er (α × Nat)) (φ : α → γ → Prop) (u : γ) : Prop := match res with
  | .ok q => RO N q.2 z (st u) ∧ φ q.1 u
  | .error e => RB N e.1 e.2 z (st u)
abbrev RQ {α : Type} (N : Nat) (z : St) (res : Except Er (α × Nat)) (φ : α → St → Prop) (u : St) : Prop := MP N z (fun v => v) res φ u
abbrev RQI {α : Type} (N : Nat) (z : St) (res : Except Er (α × Nat)) (φ : α → Int32 × St → Prop) (u : Int32 × St) : Prop := MP N z (fun v => v.2) res φ u
theorem MP_mono {α γ : Type} {N : Nat} {z : St} {st : γ → St} {res : Except Er (α × Nat)} {φ φ' : α → γ → Prop} {x : γ} (h : MP N z st res φ x) (k : ∀ a, φ a x → φ' a x) : MP N z st res φ' x := by
  cases res with
  | error e => exact h
  | ok q => exact ⟨h.1, k _ h.2⟩
section MQS
variable {α β γ : Type} {N i : Nat} {z u : St} {p : P α} {f : α → P β} {st : γ → St} {ψ : β → γ → Prop}
theorem mq_V {o : Option St} {k : St → Option γ} {φ : α → St → Prop} (h : wp o (RQ N z (p i) φ)) (h1 : ∀ a j u, p i = .ok (a, j) → RO N j z u → φ a u → wp (k u) (MP N z st (f a j) ψ)) (h2 : ∀ r w u, RB N r w z u → wp (k u) (MP N z st (.error (r, w)) ψ)) : wp (cV o k) (MP N z st (pb p f i) ψ) := by
  refine wp_cV (wp_mono h fun u hu => ?_)
  cases hp : p i with
  | error e =>
    rw [hp] at hu
    rw [pb_x hp]
    exact h2 _ _ _ hu
  | ok q =>
    rw [hp] at hu
    obtain ⟨a, j⟩ := q
    rw [pb_s hp]
    exact h1 _ _ _ hp hu.1 hu.2
theorem mq_T {o : Option St} {k : St → Option γ} {φ : α → St → Prop} (h : wp o (RQ N z (p i) φ)) (h1 : ∀ a j u, p i = .ok (a, j) → RO N j z u → φ a u → wp (k u) (MP N z st (f a j) ψ)) (h2 : ∀ r w u, RB N r w z u → wp (k u) (MP N z st (.error (r, w)) ψ)) : wp (cT o k) (MP N z st (pb p f i) ψ) := by
  refine wp_cT (wp_mono h fun u hu => ?_)
  cases hp : p i with
  | error e =>
    rw [hp] at hu
    rw [pb_x hp]
    exact h2 _ _ _ hu
  | ok q =>
    rw [hp] at hu
    obtain ⟨a, j⟩ := q
    rw [pb_s hp]
    exact h1 _ _ _ hp hu.1 hu.2
theorem mq_I {o : Option (Int32 × St)} {k : Int32 → St → Option γ} {φ : α → Int32 × St → Prop} (h : wp o (RQI N z (p i) φ)) (h1 : ∀ a j x u, p i = .ok (a, j) → RO N j z u → φ a (x, u) → wp (k x u) (MP N z st (f a j) ψ)) (h2 : ∀ r w x u, RB N r w z u → wp (k x u) (MP N z st (.error (r, w)) ψ)) : wp (cI o k) (MP N z st (pb p f i) ψ) := by
  refine wp_cI (wp_mono h fun u hu => ?_)
  cases hp : p i with
  | error e =>
    rw [hp] at hu
    rw [pb_x hp]
    exact h2 _ _ _ _ hu
  | ok q =>
    rw [hp] at hu
    obtain ⟨a, j⟩ := q
    rw [pb_s hp]
    exact h1 _ _ _ _ hp hu.1 hu.2
theorem mq_pa {o : Option γ} {f : Nat → P β} (h : wp o (MP N z st (f i i) ψ)) : wp o (MP N z st (pb pa f i) ψ) := h
/-- a must: 1 and sound, or 0 and broken -/
theorem mq_must {r w : Nat} {x y v : Int32} {b : Bool} {k : Int32 → St → Option γ} {f : Unit → P β} (hO : RO N i z u) (hy : y = nI r) (hv : v = nI w) (hr : 1 ≤ r ∧ r ≤ 29) (hb : x = 0 ↔ b = false) (h1 : b = true → wp (k 1 u) (MP N z st (f () i) ψ)) (h2 : ∀ u, RB N r w z u → wp (k 0 u) (MP N z st (.error (r, w)) ψ)) : wp (cI (f_M_must u x y v) k) (MP N z st (pb (pn b r w) f i) ψ) := by
  cases b with
  | true =>
    rw [must_t hO (fun q => by cases hb.mp q), cI_s, pb_s (pn_s rfl)]
    exact h1 rfl
  | false =>
    rw [hb.mpr rfl, hy, hv, must_f hO hr.1 hr.2, cI_s, pb_x (pn_x rfl)]
    exact h2 _ (RO_B hO hr.1 hr.2)
theorem mq_mustK {r w : Nat} {x y v : Int32} {b : Bool} {k : Int32 → St → Option γ} {f : Unit → P β} (hO : RO N i z u) (hy : y = nI r) (hv : v = nI w) (hr : 1 ≤ r ∧ r ≤ 29) (hb : x = 0 ↔ b = false) (h1 : b = true → wp (k 1 u) (MP N z st (f () i) ψ)) (h2 : ∀ v, RB N r w z v → ko [3, 4] [] u v → wp (k 0 v) (MP N z st (.error (r, w)) ψ)) : wp (cI (f_M_must u x y v) k) (MP N z st (pb (pn b r w) f i) ψ) := by
  cases b with
  | true =>
    rw [must_t hO (fun q => by cases hb.mp q), cI_s, pb_s (pn_s rfl)]
    exact h1 rfl
  | false =>
    rw [hb.mpr rfl, hy, hv, must_f hO hr.1 hr.2, cI_s, pb_x (pn_x rfl)]
    exact h2 _ (RO_B hO hr.1 hr.2) (rbk_ko (by decide) (by decide))
theorem mq_mustE {r w : Nat} {x y v : Int32} {b : Bool} {k : Int32 → St → Option γ} {ψ : Unit → γ → Prop} (hO : RO N i z u) (hy : y = nI r) (hv : v = nI w) (hr : 1 ≤ r ∧ r ≤ 29) (hb : x = 0 ↔ b = false) (h1 : b = true → wp (k 1 u) (MP N z st (.ok ((), i)) ψ)) (h2 : ∀ u, RB N r w z u → wp (k 0 u) (MP N z st (.error (r, w)) ψ)) : wp (cI (f_M_must u x y v) k) (MP N z st (pn b r w i) ψ) := by
  cases b with
  | true =>
    rw [must_t hO (fun q => by cases hb.mp q), cI_s, pn_s rfl]
    exact h1 rfl
  | false =>
    rw [hb.mpr rfl, hy, hv, must_f hO hr.1 hr.2, cI_s, pn_x rfl]
    exact h2 _ (RO_B hO hr.1 hr.2)
theorem mq_u2 {F : Nat → Nat} {k : Int32 → St → Option γ} {f : Nat → P β} (hO : RO N i z u) (hF : xF u = F) (h1 : i + 2 ≤ N → wp (k (nI (be F i 2)) (sv u 2 (nI (i + 2)))) (MP N z st (f (be F i 2) (i + 2)) ψ)) (h2 : ∀ x u, RB N 1 N z u → wp (k x u) (MP N z st (.error (1, N)) ψ)) : wp (cI (f_M_u2 u) k) (MP N z st (pb (pu F N 2) f i) ψ) := by
  by_cases h : i + 2 ≤ N
  · rw [u2_o hO h, cI_s, pb_s (pu_s h), hF]
    exact h1 h
  · obtain ⟨y, v, e, hb⟩ := u2_x hO h
    rw [e, cI_s, pb_x (pu_x h)]
    exact h2 _ _ hb
theorem mq_u1 {F : Nat → Nat} {k : Int32 → St → Option γ} {f : Nat → P β} (hO : RO N i z u) (hF : xF u = F) (h1 : i + 1 ≤ N → wp (k (nI (F i)) (sv u 2 (nI (i + 1)))) (MP N z st (f (F i) (i + 1)) ψ)) (h2 : ∀ x u, RB N 1 N z u → wp (k x u) (MP N z st (.error (1, N)) ψ)) : wp (cI (f_M_u1 u) k) (MP N z st (pb (pu F N 1) f i) ψ) := by
  by_cases h : i + 1 ≤ N
  · rw [u1_o hO h, cI_s, pb_s (pu_s h), be1, hF]
    exact h1 h
  · rw [u1_x hO h, cI_s, pb_x (pu_x h)]
    exact h2 _ _ (RO_B hO (by decide) (by decide))
theorem mq_u4 {F : Nat → Nat} {k : Int64 → St → Option γ} {f : Nat → P β} (hO : RO N i z u) (hF : xF u = F) (h1 : i + 4 ≤ N → wp (k (Int64.ofNat (be F i 4)) (sv u 2 (nI (i + 4)))) (MP N z st (f (be F i 4) (i + 4)) ψ)) (h2 : ∀ x u, RB N 1 N z u → wp (k x u) (MP N z st (.error (1, N)) ψ)) : wp (cJ (f_M_u4 u) k) (MP N z st (pb (pu F N 4) f i) ψ) := by
  by_cases h : i + 4 ≤ N
  · rw [u4_o hO h, cJ_s, pb_s (pu_s h), hF]
    exact h1 h
  · obtain ⟨y, v, e, hb⟩ := u4_x hO h
    rw [e, cJ_s, pb_x (pu_x h)]
    exact h2 _ _ hb
end MQS

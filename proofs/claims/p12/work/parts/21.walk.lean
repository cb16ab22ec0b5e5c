/-! THE CLASS'S Walk in closed form. State: 0 length, 1 at, 2 broken, 3 place; array 0 the bytes -/
theorem need_eq (u : St) (b r p : Int32) : f_W_need u b r p = some (if b = 0 ∧ u.1 2 = 0 then sv (sv u 2 r) 3 p else u) := by
  unfold f_W_need cT bnd
  by_cases h1 : b = 0 <;> by_cases h2 : u.1 2 = 0 <;> simp [h1, h2]
theorem sound_eq (u : St) : f_W_sound u = some (if u.1 2 = 0 then 1 else 0, u) := by
  unfold f_W_sound bnd gb
  by_cases h2 : u.1 2 = 0 <;> simp [h2]
abbrev xF (u : St) : Nat → Nat := by8 (u.2 0)
theorem numL_eq (u : St) {w k : Nat} (hw : w + k ≤ 4000) (hk : k ≤ 4) : ∀ (n j : Nat), j ≤ k → k - j < n → f_W_numberAt_L21 (nI w) (nI k) u n (nI (be (xF u) w j)) (nI (w + j)) = some (nI (be (xF u) w k)) := by
  intro n
  induction n with
  | zero => intro j _ h; omega
  | succ n ih =>
    intro j hj hn
    rw [f_W_numberAt_L21]
    by_cases h : j = k
    · subst h
      rw [if_pos (by rw [nI_add]; exact nI_le (Nat.le_refl _) (by omega))]
    · rw [if_neg (by rw [nI_add]; exact nI_ge (by omega) (by omega)), gd_in (by omega) (by decide)]
      have hb := be_lt (F := xF u) (fun j => by8_lt _ _) w j
      have hb4 : be (xF u) w j * 256 + xF u (w + j) < 2 ^ 32 := by
        have h2 : xF u (w + j) < 256 := by8_lt (u.2 0) (w + j)
        have h3 : (256 : Nat) ^ j ≤ 256 ^ 3 := Nat.pow_le_pow_right (by decide) (by omega)
        have h4 : (256 : Nat) ^ 3 = 16777216 := by decide
        show _ < 4294967296
        omega
      have e : (nI (be (xF u) w j) <<< (8 &&& 31)) ||| ((u.2 0 (nI (w + j)).toNatClampNeg) &&& 255) = nI (be (xF u) w (j + 1)) := by
        rw [ncl (by omega)]
        show (nI _ <<< (nI 8 &&& nI 31)) ||| (u.2 0 (w + j) &&& nI 255) = _
        rw [by8_and, nI_or8 (by8_lt _ _) hb4]
        rfl
      rw [e, nI_1]
      exact ih (j + 1) (by omega) (by omega)
theorem num_in (u : St) {N w k : Nat} (hN : u.1 0 = nI N) (h4 : N ≤ 4000) (hk : k ≤ 4) (h : w + k ≤ N) : f_W_numberAt u (nI w) (nI k) = some (nI (be (xF u) w k), u) := by
  unfold f_W_numberAt
  rw [if_neg (nI_pos (by omega)), hN, if_pos ((nsI (by omega) (by omega) (by omega)).mpr h)]
  have := numL_eq u (w := w) (k := k) (by omega) hk FU 0 (Nat.zero_le _) (by unfold FU; omega)
  rw [Nat.add_zero] at this
  have e0 : (0 : Int32) = nI (be (xF u) w 0) := rfl
  rw [e0, this]
  rfl
theorem num_out (u : St) {N w k : Nat} (hN : u.1 0 = nI N) (h4 : N ≤ 4000) (hk : k ≤ 4) (hw : w < 2 ^ 30) (h : ¬ w + k ≤ N) : f_W_numberAt u (nI w) (nI k) = some (0, u) := by
  unfold f_W_numberAt
  rw [if_neg (nI_pos (by omega)), hN, if_neg (fun q => h ((nsI hw (by omega) (by omega)).mp q))]
/-- any place: an answer, the state as it was -/
theorem num_any (u : St) {N k : Nat} (x : Int32) (hN : u.1 0 = nI N) (h4 : N ≤ 4000) (hk : k ≤ 4) : ∃ v : Nat, v < 256 ^ k ∧ f_W_numberAt u x (nI k) = some (nI v, u) := by
  by_cases h0 : x < 0
  · exact ⟨0, Nat.pow_pos (by decide), by unfold f_W_numberAt; rw [if_pos h0]; rfl⟩
  · obtain ⟨j, hj, rfl⟩ := nI_of h0
    by_cases hs : nI j ≤ nI N - nI k
    · have e1 := Int32.le_iff_toInt_le.mp hs
      rw [nI_toInt hj, pk_sub_toInt (by omega) (by omega)] at e1
      exact ⟨_, be_lt (fun j => by8_lt _ _) _ _, num_in u hN h4 hk (by omega)⟩
    · exact ⟨0, Nat.pow_pos (by decide), by unfold f_W_numberAt; rw [if_neg h0, hN, if_neg hs]; rfl⟩
/-- the next number: all there -/
theorem next_in (u : St) {N i k : Nat} (hN : u.1 0 = nI N) (h4 : N ≤ 4000) (hk : k ≤ 4) (hb : u.1 2 = 0) (ha : u.1 1 = nI i) (h : i + k ≤ N) : f_W_next u (nI k) = some (nI (be (xF u) i k), sv u 1 (nI (i + k))) := by
  unfold f_W_next
  rw [if_pos hb, ha, hN, if_pos ((nsI (by omega) (by omega) (by omega)).mpr h), num_in u hN h4 hk h]
  simp only [cI, bnd]
  rw [ha, nI_add]
theorem next_out (u : St) {N i k : Nat} (hN : u.1 0 = nI N) (h4 : N ≤ 4000) (hk : k ≤ 8) (hb : u.1 2 = 0) (ha : u.1 1 = nI i) (hi : i ≤ N) (h : ¬ i + k ≤ N) : f_W_next u (nI k) = some (0, sv (sv u 2 1) 3 (nI N)) := by
  unfold f_W_next
  rw [if_pos hb, ha, hN, if_neg (fun q => h ((nsI (by omega) (by omega) (by omega)).mp q))]
  simp only [bnd]
  rw [show (sv u 2 1).1 0 = u.1 0 from rfl, hN]
theorem next_bad (u : St) (k : Int32) (hb : ¬ u.1 2 = 0) : f_W_next u k = some (0, u) := by
  unfold f_W_next
  rw [if_neg hb]

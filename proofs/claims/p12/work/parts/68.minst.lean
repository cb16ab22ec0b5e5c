/-! THE REFERENCE: CODE, INSTRUCTIONS of a fixed width -/
def barX (x0 : Int32) : Int32 := bnd (if x0 < 11 then (if x0 = 23 then (1) else (if x0 = 24 then (1) else (if x0 < 34 then (if x0 = 48 then (1) else (if x0 = 49 then (1) else (if x0 = 56 then (1) else (if x0 = 57 then (1) else (if x0 < 67 then (if x0 = 81 then (1) else (if x0 = 82 then (1) else (0))) else (if x0 ≤ 74 then (1) else (if x0 = 81 then (1) else (if x0 = 82 then (1) else (0))))))))) else (if x0 ≤ 41 then (1) else (if x0 = 48 then (1) else (if x0 = 49 then (1) else (if x0 = 56 then (1) else (if x0 = 57 then (1) else (if x0 < 67 then (if x0 = 81 then (1) else (if x0 = 82 then (1) else (0))) else (if x0 ≤ 74 then (1) else (if x0 = 81 then (1) else (if x0 = 82 then (1) else (0))))))))))))) else (if x0 ≤ 15 then (1) else (if x0 = 23 then (1) else (if x0 = 24 then (1) else (if x0 < 34 then (if x0 = 48 then (1) else (if x0 = 49 then (1) else (if x0 = 56 then (1) else (if x0 = 57 then (1) else (if x0 < 67 then (if x0 = 81 then (1) else (if x0 = 82 then (1) else (0))) else (if x0 ≤ 74 then (1) else (if x0 = 81 then (1) else (if x0 = 82 then (1) else (0))))))))) else (if x0 ≤ 41 then (1) else (if x0 = 48 then (1) else (if x0 = 49 then (1) else (if x0 = 56 then (1) else (if x0 = 57 then (1) else (if x0 < 67 then (if x0 = 81 then (1) else (if x0 = 82 then (1) else (0))) else (if x0 ≤ 74 then (1) else (if x0 = 81 then (1) else (if x0 = 82 then (1) else (0))))))))))))))) fun (z1 : Int32) => bnd (if x0 < 96 then (0) else (if 119 < x0 then (0) else (if (x0 - x0 / 4 * 4) < 2 then (0) else (1)))) fun (z2 : Int32) => bnd (if x0 = 134 then (1) else (if x0 = 135 then (1) else (if x0 < 137 then (if x0 < 149 then (if x0 = 174 then (1) else (if x0 = 175 then (1) else (0))) else (if x0 ≤ 152 then (1) else (if x0 = 174 then (1) else (if x0 = 175 then (1) else (0))))) else (if x0 ≤ 144 then (1) else (if x0 < 149 then (if x0 = 174 then (1) else (if x0 = 175 then (1) else (0))) else (if x0 ≤ 152 then (1) else (if x0 = 174 then (1) else (if x0 = 175 then (1) else (0))))))))) fun (z3 : Int32) => bnd (if ((z1 ||| z2) ||| z3) = 0 then (if x0 = 168 then (1) else (if x0 = 169 then (1) else (if x0 = 186 then (1) else (if x0 = 194 then (1) else (if x0 = 195 then (1) else (if x0 ≤ 200 then (0) else (1))))))) else (1)) fun (z4 : Int32) => z4
def lenX (x0 : Int32) : Int32 := if x0 = 16 then (2) else (if x0 = 18 then (2) else (if x0 < 21 then (if x0 < 54 then (if x0 = 188 then (2) else (if x0 = 17 then (3) else (if x0 = 19 then (3) else (if x0 = 20 then (3) else (if x0 = 132 then (3) else (if x0 < 153 then (if x0 < 178 then (if x0 = 187 then (3) else (if x0 = 189 then (3) else (if x0 = 192 then (3) else (if x0 = 193 then (3) else (if x0 = 198 then (3) else (if x0 = 199 then (3) else (if x0 = 197 then (4) else (bnd (if x0 = 185 then (5) else (if x0 = 200 then (5) else (1))) fun (z1 : Int32) => z1)))))))) else (if x0 ≤ 184 then (3) else (if x0 = 187 then (3) else (if x0 = 189 then (3) else (if x0 = 192 then (3) else (if x0 = 193 then (3) else (if x0 = 198 then (3) else (if x0 = 199 then (3) else (if x0 = 197 then (4) else (bnd (if x0 = 185 then (5) else (if x0 = 200 then (5) else (1))) fun (z3 : Int32) => z3)))))))))) else (if x0 ≤ 167 then (3) else (if x0 < 178 then (if x0 = 187 then (3) else (if x0 = 189 then (3) else (if x0 = 192 then (3) else (if x0 = 193 then (3) else (if x0 = 198 then (3) else (if x0 = 199 then (3) else (if x0 = 197 then (4) else (bnd (if x0 = 185 then (5) else (if x0 = 200 then (5) else (1))) fun (z5 : Int32) => z5)))))))) else (if x0 ≤ 184 then (3) else (if x0 = 187 then (3) else (if x0 = 189 then (3) else (if x0 = 192 then (3) else (if x0 = 193 then (3) else (if x0 = 198 then (3) else (if x0 = 199 then (3) else (if x0 = 197 then (4) else (bnd (if x0 = 185 then (5) else (if x0 = 200 then (5) else (1))) fun (z7 : Int32) => z7))))))))))))))))) else (if x0 ≤ 58 then (2) else (if x0 = 188 then (2) else (if x0 = 17 then (3) else (if x0 = 19 then (3) else (if x0 = 20 then (3) else (if x0 = 132 then (3) else (if x0 < 153 then (if x0 < 178 then (if x0 = 187 then (3) else (if x0 = 189 then (3) else (if x0 = 192 then (3) else (if x0 = 193 then (3) else (if x0 = 198 then (3) else (if x0 = 199 then (3) else (if x0 = 197 then (4) else (bnd (if x0 = 185 then (5) else (if x0 = 200 then (5) else (1))) fun (z9 : Int32) => z9)))))))) else (if x0 ≤ 184 then (3) else (if x0 = 187 then (3) else (if x0 = 189 then (3) else (if x0 = 192 then (3) else (if x0 = 193 then (3) else (if x0 = 198 then (3) else (if x0 = 199 then (3) else (if x0 = 197 then (4) else (bnd (if x0 = 185 then (5) else (if x0 = 200 then (5) else (1))) fun (z11 : Int32) => z11)))))))))) else (if x0 ≤ 167 then (3) else (if x0 < 178 then (if x0 = 187 then (3) else (if x0 = 189 then (3) else (if x0 = 192 then (3) else (if x0 = 193 then (3) else (if x0 = 198 then (3) else (if x0 = 199 then (3) else (if x0 = 197 then (4) else (bnd (if x0 = 185 then (5) else (if x0 = 200 then (5) else (1))) fun (z13 : Int32) => z13)))))))) else (if x0 ≤ 184 then (3) else (if x0 = 187 then (3) else (if x0 = 189 then (3) else (if x0 = 192 then (3) else (if x0 = 193 then (3) else (if x0 = 198 then (3) else (if x0 = 199 then (3) else (if x0 = 197 then (4) else (bnd (if x0 = 185 then (5) else (if x0 = 200 then (5) else (1))) fun (z15 : Int32) => z15))))))))))))))))))) else (if x0 ≤ 25 then (2) else (if x0 < 54 then (if x0 = 188 then (2) else (if x0 = 17 then (3) else (if x0 = 19 then (3) else (if x0 = 20 then (3) else (if x0 = 132 then (3) else (if x0 < 153 then (if x0 < 178 then (if x0 = 187 then (3) else (if x0 = 189 then (3) else (if x0 = 192 then (3) else (if x0 = 193 then (3) else (if x0 = 198 then (3) else (if x0 = 199 then (3) else (if x0 = 197 then (4) else (bnd (if x0 = 185 then (5) else (if x0 = 200 then (5) else (1))) fun (z17 : Int32) => z17)))))))) else (if x0 ≤ 184 then (3) else (if x0 = 187 then (3) else (if x0 = 189 then (3) else (if x0 = 192 then (3) else (if x0 = 193 then (3) else (if x0 = 198 then (3) else (if x0 = 199 then (3) else (if x0 = 197 then (4) else (bnd (if x0 = 185 then (5) else (if x0 = 200 then (5) else (1))) fun (z19 : Int32) => z19)))))))))) else (if x0 ≤ 167 then (3) else (if x0 < 178 then (if x0 = 187 then (3) else (if x0 = 189 then (3) else (if x0 = 192 then (3) else (if x0 = 193 then (3) else (if x0 = 198 then (3) else (if x0 = 199 then (3) else (if x0 = 197 then (4) else (bnd (if x0 = 185 then (5) else (if x0 = 200 then (5) else (1))) fun (z21 : Int32) => z21)))))))) else (if x0 ≤ 184 then (3) else (if x0 = 187 then (3) else (if x0 = 189 then (3) else (if x0 = 192 then (3) else (if x0 = 193 then (3) else (if x0 = 198 then (3) else (if x0 = 199 then (3) else (if x0 = 197 then (4) else (bnd (if x0 = 185 then (5) else (if x0 = 200 then (5) else (1))) fun (z23 : Int32) => z23))))))))))))))))) else (if x0 ≤ 58 then (2) else (if x0 = 188 then (2) else (if x0 = 17 then (3) else (if x0 = 19 then (3) else (if x0 = 20 then (3) else (if x0 = 132 then (3) else (if x0 < 153 then (if x0 < 178 then (if x0 = 187 then (3) else (if x0 = 189 then (3) else (if x0 = 192 then (3) else (if x0 = 193 then (3) else (if x0 = 198 then (3) else (if x0 = 199 then (3) else (if x0 = 197 then (4) else (bnd (if x0 = 185 then (5) else (if x0 = 200 then (5) else (1))) fun (z25 : Int32) => z25)))))))) else (if x0 ≤ 184 then (3) else (if x0 = 187 then (3) else (if x0 = 189 then (3) else (if x0 = 192 then (3) else (if x0 = 193 then (3) else (if x0 = 198 then (3) else (if x0 = 199 then (3) else (if x0 = 197 then (4) else (bnd (if x0 = 185 then (5) else (if x0 = 200 then (5) else (1))) fun (z27 : Int32) => z27)))))))))) else (if x0 ≤ 167 then (3) else (if x0 < 178 then (if x0 = 187 then (3) else (if x0 = 189 then (3) else (if x0 = 192 then (3) else (if x0 = 193 then (3) else (if x0 = 198 then (3) else (if x0 = 199 then (3) else (if x0 = 197 then (4) else (bnd (if x0 = 185 then (5) else (if x0 = 200 then (5) else (1))) fun (z29 : Int32) => z29)))))))) else (if x0 ≤ 184 then (3) else (if x0 = 187 then (3) else (if x0 = 189 then (3) else (if x0 = 192 then (3) else (if x0 = 193 then (3) else (if x0 = 198 then (3) else (if x0 = 199 then (3) else (if x0 = 197 then (4) else (bnd (if x0 = 185 then (5) else (if x0 = 200 then (5) else (1))) fun (z31 : Int32) => z31))))))))))))))))))))))
theorem ite_some {c : Prop} {d : Decidable c} {a b : Option (Int32 × St)} {x y : Int32} {u : St} (h1 : a = some (x, u)) (h2 : b = some (y, u)) : @ite _ c d a b = some (@ite _ c d x y, u) := by
  by_cases h : c
  · rw [if_pos h, if_pos h]; exact h1
  · rw [if_neg h, if_neg h]; exact h2
theorem bar_t : ∀ op : Fin 256, barX (nI op.val) = if fmN op.val = 0 then 1 else 0 := by decide +kernel
theorem len_t : ∀ op : Fin 202, fmN op.val ≠ 0 → fmN op.val ≠ 14 → fmN op.val ≠ 15 → fmN op.val ≠ 22 → lenX (nI op.val) = nI (wdN (fmN op.val)) := by decide +kernel
theorem ops_1 : ∀ op : Fin 202, fmN op.val = 1 ∨ fmN op.val = 2 ∨ fmN op.val = 3 ∨ fmN op.val = 12 ∨ fmN op.val = 13 → (op.val ≤ 17 ∨ (46 ≤ op.val ∧ op.val ≤ 53) ∨ (79 ≤ op.val ∧ op.val ≤ 131) ∨ (133 ≤ op.val ∧ op.val ≤ 177) ∨ op.val = 190 ∨ op.val = 191 ∨ (198 ≤ op.val)) := by decide +kernel
theorem ops_7 : ∀ op : Fin 202, fmN op.val = 7 → (op.val = 21 ∨ op.val = 25 ∨ op.val = 54 ∨ op.val = 58) := by decide +kernel
theorem ops_8 : ∀ op : Fin 202, fmN op.val = 8 → (op.val = 22 ∨ op.val = 55) := by decide +kernel
theorem ops_9 : ∀ op : Fin 202, fmN op.val = 9 → ((26 ≤ op.val ∧ op.val ≤ 29) ∨ (42 ≤ op.val ∧ op.val ≤ 45) ∨ (59 ≤ op.val ∧ op.val ≤ 62) ∨ (75 ≤ op.val ∧ op.val ≤ 78)) := by decide +kernel
theorem ops_10 : ∀ op : Fin 202, fmN op.val = 10 → ((30 ≤ op.val ∧ op.val ≤ 33) ∨ (63 ≤ op.val ∧ op.val ≤ 66)) := by decide +kernel
theorem ops_r : ∀ op : Fin 202, (fmN op.val = 11 → op.val = 132) ∧ (fmN op.val = 4 → op.val = 18) ∧ (fmN op.val = 5 → op.val = 19) ∧ (fmN op.val = 6 → op.val = 20) ∧ (fmN op.val = 16 → 178 ≤ op.val ∧ op.val ≤ 181) ∧ (fmN op.val = 17 → 182 ≤ op.val ∧ op.val ≤ 184) ∧ (fmN op.val = 18 → op.val = 185) ∧ (fmN op.val = 19 → op.val = 187 ∨ op.val = 189 ∨ op.val = 192 ∨ op.val = 193) ∧ (fmN op.val = 20 → op.val = 188) ∧ (fmN op.val = 21 → op.val = 197) := by decide +kernel
theorem lc_a : ∀ op : Fin 202, 26 ≤ op.val → op.val ≤ 45 → ((nI op.val - 26) - (nI op.val - 26) / 4 * 4) = nI ((op.val - 26) % 4) ∧ (21 + ((nI op.val - 26) / 4)) = nI (21 + (op.val - 26) / 4) := by decide +kernel
theorem lc_b : ∀ op : Fin 202, 59 ≤ op.val → op.val ≤ 78 → ((nI op.val - 59) - (nI op.val - 59) / 4 * 4) = nI ((op.val - 59) % 4) ∧ (54 + ((nI op.val - 59) / 4)) = nI (54 + (op.val - 59) / 4) := by decide +kernel
section MIN
variable {F : Nat → Nat} {N c i r w b sz lo ver pc p : Nat} {K B : Nat → Nat} {z u : St}
theorem bar_eq {op : Nat} (h : op < 256) : f_M_isBarred u (nI op) = some (if fmN op = 0 then 1 else 0, u) := by
  have e : f_M_isBarred u (nI op) = gb (barX (nI op)) (some (barX (nI op), u)) := rfl
  rw [e, bar_t ⟨op, h⟩]
  dsimp only
  by_cases d : fmN op = 0
  · rw [if_pos d, gb_1]
  · rw [if_neg d, gb_0]
theorem lenX_eq {x : Int32} : f_M_lengthOf u x = some (lenX x, u) := by
  unfold f_M_lengthOf lenX
  repeat' (first | rfl | apply ite_some)
/-- the CODE at hand, in the reference -/
def CM (N b sz lo ver : Nat) (u : St) : Prop := u.1 20 = nI b ∧ u.1 21 = nI (b + sz) ∧ u.1 22 = nI lo ∧ u.1 5 = nI ver ∧ b + sz ≤ N ∧ sz ≤ 2000 ∧ lo ≤ 255 ∧ ver < 65536
theorem CM_ko {s t : List Nat} {v : St} (h : CM N b sz lo ver u) (hk : ko s t u v) (hs : 20 ∉ s ∧ 21 ∉ s ∧ 22 ∉ s ∧ 5 ∉ s) : CM N b sz lo ver v := by
  obtain ⟨a1, a2, a3, a4, a5⟩ := h
  exact ⟨(hk.1 20 hs.1).trans a1, (hk.1 21 hs.2.1).trans a2, (hk.1 22 hs.2.2.1).trans a3, (hk.1 5 hs.2.2.2).trans a4, a5⟩
/-- what the links say, for the reference -/
def ML2 (F : Nat → Nat) (c : Nat) (K B : Nat → Nat) : Prop := LK F c K B ∧ ∀ k, isK c K k 11 = true → plT F B (nmM F B k) = true ∧ hdT F B 40 (tyM F B k) = true
theorem ML2_of {i j : Nat} {q q' : Unit × Nat} (h : sAll (sLk1 F c K B) (c - 1) 1 i = .ok q) (h' : sAll (sLk2 F c K B) (c - 1) 1 j = .ok q') : ML2 F c K B := by
  refine ⟨LK_of h h', ?_⟩
  intro m hm
  obtain ⟨m1, m2, m3⟩ := isK_t.mp hm
  have e := (sAll_ok sLk2_i _ _ _ _ h').2 m m1 (by omega)
  unfold sLk2 at e
  rw [if_pos (by omega)] at e
  obtain ⟨a, j, h1, h2⟩ := pb_ok e
  obtain ⟨a2, j2, h3, h4⟩ := pb_ok h2
  have := (pn_ok h4).1
  unfold fitM at this
  rw [if_neg (by omega), if_pos m3, Bool.and_eq_true] at this
  exact this
theorem there_o {to : Nat} {x : Int32} (hO : RO N i z u) (hC : CM N b sz lo ver u) (h : to ≤ b + sz) : f_M_isThere u x (nI to) = some (1, u) := by
  have hN := hO.1.1
  have := hC.2.2.2.2.1
  unfold f_M_isThere
  rw [hC.2.1, if_neg (nI_nlt h (by omega)), bnd_s, must_t hO (by decide), cI_s, gb_1]
theorem there_x {to : Nat} (hO : RO N i z u) (hC : CM N b sz lo ver u) (h : ¬ to ≤ b + sz) (ht : to < 100000) : f_M_isThere u (nI p) (nI to) = some (0, rbk u 25 p) := by
  have hN := hO.1.1
  unfold f_M_isThere
  rw [hC.2.1, if_pos (nI_lt (by omega) (by omega)), bnd_s, must_fl 25 (r := 25) rfl hO (by decide) (by decide), cI_s, gb_0]
def twoL (op : Nat) : Nat := if op = 22 ∨ op = 55 then 2 else 1
theorem loc_z {op n : Nat} (h : op < 256) : nI n + (if nI op = 22 then (1 : Int32) else if nI op = 55 then 1 else 0) = nI (n + (twoL op - 1)) := by
  simp only [show (nI op = 22) = (op = 22) from neq (b := 22) (by omega) (by decide), show (nI op = 55) = (op = 55) from neq (b := 55) (by omega) (by decide)]
  unfold twoL
  by_cases a : op = 22
  · rw [if_pos a, if_pos (Or.inl a)]; exact nI_add n 1
  · rw [if_neg a]
    by_cases b : op = 55
    · rw [if_pos b, if_pos (Or.inr b)]; exact nI_add n 1
    · rw [if_neg b, if_neg (by omega)]; exact nI_add n 0
theorem loc_m {op n : Nat} (hO : RO N i z u) (hC : CM N b sz lo ver u) (hop : op < 256) (hn : n < 65536) : f_M_local u (nI p) (nI op) (nI n) = some (if lo < n + twoL op then rbk u 23 p else u) := by
  have hlo := hC.2.2.2.2.2.2.1
  have h2 : 1 ≤ twoL op ∧ twoL op ≤ 2 := by unfold twoL; split <;> omega
  unfold f_M_local
  rw [bnd_s, loc_z hop, hC.2.2.1]
  by_cases d : lo < n + twoL op
  · rw [if_pos (nI_le (by omega) (by omega)), bnd_s, must_fl 23 (r := 23) rfl hO (by decide) (by decide), cI_s, if_pos d]
  · rw [if_neg (nI_ge (by omega) (by omega)), bnd_s, must_t hO (by decide), cI_s, if_neg d]
/-- the outcome of a check that leaves the place -/
def MC (N i : Nat) (z : St) (res : Except Er (Nat × List Int32)) (u v : St) : Prop := match res with
  | .ok _ => RO N i z v ∧ ko [18, 19] [] u v
  | .error e => RB N e.1 e.2 z v
set_option maxRecDepth 8000 in
theorem brP {x1 x2 x4 : Int32} {k : Nat} (hW : MW F N c K B u) (hL : LK F c K B) (hN : N ≤ 4000) (hk : isK c K k 7 = true) : ∀ (m j g : Nat), j + m = tn F B (n2 F (B k + 1)) → m < g → f_M_plain_L395 x1 x2 (nI k) x4 g u (nI j) = some (u, nI (j + br F m (ta B (n2 F (B k + 1)) + j)))
  | 0, j, g + 1, h1, _ => by
    have hT := hW.tx hN (hL.2.1 _ hk)
    have := hT.2.2.2
    rw [f_M_plain_L395, textOf_m hW hN hk, cI_s, letter_eq hT (by omega), cI_s, lt_out (by omega), if_neg (by decide), br]
    rfl
  | m + 1, j, g + 1, h1, h2 => by
    have hT := hW.tx hN (hL.2.1 _ hk)
    have := hT.2.2.2
    have f1 := hT.f8 (ta B (n2 F (B k + 1)) + j)
    rw [f_M_plain_L395, textOf_m hW hN hk, cI_s, letter_eq hT (by omega), cI_s, lt_in (by omega)]; simp only [show (nI (F (ta B (n2 F (B k + 1)) + j)) = 91) = (F (ta B (n2 F (B k + 1)) + j) = 91) from neq (b := 91) (by omega) (by decide)]; rw [br]
    by_cases q : F (ta B (n2 F (B k + 1)) + j) = 91
    · rw [if_pos q, if_pos q, nI_1, brP hW hL hN hk m (j + 1) g (by omega) (by omega), show ta B (n2 F (B k + 1)) + (j + 1) = ta B (n2 F (B k + 1)) + j + 1 by omega, show j + 1 + br F m (ta B (n2 F (B k + 1)) + j + 1) = j + (br F m (ta B (n2 F (B k + 1)) + j + 1) + 1) by omega]
    · rw [if_neg q, if_neg q]
      rfl
theorem inv_m {op n : Nat} (hO : RO N i z u) (hW : MW F N c K B u) (hM : ML2 F c K B) (hC : CM N b sz lo ver u) (hop : 182 ≤ op ∧ op ≤ 185) (hn : n < 65536) (hp : op = 185 → p + 5 ≤ N) : wp (f_M_invoke u (nI p) (nI op) (nI n)) (MC N i z (if kfit c K (if op = 185 then 18 else 17) op ver n then (if rfit F B (if op = 185 then 18 else 17) op n p then .ok (0, []) else .error (24, p)) else .error (8, p)) u) := by
  have hN := hO.1.1
  have hv := hC.2.2.2.2.2.2.2
  have o185 : (nI op = 185) = (op = 185) := neq (b := 185) (by omega) (by decide)
  have o183 : (nI op = 183) = (op = 183) := neq (b := 183) (by omega) (by decide)
  have o182 : (nI op = 182) = (op = 182) := neq (b := 182) (by omega) (by decide)
  have v52 : (nI ver < 52) = (ver < 52) := nlt (b := 52) (by omega) (by decide)
  unfold f_M_invoke
  rw [show (11 : Int32) = nI 11 from rfl, kind_l 10 (kd := 10) rfl hW hn (by decide), cI_s, kind_m hW hn (by decide), cI_s]; simp only [o185, o183, o182]; rw [hC.2.2.2.1]; simp only [v52]; rw [cI_s]
  have kf18 : kfit c K 18 op ver n = isK c K n 11 := rfl
  have kf17 : kfit c K 17 op ver n = (isK c K n 10 || (decide (op ≠ 182) && decide (52 ≤ ver) && isK c K n 11)) := rfl
  have ek : (if op = 185 then some ((if isK c K n 11 = true then (1 : Int32) else 0), u) else (if (if isK c K n 10 = true then (1 : Int32) else 0) = 0 then (if op = 182 then some (0, u) else if ver < 52 then some (0, u) else if (if isK c K n 11 = true then (1 : Int32) else 0) = 0 then some (0, u) else some (1, u)) else some (1, u))) = some (if kfit c K (if op = 185 then 18 else 17) op ver n = true then 1 else 0, u) := by
    by_cases d : op = 185
    · rw [if_pos d, if_pos d, kf18]
    · rw [if_neg d, if_neg d, kf17]
      by_cases d1 : op = 182
      · rw [if_pos d1, decide_eq_false (fun q => q d1)]
        cases isK c K n 10 <;> cases isK c K n 11 <;> rfl
      · rw [if_neg d1, decide_eq_true d1]
        by_cases d2 : ver < 52
        · rw [if_pos d2, decide_eq_false (by omega)]
          cases isK c K n 10 <;> cases isK c K n 11 <;> rfl
        · rw [if_neg d2, decide_eq_true (by omega)]
          cases isK c K n 10 <;> cases isK c K n 11 <;> rfl
  rw [ek, cT_s]
  dsimp only
  cases hk : kfit c K (if op = 185 then 18 else 17) op ver n with
  | false =>
    rw [if_neg (show ¬ (false = true) by decide), if_neg (show ¬ (false = true) by decide), must_fl 8 (r := 8) rfl hO (by decide) (by decide), cI_s, if_pos rfl]
    exact wp_some (RO_B hO (by decide) (by decide))
  | true =>
    rw [if_pos (show true = true from rfl), if_pos (show true = true from rfl), must_t hO (by decide), cI_s, if_neg (by decide)]
    by_cases d : op = 185
    · rw [if_pos d] at hk ⊢
      have h11 : isK c K n 11 = true := by
        rwa [kf18] at hk
      obtain ⟨q1, q2, q3⟩ := isK_t.mp h11
      obtain ⟨x7, x12⟩ := hM.1.2.2 n q1 q2 (by omega) (by omega)
      obtain ⟨y1, y2⟩ := hM.2 n h11
      obtain ⟨m1, m2, m3, m4, m5⟩ := hM.1.1 _ x12
      have hTn : TX F B (nmM F B n) u := hW.tx hN m1
      have hTt : TX F B (tyM F B n) u := hW.tx hN m2
      have w0 : wT F B 0 (nmM F B n) = false := by
        rcases nm_case F B (nmM F B n) with ⟨_, _, e, _⟩ | ⟨_, _, e, _⟩ | ⟨_, e, _⟩ | ⟨_, e, _⟩ | ⟨_, e, _⟩
        · rw [y1] at e; cases e
        · rw [y1] at e; cases e
        · exact e
        · exact e
        · exact e
      rw [if_neg (by omega), nameOf_m hW hN h11 (by decide) x12, cI_s, is_l 6 hTn (n := 6) rfl (j := 0) (by decide) (by decide) w_0, cI_s, w0, if_neg (show ¬ (false = true) by decide), if_pos rfl, cT_s]; (try dsimp only); rw [must_t hO (by decide), cI_s, if_pos d, typeOf_m hW hN h11 (by decide) x12, cI_s]
      refine wp_cI (wp_mono (method_is hTt) fun pq hp' => ?_)
      obtain ⟨p1, p2, p3⟩ := hp'
      have hms : (mtT F B (tyM F B n)).isSome = true := by
        have m3' : (dsT F B (tyM F B n)).isSome = true := m3
        unfold dsT at m3'
        rw [if_pos y2] at m3'
        cases hm : mtT F B (tyM F B n) with
        | none => rw [hm] at m3'; cases m3'
        | some q => rfl
      have h19 : pq.2.1 19 = nI (slT F B (tyM F B n)) := by
        unfold slT
        cases hm : mtT F B (tyM F B n) with
        | none => rw [hm] at hms; cases hms
        | some q =>
          obtain ⟨fl, sl, vd⟩ := q
          exact (p3 fl sl vd hm).2
      have hs := (ms_sl F B (tyM F B n)).2
      have hO2 := RO_ko hO p2 (by decide) (by decide)
      have f3 : F (p + 3) < 256 := hW.f8 _
      have f4 : F (p + 4) < 256 := hW.f8 _
      have hF2 : xF pq.2 = F := (ko_F p2 (by decide)).trans hW.1
      have := hp d
      rw [p1, hms, if_pos rfl, if_neg (by decide), show nI p + 3 = nI (p + 3) from nI_add p 3, show nI p + 4 = nI (p + 4) from nI_add p 4, byteOf_in (by omega), cI_s, hF2, h19, nI_1]; simp only [show (nI (F (p + 3)) = nI (slT F B (tyM F B n) + 1)) = (F (p + 3) = slT F B (tyM F B n) + 1) from neq (by omega) (by omega)]; rw [byteOf_in (by omega), cI_s, hF2]; simp only [show (nI (F (p + 4)) = 0) = (F (p + 4) = 0) from neq (b := 0) (by omega) (by decide)]
      have er : rfit F B 18 op n p = (decide (F (p + 3) = slT F B (tyM F B n) + 1) && decide (F (p + 4) = 0)) := by
        unfold rfit
        rw [if_neg (by decide), if_pos rfl, be_2, show p + 3 + 1 = p + 4 from rfl]
        by_cases a : F (p + 3) = slT F B (tyM F B n) + 1
        · by_cases b : F (p + 4) = 0
          · rw [decide_eq_true a, decide_eq_true b, decide_eq_true (by omega)]; rfl
          · rw [decide_eq_true a, decide_eq_false b, decide_eq_false (by omega)]; rfl
        · rw [decide_eq_false a, decide_eq_false (by omega)]; rfl
      rw [er]
      by_cases a : F (p + 3) = slT F B (tyM F B n) + 1
      · rw [if_pos a, decide_eq_true a, Bool.true_and]
        by_cases b : F (p + 4) = 0
        · rw [if_pos b, cT_s]; (try dsimp only); rw [must_t hO2 (by decide), cI_s, decide_eq_true b, if_pos rfl]
          exact wp_some ⟨hO2, p2⟩
        · rw [if_neg b, cT_s]; (try dsimp only); rw [must_fl 24 (r := 24) rfl hO2 (by decide) (by decide), cI_s, decide_eq_false b, if_neg (by decide)]
          exact wp_some (RO_B hO2 (by decide) (by decide))
      · rw [if_neg a, cT_s]; (try dsimp only); rw [must_fl 24 (r := 24) rfl hO2 (by decide) (by decide), cI_s, decide_eq_false a, Bool.false_and, if_neg (by decide)]
        exact wp_some (RO_B hO2 (by decide) (by decide))
    · rw [if_neg d] at hk ⊢
      unfold rfit
      rw [if_pos rfl]
      by_cases e : op = 183
      · rw [if_pos e, cT_s]; (try dsimp only); rw [must_t hO (by decide), cI_s, if_neg d, decide_eq_true e, Bool.true_or, if_pos rfl]
        exact wp_some ⟨hO, ko_rf⟩
      · have hkk : ∃ kd, (kd = 9 ∨ kd = 10 ∨ kd = 11) ∧ isK c K n kd = true := by
          rw [kf17] at hk
          cases h10 : isK c K n 10 with
          | true => exact ⟨10, by decide, h10⟩
          | false =>
            rw [h10, Bool.false_or, Bool.and_eq_true] at hk
            exact ⟨11, by decide, hk.2⟩
        obtain ⟨kd, hkd, hkn⟩ := hkk
        obtain ⟨q1, q2, q3⟩ := isK_t.mp hkn
        obtain ⟨x7, x12⟩ := hM.1.2.2 n q1 q2 (by omega) (by omega)
        obtain ⟨m1, m2, m3, m4, m5⟩ := hM.1.1 _ x12
        have hTn : TX F B (nmM F B n) u := hW.tx hN m1
        rw [if_neg e, nameOf_m hW hN hkn hkd x12, cI_s, is_l 6 hTn (n := 6) rfl (j := 0) (by decide) (by decide) w_0, cI_s, decide_eq_false e, Bool.false_or]
        cases wT F B 0 (nmM F B n) with
        | false =>
          rw [if_neg (show ¬ (false = true) by decide), if_pos rfl, cT_s]; (try dsimp only); rw [must_t hO (by decide), cI_s, if_neg d, if_pos (show (!false) = true from rfl)]
          exact wp_some ⟨hO, ko_rf⟩
        | true =>
          rw [if_pos (show true = true from rfl), if_neg (by decide), cT_s]; (try dsimp only); rw [must_fl 24 (r := 24) rfl hO (by decide) (by decide), cI_s, if_neg d, if_neg (by decide)]
          exact wp_some (RO_B hO (by decide) (by decide))
end MIN

/-! THE REFERENCE: CODE, plain INSTRUCTIONS -/
noncomputable def plC (u : St) (x1 : Int32) (op : Nat) : Option St := cT (if ((21 ≤ op ∧ op ≤ 25) ∨ (54 ≤ op ∧ op ≤ 58)) then (cI (f_M_byteOf u (x1 + 1)) fun r394 u392 => cV (f_M_local u392 x1 (nI op) r394) fun u395 => some (u395)) else some u) fun (u1 : St) => cT (if (26 ≤ op ∧ op ≤ 45) then (cV (f_M_local u1 x1 (21 + ((nI op - 26) / 4)) ((nI op - 26) - (nI op - 26) / 4 * 4)) fun u389 => some (u389)) else some u1) fun (u2 : St) => cT (if (59 ≤ op ∧ op ≤ 78) then (cV (f_M_local u2 x1 (54 + ((nI op - 59) / 4)) ((nI op - 59) - (nI op - 59) / 4 * 4)) fun u386 => some (u386)) else some u2) fun (u3 : St) => cT (if op = 132 then (cI (f_M_byteOf u3 (x1 + 1)) fun r382 u380 => cV (f_M_local u380 x1 (nI op) r382) fun u383 => some (u383)) else some u3) fun (u4 : St) => cT (if (op = 18 ∨ op = 19) then (cT (if op = 18 then (cI (f_M_byteOf u4 (x1 + 1)) fun r351 u349 => some (r351, u349)) else (cI (f_M_two u4 (x1 + 1)) fun r348 u346 => some (r348, u346))) fun (p352 : Int32 × St) => cI (f_M_isKind p352.2 p352.1 3) fun r331 u329 => cT (if r331 = 0 then (cI (f_M_isKind u329 p352.1 8) fun r340 u338 => if r340 = 0 then (cI (f_M_isKind u338 p352.1 7) fun r343 u341 => if r343 = 0 then (some ((0 : Int32), u341)) else (some (1, u341))) else (some (1, u338))) else (some (1, u329))) fun (p344 : Int32 × St) => cI (f_M_must p344.2 p344.1 8 x1) fun r336 u334 => some (u334)) else some u4) fun (u5 : St) => cT (if op = 20 then (cI (f_M_two u5 (x1 + 1)) fun r319 u317 => cI (f_M_isKind u317 r319 5) fun r322 u320 => cI (f_M_must u320 r322 8 x1) fun r325 u323 => some (u323)) else some u5) fun (u6 : St) => cT (if (178 ≤ op ∧ op ≤ 181) then (cI (f_M_two u6 (x1 + 1)) fun r309 u307 => cI (f_M_isKind u307 r309 9) fun r312 u310 => cI (f_M_must u310 r312 8 x1) fun r315 u313 => some (u313)) else some u6) fun (u7 : St) => cT (if (182 ≤ op ∧ op ≤ 185) then (cI (f_M_two u7 (x1 + 1)) fun r303 u301 => cV (f_M_invoke u301 x1 (nI op) r303) fun u304 => some (u304)) else some u7) fun (u8 : St) => if (op = 187 ∨ op = 189 ∨ op = 192 ∨ op = 193 ∨ op = 197) then (cI (f_M_two u8 (x1 + 1)) fun r11 u9 => cI (f_M_isKind u9 r11 7) fun r14 u12 => cI (f_M_must u12 r14 8 x1) fun r17 u15 => if r17 = 0 then (some u15) else (cT (if op = 187 then (cI (f_M_isArray u15 r11) fun r57 u55 => bnd (if r57 = 0 then (1) else (0)) fun (z58 : Int32) => cI (f_M_must u55 z58 24 x1) fun r61 u59 => some (u59)) else (some (u15))) fun (u18 : St) => cT (if op = 197 then (cI (f_M_byteOf u18 (x1 + 3)) fun r44 u42 => cT (f_M_plain_L395 x1 (nI op) r11 r44 FU u42 0) fun (p53 : St × Int32) => bnd (if r44 < 1 then (0) else (if p53.2 < r44 then (0) else (1))) fun (z47 : Int32) => cI (f_M_must p53.1 z47 24 x1) fun r50 u48 => some (u48)) else (some (u18))) fun (u19 : St) => cT (if op = 188 then (cI (f_M_byteOf u19 (x1 + 1)) fun r24 u22 => cT (if r24 = 4 then (some ((1 : Int32), u22)) else (cI (f_M_byteOf u22 (x1 + 1)) fun r33 u31 => if r33 = 5 then (some (1, u31)) else (cI (f_M_byteOf u31 (x1 + 1)) fun r36 u34 => if r36 < 8 then (some (0, u34)) else (cI (f_M_byteOf u34 (x1 + 1)) fun r39 u37 => if 11 < r39 then (some (0, u37)) else (some (1, u37)))))) fun (p40 : Int32 × St) => cI (f_M_must p40.2 p40.1 24 x1) fun r29 u27 => some (u27)) else (some (u19))) fun (u20 : St) => some u20)) else (cT (if op = 188 then (cI (f_M_byteOf u8 (x1 + 1)) fun r24 u22 => cT (if r24 = 4 then (some ((1 : Int32), u22)) else (cI (f_M_byteOf u22 (x1 + 1)) fun r33 u31 => if r33 = 5 then (some (1, u31)) else (cI (f_M_byteOf u31 (x1 + 1)) fun r36 u34 => if r36 < 8 then (some (0, u34)) else (cI (f_M_byteOf u34 (x1 + 1)) fun r39 u37 => if 11 < r39 then (some (0, u37)) else (some (1, u37)))))) fun (p40 : Int32 × St) => cI (f_M_must p40.2 p40.1 24 x1) fun r29 u27 => some (u27)) else some u8) fun (u225 : St) => some u225)
theorem cT_c {α β : Type} {o o' : Option α} {k k' : α → Option β} (h : o = o') (hk : ∀ v, k v = k' v) : cT o k = cT o' k' := by
  rw [h]
  cases o' with
  | none => rfl
  | some x => exact hk x
theorem plain_c {u : St} {x1 : Int32} {op : Nat} (hop : op < 256) : f_M_plain u x1 (nI op) = plC u x1 op := by
  unfold f_M_plain plC
  simp only [show (181 < nI op) = (181 < op) from nlt (a := 181) (by decide) (by omega), show (185 < nI op) = (185 < op) from nlt (a := 185) (by decide) (by omega), show (45 < nI op) = (45 < op) from nlt (a := 45) (by decide) (by omega), show (58 < nI op) = (58 < op) from nlt (a := 58) (by decide) (by omega), show (78 < nI op) = (78 < op) from nlt (a := 78) (by decide) (by omega), show (nI op < 178) = (op < 178) from nlt (b := 178) (by omega) (by decide), show (nI op < 182) = (op < 182) from nlt (b := 182) (by omega) (by decide), show (nI op < 21) = (op < 21) from nlt (b := 21) (by omega) (by decide), show (nI op < 26) = (op < 26) from nlt (b := 26) (by omega) (by decide), show (nI op < 54) = (op < 54) from nlt (b := 54) (by omega) (by decide), show (nI op < 59) = (op < 59) from nlt (b := 59) (by omega) (by decide), show (nI op = 132) = (op = 132) from neq (b := 132) (by omega) (by decide), show (nI op = 18) = (op = 18) from neq (b := 18) (by omega) (by decide), show (nI op = 187) = (op = 187) from neq (b := 187) (by omega) (by decide), show (nI op = 188) = (op = 188) from neq (b := 188) (by omega) (by decide), show (nI op = 189) = (op = 189) from neq (b := 189) (by omega) (by decide), show (nI op = 19) = (op = 19) from neq (b := 19) (by omega) (by decide), show (nI op = 192) = (op = 192) from neq (b := 192) (by omega) (by decide), show (nI op = 193) = (op = 193) from neq (b := 193) (by omega) (by decide), show (nI op = 197) = (op = 197) from neq (b := 197) (by omega) (by decide), show (nI op = 20) = (op = 20) from neq (b := 20) (by omega) (by decide), show (nI op ≤ 25) = (op ≤ 25) from nle (b := 25) (by omega) (by decide)]
  refine cT_c ?_ (fun u1 => cT_c ?_ (fun u2 => cT_c ?_ (fun u3 => cT_c ?_ (fun u4 => cT_c ?_ (fun u5 => cT_c ?_ (fun u6 => cT_c ?_ (fun u7 => cT_c ?_ (fun u8 => ?_))))))))
  · by_cases c : ((21 ≤ op ∧ op ≤ 25) ∨ (54 ≤ op ∧ op ≤ 58))
    · rw [if_pos c]
      repeat' split
      all_goals first | rfl | (exfalso; omega)
    · rw [if_neg c]
      repeat' split
      all_goals first | rfl | (exfalso; omega)
  · by_cases c : (26 ≤ op ∧ op ≤ 45)
    · rw [if_pos c, if_neg (by omega), if_neg (by omega)]
    · rw [if_neg c]
      repeat' split
      all_goals first | rfl | (exfalso; omega)
  · by_cases c : (59 ≤ op ∧ op ≤ 78)
    · rw [if_pos c, if_neg (by omega), if_neg (by omega)]
    · rw [if_neg c]
      repeat' split
      all_goals first | rfl | (exfalso; omega)
  · rfl
  · by_cases c : op = 18
    · rw [if_pos c, if_pos (show op = 18 ∨ op = 19 from Or.inl c)]
    · by_cases d : op = 19
      · rw [if_neg c, if_pos d, if_pos (show op = 18 ∨ op = 19 from Or.inr d)]
      · rw [if_neg c, if_neg d, if_neg (show ¬ (op = 18 ∨ op = 19) by omega)]
  · rfl
  · by_cases c : (178 ≤ op ∧ op ≤ 181)
    · rw [if_pos c, if_neg (by omega), if_neg (by omega)]
    · rw [if_neg c]
      repeat' split
      all_goals first | rfl | (exfalso; omega)
  · by_cases c : (182 ≤ op ∧ op ≤ 185)
    · rw [if_pos c, if_neg (by omega), if_neg (by omega)]
    · rw [if_neg c]
      repeat' split
      all_goals first | rfl | (exfalso; omega)
  · by_cases c1 : op = 187
    · rw [if_pos c1, if_pos (show (op = 187 ∨ op = 189 ∨ op = 192 ∨ op = 193 ∨ op = 197) by omega)]
    · rw [if_neg c1]
      by_cases c2 : op = 189
      · rw [if_pos c2, if_pos (show (op = 187 ∨ op = 189 ∨ op = 192 ∨ op = 193 ∨ op = 197) by omega)]
      · rw [if_neg c2]
        by_cases c3 : op = 192
        · rw [if_pos c3, if_pos (show (op = 187 ∨ op = 189 ∨ op = 192 ∨ op = 193 ∨ op = 197) by omega)]
        · rw [if_neg c3]
          by_cases c4 : op = 193
          · rw [if_pos c4, if_pos (show (op = 187 ∨ op = 189 ∨ op = 192 ∨ op = 193 ∨ op = 197) by omega)]
          · rw [if_neg c4]
            by_cases c5 : op = 197
            · rw [if_pos c5, if_pos (show (op = 187 ∨ op = 189 ∨ op = 192 ∨ op = 193 ∨ op = 197) by omega)]
            · rw [if_neg c5, if_neg (show ¬ (op = 187 ∨ op = 189 ∨ op = 192 ∨ op = 193 ∨ op = 197) by omega)]
section EVP
variable {u : St} {x1 : Int32} {op : Nat}
theorem e_0 (h : op ≤ 17 ∨ (46 ≤ op ∧ op ≤ 53) ∨ (79 ≤ op ∧ op ≤ 131) ∨ (133 ≤ op ∧ op ≤ 177) ∨ op = 190 ∨ op = 191 ∨ (198 ≤ op)) : plC u x1 op = some u := by
  unfold plC
  simp only [if_neg (show ¬ ((21 ≤ op ∧ op ≤ 25) ∨ (54 ≤ op ∧ op ≤ 58)) by omega), if_neg (show ¬ (26 ≤ op ∧ op ≤ 45) by omega), if_neg (show ¬ (59 ≤ op ∧ op ≤ 78) by omega), if_neg (show ¬ op = 132 by omega), if_neg (show ¬ (op = 18 ∨ op = 19) by omega), if_neg (show ¬ op = 20 by omega), if_neg (show ¬ (178 ≤ op ∧ op ≤ 181) by omega), if_neg (show ¬ (182 ≤ op ∧ op ≤ 185) by omega), if_neg (show ¬ (op = 187 ∨ op = 189 ∨ op = 192 ∨ op = 193 ∨ op = 197) by omega), if_neg (show ¬ op = 188 by omega), cT_s]
theorem e_a (h : ((21 ≤ op ∧ op ≤ 25) ∨ (54 ≤ op ∧ op ≤ 58))) : plC u x1 op = cT (cI (f_M_byteOf u (x1 + 1)) fun r394 u392 => cV (f_M_local u392 x1 (nI op) r394) fun u395 => some (u395)) fun v => some v := by
  unfold plC
  simp only [if_neg (show ¬ (26 ≤ op ∧ op ≤ 45) by omega), if_neg (show ¬ (59 ≤ op ∧ op ≤ 78) by omega), if_neg (show ¬ op = 132 by omega), if_neg (show ¬ (op = 18 ∨ op = 19) by omega), if_neg (show ¬ op = 20 by omega), if_neg (show ¬ (178 ≤ op ∧ op ≤ 181) by omega), if_neg (show ¬ (182 ≤ op ∧ op ≤ 185) by omega), if_neg (show ¬ (op = 187 ∨ op = 189 ∨ op = 192 ∨ op = 193 ∨ op = 197) by omega), if_neg (show ¬ op = 188 by omega), if_pos h, cT_s]
theorem e_b (h : (26 ≤ op ∧ op ≤ 45)) : plC u x1 op = cT (cV (f_M_local u x1 (21 + ((nI op - 26) / 4)) ((nI op - 26) - (nI op - 26) / 4 * 4)) fun u389 => some (u389)) fun v => some v := by
  unfold plC
  simp only [if_neg (show ¬ ((21 ≤ op ∧ op ≤ 25) ∨ (54 ≤ op ∧ op ≤ 58)) by omega), if_neg (show ¬ (59 ≤ op ∧ op ≤ 78) by omega), if_neg (show ¬ op = 132 by omega), if_neg (show ¬ (op = 18 ∨ op = 19) by omega), if_neg (show ¬ op = 20 by omega), if_neg (show ¬ (178 ≤ op ∧ op ≤ 181) by omega), if_neg (show ¬ (182 ≤ op ∧ op ≤ 185) by omega), if_neg (show ¬ (op = 187 ∨ op = 189 ∨ op = 192 ∨ op = 193 ∨ op = 197) by omega), if_neg (show ¬ op = 188 by omega), if_pos h, cT_s]
theorem e_c (h : (59 ≤ op ∧ op ≤ 78)) : plC u x1 op = cT (cV (f_M_local u x1 (54 + ((nI op - 59) / 4)) ((nI op - 59) - (nI op - 59) / 4 * 4)) fun u386 => some (u386)) fun v => some v := by
  unfold plC
  simp only [if_neg (show ¬ ((21 ≤ op ∧ op ≤ 25) ∨ (54 ≤ op ∧ op ≤ 58)) by omega), if_neg (show ¬ (26 ≤ op ∧ op ≤ 45) by omega), if_neg (show ¬ op = 132 by omega), if_neg (show ¬ (op = 18 ∨ op = 19) by omega), if_neg (show ¬ op = 20 by omega), if_neg (show ¬ (178 ≤ op ∧ op ≤ 181) by omega), if_neg (show ¬ (182 ≤ op ∧ op ≤ 185) by omega), if_neg (show ¬ (op = 187 ∨ op = 189 ∨ op = 192 ∨ op = 193 ∨ op = 197) by omega), if_neg (show ¬ op = 188 by omega), if_pos h, cT_s]
theorem e_d (h : op = 132) : plC u x1 op = cT (cI (f_M_byteOf u (x1 + 1)) fun r382 u380 => cV (f_M_local u380 x1 (nI op) r382) fun u383 => some (u383)) fun v => some v := by
  unfold plC
  simp only [if_neg (show ¬ ((21 ≤ op ∧ op ≤ 25) ∨ (54 ≤ op ∧ op ≤ 58)) by omega), if_neg (show ¬ (26 ≤ op ∧ op ≤ 45) by omega), if_neg (show ¬ (59 ≤ op ∧ op ≤ 78) by omega), if_neg (show ¬ (op = 18 ∨ op = 19) by omega), if_neg (show ¬ op = 20 by omega), if_neg (show ¬ (178 ≤ op ∧ op ≤ 181) by omega), if_neg (show ¬ (182 ≤ op ∧ op ≤ 185) by omega), if_neg (show ¬ (op = 187 ∨ op = 189 ∨ op = 192 ∨ op = 193 ∨ op = 197) by omega), if_neg (show ¬ op = 188 by omega), if_pos h, cT_s]
theorem e_e (h : (op = 18 ∨ op = 19)) : plC u x1 op = cT (cT (if op = 18 then (cI (f_M_byteOf u (x1 + 1)) fun r351 u349 => some (r351, u349)) else (cI (f_M_two u (x1 + 1)) fun r348 u346 => some (r348, u346))) fun (p352 : Int32 × St) => cI (f_M_isKind p352.2 p352.1 3) fun r331 u329 => cT (if r331 = 0 then (cI (f_M_isKind u329 p352.1 8) fun r340 u338 => if r340 = 0 then (cI (f_M_isKind u338 p352.1 7) fun r343 u341 => if r343 = 0 then (some ((0 : Int32), u341)) else (some (1, u341))) else (some (1, u338))) else (some (1, u329))) fun (p344 : Int32 × St) => cI (f_M_must p344.2 p344.1 8 x1) fun r336 u334 => some (u334)) fun v => some v := by
  unfold plC
  simp only [if_neg (show ¬ ((21 ≤ op ∧ op ≤ 25) ∨ (54 ≤ op ∧ op ≤ 58)) by omega), if_neg (show ¬ (26 ≤ op ∧ op ≤ 45) by omega), if_neg (show ¬ (59 ≤ op ∧ op ≤ 78) by omega), if_neg (show ¬ op = 132 by omega), if_neg (show ¬ op = 20 by omega), if_neg (show ¬ (178 ≤ op ∧ op ≤ 181) by omega), if_neg (show ¬ (182 ≤ op ∧ op ≤ 185) by omega), if_neg (show ¬ (op = 187 ∨ op = 189 ∨ op = 192 ∨ op = 193 ∨ op = 197) by omega), if_neg (show ¬ op = 188 by omega), if_pos h, cT_s]
theorem e_f (h : op = 20) : plC u x1 op = cT (cI (f_M_two u (x1 + 1)) fun r319 u317 => cI (f_M_isKind u317 r319 5) fun r322 u320 => cI (f_M_must u320 r322 8 x1) fun r325 u323 => some (u323)) fun v => some v := by
  unfold plC
  simp only [if_neg (show ¬ ((21 ≤ op ∧ op ≤ 25) ∨ (54 ≤ op ∧ op ≤ 58)) by omega), if_neg (show ¬ (26 ≤ op ∧ op ≤ 45) by omega), if_neg (show ¬ (59 ≤ op ∧ op ≤ 78) by omega), if_neg (show ¬ op = 132 by omega), if_neg (show ¬ (op = 18 ∨ op = 19) by omega), if_neg (show ¬ (178 ≤ op ∧ op ≤ 181) by omega), if_neg (show ¬ (182 ≤ op ∧ op ≤ 185) by omega), if_neg (show ¬ (op = 187 ∨ op = 189 ∨ op = 192 ∨ op = 193 ∨ op = 197) by omega), if_neg (show ¬ op = 188 by omega), if_pos h, cT_s]
theorem e_g (h : (178 ≤ op ∧ op ≤ 181)) : plC u x1 op = cT (cI (f_M_two u (x1 + 1)) fun r309 u307 => cI (f_M_isKind u307 r309 9) fun r312 u310 => cI (f_M_must u310 r312 8 x1) fun r315 u313 => some (u313)) fun v => some v := by
  unfold plC
  simp only [if_neg (show ¬ ((21 ≤ op ∧ op ≤ 25) ∨ (54 ≤ op ∧ op ≤ 58)) by omega), if_neg (show ¬ (26 ≤ op ∧ op ≤ 45) by omega), if_neg (show ¬ (59 ≤ op ∧ op ≤ 78) by omega), if_neg (show ¬ op = 132 by omega), if_neg (show ¬ (op = 18 ∨ op = 19) by omega), if_neg (show ¬ op = 20 by omega), if_neg (show ¬ (182 ≤ op ∧ op ≤ 185) by omega), if_neg (show ¬ (op = 187 ∨ op = 189 ∨ op = 192 ∨ op = 193 ∨ op = 197) by omega), if_neg (show ¬ op = 188 by omega), if_pos h, cT_s]
theorem e_h (h : (182 ≤ op ∧ op ≤ 185)) : plC u x1 op = cT (cI (f_M_two u (x1 + 1)) fun r303 u301 => cV (f_M_invoke u301 x1 (nI op) r303) fun u304 => some (u304)) fun v => some v := by
  unfold plC
  simp only [if_neg (show ¬ ((21 ≤ op ∧ op ≤ 25) ∨ (54 ≤ op ∧ op ≤ 58)) by omega), if_neg (show ¬ (26 ≤ op ∧ op ≤ 45) by omega), if_neg (show ¬ (59 ≤ op ∧ op ≤ 78) by omega), if_neg (show ¬ op = 132 by omega), if_neg (show ¬ (op = 18 ∨ op = 19) by omega), if_neg (show ¬ op = 20 by omega), if_neg (show ¬ (178 ≤ op ∧ op ≤ 181) by omega), if_neg (show ¬ (op = 187 ∨ op = 189 ∨ op = 192 ∨ op = 193 ∨ op = 197) by omega), if_neg (show ¬ op = 188 by omega), if_pos h, cT_s]
theorem e_i (h : (op = 187 ∨ op = 189 ∨ op = 192 ∨ op = 193 ∨ op = 197)) : plC u x1 op = (cI (f_M_two u (x1 + 1)) fun r11 u9 => cI (f_M_isKind u9 r11 7) fun r14 u12 => cI (f_M_must u12 r14 8 x1) fun r17 u15 => if r17 = 0 then (some u15) else (cT (if op = 187 then (cI (f_M_isArray u15 r11) fun r57 u55 => bnd (if r57 = 0 then (1) else (0)) fun (z58 : Int32) => cI (f_M_must u55 z58 24 x1) fun r61 u59 => some (u59)) else (some (u15))) fun (u18 : St) => cT (if op = 197 then (cI (f_M_byteOf u18 (x1 + 3)) fun r44 u42 => cT (f_M_plain_L395 x1 (nI op) r11 r44 FU u42 0) fun (p53 : St × Int32) => bnd (if r44 < 1 then (0) else (if p53.2 < r44 then (0) else (1))) fun (z47 : Int32) => cI (f_M_must p53.1 z47 24 x1) fun r50 u48 => some (u48)) else (some (u18))) fun (u19 : St) => some u19)) := by
  unfold plC
  simp only [if_neg (show ¬ ((21 ≤ op ∧ op ≤ 25) ∨ (54 ≤ op ∧ op ≤ 58)) by omega), if_neg (show ¬ (26 ≤ op ∧ op ≤ 45) by omega), if_neg (show ¬ (59 ≤ op ∧ op ≤ 78) by omega), if_neg (show ¬ op = 132 by omega), if_neg (show ¬ (op = 18 ∨ op = 19) by omega), if_neg (show ¬ op = 20 by omega), if_neg (show ¬ (178 ≤ op ∧ op ≤ 181) by omega), if_neg (show ¬ (182 ≤ op ∧ op ≤ 185) by omega), if_pos h, if_neg (show ¬ op = 188 by omega), cT_s]
theorem e_j (h : op = 188) : plC u x1 op = cT (cI (f_M_byteOf u (x1 + 1)) fun r24 u22 => cT (if r24 = 4 then (some ((1 : Int32), u22)) else (cI (f_M_byteOf u22 (x1 + 1)) fun r33 u31 => if r33 = 5 then (some (1, u31)) else (cI (f_M_byteOf u31 (x1 + 1)) fun r36 u34 => if r36 < 8 then (some (0, u34)) else (cI (f_M_byteOf u34 (x1 + 1)) fun r39 u37 => if 11 < r39 then (some (0, u37)) else (some (1, u37)))))) fun (p40 : Int32 × St) => cI (f_M_must p40.2 p40.1 24 x1) fun r29 u27 => some (u27)) fun v => some v := by
  unfold plC
  simp only [if_neg (show ¬ ((21 ≤ op ∧ op ≤ 25) ∨ (54 ≤ op ∧ op ≤ 58)) by omega), if_neg (show ¬ (26 ≤ op ∧ op ≤ 45) by omega), if_neg (show ¬ (59 ≤ op ∧ op ≤ 78) by omega), if_neg (show ¬ op = 132 by omega), if_neg (show ¬ (op = 18 ∨ op = 19) by omega), if_neg (show ¬ op = 20 by omega), if_neg (show ¬ (178 ≤ op ∧ op ≤ 181) by omega), if_neg (show ¬ (182 ≤ op ∧ op ≤ 185) by omega), if_neg (show ¬ (op = 187 ∨ op = 189 ∨ op = 192 ∨ op = 193 ∨ op = 197) by omega), if_pos h, cT_s]
end EVP
section MPL
variable {F : Nat → Nat} {N c i r w b sz lo ver pc p : Nat} {K B : Nat → Nat} {z u : St}
theorem plain_m {op : Nat} (hO : RO N i z u) (hW : MW F N c K B u) (hM : ML2 F c K B) (hC : CM N b sz lo ver u) (hop : op < 202) (hz : fmN op ≠ 0 ∧ fmN op ≠ 14 ∧ fmN op ≠ 15 ∧ fmN op ≠ 22) (hz1 : fmN op ≠ 1) (hpc : pc + wdN (fmN op) ≤ sz) : wp (f_M_plain u (nI (b + pc)) (nI op)) (MC N i z (sFix F c K B ver lo b sz pc op (fmN op)) u) := by
  have hN := hO.1.1
  have hbs := hC.2.2.2.2.1
  have hfm := fm_lt op
  obtain ⟨tw, tn1, hnm, hwd⟩ := tab_ok ⟨fmN op, hfm⟩
  dsimp only at tw tn1 hnm hwd
  have T := tab_ok2 ⟨fmN op, hfm⟩ hz.1 hz.2.1 hz.2.2.1 hz.2.2.2
  dsimp only at T
  have t1 := T.1
  have R := ops_r ⟨op, hop⟩
  dsimp only at R
  have f8 := hW.f8
  have by1 : b + pc + 2 ≤ 4000 → f_M_byteOf u (nI (b + pc + 1)) = some (nI (F (b + pc + 1)), u) := fun h => by rw [byteOf_in (by omega), hW.1]
  have tw1 : b + pc + 3 ≤ 4000 → f_M_two u (nI (b + pc + 1)) = some (nI (be F (b + pc + 1) 2), u) := fun h => by rw [two_in (by omega), hW.1]
  have n16 : be F (b + pc + 1) 2 < 65536 := hW.n2 _
  have f81 := f8 (b + pc + 1)
  rw [plain_c (by omega)]
  unfold sFix
  rw [if_neg (show ¬ sz < pc + wdN (fmN op) by omega)]
  by_cases c1 : fmN op = 1 ∨ fmN op = 2 ∨ fmN op = 3 ∨ fmN op = 12 ∨ fmN op = 13
  · rw [e_0 (ops_1 ⟨op, hop⟩ c1)]
    refine wp_some ?_
    rcases c1 with e | e | e | e | e
    · exact absurd e hz1
    · rw [e]; exact ⟨hO, ko_rf⟩
    · rw [e]; exact ⟨hO, ko_rf⟩
    · rw [e]; exact ⟨hO, ko_rf⟩
    · rw [e]; exact ⟨hO, ko_rf⟩
  · by_cases c7 : fmN op = 7 ∨ fmN op = 8 ∨ fmN op = 11
    · have ho : op = 21 ∨ op = 25 ∨ op = 54 ∨ op = 58 ∨ op = 22 ∨ op = 55 ∨ op = 132 := by
        clear T R
        rcases c7 with e | e | e
        · have := ops_7 ⟨op, hop⟩ e; dsimp only at this; omega
        · have := ops_8 ⟨op, hop⟩ e; dsimp only at this; omega
        · have := (ops_r ⟨op, hop⟩).1 e; dsimp only at this; omega
      have h2 : twoL op = if fmN op = 8 then 2 else 1 := by
        unfold twoL
        by_cases e : fmN op = 8
        · rw [if_pos e, if_pos (ops_8 ⟨op, hop⟩ e)]
        · rw [if_neg e, if_neg]
          intro q
          rcases q with q | q <;> (subst q; exact e (by decide))
      have hn1 : nmN (fmN op) = 1 := by
        rcases T.2.2.2.2.2 with q | q
        · clear T R; omega
        · exact q
      clear T R
      rw [if_neg (show ¬ (fmN op = 2 ∨ fmN op = 3) by omega), if_pos c7, hn1, be1, ← h2]
      have fin : ∀ v, v = (if lo < F (b + pc + 1) + twoL op then rbk u 23 (b + pc) else u) → MC N i z (if lo < F (b + pc + 1) + twoL op then .error (23, b + pc) else .ok (wdN (fmN op), [])) u v := by
        intro v hv
        by_cases d : lo < F (b + pc + 1) + twoL op
        · rw [if_pos d] at hv ⊢
          rw [hv]
          exact RO_B hO (by decide) (by decide)
        · rw [if_neg d] at hv ⊢
          rw [hv]
          exact ⟨hO, ko_rf⟩
      by_cases e132 : op = 132
      · rw [e_d e132, nI_1, by1 (by omega), cI_s, loc_m hO hC (by omega) (by omega), cV_s, cT_s]
        exact wp_some (fin _ rfl)
      · rw [e_a (show ((21 ≤ op ∧ op ≤ 25) ∨ (54 ≤ op ∧ op ≤ 58)) by omega), nI_1, by1 (by omega), cI_s, loc_m hO hC (by omega) (by omega), cV_s, cT_s]
        exact wp_some (fin _ rfl)
    · by_cases c9 : fmN op = 9 ∨ fmN op = 10
      · clear T R
        rw [if_neg (show ¬ (fmN op = 2 ∨ fmN op = 3) by omega), if_neg c7, if_pos c9]
        have ho : ((26 ≤ op ∧ op ≤ 29) ∨ (42 ≤ op ∧ op ≤ 45) ∨ (30 ≤ op ∧ op ≤ 33)) ∨ ((59 ≤ op ∧ op ≤ 62) ∨ (75 ≤ op ∧ op ≤ 78) ∨ (63 ≤ op ∧ op ≤ 66)) := by
          rcases c9 with e | e
          · have := ops_9 ⟨op, hop⟩ e; dsimp only at this; omega
          · have := ops_10 ⟨op, hop⟩ e; dsimp only at this; omega
        have e10 : (fmN op = 10) ↔ ((30 ≤ op ∧ op ≤ 33) ∨ (63 ≤ op ∧ op ≤ 66)) := by
          constructor
          · exact ops_10 ⟨op, hop⟩
          · intro q
            rcases c9 with e | e
            · have := ops_9 ⟨op, hop⟩ e; dsimp only at this; omega
            · exact e
        have fin : ∀ m : Nat, m = lic op + (if fmN op = 10 then 2 else 1) → ∀ v, v = (if lo < m then rbk u 23 (b + pc) else u) → MC N i z (if lo < lic op + (if fmN op = 10 then 2 else 1) then .error (23, b + pc) else .ok (wdN (fmN op), [])) u v := by
          intro m hm v hv
          rw [← hm]
          by_cases d : lo < m
          · rw [if_pos d] at hv ⊢
            rw [hv]
            exact RO_B hO (by decide) (by decide)
          · rw [if_neg d] at hv ⊢
            rw [hv]
            exact ⟨hO, ko_rf⟩
        rcases ho with ho | ho
        · obtain ⟨l1, l2⟩ := lc_a ⟨op, hop⟩ (show 26 ≤ op by omega) (show op ≤ 45 by omega)
          dsimp only at l1 l2
          rw [e_b (show (26 ≤ op ∧ op ≤ 45) by omega), l1, l2, loc_m hO hC (by omega) (by omega), cV_s, cT_s]
          refine wp_some (fin _ ?_ _ rfl)
          unfold lic twoL
          rw [if_pos (show op < 54 by omega)]
          by_cases e : fmN op = 10
          · rw [if_pos e, if_pos (by have := e10.mp e; omega)]
          · rw [if_neg e, if_neg (by
              intro q
              exact e (e10.mpr (by omega)))]
        · obtain ⟨l1, l2⟩ := lc_b ⟨op, hop⟩ (show 59 ≤ op by omega) (show op ≤ 78 by omega)
          dsimp only at l1 l2
          rw [e_c (show (59 ≤ op ∧ op ≤ 78) by omega), l1, l2, loc_m hO hC (by omega) (by omega), cV_s, cT_s]
          refine wp_some (fin _ ?_ _ rfl)
          unfold lic twoL
          rw [if_neg (show ¬ op < 54 by omega)]
          by_cases e : fmN op = 10
          · rw [if_pos e, if_pos (by have := e10.mp e; omega)]
          · rw [if_neg e, if_neg (by
              intro q
              exact e (e10.mpr (by omega)))]
      · by_cases c20 : fmN op = 20
        · have e188 := R.2.2.2.2.2.2.2.2.1 c20
          have hn1 : nmN (fmN op) = 1 := by rw [c20]; decide
          clear T R
          rw [if_neg (show ¬ (fmN op = 2 ∨ fmN op = 3) by omega), if_neg c7, if_neg c9, if_neg (show ¬ fmN op = 12 by omega), if_neg (show ¬ fmN op = 13 by omega), if_pos c20, hn1, be1, e_j e188, nI_1]
          rw [by1 (by omega), cI_s, by1 (by omega), cI_s, by1 (by omega), cI_s, by1 (by omega), cI_s]
          simp only [show (nI (F (b + pc + 1)) = 4) = (F (b + pc + 1) = 4) from neq (b := 4) (by omega) (by decide), show (nI (F (b + pc + 1)) = 5) = (F (b + pc + 1) = 5) from neq (b := 5) (by omega) (by decide), show (nI (F (b + pc + 1)) < 8) = (F (b + pc + 1) < 8) from nlt (b := 8) (by omega) (by decide), show (11 < nI (F (b + pc + 1))) = (11 < F (b + pc + 1)) from nlt (a := 11) (by decide) (by omega)]
          generalize F (b + pc + 1) = n
          by_cases d : n = 4 ∨ n = 5 ∨ (8 ≤ n ∧ n ≤ 11)
          · rw [if_pos d]
            have : (if n = 4 then some ((1 : Int32), u) else if n = 5 then some (1, u) else if n < 8 then some (0, u) else if 11 < n then some (0, u) else some (1, u)) = some (1, u) := by
              repeat' split
              all_goals first | rfl | omega
            rw [this, cT_s]; (try dsimp only); rw [must_t hO (by decide), cI_s, cT_s]
            exact wp_some ⟨hO, ko_rf⟩
          · rw [if_neg d]
            have : (if n = 4 then some ((1 : Int32), u) else if n = 5 then some (1, u) else if n < 8 then some (0, u) else if 11 < n then some (0, u) else some (1, u)) = some (0, u) := by
              repeat' split
              all_goals first | rfl | omega
            rw [this, cT_s]; (try dsimp only); rw [must_fl 24 (r := 24) rfl hO (by decide) (by decide), cI_s, cT_s]
            exact wp_some (RO_B hO (by decide) (by decide))
        · rw [if_neg (show ¬ (fmN op = 2 ∨ fmN op = 3) from fun q => c1 (by rcases q with q | q; exact Or.inr (Or.inl q); exact Or.inr (Or.inr (Or.inl q)))), if_neg c7, if_neg c9, if_neg (show ¬ fmN op = 12 from fun q => c1 (Or.inr (Or.inr (Or.inr (Or.inl q))))), if_neg (show ¬ fmN op = 13 from fun q => c1 (Or.inr (Or.inr (Or.inr (Or.inr q))))), if_neg c20]
          by_cases c17 : fmN op = 17 ∨ fmN op = 18
          · have ho : 182 ≤ op ∧ op ≤ 185 := by
              rcases c17 with e | e
              · have := R.2.2.2.2.2.1 e; clear T R; omega
              · have := R.2.2.2.2.2.2.1 e; clear T R; omega
            have e18 : fmN op = if op = 185 then 18 else 17 := by
              rcases c17 with e | e
              · rw [if_neg (by have := R.2.2.2.2.2.1 e; clear T R; omega)]; exact e
              · rw [if_pos (R.2.2.2.2.2.2.1 e)]; exact e
            have t4 := T.2.2.2.1
            clear T R
            have hn2 : nmN (fmN op) = 2 := by rcases c17 with e | e <;> rw [e] <;> decide
            rw [e_h ho, nI_1, tw1 (by have : 3 ≤ wdN (fmN op) := by (rcases c17 with e | e <;> rw [e] <;> decide)
                                      omega), cI_s]
            have iv := inv_m (p := b + pc) (n := be F (b + pc + 1) 2) hO hW hM hC ho n16 (fun q => by
              have : fmN op = 18 := by rw [e18, if_pos q]
              have := t4 this
              omega)
            rw [← e18] at iv
            rw [hn2]
            have ec : (if kfit c K (fmN op) op ver (be F (b + pc + 1) 2) = true then (if rfit F B (fmN op) op (be F (b + pc + 1) 2) (b + pc) = true then Except.ok (wdN (fmN op), ([] : List Int32)) else .error (24, b + pc)) else .error (8, b + pc) : Except Er (Nat × List Int32)) = .ok (wdN (fmN op), []) ∨ ∃ e, (if kfit c K (fmN op) op ver (be F (b + pc + 1) 2) = true then (if rfit F B (fmN op) op (be F (b + pc + 1) 2) (b + pc) = true then Except.ok (wdN (fmN op), ([] : List Int32)) else .error (24, b + pc)) else .error (8, b + pc) : Except Er (Nat × List Int32)) = .error e := by
              split
              · split
                · exact Or.inl rfl
                · exact Or.inr ⟨_, rfl⟩
              · exact Or.inr ⟨_, rfl⟩
            refine wp_cT (wp_cV (wp_mono iv fun v hv => wp_some (wp_some ?_)))
            revert hv
            split
            · split
              · exact fun hv => hv
              · exact fun hv => hv
            · exact fun hv => hv
          · by_cases c4 : fmN op = 4 ∨ fmN op = 5
            · have ho : op = 18 ∨ op = 19 := by
                rcases c4 with e | e
                · exact Or.inl (R.2.1 e)
                · exact Or.inr (R.2.2.1 e)
              have hkr : ∀ n, rfit F B (fmN op) op n (b + pc) = true := by
                intro n
                unfold rfit
                rw [if_neg (by omega), if_neg (by omega), if_neg (by omega), if_neg (by omega)]
              rw [hkr, if_pos rfl]
              have hkf : ∀ n, kfit c K (fmN op) op ver n = (isK c K n 3 || isK c K n 8 || isK c K n 7) := by
                intro n
                unfold kfit
                rw [if_pos c4]
              have kinds : ∀ n, n < 65536 → (cI (f_M_isKind u (nI n) 3) fun r331 u329 => cT (if r331 = 0 then (cI (f_M_isKind u329 (nI n) 8) fun r340 u338 => if r340 = 0 then (cI (f_M_isKind u338 (nI n) 7) fun r343 u341 => if r343 = 0 then (some ((0 : Int32), u341)) else (some (1, u341))) else (some (1, u338))) else (some (1, u329))) fun (p344 : Int32 × St) => cI (f_M_must p344.2 p344.1 8 (nI (b + pc))) fun r336 u334 => some (u334)) = some (if (isK c K n 3 || isK c K n 8 || isK c K n 7) = true then u else rbk u 8 (b + pc)) := by
                intro n hn
                rw [kind_l 3 (kd := 3) rfl hW hn (by decide), cI_s, kind_l 8 (kd := 8) rfl hW hn (by decide), cI_s, kind_l 7 (kd := 7) rfl hW hn (by decide), cI_s]
                have e : (if (if isK c K n 3 = true then (1 : Int32) else 0) = 0 then (if (if isK c K n 8 = true then (1 : Int32) else 0) = 0 then (if (if isK c K n 7 = true then (1 : Int32) else 0) = 0 then some ((0 : Int32), u) else some (1, u)) else some (1, u)) else some (1, u)) = some (if (isK c K n 3 || isK c K n 8 || isK c K n 7) = true then 1 else 0, u) := by
                  cases isK c K n 3 <;> cases isK c K n 8 <;> cases isK c K n 7 <;> rfl
                rw [e, cT_s]
                dsimp only
                cases (isK c K n 3 || isK c K n 8 || isK c K n 7)
                · rw [if_neg (show ¬ (false = true) by decide), must_fl 8 (r := 8) rfl hO (by decide) (by decide), cI_s]; rfl
                · rw [if_pos rfl, must_t hO (by decide), cI_s]; rfl
              have fin : ∀ n v, v = (if (isK c K n 3 || isK c K n 8 || isK c K n 7) = true then u else rbk u 8 (b + pc)) → MC N i z (if kfit c K (fmN op) op ver n = true then .ok (wdN (fmN op), []) else .error (8, b + pc)) u v := by
                intro n v hv
                rw [hkf]
                cases hh : (isK c K n 3 || isK c K n 8 || isK c K n 7)
                · rw [hh, if_neg (by decide)] at hv
                  rw [if_neg (by decide), hv]
                  exact RO_B hO (by decide) (by decide)
                · rw [hh, if_pos rfl] at hv
                  rw [if_pos rfl, hv]
                  exact ⟨hO, ko_rf⟩
              rcases c4 with e | e
              · have e18 := R.2.1 e
                have hn1 : nmN (fmN op) = 1 := by rw [e]; decide
                clear T R
                rw [e_e ho, nI_1, if_pos e18, by1 (by omega), cI_s, cT_s]
                dsimp only
                rw [kinds _ (by omega), cT_s, hn1, be1]
                exact wp_some (fin _ _ rfl)
              · have e19 := R.2.2.1 e
                have hn1 : nmN (fmN op) = 2 := by rw [e]; decide
                have hw3 : wdN (fmN op) = 3 := by rw [e]; decide
                clear T R
                rw [e_e ho, nI_1, if_neg (show ¬ op = 18 by omega), tw1 (by omega), cI_s, cT_s]
                dsimp only
                rw [kinds _ n16, cT_s, hn1]
                exact wp_some (fin _ _ rfl)
            · have one : ∀ (x : Int32) (kd : Nat), x = nI kd → ∀ n, kd < 256 → n < 65536 → (cI (f_M_isKind u (nI n) x) fun r322 u320 => cI (f_M_must u320 r322 8 (nI (b + pc))) fun r325 u323 => some (u323)) = some (if isK c K n kd = true then u else rbk u 8 (b + pc)) := by
                intro x kd hx n hkd hn
                rw [hx, kind_m hW hn hkd, cI_s]
                cases isK c K n kd
                · rw [if_neg (by decide), must_fl 8 (r := 8) rfl hO (by decide) (by decide), cI_s]; rfl
                · rw [if_pos rfl, must_t hO (by decide), cI_s]; rfl
              have hn2 : nmN (fmN op) = 2 := by
                have key : ∀ fm : Fin 23, fm.val = 6 ∨ fm.val = 16 ∨ fm.val = 19 ∨ fm.val = 21 → nmN fm.val = 2 := by decide +kernel
                clear T R
                exact key ⟨fmN op, hfm⟩ (by dsimp only; omega)
              have hw3 : 3 ≤ wdN (fmN op) := by omega
              rw [hn2]
              by_cases c6 : fmN op = 6 ∨ fmN op = 16
              · have hkr : rfit F B (fmN op) op (be F (b + pc + 1) 2) (b + pc) = true := by
                  unfold rfit
                  rw [if_neg (by omega), if_neg (by omega), if_neg (by omega), if_neg (by omega)]
                rw [hkr, if_pos rfl]
                have fin : ∀ kd v, kfit c K (fmN op) op ver (be F (b + pc + 1) 2) = isK c K (be F (b + pc + 1) 2) kd → v = (if isK c K (be F (b + pc + 1) 2) kd = true then u else rbk u 8 (b + pc)) → MC N i z (if kfit c K (fmN op) op ver (be F (b + pc + 1) 2) = true then .ok (wdN (fmN op), []) else .error (8, b + pc)) u v := by
                  intro kd v hk hv
                  rw [hk]
                  cases hh : isK c K (be F (b + pc + 1) 2) kd
                  · rw [hh, if_neg (by decide)] at hv
                    rw [if_neg (by decide), hv]
                    exact RO_B hO (by decide) (by decide)
                  · rw [hh, if_pos rfl] at hv
                    rw [if_pos rfl, hv]
                    exact ⟨hO, ko_rf⟩
                rcases c6 with e | e
                · have e20 := R.2.2.2.1 e
                  clear T R
                  rw [e_f e20, nI_1, tw1 (by omega), cI_s, one 5 5 rfl _ (by decide) n16, cT_s]
                  refine wp_some (fin 5 _ ?_ rfl)
                  unfold kfit
                  rw [if_neg (by omega), if_pos e]
                · have e16 := R.2.2.2.2.1 e
                  clear T R
                  rw [e_g e16, nI_1, tw1 (by omega), cI_s, one 9 9 rfl _ (by decide) n16, cT_s]
                  refine wp_some (fin 9 _ ?_ rfl)
                  unfold kfit
                  rw [if_neg (by omega), if_neg (by omega), if_pos e]
              · have c19 : fmN op = 19 ∨ fmN op = 21 := by clear T R; omega
                have r19 := R.2.2.2.2.2.2.2.1
                have r21 := R.2.2.2.2.2.2.2.2.2
                have t5 := T.2.2.2.2.1
                clear T R
                have hkf : kfit c K (fmN op) op ver (be F (b + pc + 1) 2) = isK c K (be F (b + pc + 1) 2) 7 := by
                  unfold kfit
                  rw [if_neg (by omega), if_neg (by omega), if_neg (by omega), if_neg (by omega), if_neg (by omega)]
                rw [hkf]
                have ho : op = 187 ∨ op = 189 ∨ op = 192 ∨ op = 193 ∨ op = 197 := by
                  rcases c19 with e | e
                  · have := r19 e; omega
                  · have := r21 e; omega
                have e21 : fmN op = 21 ↔ op = 197 := by
                  constructor
                  · exact r21
                  · intro q
                    rcases c19 with e | e
                    · have := r19 e; omega
                    · exact e
                have tail : wp (cI (f_M_isKind u (nI (be F (b + pc + 1) 2)) 7) fun r14 u12 => cI (f_M_must u12 r14 8 (nI (b + pc))) fun r17 u15 => if r17 = 0 then (some u15) else (cT (if op = 187 then (cI (f_M_isArray u15 (nI (be F (b + pc + 1) 2))) fun r57 u55 => bnd (if r57 = 0 then (1) else (0)) fun (z58 : Int32) => cI (f_M_must u55 z58 24 (nI (b + pc))) fun r61 u59 => some (u59)) else (some (u15))) fun (u18 : St) => cT (if op = 197 then (cI (f_M_byteOf u18 (nI (b + pc + 3))) fun r44 u42 => cT (f_M_plain_L395 (nI (b + pc)) (nI op) (nI (be F (b + pc + 1) 2)) r44 FU u42 0) fun (p53 : St × Int32) => bnd (if r44 < 1 then (0) else (if p53.2 < r44 then (0) else (1))) fun (z47 : Int32) => cI (f_M_must p53.1 z47 24 (nI (b + pc))) fun r50 u48 => some (u48)) else (some (u18))) fun (u19 : St) => some u19)) (MC N i z (if isK c K (be F (b + pc + 1) 2) 7 = true then (if rfit F B (fmN op) op (be F (b + pc + 1) 2) (b + pc) = true then .ok (wdN (fmN op), []) else .error (24, b + pc)) else .error (8, b + pc)) u) := by
                  rw [kind_l 7 (kd := 7) rfl hW n16 (by decide), cI_s]
                  generalize hn : be F (b + pc + 1) 2 = n at *
                  cases hk7 : isK c K n 7 with
                  | false =>
                    rw [if_neg (show ¬ (false = true) by decide), must_fl 8 (r := 8) rfl hO (by decide) (by decide), cI_s, if_pos rfl, if_neg (show ¬ (false = true) by decide)]
                    exact wp_some (RO_B hO (by decide) (by decide))
                  | true =>
                    rw [if_pos (show true = true from rfl), must_t hO (by decide), cI_s, if_neg (by decide), if_pos (show true = true from rfl)]
                    unfold rfit
                    rw [if_neg (show ¬ fmN op = 17 by omega), if_neg (show ¬ fmN op = 18 by omega)]
                    by_cases e187 : op = 187
                    · have e19 : fmN op = 19 := by rcases c19 with e | e; exact e; have := r21 e; omega
                      rw [if_pos e187, array_m hW hM.1 hN hk7, cI_s, if_pos e19, decide_eq_false (fun q => q e187), Bool.false_or]
                      have ebk : bkC F B n = 0 ↔ hdT F B 91 (n2 F (B n + 1)) = false := by
                        have := br_pos (F := F) (B := B) (t := n2 F (B n + 1))
                        show br F (tn F B (n2 F (B n + 1))) (ta B (n2 F (B n + 1))) = 0 ↔ _
                        cases hh : hdT F B 91 (n2 F (B n + 1)) with
                        | true => have := this.mpr hh; simp; omega
                        | false =>
                          simp
                          refine Nat.eq_zero_of_not_pos fun q => ?_
                          rw [this.mp q] at hh; cases hh
                      rw [bnd_s]
                      cases hh : hdT F B 91 (n2 F (B n + 1)) with
                      | true =>
                        rw [if_pos (show true = true from rfl), if_neg (by decide), must_fl 24 (r := 24) rfl hO (by decide) (by decide), cI_s, cT_s, if_neg (by omega), cT_s, decide_eq_false (fun q => by rw [ebk.mp q] at hh; cases hh), if_neg (by decide)]
                        exact wp_some (RO_B hO (by decide) (by decide))
                      | false =>
                        rw [if_neg (show ¬ (false = true) by decide), if_pos rfl, must_t hO (by decide), cI_s, cT_s, if_neg (by omega), cT_s, decide_eq_true (ebk.mpr hh), if_pos rfl]
                        exact wp_some ⟨hO, ko_rf⟩
                    · rw [if_neg e187, cT_s]
                      by_cases e197 : op = 197
                      · have hb3 : f_M_byteOf u (nI (b + pc + 3)) = some (nI (F (b + pc + 3)), u) := by
                          rw [byteOf_in (by have := t5 (e21.mpr e197); omega), hW.1]
                        have hT := hW.tx hN (hM.1.2.1 _ hk7)
                        have hbl := br_le F (tn F B (n2 F (B n + 1))) (ta B (n2 F (B n + 1)))
                        have ht4 := hT.2.2.2
                        have bp := brP (x1 := nI (b + pc)) (x2 := nI op) (x4 := nI (F (b + pc + 3))) hW hM.1 hN hk7 (tn F B (n2 F (B n + 1))) 0 FU (by omega) (by unfold FU; omega)
                        rw [nI_0] at bp
                        simp only [Nat.add_zero, Nat.zero_add] at bp
                        have f3 := f8 (b + pc + 3)
                        rw [if_pos e197, hb3, cI_s, bp, cT_s, bnd_s, if_neg (show ¬ fmN op = 19 by have := e21.mpr e197; omega), if_pos (e21.mpr e197)]; simp only [show (nI (F (b + pc + 3)) < 1) = (F (b + pc + 3) < 1) from nlt (b := 1) (by omega) (by decide)]
                        (try dsimp only)
                        simp only [show (nI (br F (tn F B (n2 F (B n + 1))) (ta B (n2 F (B n + 1)))) < nI (F (b + pc + 3))) = (bkC F B n < F (b + pc + 3)) from nlt (by omega) (by omega)]
                        by_cases g1 : F (b + pc + 3) < 1
                        · rw [if_pos g1, must_fl 24 (r := 24) rfl hO (by decide) (by decide), cI_s, cT_s, decide_eq_false (by omega), Bool.false_and, if_neg (by decide)]
                          exact wp_some (RO_B hO (by decide) (by decide))
                        · rw [if_neg g1, decide_eq_true (by omega), Bool.true_and]
                          by_cases g2 : bkC F B n < F (b + pc + 3)
                          · rw [if_pos g2, must_fl 24 (r := 24) rfl hO (by decide) (by decide), cI_s, cT_s, decide_eq_false (by omega), if_neg (by decide)]
                            exact wp_some (RO_B hO (by decide) (by decide))
                          · rw [if_neg g2, must_t hO (by decide), cI_s, cT_s, decide_eq_true (by omega), if_pos rfl]
                            exact wp_some ⟨hO, ko_rf⟩
                      · have e19 : fmN op = 19 := by rcases c19 with e | e; exact e; have := r21 e; omega
                        rw [if_neg e197, cT_s, if_pos e19, decide_eq_true e187, Bool.true_or, if_pos rfl]
                        exact wp_some ⟨hO, ko_rf⟩
                have n188 : ¬ op = 188 := by omega
                rw [e_i ho, nI_1, tw1 (by omega), cI_s, show nI (b + pc) + 3 = nI (b + pc + 3) from nI_add _ 3]
                exact tail
theorem plain_1 {op : Nat} {x1 : Int32} (hop : op < 202) (h1 : fmN op = 1) : f_M_plain u x1 (nI op) = some u := by
  rw [plain_c (by omega), e_0 (ops_1 ⟨op, hop⟩ (Or.inl h1))]
end MPL

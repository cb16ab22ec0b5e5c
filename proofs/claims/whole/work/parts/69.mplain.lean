/-! THE REFERENCE: CODE, plain INSTRUCTIONS -/
section MPL
variable {F : Nat → Nat} {N c i r w b sz lo ver pc p : Nat} {K B : Nat → Nat} {z u : St}
theorem plain_m {op : Nat} (hO : RO N i z u) (hW : MW F N c K B u) (hM : ML2 F c K B) (hC : CM N b sz lo ver u) (hop : op < 202) (hz : fmN op ≠ 0 ∧ fmN op ≠ 14 ∧ fmN op ≠ 15 ∧ fmN op ≠ 22) (hz1 : fmN op ≠ 1) (hpc : pc + wdN (fmN op) ≤ sz) : wp (f_M_plain u (nI (b + pc)) (nI op)) (MC N i z (sFix F c K B ver lo b sz pc op (fmN op)) u) := by
  have hN := hO.1.1
  have hbs := hC.2.2.2.2.1
  have hfm := fm_lt op
  obtain ⟨tw, tn1, hnm, hwd⟩ := tab_ok ⟨fmN op, hfm⟩
  obtain ⟨t1, t2, t3, t4, t5, t6⟩ := tab_ok2 ⟨fmN op, hfm⟩ hz.1 hz.2.1 hz.2.2.1 hz.2.2.2
  obtain ⟨r11, r4, r5, r6, r16, r17, r18, r19, r20, r21⟩ := ops_r ⟨op, hop⟩
  have o1 := ops_1 ⟨op, hop⟩
  have o7 := ops_7 ⟨op, hop⟩
  have o8 := ops_8 ⟨op, hop⟩
  have o9 := ops_9 ⟨op, hop⟩
  have o10 := ops_10 ⟨op, hop⟩
  have la := lc_a ⟨op, hop⟩
  have lb := lc_b ⟨op, hop⟩
  have nb : ∀ fm, fmN op = fm → nmN (fmN op) = nmN fm := fun fm h => by rw [h]
  dsimp only at tw tn1 hnm hwd t1 t2 t3 t4 t5 t6 r11 r4 r5 r6 r16 r17 r18 r19 r20 r21 o1 o7 o8 o9 o10 la lb
  have f8 := hW.f8
  have by1 : f_M_byteOf u (nI (b + pc + 1)) = some (nI (F (b + pc + 1)), u) := by rw [byteOf_in (by omega), hW.1]
  have tw1 : b + pc + 3 ≤ 4000 → f_M_two u (nI (b + pc + 1)) = some (nI (be F (b + pc + 1) 2), u) := fun h => by rw [two_in (by omega), hW.1]
  have n16 : be F (b + pc + 1) 2 < 65536 := hW.n2 _
  have f81 := f8 (b + pc + 1)
  unfold f_M_plain
  simp only [show (181 < nI op) = (181 < op) from nlt (a := 181) (by decide) (by omega), show (185 < nI op) = (185 < op) from nlt (a := 185) (by decide) (by omega), show (45 < nI op) = (45 < op) from nlt (a := 45) (by decide) (by omega), show (58 < nI op) = (58 < op) from nlt (a := 58) (by decide) (by omega), show (78 < nI op) = (78 < op) from nlt (a := 78) (by decide) (by omega), show (nI op < 178) = (op < 178) from nlt (b := 178) (by omega) (by decide), show (nI op < 182) = (op < 182) from nlt (b := 182) (by omega) (by decide), show (nI op < 21) = (op < 21) from nlt (b := 21) (by omega) (by decide), show (nI op < 26) = (op < 26) from nlt (b := 26) (by omega) (by decide), show (nI op < 54) = (op < 54) from nlt (b := 54) (by omega) (by decide), show (nI op < 59) = (op < 59) from nlt (b := 59) (by omega) (by decide), show (nI op = 132) = (op = 132) from neq (b := 132) (by omega) (by decide), show (nI op = 18) = (op = 18) from neq (b := 18) (by omega) (by decide), show (nI op = 187) = (op = 187) from neq (b := 187) (by omega) (by decide), show (nI op = 188) = (op = 188) from neq (b := 188) (by omega) (by decide), show (nI op = 189) = (op = 189) from neq (b := 189) (by omega) (by decide), show (nI op = 19) = (op = 19) from neq (b := 19) (by omega) (by decide), show (nI op = 192) = (op = 192) from neq (b := 192) (by omega) (by decide), show (nI op = 193) = (op = 193) from neq (b := 193) (by omega) (by decide), show (nI op = 197) = (op = 197) from neq (b := 197) (by omega) (by decide), show (nI op = 20) = (op = 20) from neq (b := 20) (by omega) (by decide), show (nI op ≤ 25) = (op ≤ 25) from nle (b := 25) (by omega) (by decide)]
  rw [nI_1, show nI (b + pc) + 3 = nI (b + pc + 3) from nI_add _ 3]
  unfold sFix
  rw [if_neg (by omega)]
  by_cases c1 : fmN op = 1 ∨ fmN op = 2 ∨ fmN op = 3 ∨ fmN op = 12 ∨ fmN op = 13
  · have o := o1 c1
    repeat (first | rw [if_pos (by omega)] | rw [if_neg (by omega)] | rw [cT_s])
    refine wp_some ?_
    rcases c1 with e | e | e | e | e
    · exact absurd e hz1
    · rw [e]; exact ⟨hO, ko_rf⟩
    · rw [e]; exact ⟨hO, ko_rf⟩
    · rw [e]; exact ⟨hO, ko_rf⟩
    · rw [e]; exact ⟨hO, ko_rf⟩
  · by_cases c7 : fmN op = 7 ∨ fmN op = 8 ∨ fmN op = 11
    · have ho : op = 21 ∨ op = 25 ∨ op = 54 ∨ op = 58 ∨ op = 22 ∨ op = 55 ∨ op = 132 := by
        rcases c7 with e | e | e
        · have := o7 e; omega
        · have := o8 e; omega
        · have := r11 e; omega
      have h2 : twoL op = if fmN op = 8 then 2 else 1 := by
        unfold twoL
        by_cases e : fmN op = 8
        · rw [if_pos e, if_pos (by have := o8 e; omega)]
        · rw [if_neg e, if_neg]
          intro q
          rcases q with q | q <;> (subst q; exact e (by decide))
      have hn1 : nmN (fmN op) = 1 := by omega
      rw [if_neg (by omega), if_pos c7, hn1, be1, ← h2]
      have fin : ∀ v, v = (if lo < F (b + pc + 1) + twoL op then rbk u 23 (b + pc) else u) → MC N i z (if lo < F (b + pc + 1) + twoL op then .error (23, b + pc) else .ok (wdN (fmN op), [])) u v := by
        intro v hv
        by_cases d : lo < F (b + pc + 1) + twoL op
        · rw [if_pos d] at hv ⊢
          rw [hv]
          exact RO_B hO (by decide) (by decide)
        · rw [if_neg d] at hv ⊢
          rw [hv]
          exact ⟨hO, ko_rf⟩
      by_cases e132 : op = 132
      · repeat (first | rw [if_pos (by omega)] | rw [if_neg (by omega)] | rw [cT_s])
        rw [by1, cI_s, loc_m hO hC (by omega) (by omega), cV_s]
        repeat (first | rw [if_pos (by omega)] | rw [if_neg (by omega)] | rw [cT_s])
        exact wp_some (fin _ rfl)
      · repeat (first | rw [if_pos (by omega)] | rw [if_neg (by omega)] | rw [cT_s])
        rw [by1, cI_s, loc_m hO hC (by omega) (by omega), cV_s]
        repeat (first | rw [if_pos (by omega)] | rw [if_neg (by omega)] | rw [cT_s])
        exact wp_some (fin _ rfl)
    · by_cases c9 : fmN op = 9 ∨ fmN op = 10
      · rw [if_neg (by omega), if_neg c7, if_pos c9]
        have ho : ((26 ≤ op ∧ op ≤ 29) ∨ (42 ≤ op ∧ op ≤ 45) ∨ (30 ≤ op ∧ op ≤ 33)) ∨ ((59 ≤ op ∧ op ≤ 62) ∨ (75 ≤ op ∧ op ≤ 78) ∨ (63 ≤ op ∧ op ≤ 66)) := by
          rcases c9 with e | e
          · have := o9 e; omega
          · have := o10 e; omega
        have e10 : (fmN op = 10) ↔ ((30 ≤ op ∧ op ≤ 33) ∨ (63 ≤ op ∧ op ≤ 66)) := by
          constructor
          · exact o10
          · intro q
            rcases c9 with e | e
            · have := o9 e; omega
            · exact e
        have fin : ∀ m : Nat, m = lic op + (if fmN op = 10 then 2 else 1) → ∀ v, v = (if lo < m then rbk u 23 (b + pc) else u) → MC N i z (if lo < lic op + (if fmN op = 10 then 2 else 1) then .error (23, b + pc) else .ok (wdN (fmN op), [])) u v := by
          intro m hm v hv
          rw [← hm]
          by_cases d : lo < m
          · rw [if_pos d] at hv ⊢
            rw [hv]
            exact RO_B hO (by decide) (by decide)
          · rw [if_neg d] at hv ⊢
            rw [hv]
            exact ⟨hO, ko_rf⟩
        rcases ho with ho | ho
        · obtain ⟨l1, l2⟩ := la (by omega) (by omega)
          rw [l1, l2]
          repeat (first | rw [if_pos (by omega)] | rw [if_neg (by omega)] | rw [cT_s])
          rw [loc_m hO hC (by omega) (by omega), cV_s]
          repeat (first | rw [if_pos (by omega)] | rw [if_neg (by omega)] | rw [cT_s])
          refine wp_some (fin _ ?_ _ rfl)
          unfold lic twoL
          rw [if_pos (by omega)]
          by_cases e : fmN op = 10
          · rw [if_pos e, if_pos (by have := e10.mp e; omega)]
          · rw [if_neg e, if_neg (by
              intro q
              exact e (e10.mpr (by omega)))]
        · obtain ⟨l1, l2⟩ := lb (by omega) (by omega)
          rw [l1, l2]
          repeat (first | rw [if_pos (by omega)] | rw [if_neg (by omega)] | rw [cT_s])
          rw [loc_m hO hC (by omega) (by omega), cV_s]
          repeat (first | rw [if_pos (by omega)] | rw [if_neg (by omega)] | rw [cT_s])
          refine wp_some (fin _ ?_ _ rfl)
          unfold lic twoL
          rw [if_neg (by omega)]
          by_cases e : fmN op = 10
          · rw [if_pos e, if_pos (by have := e10.mp e; omega)]
          · rw [if_neg e, if_neg (by
              intro q
              exact e (e10.mpr (by omega)))]
      · by_cases c20 : fmN op = 20
        · have e188 := r20 c20
          have hn1 : nmN (fmN op) = 1 := by omega
          rw [if_neg (by omega), if_neg c7, if_neg c9, if_neg (by omega), if_neg (by omega), if_pos c20, hn1, be1]
          repeat (first | rw [if_pos (by omega)] | rw [if_neg (by omega)] | rw [cT_s])
          rw [by1, cI_s, by1, cI_s, by1, cI_s, by1, cI_s]
          rw [show (nI (F (b + pc + 1)) = 4) = (F (b + pc + 1) = 4) from neq (b := 4) (by omega) (by decide), show (nI (F (b + pc + 1)) = 5) = (F (b + pc + 1) = 5) from neq (b := 5) (by omega) (by decide), show (nI (F (b + pc + 1)) < 8) = (F (b + pc + 1) < 8) from nlt (b := 8) (by omega) (by decide), show (11 < nI (F (b + pc + 1))) = (11 < F (b + pc + 1)) from nlt (a := 11) (by decide) (by omega)]
          generalize F (b + pc + 1) = n
          by_cases d : n = 4 ∨ n = 5 ∨ (8 ≤ n ∧ n ≤ 11)
          · rw [if_pos d]
            have : (if n = 4 then some ((1 : Int32), u) else if n = 5 then some (1, u) else if n < 8 then some (0, u) else if 11 < n then some (0, u) else some (1, u)) = some (1, u) := by
              repeat' split
              all_goals first | rfl | omega
            rw [this, cT_s, must_t hO (by decide), cI_s, cT_s]
            exact wp_some ⟨hO, ko_rf⟩
          · rw [if_neg d]
            have : (if n = 4 then some ((1 : Int32), u) else if n = 5 then some (1, u) else if n < 8 then some (0, u) else if 11 < n then some (0, u) else some (1, u)) = some (0, u) := by
              repeat' split
              all_goals first | rfl | omega
            rw [this, cT_s, show (24 : Int32) = nI 24 from rfl, must_f hO (by decide) (by decide), cI_s, cT_s]
            exact wp_some (RO_B hO (by decide) (by decide))
        · rw [if_neg (by omega), if_neg c7, if_neg c9, if_neg (by omega), if_neg (by omega), if_neg c20]
          by_cases c17 : fmN op = 17 ∨ fmN op = 18
          · have ho : 182 ≤ op ∧ op ≤ 185 := by
              rcases c17 with e | e
              · have := r17 e; omega
              · have := r18 e; omega
            have e18 : fmN op = if op = 185 then 18 else 17 := by
              rcases c17 with e | e
              · rw [if_neg (by have := r17 e; omega)]; exact e
              · rw [if_pos (r18 e)]; exact e
            have hn2 : nmN (fmN op) = 2 := by rcases c17 with e | e <;> rw [e] <;> decide
            repeat (first | rw [if_pos (by omega)] | rw [if_neg (by omega)] | rw [cT_s])
            rw [tw1 (by omega), cI_s]
            have iv := inv_m (p := b + pc) (n := be F (b + pc + 1) 2) hO hW hM hC ho n16 (fun q => by
              have : fmN op = 18 := by rw [e18, if_pos q]
              have := t4 this
              omega)
            rw [← e18] at iv
            rw [hn2]
            have ec : (if kfit c K (fmN op) op ver (be F (b + pc + 1) 2) = true then (if rfit F B (fmN op) op (be F (b + pc + 1) 2) (b + pc) = true then Except.ok (wdN (fmN op), ([] : List Int32)) else .error (24, b + pc)) else .error (8, b + pc) : Except Er (Nat × List Int32)) = .ok (wdN (fmN op), []) ∨ ∃ e, (if kfit c K (fmN op) op ver (be F (b + pc + 1) 2) = true then (if rfit F B (fmN op) op (be F (b + pc + 1) 2) (b + pc) = true then Except.ok (wdN (fmN op), ([] : List Int32)) else .error (24, b + pc)) else .error (8, b + pc) : Except Er (Nat × List Int32)) = .error e := by
              split
              · split
                · exact Or.inl rfl
                · exact Or.inr ⟨_, rfl⟩
              · exact Or.inr ⟨_, rfl⟩
            refine wp_cV (wp_mono iv fun v hv => wp_some ?_)
            repeat (first | rw [if_pos (by omega)] | rw [if_neg (by omega)] | rw [cT_s])
            refine wp_some ?_
            revert hv
            split
            · split
              · exact fun hv => hv
              · exact fun hv => hv
            · exact fun hv => hv
          · by_cases c4 : fmN op = 4 ∨ fmN op = 5
            · have ho : op = 18 ∨ op = 19 := by
                rcases c4 with e | e
                · exact Or.inl (r4 e)
                · exact Or.inr (r5 e)
              have hkr : ∀ n, rfit F B (fmN op) op n (b + pc) = true := by
                intro n
                unfold rfit
                rw [if_neg (by omega), if_neg (by omega), if_neg (by omega), if_neg (by omega)]
              rw [hkr, if_pos rfl]
              have hkf : ∀ n, kfit c K (fmN op) op ver n = (isK c K n 3 || isK c K n 8 || isK c K n 7) := by
                intro n
                unfold kfit
                rw [if_pos c4]
              have kinds : ∀ n, n < 65536 → (cI (f_M_isKind u (nI n) 3) fun r331 u329 => cT (if r331 = 0 then (cI (f_M_isKind u329 (nI n) 8) fun r340 u338 => if r340 = 0 then (cI (f_M_isKind u338 (nI n) 7) fun r343 u341 => if r343 = 0 then (some ((0 : Int32), u341)) else (some (1, u341))) else (some (1, u338))) else (some (1, u329))) fun (p344 : Int32 × St) => cI (f_M_must p344.2 p344.1 8 (nI (b + pc))) fun r336 u334 => some (u334)) = some (if (isK c K n 3 || isK c K n 8 || isK c K n 7) = true then u else rbk u 8 (b + pc)) := by
                intro n hn
                rw [show (3 : Int32) = nI 3 from rfl, kind_m hW hn (by decide), cI_s, show (8 : Int32) = nI 8 from rfl, kind_m hW hn (by decide), cI_s, show (7 : Int32) = nI 7 from rfl, kind_m hW hn (by decide), cI_s]
                have e : (if (if isK c K n 3 = true then (1 : Int32) else 0) = 0 then (if (if isK c K n 8 = true then (1 : Int32) else 0) = 0 then (if (if isK c K n 7 = true then (1 : Int32) else 0) = 0 then some ((0 : Int32), u) else some (1, u)) else some (1, u)) else some (1, u)) = some (if (isK c K n 3 || isK c K n 8 || isK c K n 7) = true then 1 else 0, u) := by
                  cases isK c K n 3 <;> cases isK c K n 8 <;> cases isK c K n 7 <;> rfl
                rw [e, cT_s]
                cases (isK c K n 3 || isK c K n 8 || isK c K n 7)
                · rw [if_neg (by decide), must_f hO (by decide) (by decide), cI_s]; rfl
                · rw [if_pos rfl, must_t hO (by decide), cI_s]; rfl
              have fin : ∀ n v, v = (if (isK c K n 3 || isK c K n 8 || isK c K n 7) = true then u else rbk u 8 (b + pc)) → MC N i z (if kfit c K (fmN op) op ver n = true then .ok (wdN (fmN op), []) else .error (8, b + pc)) u v := by
                intro n v hv
                rw [hkf]
                cases hh : (isK c K n 3 || isK c K n 8 || isK c K n 7)
                · rw [hh, if_neg (by decide)] at hv
                  rw [if_neg (by decide), hv]
                  exact RO_B hO (by decide) (by decide)
                · rw [hh, if_pos rfl] at hv
                  rw [if_pos rfl, hv]
                  exact ⟨hO, ko_rf⟩
              rcases c4 with e | e
              · have e18 := r4 e
                have hn1 : nmN (fmN op) = 1 := by rw [e]; decide
                repeat (first | rw [if_pos (by omega)] | rw [if_neg (by omega)] | rw [cT_s])
                rw [by1, cI_s, cT_s]
                dsimp only
                rw [kinds _ (by omega), cT_s]
                repeat (first | rw [if_pos (by omega)] | rw [if_neg (by omega)] | rw [cT_s])
                rw [hn1, be1]
                exact wp_some (fin _ _ rfl)
              · have e19 := r5 e
                have hn1 : nmN (fmN op) = 2 := by rw [e]; decide
                repeat (first | rw [if_pos (by omega)] | rw [if_neg (by omega)] | rw [cT_s])
                rw [tw1 (by omega), cI_s, cT_s]
                dsimp only
                rw [kinds _ n16, cT_s]
                repeat (first | rw [if_pos (by omega)] | rw [if_neg (by omega)] | rw [cT_s])
                rw [hn1]
                exact wp_some (fin _ _ rfl)
            · have one : ∀ kd n, kd < 256 → n < 65536 → (cI (f_M_isKind u (nI n) (nI kd)) fun r322 u320 => cI (f_M_must u320 r322 8 (nI (b + pc))) fun r325 u323 => some (u323)) = some (if isK c K n kd = true then u else rbk u 8 (b + pc)) := by
                intro kd n hkd hn
                rw [kind_m hW hn hkd, cI_s]
                cases isK c K n kd
                · rw [if_neg (by decide), show (8 : Int32) = nI 8 from rfl, must_f hO (by decide) (by decide), cI_s]; rfl
                · rw [if_pos rfl, must_t hO (by decide), cI_s]; rfl
              have hn2 : nmN (fmN op) = 2 := by
                have h := t3
                have key : ∀ fm : Fin 23, fm.val = 6 ∨ fm.val = 16 ∨ fm.val = 19 ∨ fm.val = 21 → nmN fm.val = 2 := by decide +kernel
                exact key ⟨fmN op, hfm⟩ (by dsimp only; omega)
              rw [hn2]
              by_cases c6 : fmN op = 6 ∨ fmN op = 16
              · have hkr : rfit F B (fmN op) op (be F (b + pc + 1) 2) (b + pc) = true := by
                  unfold rfit
                  rw [if_neg (by omega), if_neg (by omega), if_neg (by omega), if_neg (by omega)]
                rw [hkr, if_pos rfl]
                have fin : ∀ kd v, kfit c K (fmN op) op ver (be F (b + pc + 1) 2) = isK c K (be F (b + pc + 1) 2) kd → v = (if isK c K (be F (b + pc + 1) 2) kd = true then u else rbk u 8 (b + pc)) → MC N i z (if kfit c K (fmN op) op ver (be F (b + pc + 1) 2) = true then .ok (wdN (fmN op), []) else .error (8, b + pc)) u v := by
                  intro kd v hk hv
                  rw [hk]
                  cases hh : isK c K (be F (b + pc + 1) 2) kd
                  · rw [hh, if_neg (by decide)] at hv
                    rw [if_neg (by decide), hv]
                    exact RO_B hO (by decide) (by decide)
                  · rw [hh, if_pos rfl] at hv
                    rw [if_pos rfl, hv]
                    exact ⟨hO, ko_rf⟩
                rcases c6 with e | e
                · have e20 := r6 e
                  repeat (first | rw [if_pos (by omega)] | rw [if_neg (by omega)] | rw [cT_s])
                  rw [tw1 (by omega), cI_s, show (5 : Int32) = nI 5 from rfl, one 5 _ (by decide) n16, cT_s]
                  repeat (first | rw [if_pos (by omega)] | rw [if_neg (by omega)] | rw [cT_s])
                  refine wp_some (fin 5 _ ?_ rfl)
                  unfold kfit
                  rw [if_neg (by omega), if_pos e]
                · have e16 := r16 e
                  repeat (first | rw [if_pos (by omega)] | rw [if_neg (by omega)] | rw [cT_s])
                  rw [tw1 (by omega), cI_s, show (9 : Int32) = nI 9 from rfl, one 9 _ (by decide) n16, cT_s]
                  repeat (first | rw [if_pos (by omega)] | rw [if_neg (by omega)] | rw [cT_s])
                  refine wp_some (fin 9 _ ?_ rfl)
                  unfold kfit
                  rw [if_neg (by omega), if_neg (by omega), if_pos e]
              · have c19 : fmN op = 19 ∨ fmN op = 21 := by omega
                have hkf : kfit c K (fmN op) op ver (be F (b + pc + 1) 2) = isK c K (be F (b + pc + 1) 2) 7 := by
                  unfold kfit
                  rw [if_neg (by omega), if_neg (by omega), if_neg (by omega), if_neg (by omega), if_neg (by omega)]
                rw [hkf]
                have ho : op = 187 ∨ op = 189 ∨ op = 192 ∨ op = 193 ∨ op = 197 := by
                  rcases c19 with e | e
                  · have := r19 e; omega
                  · have := r21 e; omega
                have e21 : fmN op = 21 ↔ op = 197 := by
                  constructor
                  · exact r21
                  · intro q
                    rcases c19 with e | e
                    · have := r19 e; omega
                    · exact e
                have tail : wp (cI (f_M_isKind u (nI (be F (b + pc + 1) 2)) 7) fun r14 u12 => cI (f_M_must u12 r14 8 (nI (b + pc))) fun r17 u15 => if r17 = 0 then (some u15) else (cT (if op = 187 then (cI (f_M_isArray u15 (nI (be F (b + pc + 1) 2))) fun r57 u55 => bnd (if r57 = 0 then (1) else (0)) fun (z58 : Int32) => cI (f_M_must u55 z58 24 (nI (b + pc))) fun r61 u59 => some (u59)) else (some (u15))) fun (u18 : St) => cT (if op = 197 then (cI (f_M_byteOf u18 (nI (b + pc + 3))) fun r44 u42 => cT (f_M_plain_L395 (nI (b + pc)) (nI op) (nI (be F (b + pc + 1) 2)) r44 FU u42 0) fun (p53 : St × Int32) => bnd (if r44 < 1 then (0) else (if p53.2 < r44 then (0) else (1))) fun (z47 : Int32) => cI (f_M_must p53.1 z47 24 (nI (b + pc))) fun r50 u48 => some (u48)) else (some (u18))) fun (u19 : St) => some u19)) (MC N i z (if isK c K (be F (b + pc + 1) 2) 7 = true then (if rfit F B (fmN op) op (be F (b + pc + 1) 2) (b + pc) = true then .ok (wdN (fmN op), []) else .error (24, b + pc)) else .error (8, b + pc)) u) := by
                  rw [show (7 : Int32) = nI 7 from rfl, kind_m hW n16 (by decide), cI_s]
                  generalize hn : be F (b + pc + 1) 2 = n at *
                  cases hk7 : isK c K n 7 with
                  | false =>
                    rw [if_neg (show ¬ (false = true) by decide), show (8 : Int32) = nI 8 from rfl, must_f hO (by decide) (by decide), cI_s, if_pos rfl, if_neg (show ¬ (false = true) by decide)]
                    exact wp_some (RO_B hO (by decide) (by decide))
                  | true =>
                    rw [if_pos (show true = true from rfl), must_t hO (by decide), cI_s, if_neg (by decide), if_pos (show true = true from rfl)]
                    unfold rfit
                    rw [if_neg (by omega), if_neg (by omega)]
                    by_cases e187 : op = 187
                    · have e19 : fmN op = 19 := by rcases c19 with e | e; exact e; have := r21 e; omega
                      rw [if_pos e187, array_m hW hM.1 hN hk7, cI_s, if_pos e19, decide_eq_false (fun q => q e187), Bool.false_or]
                      have ebk : bkC F B n = 0 ↔ hdT F B 91 (n2 F (B n + 1)) = false := by
                        have := br_pos (F := F) (B := B) (t := n2 F (B n + 1))
                        show br F (tn F B (n2 F (B n + 1))) (ta B (n2 F (B n + 1))) = 0 ↔ _
                        cases hh : hdT F B 91 (n2 F (B n + 1)) with
                        | true => have := this.mpr hh; simp; omega
                        | false =>
                          simp
                          refine Nat.eq_zero_of_not_pos fun q => ?_
                          rw [this.mp q] at hh; cases hh
                      rw [bnd_s]
                      cases hh : hdT F B 91 (n2 F (B n + 1)) with
                      | true =>
                        rw [if_pos (show true = true from rfl), if_neg (by decide), show (24 : Int32) = nI 24 from rfl, must_f hO (by decide) (by decide), cI_s, cT_s, if_neg (by omega), cT_s, decide_eq_false (fun q => by rw [ebk.mp q] at hh; cases hh), if_neg (by decide)]
                        exact wp_some (RO_B hO (by decide) (by decide))
                      | false =>
                        rw [if_neg (show ¬ (false = true) by decide), if_pos rfl, must_t hO (by decide), cI_s, cT_s, if_neg (by omega), cT_s, decide_eq_true (ebk.mpr hh), if_pos rfl]
                        exact wp_some ⟨hO, ko_rf⟩
                    · rw [if_neg e187, cT_s]
                      by_cases e197 : op = 197
                      · have hb3 : f_M_byteOf u (nI (b + pc + 3)) = some (nI (F (b + pc + 3)), u) := by
                          rw [byteOf_in (by have := t5 (e21.mpr e197); omega), hW.1]
                        have hT := hW.tx hN (hM.1.2.1 _ hk7)
                        have hbl := br_le F (tn F B (n2 F (B n + 1))) (ta B (n2 F (B n + 1)))
                        have ht4 := hT.2.2.2
                        have bp := brP (x1 := nI (b + pc)) (x2 := nI op) (x4 := nI (F (b + pc + 3))) hW hM.1 hN hk7 (tn F B (n2 F (B n + 1))) 0 FU (by omega) (by unfold FU; omega)
                        rw [nI_0, Nat.add_zero, Nat.zero_add] at bp
                        have f3 := f8 (b + pc + 3)
                        rw [if_pos e197, hb3, cI_s, bp, cT_s, bnd_s, if_neg (by have := e21.mpr e197; omega), if_pos (e21.mpr e197), show (nI (F (b + pc + 3)) < 1) = (F (b + pc + 3) < 1) from nlt (b := 1) (by omega) (by decide)]
                        dsimp only
                        rw [show (nI (br F (tn F B (n2 F (B n + 1))) (ta B (n2 F (B n + 1)))) < nI (F (b + pc + 3))) = (bkC F B n < F (b + pc + 3)) from nlt (by omega) (by omega)]
                        by_cases g1 : F (b + pc + 3) < 1
                        · rw [if_pos g1, show (24 : Int32) = nI 24 from rfl, must_f hO (by decide) (by decide), cI_s, cT_s, decide_eq_false (by omega), Bool.false_and, if_neg (by decide)]
                          exact wp_some (RO_B hO (by decide) (by decide))
                        · rw [if_neg g1, decide_eq_true (by omega), Bool.true_and]
                          by_cases g2 : bkC F B n < F (b + pc + 3)
                          · rw [if_pos g2, show (24 : Int32) = nI 24 from rfl, must_f hO (by decide) (by decide), cI_s, cT_s, decide_eq_false (by omega), if_neg (by decide)]
                            exact wp_some (RO_B hO (by decide) (by decide))
                          · rw [if_neg g2, must_t hO (by decide), cI_s, cT_s, decide_eq_true (by omega), if_pos rfl]
                            exact wp_some ⟨hO, ko_rf⟩
                      · have e19 : fmN op = 19 := by rcases c19 with e | e; exact e; have := r21 e; omega
                        rw [if_neg e197, cT_s, if_pos e19, decide_eq_true e187, Bool.true_or, if_pos rfl]
                        exact wp_some ⟨hO, ko_rf⟩
                have n188 : ¬ op = 188 := by omega
                rcases ho with e | e | e | e | e <;> (
                  repeat (first | rw [if_pos (by omega)] | rw [if_neg (by omega)] | rw [cT_s])
                  rw [tw1 (by omega), cI_s]
                  simp only [if_neg n188, cT_s]
                  exact tail)
theorem plain_1 {op : Nat} {x1 : Int32} (hop : op < 202) (h1 : fmN op = 1) : f_M_plain u x1 (nI op) = some u := by
  have o := ops_1 ⟨op, hop⟩ (Or.inl h1)
  dsimp only at o
  unfold f_M_plain
  simp only [show (181 < nI op) = (181 < op) from nlt (a := 181) (by decide) (by omega), show (185 < nI op) = (185 < op) from nlt (a := 185) (by decide) (by omega), show (45 < nI op) = (45 < op) from nlt (a := 45) (by decide) (by omega), show (58 < nI op) = (58 < op) from nlt (a := 58) (by decide) (by omega), show (78 < nI op) = (78 < op) from nlt (a := 78) (by decide) (by omega), show (nI op < 178) = (op < 178) from nlt (b := 178) (by omega) (by decide), show (nI op < 182) = (op < 182) from nlt (b := 182) (by omega) (by decide), show (nI op < 21) = (op < 21) from nlt (b := 21) (by omega) (by decide), show (nI op < 26) = (op < 26) from nlt (b := 26) (by omega) (by decide), show (nI op < 54) = (op < 54) from nlt (b := 54) (by omega) (by decide), show (nI op < 59) = (op < 59) from nlt (b := 59) (by omega) (by decide), show (nI op = 132) = (op = 132) from neq (b := 132) (by omega) (by decide), show (nI op = 18) = (op = 18) from neq (b := 18) (by omega) (by decide), show (nI op = 187) = (op = 187) from neq (b := 187) (by omega) (by decide), show (nI op = 188) = (op = 188) from neq (b := 188) (by omega) (by decide), show (nI op = 189) = (op = 189) from neq (b := 189) (by omega) (by decide), show (nI op = 19) = (op = 19) from neq (b := 19) (by omega) (by decide), show (nI op = 192) = (op = 192) from neq (b := 192) (by omega) (by decide), show (nI op = 193) = (op = 193) from neq (b := 193) (by omega) (by decide), show (nI op = 197) = (op = 197) from neq (b := 197) (by omega) (by decide), show (nI op = 20) = (op = 20) from neq (b := 20) (by omega) (by decide), show (nI op ≤ 25) = (op ≤ 25) from nle (b := 25) (by omega) (by decide)]
  repeat (first | rw [if_pos (by omega)] | rw [if_neg (by omega)] | rw [cT_s])
end MPL

/-! THE REFERENCE: words, types, descriptors -/
def chL (x2 : Int32) (x3 x5 x7 : Int64) (x10 : Int32) : Int32 := bnd (if 8 ≤ (x2 - ((x10 / 8) * 8)) then (8 : Int32) else ((x2 - ((x10 / 8) * 8)))) fun (z5 : Int32) => bnd (if 8 ≤ x10 then (if 16 ≤ x10 then (x7) else (x5)) else (x3)) fun (z6 : Int64) => ((z6 >>> (((8 * ((z5 - 1) - (x10 - x10 / 8 * 8)))).toInt64 &&& 63)) &&& 255).toInt32
theorem w_0 : ∀ k : Fin 6, chL (nI 6) 66423521637438 0 0 (nI k.val) = nI (chN 0 k.val) := by decide +kernel
theorem w_1 : ∀ k : Fin 8, chL (nI 8) 4351440865049801790 0 0 (nI k.val) = nI (chN 1 k.val) := by decide +kernel
theorem w_2 : ∀ k : Fin 16, chL (nI 16) 7665538200540832110 7435248793922397044 0 (nI k.val) = nI (chN 2 k.val) := by decide +kernel
theorem w_3 : ∀ k : Fin 4, chL (nI 4) 1131373669 0 0 (nI k.val) = nI (chN 3 k.val) := by decide +kernel
theorem w_4 : ∀ k : Fin 13, chL (nI 13) 4859223965108891252 371001685349 0 (nI k.val) = nI (chN 4 k.val) := by decide +kernel
theorem w_5 : ∀ k : Fin 10, chL (nI 10) 5005860273151830383 28275 0 (nI k.val) = nI (chN 5 k.val) := by decide +kernel
theorem w_6 : ∀ k : Fin 10, chL (nI 10) 6012153161717204585 27749 0 (nI k.val) = nI (chN 6 k.val) := by decide +kernel
theorem w_9 : ∀ k : Fin 3, chL (nI 3) 2632022 0 0 (nI k.val) = nI (chN 9 k.val) := by decide +kernel
theorem w_8 : ∀ k : Fin 18, chL (nI 18) 5506320655478385761 7955379302255716718 26427 (nI k.val) = nI (chN 8 k.val) := by decide +kernel
section TYP
variable {F B : Nat → Nat} {t k j n : Nat} {u : St}
theorem isL_eq {x3 x5 x7 : Int64} (h : TX F B t u) (hn : tn F B t = n) (hj : j < 10) (hl : n = lnS j) (hch : ∀ k : Fin n, chL (nI n) x3 x5 x7 (nI k.val) = nI (chN j k.val)) : ∀ (m k g : Nat), k + m = n → m < g → f_M_is_L19 (nI t) (nI n) x3 x5 x7 g u 1 (nI k) = some (u, if spN F j m k (ta B t + k) then 1 else 0)
  | 0, k, g + 1, h1, _ => by
    have := lnS_ok j hj
    rw [f_M_is_L19, if_neg (by decide), if_pos (nI_le (by omega) (by omega)), spN]
    rfl
  | m + 1, k, g + 1, h1, h2 => by
    have := lnS_ok j hj
    have hc := hch ⟨k, by omega⟩
    have hb := (chN_ok j hj k (by omega)).2
    have f1 := h.f8 (ta B t + k)
    unfold chL at hc
    rw [bnd_s, bnd_s] at hc
    rw [f_M_is_L19, if_neg (by decide), if_neg (nI_ge (by omega) (by omega)), bnd_s, bnd_s, letter_eq h (by omega), cI_s, bnd_s, hc, lt_in (by omega), nI_1, spN]
    by_cases q : F (ta B t + k) = chN j k
    · rw [if_pos (by rw [q]), isL_eq h hn hj hl hch m (k + 1) g (by omega) (by omega), show ta B t + (k + 1) = ta B t + k + 1 by omega, show (F (ta B t + k) == chN j k) = true by simp [q], Bool.true_and]
    · rw [if_neg (fun z => q ((nI_eq (by omega) (by omega)).mp z)), show (F (ta B t + k) == chN j k) = false by simp [q], Bool.false_and]
      cases g with
      | zero => omega
      | succ g => rw [f_M_is_L19, if_pos rfl]; rfl
theorem is_eq {x2 : Int32} {x3 x5 x7 : Int64} (h : TX F B t u) (hx : x2 = nI n) (hj : j < 10) (hl : n = lnS j) (hch : ∀ k : Fin n, chL (nI n) x3 x5 x7 (nI k.val) = nI (chN j k.val)) : f_M_is u (nI t) x2 x3 x5 x7 = some (if wT F B j t then 1 else 0, u) := by
  have l1 := h.2.2.2
  have l2 := lnS_ok j hj
  unfold f_M_is wT isW
  rw [hx, size_eq h, cI_s, bnd_s]
  by_cases e : tn F B t = n
  · have := isL_eq h e hj hl hch n 0 FU (by omega) (by unfold FU; omega)
    rw [nI_0, Nat.add_zero] at this
    rw [if_pos (by rw [e]), this, cT_s, show (tn F B t == lnS j) = true by rw [e, hl]; simp, Bool.true_and, e]
    exact gbB
  · rw [if_neg (fun z => e ((nI_eq (by omega) (by omega)).mp z)), show (tn F B t == lnS j) = false by rw [← hl]; simp [e], Bool.false_and, show FU = 69999 + 1 from rfl, f_M_is_L19, if_pos rfl, cT_s, gb_0]
    rfl
theorem is_l (x2 : Int32) {x3 x5 x7 : Int64} (h : TX F B t u) (hx : x2 = nI n) (hj : j < 10) (hl : n = lnS j) (hch : ∀ k : Fin n, chL (nI n) x3 x5 x7 (nI k.val) = nI (chN j k.val)) : f_M_is u (nI t) x2 x3 x5 x7 = some (if wT F B j t then 1 else 0, u) := is_eq h hx hj hl hch
/-! types -/
set_option maxRecDepth 8000 in
theorem brM {x2 : Int32} (h : TX F B t u) : ∀ (m k g : Nat), k + m = tn F B t → m < g → f_M_typeEnd_L2 (nI t) x2 g u (nI k) = some (u, nI (k + br F m (ta B t + k)))
  | 0, k, g + 1, h1, _ => by
    have := h.2.2.2
    rw [f_M_typeEnd_L2, letter_eq h (by omega), cI_s, lt_out (by omega), if_neg (by decide), br]
    rfl
  | m + 1, k, g + 1, h1, h2 => by
    have := h.2.2.2
    have f1 := h.f8 (ta B t + k)
    rw [f_M_typeEnd_L2, letter_eq h (by omega), cI_s, lt_in (by omega)]; simp only [show (nI (F (ta B t + k)) = 91) = (F (ta B t + k) = 91) from neq (b := 91) (by omega) (by decide)]; rw [br]
    by_cases q : F (ta B t + k) = 91
    · rw [if_pos q, if_pos q, nI_1, brM h m (k + 1) g (by omega) (by omega), show ta B t + (k + 1) = ta B t + k + 1 by omega, show k + 1 + br F m (ta B t + k + 1) = k + (br F m (ta B t + k + 1) + 1) by omega]
    · rw [if_neg q, if_neg q]
      rfl
/-- a real type stands at a -/
def tR (F : Nat → Nat) (m a : Nat) : Bool := decide (br F m a ≤ 8) && (decide (br F m a < m) && isR (F (a + br F m a)))
def c59 (F : Nat → Nat) (m a : Nat) (o : Option Nat) : Option Nat := match o with
  | none => none
  | some e => if e < m ∧ F (a + e) = 59 then some e else none
theorem ce_sh {m a : Nat} {p' : Bool} (ih : c59 F m (a + 1) (ce F m (a + 1) p') = if m ≤ scn F m (a + 1) then none else if cn F (scn F m (a + 1)) (a + 1) p' then some (scn F m (a + 1)) else none) : c59 F (m + 1) a ((ce F m (a + 1) p').map (fun x => x + 1)) = if m + 1 ≤ scn F m (a + 1) + 1 then none else if cn F (scn F m (a + 1)) (a + 1) p' then some (scn F m (a + 1) + 1) else none := by
  cases hc : ce F m (a + 1) p' with
  | none =>
    rw [hc] at ih
    show none = _
    have ih' : none = _ := ih
    by_cases d : m ≤ scn F m (a + 1)
    · rw [if_pos (show m + 1 ≤ scn F m (a + 1) + 1 by omega)]
    · rw [if_neg d] at ih'
      rw [if_neg (show ¬ m + 1 ≤ scn F m (a + 1) + 1 by omega)]
      by_cases c : cn F (scn F m (a + 1)) (a + 1) p' = true
      · rw [if_pos c] at ih'; cases ih'
      · rw [if_neg c]
  | some e =>
    rw [hc] at ih
    show (if e + 1 < m + 1 ∧ F (a + (e + 1)) = 59 then some (e + 1) else none) = _
    have ih' : (if e < m ∧ F (a + 1 + e) = 59 then some e else none) = if m ≤ scn F m (a + 1) then none else if cn F (scn F m (a + 1)) (a + 1) p' then some (scn F m (a + 1)) else none := ih
    rw [show a + (e + 1) = a + 1 + e by omega]
    by_cases d : m ≤ scn F m (a + 1)
    · rw [if_pos d] at ih'
      rw [if_pos (show m + 1 ≤ scn F m (a + 1) + 1 by omega)]
      by_cases g : e < m ∧ F (a + 1 + e) = 59
      · rw [if_pos g] at ih'; cases ih'
      · rw [if_neg (show ¬ (e + 1 < m + 1 ∧ F (a + 1 + e) = 59) from fun z => g ⟨by omega, z.2⟩)]
    · rw [if_neg d] at ih'
      rw [if_neg (show ¬ m + 1 ≤ scn F m (a + 1) + 1 by omega)]
      by_cases g : e < m ∧ F (a + 1 + e) = 59
      · rw [if_pos g] at ih'
        rw [if_pos (show e + 1 < m + 1 ∧ F (a + 1 + e) = 59 from ⟨by omega, g.2⟩)]
        by_cases c : cn F (scn F m (a + 1)) (a + 1) p' = true
        · rw [if_pos c] at ih' ⊢
          injection ih' with ih'
          rw [ih']
        · rw [if_neg c] at ih'; cases ih'
      · rw [if_neg g] at ih'
        rw [if_neg (show ¬ (e + 1 < m + 1 ∧ F (a + 1 + e) = 59) from fun z => g ⟨by omega, z.2⟩)]
        by_cases c : cn F (scn F m (a + 1)) (a + 1) p' = true
        · rw [if_pos c] at ih'; cases ih'
        · rw [if_neg c]
theorem ce_scn : ∀ (m a : Nat) (p : Bool), c59 F m a (ce F m a p) = if m ≤ scn F m a then none else if cn F (scn F m a) a p then some (scn F m a) else none
  | 0, a, p => by
    rw [ce, scn, if_pos (Nat.le_refl _)]
    cases p <;> rfl
  | m + 1, a, p => by
    rw [ce, scn]
    by_cases q : F a = 59
    · have b : badc (F a) = true := by rw [q]; decide
      rw [if_pos b, if_pos q, if_neg (show ¬ m + 1 ≤ 0 by omega), cn]
      cases p
      · rfl
      · show (if 0 < m + 1 ∧ F (a + 0) = 59 then some 0 else none) = some 0
        rw [if_pos ⟨by omega, q⟩]
    · rw [if_neg q, cn]
      by_cases b : badc (F a) = true
      · rw [if_pos b, if_pos b]
        have e0 : (if m + 1 ≤ scn F m (a + 1) + 1 then none else if (false = true) then some (scn F m (a + 1) + 1) else (none : Option Nat)) = none := by
          split <;> rfl
        rw [e0]
        cases p
        · rfl
        · show (if 0 < m + 1 ∧ F (a + 0) = 59 then some 0 else none) = none
          rw [if_neg (fun z => q z.2)]
      · rw [if_neg b, if_neg b]
        by_cases c : F a = 47
        · rw [if_pos c, if_pos c]
          cases p
          · have e0 : (if m + 1 ≤ scn F m (a + 1) + 1 then none else if ((false && cn F (scn F m (a + 1)) (a + 1) false) = true) then some (scn F m (a + 1) + 1) else (none : Option Nat)) = none := by
              rw [Bool.false_and]
              split <;> rfl
            rw [e0]
            rfl
          · rw [if_pos rfl, Bool.true_and]
            exact ce_sh (ce_scn m (a + 1) false)
        · rw [if_neg c, if_neg c]
          exact ce_sh (ce_scn m (a + 1) true)
theorem scn_59 : ∀ n a, scn F n a < n → F (a + scn F n a) = 59
  | 0, a, h => by omega
  | n + 1, a, h => by
    rw [scn] at h ⊢
    by_cases q : F a = 59
    · rw [if_pos q]; exact q
    · rw [if_neg q] at h ⊢
      rw [show a + (scn F n (a + 1) + 1) = a + 1 + scn F n (a + 1) by omega]
      exact scn_59 n (a + 1) (by omega)
theorem tyE_R {m a q : Nat} (h : tyE F m a = some q) : isR (F (a + q - 1)) = tR F m a := by
  unfold tyE at h
  unfold tR
  split at h
  · cases h
  · rename_i d
    rw [decide_eq_true (by omega), decide_eq_true (by omega), Bool.true_and, Bool.true_and]
    split at h
    · rename_i c
      split at h
      · cases h
      · rename_i e
        split at h
        · cases h
          have s := scn_59 (F := F) (m - br F m a) (a + br F m a) (by omega)
          rw [show a + (br F m a + scn F (m - br F m a) (a + br F m a) + 1) - 1 = a + br F m a + scn F (m - br F m a) (a + br F m a) by omega, s, c]
          decide
        · cases h
    · split at h
      · cases h
        rw [show a + (br F m a + 1) - 1 = a + br F m a by omega]
      · cases h
theorem tyE_last {m a q : Nat} (h : tyE F m a = some q) : F (a + q - 1) ≠ 86 := by
  unfold tyE at h
  split at h
  · cases h
  · rename_i d
    split at h
    · rename_i c
      split at h
      · cases h
      · rename_i e
        split at h
        · cases h
          have s := scn_59 (F := F) (m - br F m a) (a + br F m a) (by omega)
          rw [show a + (br F m a + scn F (m - br F m a) (a + br F m a) + 1) - 1 = a + br F m a + scn F (m - br F m a) (a + br F m a) by omega, s]
          decide
        · cases h
    · split at h
      · rename_i s
        cases h
        rw [show a + (br F m a + 1) - 1 = a + br F m a by omega]
        intro e
        rw [e] at s
        exact absurd s (by decide)
      · cases h
def setR (b : Bool) (u : St) : St := if b then sv u 18 1 else u
theorem setR_ko {b : Bool} : ko [18] [] u (setR b u) := by
  unfold setR
  cases b
  · exact ko_rf
  · exact ko_sv (by decide)
theorem smpM {c : Nat} (h : c < 257) {β : Type} {A X : β} : (if nI c = 66 then A else if nI c = 67 then A else if nI c = 73 then A else if nI c = 74 then A else if nI c = 83 then A else if nI c = 90 then A else if nI c = 70 then A else if nI c = 68 then A else X) = if smp c then A else X := by
  have key : ∀ c : Fin 257, (nI c.val = 66 ∨ nI c.val = 67 ∨ nI c.val = 73 ∨ nI c.val = 74 ∨ nI c.val = 83 ∨ nI c.val = 90 ∨ nI c.val = 70 ∨ nI c.val = 68) ↔ smp c.val = true := by decide +kernel
  have k := key ⟨c, h⟩
  dsimp only at k
  by_cases q : smp c = true
  · rw [if_pos q]
    have := k.mpr q
    repeat' split
    all_goals first | rfl | (exfalso; simp_all)
  · rw [if_neg q]
    have : ¬ _ := fun z => q (k.mp z)
    simp only [not_or] at this
    obtain ⟨a1, a2, a3, a4, a5, a6, a7, a8⟩ := this
    rw [if_neg a1, if_neg a2, if_neg a3, if_neg a4, if_neg a5, if_neg a6, if_neg a7, if_neg a8]
theorem real_eq {c : Nat} (h : c < 257) : (if nI c = 70 then gb 1 (bnd (sv u 18 1) fun u21 => some u21) else if nI c = 68 then gb 1 (bnd (sv u 18 1) fun u22 => some u22) else some u) = some (setR (isR c) u) := by
  have key : ∀ c : Fin 257, (nI c.val = 70 ∨ nI c.val = 68) ↔ isR c.val = true := by decide +kernel
  have k := key ⟨c, h⟩
  dsimp only at k
  unfold setR
  by_cases q : isR c = true
  · rw [if_pos q]
    rcases k.mpr q with e | e
    · rw [if_pos e, gb_1, bnd_s]
    · by_cases e' : nI c = 70
      · rw [if_pos e', gb_1, bnd_s]
      · rw [if_neg e', if_pos e, gb_1, bnd_s]
  · rw [if_neg q, if_neg (fun z => q (k.mp (Or.inl z))), if_neg (fun z => q (k.mp (Or.inr z)))]
theorem typM (h : TX F B t u) (hk : k ≤ tn F B t) : f_M_typeEnd u (nI t) (nI k) = some (tz k (tyE F (tn F B t - k) (ta B t + k)), setR (tR F (tn F B t - k) (ta B t + k)) u) := by
  have h4 := h.2.2.2
  have hb := br_le F (tn F B t - k) (ta B t + k)
  unfold f_M_typeEnd
  rw [brM h (tn F B t - k) k FU (by omega) (by unfold FU; omega), cT_s]
  dsimp only
  unfold tyE tR
  generalize hm : tn F B t - k = m at *
  generalize hbr : br F m (ta B t + k) = b at *
  rw [nI_sub (show k ≤ k + b by omega), show k + b - k = b by omega]; simp only [show (nI b ≤ 8) = (b ≤ 8) from nle (b := 8) (by omega) (by decide)]
  by_cases d : b ≤ 8
  · rw [if_pos d, letter_eq h (by omega), cI_s, real_eq (lt_lt h), cT_s, decide_eq_true d, Bool.true_and, smpM (lt_lt h), nI_1]
    by_cases e : b < m
    · have f1 := h.f8 (ta B t + k + b)
      rw [lt_in (show k + b < tn F B t by omega), if_neg (show ¬ (m ≤ b ∨ 8 < b) by omega), decide_eq_true e, Bool.true_and, show ta B t + (k + b) = ta B t + k + b by omega]
      by_cases c : F (ta B t + k + b) = 76
      · have s76 : smp (F (ta B t + k + b)) = false := by rw [c]; decide
        have r76 : isR (F (ta B t + k + b)) = false := by rw [c]; decide
        rw [if_neg (show ¬ smp (F (ta B t + k + b)) = true by rw [s76]; decide), if_pos (show nI (F (ta B t + k + b)) = 76 by rw [c]; rfl), if_pos c, r76, show setR false u = u from rfl]
        unfold f_M_classEnd
        rw [ceO_eq h (m - b - 1) (k + b + 1) FU (by omega) (by unfold FU; omega), cI_s, show ta B t + (k + b + 1) = ta B t + k + b + 1 by omega]
        have es : scn F (m - b) (ta B t + k + b) = scn F (m - b - 1) (ta B t + k + b + 1) + 1 := by
          rw [show m - b = (m - b - 1) + 1 by omega, scn, if_neg (by rw [c]; decide)]
          rfl
        have key := ce_scn (F := F) (m - b - 1) (ta B t + k + b + 1) false
        rw [es, Nat.add_sub_cancel]
        generalize scn F (m - b - 1) (ta B t + k + b + 1) = sc at *
        cases hc : ce F (m - b - 1) (ta B t + k + b + 1) false with
        | none =>
          rw [hc] at key
          rw [show tz (k + b + 1) none = -1 from rfl, if_pos rfl, cT_s]
          by_cases d1 : m - b - 1 ≤ sc
          · rw [if_pos (by omega)]; rfl
          · rw [if_neg d1] at key
            rw [if_neg (by omega)]
            by_cases d2 : cn F sc (ta B t + k + b + 1) false = true
            · rw [if_pos d2] at key; cases key
            · rw [if_neg d2]; rfl
        | some e =>
          have he := ce_le _ _ _ _ hc
          rw [hc] at key
          have key' : (if e < m - b - 1 ∧ F (ta B t + k + b + 1 + e) = 59 then some e else none) = if m - b - 1 ≤ sc then none else if cn F sc (ta B t + k + b + 1) false then some sc else none := key
          have hne : ¬ tz (k + b + 1) (some e) = -1 := by
            show ¬ nI (k + b + 1 + e) = -1
            intro z
            have : nI (k + b + 1 + e) < 0 := by rw [z]; decide
            exact nI_pos (by omega) this
          rw [if_neg hne, show tz (k + b + 1) (some e) = nI (k + b + 1 + e) from rfl, letter_eq h (by omega), cI_s, nI_1]
          by_cases g : e < m - b - 1 ∧ F (ta B t + k + b + 1 + e) = 59
          · rw [if_pos g] at key'
            rw [lt_in (by omega), if_pos (show nI (F (ta B t + (k + b + 1 + e))) = 59 by rw [show ta B t + (k + b + 1 + e) = ta B t + k + b + 1 + e by omega, g.2]; rfl), cT_s]
            by_cases d1 : m - b - 1 ≤ sc
            · rw [if_pos d1] at key'; cases key'
            · rw [if_neg d1] at key'
              rw [if_neg (by omega)]
              by_cases d2 : cn F sc (ta B t + k + b + 1) false = true
              · rw [if_pos d2] at key' ⊢
                injection key' with key'
                show some (nI (k + b + 1 + e + 1), u) = some (nI (k + (b + (sc + 1) + 1)), u)
                rw [key', show k + b + 1 + sc + 1 = k + (b + (sc + 1) + 1) by omega]
              · rw [if_neg d2] at key'; cases key'
          · rw [if_neg g] at key'
            have hl : ¬ nI (lt F B t (k + b + 1 + e)) = 59 := by
              intro z
              have l1 : lt F B t (k + b + 1 + e) < 257 := lt_lt h
              have z' := (nI_eq (b := 59) (by omega) (by decide)).mp z
              by_cases q : k + b + 1 + e < tn F B t
              · rw [lt_in q] at z'
                exact g ⟨by omega, by rw [show ta B t + k + b + 1 + e = ta B t + (k + b + 1 + e) by omega]; exact z'⟩
              · rw [lt_out q] at z'
                omega
            rw [if_neg hl, cT_s]
            by_cases d1 : m - b - 1 ≤ sc
            · rw [if_pos (by omega)]; rfl
            · rw [if_neg d1] at key'
              rw [if_neg (by omega)]
              by_cases d2 : cn F sc (ta B t + k + b + 1) false = true
              · rw [if_pos d2] at key'; cases key'
              · rw [if_neg d2]; rfl
      · rw [if_neg c]
        by_cases s : smp (F (ta B t + k + b)) = true
        · rw [if_pos s, if_pos s]
          show some (nI (k + b + 1), _) = some (nI (k + (b + 1)), _)
          rw [Nat.add_assoc]
        · rw [if_neg s, if_neg s, if_neg (show ¬ _ = (76 : Int32) from fun z => c ((nI_eq (b := 76) (by omega) (by decide)).mp z))]
          rfl
    · rw [lt_out (show ¬ k + b < tn F B t by omega), if_pos (show m ≤ b ∨ 8 < b by omega), decide_eq_false e, Bool.false_and, if_neg (by decide), if_neg (by decide)]
      rfl
  · rw [if_neg d, if_pos (show m ≤ b ∨ 8 < b by omega), decide_eq_false d, Bool.false_and]
    rfl
theorem field_is (h : TX F B t u) : ∃ v, f_M_isField u (nI t) = some (if (fdT F B t).isSome then 1 else 0, v) ∧ ko [18] [] u v ∧ ∀ r, fdT F B t = some r → v.1 18 = if r then 1 else 0 := by
  have h4 := h.2.2.2
  have h1 : TX F B t (sv u 18 0) := TX_ko (s := [18]) (k := []) h (ko_sv (by decide)) (by decide)
  have e1 := typM h1 (k := 0) (by omega)
  rw [nI_0, Nat.sub_zero, Nat.add_zero] at e1
  refine ⟨setR (tR F (tn F B t) (ta B t)) (sv u 18 0), ?_, ?_, ?_⟩
  · unfold f_M_isField
    rw [gb_0, bnd_s, e1, cI_s, size_eq (TX_ko h1 setR_ko (by decide)), cI_s, bnd_s]
    have k1 := tz_eq (k := 0) (n := tn F B t) (o := tyE F (tn F B t) (ta B t)) (by omega) (fun e he => (tyE_le he).2)
    rw [Nat.zero_add] at k1
    by_cases q : tyE F (tn F B t) (ta B t) = some (tn F B t)
    · have : fdT F B t = some (isR (F (ta B t + tn F B t - 1))) := by
        unfold fdT
        rw [q]
        dsimp only
        rw [if_pos rfl]
      rw [if_pos (k1.mpr q), gb_1, this]
      rfl
    · rw [if_neg (fun z => q (k1.mp z)), gb_0]
      have : fdT F B t = none := by
        unfold fdT
        split
        · rfl
        · rename_i e
          rw [if_neg (fun z => q (by rw [e, z]))]
      rw [this]
      rfl
  · exact ko_tr (ko_sv (by decide)) setR_ko
  · intro r hr
    unfold fdT at hr
    split at hr
    · cases hr
    · rename_i q e
      split at hr
      · rename_i e2
        have := tyE_R e
        rw [e2] at this
        injection hr with hr
        rw [← this, hr]
        cases r <;> rfl
      · cases hr
theorem wide_eq (h : TX F B t u) (hk : k < tn F B t) {q : Nat} (hq : q ≤ 4000) : (if nI (k + q) = nI k + 1 then (cI (f_M_letter u (nI t) (nI k)) fun r20 u18 => if r20 = 74 then some ((1 : Int32), u18) else (cI (f_M_letter u18 (nI t) (nI k)) fun r23 u21 => if r23 = 68 then (some (1, u21)) else (some (0, u21)))) else (some (0, u))) = some (if q = 1 ∧ (F (ta B t + k) = 74 ∨ F (ta B t + k) = 68) then 1 else 0, u) := by
  have h4 := h.2.2.2
  have f1 := h.f8 (ta B t + k)
  rw [nI_1, letter_eq h (by omega), cI_s, letter_eq h (by omega), cI_s, lt_in hk]; simp only [show (nI (k + q) = nI (k + 1)) = (k + q = k + 1) from neq (by omega) (by omega), show (nI (F (ta B t + k)) = 74) = (F (ta B t + k) = 74) from neq (b := 74) (by omega) (by decide), show (nI (F (ta B t + k)) = 68) = (F (ta B t + k) = 68) from neq (b := 68) (by omega) (by decide)]
  by_cases e : q = 1
  · rw [if_pos (by omega)]
    by_cases a : F (ta B t + k) = 74
    · rw [if_pos a, if_pos ⟨e, Or.inl a⟩]
    · rw [if_neg a]
      by_cases b : F (ta B t + k) = 68
      · rw [if_pos b, if_pos ⟨e, Or.inr b⟩]
      · rw [if_neg b, if_neg (by omega)]
  · rw [if_neg (by omega), if_neg (by omega)]
/-- the loop of arguments -/
theorem mdL_wp {Q : Int32 × St → Prop} {kx : St → Int32 → Option (Int32 × St)} : ∀ (f g k : Nat) (fl : Bool) (sl : Nat) (u : St), TX F B t u → k ≤ tn F B t → tn F B t - k < f → tn F B t - k < g → sl ≤ 2 * k → u.1 18 = (if fl then 1 else 0) → u.1 19 = nI sl → (∀ v, ko [18, 19] [] u v → (mdL F f (tn F B t - k) (ta B t + k) fl sl = none ∨ ∃ q, mdL F f (tn F B t - k) (ta B t + k) fl sl = some q ∧ q.1 = 0) → Q (0, v)) → (∀ v n' fl' sl', ko [18, 19] [] u v → mdL F f (tn F B t - k) (ta B t + k) fl sl = some (n', ta B t + tn F B t - n', fl', sl') → 1 ≤ n' → n' ≤ tn F B t → sl' ≤ 2 * tn F B t → v.1 18 = (if fl' then 1 else 0) → v.1 19 = nI sl' → wp (kx v (nI (tn F B t - n'))) Q) → wp (f_M_isMethod_L25 kx (nI t) g u (nI k)) Q := by
  intro f
  induction f with
  | zero => intro g k fl sl u _ _ h; omega
  | succ f ih =>
    intro g k fl sl u h hk hf hg hsl h18 h19 hfail hgo
    cases g with
    | zero => omega
    | succ g =>
      have h4 := h.2.2.2
      have f1 := h.f8 (ta B t + k)
      rw [f_M_isMethod_L25, letter_eq h (by omega), cI_s]
      by_cases d : k < tn F B t
      · rw [lt_in d]; simp only [show (nI (F (ta B t + k)) = 41) = (F (ta B t + k) = 41) from neq (b := 41) (by omega) (by decide)]
        by_cases c : F (ta B t + k) = 41
        · rw [if_pos c]
          have e := hgo u (tn F B t - k) fl sl ko_rf (by
            rw [mdL, if_neg (by omega), if_pos c]
            congr 2
            congr 1
            omega) (by omega) (by omega) (by omega) h18 h19
          rw [show tn F B t - (tn F B t - k) = k by omega] at e
          exact e
        · rw [if_neg c, typM h hk, cI_s]
          have kR : ko [18] [] u (setR (tR F (tn F B t - k) (ta B t + k)) u) := setR_ko
          cases ht : tyE F (tn F B t - k) (ta B t + k) with
          | none =>
            rw [show tz k none = -1 from rfl, if_pos rfl, gb_0]
            refine wp_some (hfail _ (ko_mono kR (fun j hj => by simp at hj ⊢; omega) (fun _ hj => hj)) (Or.inl ?_))
            rw [mdL, if_neg (by omega), if_neg c, ht]
          | some q =>
            have hq := tyE_le ht
            have hne : ¬ tz k (some q) = -1 := by
              show ¬ nI (k + q) = -1
              intro z
              have : nI (k + q) < 0 := by rw [z]; decide
              exact nI_pos (by omega) this
            have hR := tyE_R ht
            rw [if_neg hne, show tz k (some q) = nI (k + q) from rfl]
            generalize hv : setR (tR F (tn F B t - k) (ta B t + k)) u = v at *
            have hTv : TX F B t v := TX_ko h kR (by decide)
            rw [wide_eq hTv d (by omega), cT_s, bnd_s]
            have e19 : v.1 19 = nI sl := (kR.1 19 (by decide)).trans h19
            have ew : (if (if q = 1 ∧ (F (ta B t + k) = 74 ∨ F (ta B t + k) = 68) then (1 : Int32) else 0) = 0 then (1 : Int32) else 2) = nI (if q = 1 ∧ (F (ta B t + k) = 74 ∨ F (ta B t + k) = 68) then 2 else 1) := by
              by_cases w : q = 1 ∧ (F (ta B t + k) = 74 ∨ F (ta B t + k) = 68)
              · rw [if_pos w, if_neg (by decide), if_pos w]; rfl
              · rw [if_neg w, if_pos rfl, if_neg w]; rfl
            dsimp only
            rw [ew, bnd_s, e19, nI_add]
            have hw : (if q = 1 ∧ (F (ta B t + k) = 74 ∨ F (ta B t + k) = 68) then 2 else 1) ≤ 2 := by split <;> omega
            have em : mdL F (f + 1) (tn F B t - k) (ta B t + k) fl sl = mdL F f (tn F B t - k - q) (ta B t + k + q) (fl || isR (F (ta B t + k + q - 1))) (sl + if q = 1 ∧ (F (ta B t + k) = 74 ∨ F (ta B t + k) = 68) then 2 else 1) := by
              rw [mdL, if_neg (by omega), if_neg c, ht]
            rw [em] at hfail hgo
            have e18 : v.1 18 = if (fl || isR (F (ta B t + k + q - 1))) = true then 1 else 0 := by
              rw [hR, ← hv]
              unfold setR
              cases tR F (tn F B t - k) (ta B t + k)
              · rw [if_neg (by decide), Bool.or_false]; exact h18
              · rw [if_pos rfl, Bool.or_true]; rfl
            generalize (if q = 1 ∧ (F (ta B t + k) = 74 ∨ F (ta B t + k) = 68) then 2 else 1) = ws at *
            have k2 : ko [18, 19] [] u (sv v 19 (nI (sl + ws))) := ko_tr (ko_mono kR (fun j hj => by simp at hj ⊢; omega) (fun _ hj => hj)) (ko_sv (by decide))
            rw [show tn F B t - k - q = tn F B t - (k + q) by omega, show ta B t + k + q = ta B t + (k + q) by omega] at hfail hgo
            rw [show ta B t + k + q = ta B t + (k + q) by omega] at e18
            refine ih g (k + q) _ (sl + ws) _ (TX_ko h k2 (by decide)) (by omega) (by omega) (by omega) (by omega) e18 rfl ?_ ?_
            · intro v' kv' hn
              exact hfail v' (ko_tr k2 kv') hn
            · intro v' n' fl' sl' kv' e1 e2 e3 e4 e5 e6
              exact hgo v' n' fl' sl' (ko_tr k2 kv') e1 e2 e3 e4 e5 e6
      · have hk0 : tn F B t - k = 0 := by omega
        rw [lt_out d, if_neg (by decide), typM h hk, cI_s]
        have ht : tyE F (tn F B t - k) (ta B t + k) = none := by
          rw [hk0]
          unfold tyE
          rw [if_pos (Or.inl (Nat.zero_le _))]
        rw [ht, show tz k none = -1 from rfl, if_pos rfl, gb_0]
        refine wp_some (hfail _ (ko_mono setR_ko (fun j hj => by simp at hj ⊢; omega) (fun _ hj => hj)) (Or.inr ⟨(0, ta B t + k, fl, sl), ?_, rfl⟩))
        rw [mdL, hk0, if_pos rfl]
theorem method_is (h : TX F B t u) : wp (f_M_isMethod u (nI t)) (fun p => p.1 = (if (mtT F B t).isSome then 1 else 0) ∧ ko [18, 19] [] u p.2 ∧ ∀ fl sl vd, mtT F B t = some (fl, sl, vd) → p.2.1 18 = (if fl then 1 else 0) ∧ p.2.1 19 = nI sl) := by
  have h4 := h.2.2.2
  unfold f_M_isMethod
  rw [gb_0, bnd_s, bnd_s]
  have k1 : ko [18, 19] [] u (sv (sv u 18 0) 19 0) := ko_tr (ko_sv (by decide)) (ko_sv (by decide))
  have e18 : (sv (sv u 18 0) 19 0).1 18 = 0 := rfl
  have e19 : (sv (sv u 18 0) 19 0).1 19 = nI 0 := rfl
  generalize sv (sv u 18 0) 19 0 = v at k1 e18 e19 ⊢
  have hT : TX F B t v := TX_ko h k1 (by decide)
  have el := letter_eq hT (k := 0) (by decide)
  rw [nI_0] at el
  rw [el, cI_s]; simp only [show (nI (lt F B t 0) = 40) = (lt F B t 0 = 40) from neq (b := 40) (by have : lt F B t 0 < 257 := lt_lt hT; omega) (by decide)]
  have hh : (lt F B t 0 = 40) ↔ hdT F B 40 t = true := by
    unfold lt hdT
    by_cases d : 0 < tn F B t
    · rw [if_pos d, decide_eq_true d, Bool.true_and, Nat.add_zero, beq_iff_eq]
    · rw [if_neg d, decide_eq_false d, Bool.false_and]
      constructor
      · intro z; omega
      · intro z; cases z
  by_cases c : hdT F B 40 t = true
  · rw [if_pos (hh.mpr c)]
    have hpos : 0 < tn F B t := by
      unfold hdT at c
      rw [Bool.and_eq_true] at c
      exact of_decide_eq_true c.1
    have em : mtT F B t = mdE F (tn F B t - 1) (ta B t + 1) := by
      unfold mtT
      rw [if_pos c]
    rw [em]
    have hl : ∀ {x : Int32}, x = nI 1 → wp (f_M_isMethod_L25 (fun u25 z26 => cI (f_M_letter u25 (nI t) (z26 + 1)) fun r29 u27 => cT (if r29 = 86 then (some (((z26 + 1) + 1), u27)) else (cI (f_M_typeEnd u27 (nI t) (z26 + 1)) fun r40 u38 => some (r40, u38))) fun (p41 : Int32 × St) => cI (f_M_textSize p41.2 (nI t)) fun r34 u32 => bnd (if p41.1 = r34 then (if 250 < (u32.1 19) then (0) else (1)) else (0)) fun (z35 : Int32) => gb z35 (some (z35, u32))) (nI t) FU v x) (fun p => p.1 = (if (mdE F (tn F B t - 1) (ta B t + 1)).isSome then 1 else 0) ∧ ko [18, 19] [] u p.2 ∧ ∀ fl sl vd, mdE F (tn F B t - 1) (ta B t + 1) = some (fl, sl, vd) → p.2.1 18 = (if fl then 1 else 0) ∧ p.2.1 19 = nI sl) := by
      intro x hx
      rw [hx]
      refine mdL_wp (tn F B t - 1 + 1) FU 1 false 0 v hT (by omega) (by omega) (by unfold FU; omega) (by omega) e18 e19 ?_ ?_
      · intro w kw hn
        have : mdE F (tn F B t - 1) (ta B t + 1) = none := by
          unfold mdE
          rcases hn with e | ⟨⟨q1, q2, q3, q4⟩, e, e0⟩
          · rw [e]
          · rw [e]
            dsimp only at e0 ⊢
            rw [if_pos (by omega)]
        rw [this]
        exact ⟨rfl, ko_tr k1 kw, fun _ _ _ z => by cases z⟩
      · intro w n' fl' sl' kw e1 e2 e3 e4 e5 e6
        have hw : TX F B t w := TX_ko hT kw (by decide)
        have eE : mdE F (tn F B t - 1) (ta B t + 1) = (if 250 < sl' ∨ n' ≤ 1 then none else if F (ta B t + tn F B t - n' + 1) = 86 then (if n' = 2 then some (fl', sl', true) else none) else match tyE F (n' - 1) (ta B t + tn F B t - n' + 1) with
          | none => none
          | some t' => if t' = n' - 1 then some (fl' || isR (F (ta B t + tn F B t - n' + n' - 1)), sl', false) else none) := by
          unfold mdE
          rw [e1]
          rfl
        rw [nI_1, letter_eq hw (by omega), cI_s, nI_1]
        by_cases d : tn F B t - n' + 1 < tn F B t
        · have f1 := hw.f8 (ta B t + (tn F B t - n' + 1))
          rw [lt_in d]; simp only [show (nI (F (ta B t + (tn F B t - n' + 1))) = 86) = (F (ta B t + (tn F B t - n' + 1)) = 86) from neq (b := 86) (by omega) (by decide)]
          rw [show ta B t + tn F B t - n' + 1 = ta B t + (tn F B t - n' + 1) by omega, show ta B t + tn F B t - n' + n' - 1 = ta B t + tn F B t - 1 by omega] at eE
          by_cases cV : F (ta B t + (tn F B t - n' + 1)) = 86
          · rw [if_pos cV, cT_s]
            dsimp only
            rw [size_eq hw, cI_s, bnd_s]; simp only [show (nI (tn F B t - n' + 1 + 1) = nI (tn F B t)) = (tn F B t - n' + 1 + 1 = tn F B t) from neq (by omega) (by omega)]; rw [e6]; simp only [show (250 < nI sl') = (250 < sl') from nlt (a := 250) (by decide) (by omega)]
            rw [if_pos cV] at eE
            by_cases g : n' = 2
            · rw [if_pos (by omega)]
              by_cases s : 250 < sl'
              · rw [if_pos (Or.inl s)] at eE
                rw [if_pos s, gb_0, eE]
                exact wp_some ⟨rfl, ko_tr k1 kw, fun _ _ _ z => by cases z⟩
              · rw [if_neg (by omega), if_pos g] at eE
                rw [if_neg s, gb_1, eE]
                refine wp_some ⟨rfl, ko_tr k1 kw, fun a b c z => ?_⟩
                cases z
                exact ⟨e5, e6⟩
            · have : mdE F (tn F B t - 1) (ta B t + 1) = none := by
                rw [eE]
                split
                · rfl
                · first | rfl | rw [if_neg g]
              rw [if_neg (by omega), gb_0, this]
              exact wp_some ⟨rfl, ko_tr k1 kw, fun _ _ _ z => by cases z⟩
          · rw [if_neg cV] at eE
            rw [if_neg cV, typM hw (k := tn F B t - n' + 1) (by omega), cI_s, cT_s]
            have kR : ko [18] [] w (setR (tR F (tn F B t - (tn F B t - n' + 1)) (ta B t + (tn F B t - n' + 1))) w) := setR_ko
            have k2 : ko [18, 19] [] u (setR (tR F (tn F B t - (tn F B t - n' + 1)) (ta B t + (tn F B t - n' + 1))) w) := ko_tr (ko_tr k1 kw) (ko_mono kR (fun j hj => by simp at hj ⊢; omega) (fun _ hj => hj))
            have hR : tyE F (n' - 1) (ta B t + (tn F B t - n' + 1)) = some (n' - 1) → (setR (tR F (tn F B t - (tn F B t - n' + 1)) (ta B t + (tn F B t - n' + 1))) w).1 18 = if (fl' || isR (F (ta B t + tn F B t - 1))) = true then 1 else 0 := by
              intro hh
              have := tyE_R hh
              rw [show ta B t + (tn F B t - n' + 1) + (n' - 1) - 1 = ta B t + tn F B t - 1 by omega] at this
              rw [this, show tn F B t - (tn F B t - n' + 1) = n' - 1 by omega]
              unfold setR
              cases tR F (n' - 1) (ta B t + (tn F B t - n' + 1))
              · rw [if_neg (by decide), Bool.or_false]; exact e5
              · rw [if_pos rfl, Bool.or_true]; rfl
            have h19' : (setR (tR F (tn F B t - (tn F B t - n' + 1)) (ta B t + (tn F B t - n' + 1))) w).1 19 = nI sl' := (kR.1 19 (by decide)).trans e6
            dsimp only
            generalize setR (tR F (tn F B t - (tn F B t - n' + 1)) (ta B t + (tn F B t - n' + 1))) w = x at kR k2 hR h19' ⊢
            have hx2 : TX F B t x := TX_ko hw kR (by decide)
            rw [size_eq hx2, cI_s, bnd_s, h19']; simp only [show (250 < nI sl') = (250 < sl') from nlt (a := 250) (by decide) (by omega)]; rw [show tn F B t - (tn F B t - n' + 1) = n' - 1 by omega]
            have k3 := tz_eq (k := tn F B t - n' + 1) (n := n' - 1) (o := tyE F (n' - 1) (ta B t + (tn F B t - n' + 1))) (by omega) (fun e he => (tyE_le he).2)
            rw [show tn F B t - n' + 1 + (n' - 1) = tn F B t by omega] at k3
            by_cases q : tyE F (n' - 1) (ta B t + (tn F B t - n' + 1)) = some (n' - 1)
            · rw [if_pos (k3.mpr q)]
              rw [q] at eE
              by_cases s : 250 < sl'
              · rw [if_pos (Or.inl s)] at eE
                rw [if_pos s, gb_0, eE]
                exact wp_some ⟨rfl, k2, fun _ _ _ z => by cases z⟩
              · rw [if_neg (by omega)] at eE
                dsimp only at eE
                rw [if_pos rfl] at eE
                rw [if_neg s, gb_1, eE]
                refine wp_some ⟨rfl, k2, fun a b c z => ?_⟩
                cases z
                exact ⟨hR q, h19'⟩
            · have : mdE F (tn F B t - 1) (ta B t + 1) = none := by
                rw [eE]
                split
                · rfl
                · split
                  · rfl
                  · rename_i e
                    rw [if_neg (fun z => q (by rw [e, z]))]
              rw [if_neg (fun z => q (k3.mp z)), gb_0, this]
              exact wp_some ⟨rfl, k2, fun _ _ _ z => by cases z⟩
        · have n1 : n' = 1 := by omega
          have : mdE F (tn F B t - 1) (ta B t + 1) = none := by
            rw [eE, if_pos (Or.inr (by omega))]
          rw [this, lt_out d, if_neg (by decide), typM hw (k := tn F B t - n' + 1) (by omega), cI_s, cT_s]
          have k2 : ko [18, 19] [] u (setR (tR F (tn F B t - (tn F B t - n' + 1)) (ta B t + (tn F B t - n' + 1))) w) := ko_tr (ko_tr k1 kw) (ko_mono setR_ko (fun j hj => by simp at hj ⊢; omega) (fun _ hj => hj))
          have ht : tyE F (tn F B t - (tn F B t - n' + 1)) (ta B t + (tn F B t - n' + 1)) = none := by
            rw [show tn F B t - (tn F B t - n' + 1) = 0 by omega]
            unfold tyE
            rw [if_pos (Or.inl (Nat.zero_le _))]
          rw [ht]
          dsimp only
          rw [size_eq (TX_ko h k2 (by decide)), cI_s, bnd_s, if_neg (show ¬ tz (tn F B t - n' + 1) none = nI (tn F B t) by
            intro z
            have : nI (tn F B t) < 0 := by rw [← z]; show (-1 : Int32) < 0; decide
            exact nI_pos (by omega) this), gb_0]
          exact wp_some ⟨rfl, k2, fun _ _ _ z => by cases z⟩
    exact hl rfl
  · rw [if_neg (fun z => c (hh.mp z)), gb_0]
    have : mtT F B t = none := by
      unfold mtT
      rw [if_neg c]
    rw [this]
    exact wp_some ⟨rfl, k1, fun _ _ _ z => by cases z⟩
end TYP

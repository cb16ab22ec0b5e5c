/-! THE REFERENCE: texts -/
/-- a text that lies in the file -/
def TX (F B : Nat → Nat) (t : Nat) (u : St) : Prop := xF u = F ∧ t < 300 ∧ u.2 2 t = nI (B t) ∧ B t + 3 + tn F B t ≤ 4000
theorem TX_ko {F B : Nat → Nat} {t : Nat} {u v : St} {s k : List Nat} (h : TX F B t u) (hk : ko s k u v) (h0 : 0 ∉ k ∧ 2 ∉ k) : TX F B t v := by
  obtain ⟨a, b, c, d⟩ := h
  exact ⟨(ko_F hk h0.1).trans a, b, by rw [hk.2 2 h0.2]; exact c, d⟩
def lt (F B : Nat → Nat) (t k : Nat) : Nat := if k < tn F B t then F (ta B t + k) else 256
section TEX
variable {F B : Nat → Nat} {t s k : Nat} {u : St}
theorem TX.f8 (h : TX F B t u) (j : Nat) : F j < 256 := by rw [← h.1]; exact F8 u j
theorem size_eq (h : TX F B t u) : f_M_textSize u (nI t) = some (nI (tn F B t), u) := by
  obtain ⟨h1, h2, h3, h4⟩ := h
  unfold f_M_textSize
  rw [gd_in h2 (by decide), ncl (by omega), h3, nI_1, two_in (by omega), cI_s, h1]
  rfl
theorem lt_lt (h : TX F B t u) : lt F B t k < 257 := by
  unfold lt
  have := h.f8 (ta B t + k)
  split <;> omega
theorem letter_eq (h : TX F B t u) (hk : k < 2 ^ 31) : f_M_letter u (nI t) (nI k) = some (nI (lt F B t k), u) := by
  have hs := size_eq h
  obtain ⟨h1, h2, h3, h4⟩ := h
  unfold f_M_letter lt
  rw [hs, cI_s]
  by_cases d : k < tn F B t
  · rw [if_neg (nI_ge d (by omega)), if_pos d]
    unfold f_M_textAt
    rw [gd_in h2 (by decide), ncl (by omega), cI_s, h3, show nI (B t) + 3 = nI (B t + 3) from nI_add _ 3, nI_add, gd_in (by omega) (by decide), ncl (by omega), b8_and, cT_s]
    show some (nI (xF u (B t + 3 + k)), u) = _
    rw [h1]
    rfl
  · rw [if_pos (nI_le (by omega) hk), if_neg d, cT_s]
    rfl
theorem lt_in (d : k < tn F B t) : lt F B t k = F (ta B t + k) := if_pos d
theorem lt_out (d : ¬ k < tn F B t) : lt F B t k = 256 := if_neg d
/-! equal texts -/
set_option maxRecDepth 8000 in
theorem sameL_eq (h : TX F B s u) (h' : TX F B t u) (e : tn F B s = tn F B t) : ∀ (m k g : Nat), k + m = tn F B s → m < g → f_M_same_L22 (nI s) (nI t) g u 1 (nI k) = some (u, if (∀ j, j < m → F (ta B s + k + j) = F (ta B t + k + j)) then 1 else 0)
  | 0, k, g + 1, h1, _ => by
    have := h.2.2.2
    rw [f_M_same_L22, if_neg (by decide), size_eq h, cI_s, if_pos (nI_le (by omega) (by omega)), if_pos (fun j hj => by omega)]
  | m + 1, k, g + 1, h1, h2 => by
    have := h.2.2.2
    rw [f_M_same_L22, if_neg (by decide), size_eq h, cI_s, if_neg (nI_ge (by omega) (by omega)), letter_eq h (by omega), cI_s, letter_eq h' (by omega), cI_s, bnd_s, lt_in (by omega), lt_in (by omega), nI_1]
    have f1 := h.f8 (ta B s + k)
    have f2 := h.f8 (ta B t + k)
    by_cases q : F (ta B s + k) = F (ta B t + k)
    · rw [if_pos (by rw [q]), sameL_eq h h' e m (k + 1) g (by omega) (by omega)]
      have : (∀ j, j < m → F (ta B s + (k + 1) + j) = F (ta B t + (k + 1) + j)) ↔ (∀ j, j < m + 1 → F (ta B s + k + j) = F (ta B t + k + j)) := by
        constructor
        · intro a j hj
          cases j with
          | zero => exact q
          | succ j =>
            have := a j (by omega)
            rwa [show ta B s + (k + 1) + j = ta B s + k + (j + 1) by omega, show ta B t + (k + 1) + j = ta B t + k + (j + 1) by omega] at this
        · intro a j hj
          have := a (j + 1) (by omega)
          rwa [show ta B s + k + (j + 1) = ta B s + (k + 1) + j by omega, show ta B t + k + (j + 1) = ta B t + (k + 1) + j by omega] at this
      simp only [this]
    · rw [if_neg (fun z => q ((nI_eq (by omega) (by omega)).mp z)), if_neg (fun a => q (a 0 (by omega)))]
      cases g with
      | zero => omega
      | succ g => rw [f_M_same_L22, if_pos rfl]
theorem same_eq (h : TX F B s u) (h' : TX F B t u) : f_M_same u (nI s) (nI t) = some (if smT F B s t then 1 else 0, u) := by
  have l1 := h.2.2.2
  have l2 := h'.2.2.2
  unfold f_M_same
  rw [size_eq h, cI_s, size_eq h', cI_s, bnd_s]
  by_cases e : tn F B s = tn F B t
  · have := sameL_eq h h' e (tn F B s) 0 FU (by omega) (by unfold FU; omega)
    rw [nI_0] at this
    rw [if_pos (by rw [e]), this, cT_s]
    have hb : (∀ j, j < tn F B s → F (ta B s + 0 + j) = F (ta B t + 0 + j)) ↔ smT F B s t = true := by
      unfold smT
      rw [Bool.and_eq_true, eqT_i]
      simp [e]
    by_cases q : smT F B s t = true
    · rw [if_pos (hb.mpr q), if_pos q, gb_1]
    · rw [if_neg (fun z => q (hb.mp z)), if_neg q, gb_0]
  · have : smT F B s t = false := by
      unfold smT
      simp [e]
    rw [if_neg (fun z => e ((nI_eq (by omega) (by omega)).mp z)), this]
    rw [show FU = 69999 + 1 from rfl, f_M_same_L22, if_pos rfl, cT_s, gb_0]
    rfl
/-! plain names -/
def plc (c : Nat) : Bool := !badc c && (c != 47) && (c != 256)
theorem isPlain_eq {c : Nat} (h : c < 257) : f_M_isPlain u (nI c) = some (if plc c then 1 else 0, u) := by
  have key : ∀ c : Fin 257, (if nI c.val = 46 then (0 : Int32) else (if nI c.val = 59 then (0) else (if nI c.val = 91 then (0) else (if nI c.val = 47 then (0) else (if nI c.val = 60 then (0) else (if nI c.val = 62 then (0) else (if nI c.val = 256 then (0) else (1)))))))) = if plc c.val then 1 else 0 := by decide +kernel
  unfold f_M_isPlain
  rw [bnd_s, key ⟨c, h⟩, gbB]
theorem plc_in {c : Nat} (h : c < 256) : plc c = (!badc c && (c != 47)) := by
  unfold plc
  have : (c != 256) = true := by simp; omega
  rw [this, Bool.and_true]
theorem and01 : ∀ a b : Bool, ((if a = true then (1 : Int32) else 0) &&& (if b = true then 1 else 0)) = if (a && b) = true then 1 else 0 := by decide
set_option maxRecDepth 8000 in
theorem pnL_eq (h : TX F B t u) : ∀ (m k g : Nat) (p : Bool), k + m = tn F B t → m < g → f_M_isPlainName_L16 (nI t) g u (if p then 1 else 0) (nI k) = some (u, if (p && pl F m (ta B t + k)) then 1 else 0)
  | 0, k, g + 1, p, h1, _ => by
    have := h.2.2.2
    rw [f_M_isPlainName_L16, size_eq h, cI_s, if_pos (nI_le (by omega) (by omega)), pl, Bool.and_true]
  | m + 1, k, g + 1, p, h1, h2 => by
    have := h.2.2.2
    rw [f_M_isPlainName_L16, size_eq h, cI_s, if_neg (nI_ge (by omega) (by omega)), letter_eq h (by omega), cI_s, isPlain_eq (lt_lt h), cI_s, and01, nI_1, pnL_eq h m (k + 1) g _ (by omega) (by omega), lt_in (by omega), plc_in (h.f8 _), pl, show ta B t + (k + 1) = ta B t + k + 1 by omega, Bool.and_assoc]
theorem plain_eq (h : TX F B t u) : f_M_isPlainName u (nI t) = some (if plT F B t then 1 else 0, u) := by
  have l1 := h.2.2.2
  unfold f_M_isPlainName plT
  rw [size_eq h, cI_s, bnd_s]
  have e : (if nI (tn F B t) ≤ 0 then (0 : Int32) else 1) = if decide (0 < tn F B t) = true then 1 else 0 := by
    simp only [show (nI (tn F B t) ≤ 0) = (tn F B t ≤ 0) from nle (b := 0) (by omega) (by decide)]
    by_cases d : tn F B t ≤ 0
    · rw [if_pos d, decide_eq_false (by omega)]; rfl
    · rw [if_neg d, decide_eq_true (by omega)]; rfl
  have := pnL_eq h (tn F B t) 0 FU (decide (0 < tn F B t)) (by omega) (by unfold FU; omega)
  rw [nI_0] at this
  rw [e, this, cT_s]
  exact gbB
/-! class names -/
def ce (F : Nat → Nat) : Nat → Nat → Bool → Option Nat
  | 0, _, p => if p then some 0 else none
  | n + 1, a, p => if badc (F a) then (if p then some 0 else none) else if F a = 47 then (if p then (ce F n (a + 1) false).map (fun x => x + 1) else none) else (ce F n (a + 1) true).map (fun x => x + 1)
/-- plain letters at a -/
def pr (F : Nat → Nat) : Nat → Nat → Nat
  | 0, _ => 0
  | n + 1, a => if !badc (F a) && (F a != 47) then pr F n (a + 1) + 1 else 0
theorem pr_le : ∀ n a, pr F n a ≤ n
  | 0, _ => Nat.le_refl _
  | n + 1, a => by
    rw [pr]
    have := pr_le n (a + 1)
    split <;> omega
theorem ce_le : ∀ (n a : Nat) (p : Bool) (e : Nat), ce F n a p = some e → e ≤ n
  | 0, a, p, e, h => by
    rw [ce] at h
    split at h
    · cases h; omega
    · cases h
  | n + 1, a, p, e, h => by
    rw [ce] at h
    split at h
    · split at h
      · cases h; omega
      · cases h
    · split at h
      · split at h
        · rw [Option.map_eq_some_iff] at h
          obtain ⟨x, hx, rfl⟩ := h
          have := ce_le n _ _ _ hx
          omega
        · cases h
      · rw [Option.map_eq_some_iff] at h
        obtain ⟨x, hx, rfl⟩ := h
        have := ce_le n _ _ _ hx
        omega
/-- the run of plain letters, then the rest -/
theorem ce_pr : ∀ (n a : Nat) (p : Bool), ce F n a p = if pr F n a = 0 then ce F n a p else (ce F (n - pr F n a) (a + pr F n a) true).map (fun x => x + pr F n a)
  | 0, a, p => by rw [if_pos (show pr F 0 a = 0 from rfl)]
  | n + 1, a, p => by
    by_cases h : (!badc (F a) && (F a != 47)) = true
    · have h' := h
      simp only [Bool.and_eq_true, Bool.not_eq_true', bne_iff_ne, ne_eq] at h'
      rw [pr, if_pos h, if_neg (by omega), ce, if_neg (by rw [h'.1]; decide), if_neg h'.2, ce_pr n (a + 1) true]
      by_cases z : pr F n (a + 1) = 0
      · rw [if_pos z, z]
        rfl
      · rw [if_neg z, Option.map_map, show n + 1 - (pr F n (a + 1) + 1) = n - pr F n (a + 1) by omega, show a + (pr F n (a + 1) + 1) = a + 1 + pr F n (a + 1) by omega]
        congr 1
    · rw [if_pos (by rw [pr, if_neg h])]
/-- behind a run: no plain letter -/
theorem pr_end : ∀ n a, pr F n a < n → (!badc (F (a + pr F n a)) && (F (a + pr F n a) != 47)) = false
  | 0, a, h => by omega
  | n + 1, a, h => by
    rw [pr] at h ⊢
    by_cases q : (!badc (F a) && (F a != 47)) = true
    · rw [if_pos q] at h ⊢
      rw [show a + (pr F n (a + 1) + 1) = a + 1 + pr F n (a + 1) by omega]
      exact pr_end n (a + 1) (by omega)
    · rw [if_neg q]
      simpa using q
set_option maxRecDepth 8000 in
theorem ceI_eq {x4 : Int32} (h : TX F B t u) : ∀ (m k g : Nat), k + m = tn F B t → m < g → f_M_classEnd_L5 (nI t) x4 g u (nI k) = some (u, nI (k + pr F m (ta B t + k)))
  | 0, k, g + 1, h1, _ => by
    have := h.2.2.2
    rw [f_M_classEnd_L5, letter_eq h (by omega), cI_s, isPlain_eq (lt_lt h), cI_s, lt_out (by omega), if_pos (by decide), pr]
    rfl
  | m + 1, k, g + 1, h1, h2 => by
    have := h.2.2.2
    rw [f_M_classEnd_L5, letter_eq h (by omega), cI_s, isPlain_eq (lt_lt h), cI_s, lt_in (by omega), plc_in (h.f8 _), pr]
    by_cases q : (!badc (F (ta B t + k)) && (F (ta B t + k) != 47)) = true
    · rw [if_pos q, if_neg (show ¬ (1 : Int32) = 0 by decide), if_pos q, nI_1, ceI_eq h m (k + 1) g (by omega) (by omega), show ta B t + (k + 1) = ta B t + k + 1 by omega, show k + 1 + pr F m (ta B t + k + 1) = k + (pr F m (ta B t + k + 1) + 1) by omega]
    · rw [if_neg q, if_pos rfl, if_neg q]
      rfl
def tz (k : Nat) (o : Option Nat) : Int32 := match o with
  | none => -1
  | some q => nI (k + q)
set_option maxRecDepth 8000 in
theorem ceO_eq (h : TX F B t u) : ∀ (m k g : Nat), k + m = tn F B t → m < g → f_M_classEnd_L2 (nI t) g u (nI k) = some (tz k (ce F m (ta B t + k) false), u) := by
  intro m
  induction m using Nat.strongRecOn with
  | ind m ih =>
    intro k g h1 h2
    have h4 := h.2.2.2
    cases g with
    | zero => omega
    | succ g =>
      have hq := pr_le (F := F) m (ta B t + k)
      rw [f_M_classEnd_L2, ceI_eq h m k FU h1 (by unfold FU; omega), cT_s]
      dsimp only
      by_cases z : pr F m (ta B t + k) = 0
      · rw [z, Nat.add_zero, if_pos rfl]
        have : ce F m (ta B t + k) false = none := by
          cases m with
          | zero => rfl
          | succ m =>
            rw [ce]
            rw [pr] at z
            by_cases b : badc (F (ta B t + k)) = true
            · rw [if_pos b]; rfl
            · rw [if_neg b]
              by_cases c : F (ta B t + k) = 47
              · rw [if_pos c]; rfl
              · have b' : badc (F (ta B t + k)) = false := by simpa using b
                rw [if_pos (by rw [b']; simp [c])] at z
                omega
        rw [this]
        rfl
      · rw [if_neg (fun q => z (by have := (nI_eq (by omega) (by omega)).mp q; omega)), letter_eq h (by omega), cI_s]
        have hc := ce_pr (F := F) m (ta B t + k) false
        rw [if_neg z] at hc
        generalize hp : pr F m (ta B t + k) = p at *
        rw [hc]
        by_cases d : p < m
        · rw [lt_in (by omega)]
          have he := pr_end (F := F) m (ta B t + k) (by omega)
          rw [hp] at he
          have f1 := h.f8 (ta B t + (k + p))
          simp only [show (nI (F (ta B t + (k + p))) = 47) = (F (ta B t + (k + p)) = 47) from neq (b := 47) (by omega) (by decide)]
          obtain ⟨m', rfl⟩ : ∃ m', m = p + (m' + 1) := ⟨m - p - 1, by omega⟩
          rw [show p + (m' + 1) - p = m' + 1 by omega, ce, show ta B t + k + p = ta B t + (k + p) by omega]
          rw [show ta B t + k + p = ta B t + (k + p) by omega] at he
          by_cases e47 : F (ta B t + (k + p)) = 47
          · have nb : badc (F (ta B t + (k + p))) = false := by rw [e47]; decide
            rw [if_pos e47, nI_1, ih m' (by omega) (k + p + 1) g (by omega) (by omega), if_neg (by rw [nb]; decide), if_pos e47, if_pos rfl, show ta B t + (k + p + 1) = ta B t + (k + p) + 1 by omega]
            cases ce F m' (ta B t + (k + p) + 1) false with
            | none => rfl
            | some e =>
              show some (nI (k + p + 1 + e), u) = some (nI (k + (e + 1 + p)), u)
              rw [show k + p + 1 + e = k + (e + 1 + p) by omega]
          · have b : badc (F (ta B t + (k + p))) = true := by
              have n47 : (F (ta B t + (k + p)) != 47) = true := by simp [e47]
              rw [n47, Bool.and_true] at he
              simpa using he
            rw [if_neg e47, if_pos b, if_pos rfl]
            show some (nI (k + p), u) = some (nI (k + (0 + p)), u)
            rw [Nat.zero_add]
        · have : p = m := by omega
          subst this
          rw [lt_out (by omega), if_neg (by decide), Nat.sub_self, ce, if_pos rfl]
          show some (nI (k + p), u) = some (nI (k + (0 + p)), u)
          rw [Nat.zero_add]
theorem ce_cn : ∀ (n a : Nat) (p : Bool), (ce F n a p = some n) ↔ cn F n a p = true
  | 0, a, p => by
    rw [ce, cn]
    cases p <;> simp
  | n + 1, a, p => by
    rw [ce, cn]
    by_cases b : badc (F a) = true
    · rw [if_pos b, if_pos b]
      cases p <;> simp
    · rw [if_neg b, if_neg b]
      by_cases c : F a = 47
      · rw [if_pos c, if_pos c]
        cases p
        · simp
        · rw [if_pos rfl, Bool.true_and, ← ce_cn n (a + 1) false, Option.map_eq_some_iff]
          constructor
          · rintro ⟨x, hx, e⟩
            rw [hx]
            congr 1
            omega
          · intro e
            exact ⟨n, e, rfl⟩
      · rw [if_neg c, if_neg c, ← ce_cn n (a + 1) true, Option.map_eq_some_iff]
        constructor
        · rintro ⟨x, hx, e⟩
          rw [hx]
          congr 1
          omega
        · intro e
          exact ⟨n, e, rfl⟩
theorem tz_eq {k n : Nat} {o : Option Nat} (hn : k + n < 2 ^ 31) (ho : ∀ e, o = some e → e ≤ n) : (tz k o = nI (k + n)) ↔ o = some n := by
  cases o with
  | none =>
    constructor
    · intro h
      have : nI (k + n) < 0 := by rw [← h]; show (-1 : Int32) < 0; decide
      exact absurd this (nI_pos hn)
    · intro h; cases h
  | some e =>
    have := ho e rfl
    show nI (k + e) = nI (k + n) ↔ _
    rw [nI_eq (by omega) hn]
    constructor
    · intro h; congr 1; omega
    · intro h; cases h; rfl
theorem class_eq (h : TX F B t u) : f_M_isClassName u (nI t) = some (if cnT F B t then 1 else 0, u) := by
  have h4 := h.2.2.2
  unfold f_M_isClassName f_M_classEnd cnT
  have := ceO_eq h (tn F B t) 0 FU (by omega) (by unfold FU; omega)
  rw [nI_0, Nat.add_zero] at this
  rw [this, cI_s, size_eq h, cI_s, bnd_s]
  have k1 := tz_eq (k := 0) (n := tn F B t) (o := ce F (tn F B t) (ta B t) false) (by omega) (fun e he => ce_le _ _ _ _ he)
  rw [Nat.zero_add] at k1
  by_cases q : cn F (tn F B t) (ta B t) false = true
  · rw [if_pos (k1.mpr ((ce_cn _ _ _).mpr q)), gb_1, if_pos q]
  · rw [if_neg (fun z => q ((ce_cn _ _ _).mp (k1.mp z))), gb_0, if_neg q]
end TEX

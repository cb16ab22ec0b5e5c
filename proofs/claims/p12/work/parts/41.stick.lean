/-! BROKEN STATES of the class: every method ends, and the rule, the place, the file and the latest report stay -/
def wp {α : Type} (o : Option α) (Q : α → Prop) : Prop := ∃ x, o = some x ∧ Q x
theorem wp_some {α : Type} {x : α} {Q : α → Prop} (h : Q x) : wp (some x) Q := ⟨x, rfl, h⟩
theorem wp_mono {α : Type} {o : Option α} {Q R : α → Prop} (h : wp o Q) (k : ∀ x, Q x → R x) : wp o R := by
  obtain ⟨x, h1, h2⟩ := h
  exact ⟨x, h1, k x h2⟩
theorem wp_cI {β : Type} {o : Option (Int32 × St)} {k : Int32 → St → Option β} {Q : β → Prop} (h : wp o fun p => wp (k p.1 p.2) Q) : wp (cI o k) Q := by
  obtain ⟨x, h1, h2⟩ := h
  rw [h1]; exact h2
theorem wp_cJ {β : Type} {o : Option (Int64 × St)} {k : Int64 → St → Option β} {Q : β → Prop} (h : wp o fun p => wp (k p.1 p.2) Q) : wp (cJ o k) Q := by
  obtain ⟨x, h1, h2⟩ := h
  rw [h1]; exact h2
theorem wp_cV {β : Type} {o : Option St} {k : St → Option β} {Q : β → Prop} (h : wp o fun p => wp (k p) Q) : wp (cV o k) Q := by
  obtain ⟨x, h1, h2⟩ := h
  rw [h1]; exact h2
theorem wp_cT {α β : Type} {o : Option α} {k : α → Option β} {Q : β → Prop} (h : wp o fun p => wp (k p) Q) : wp (cT o k) Q := by
  obtain ⟨x, h1, h2⟩ := h
  rw [h1]; exact h2
theorem wp_bnd {α β : Type} {x : α} {f : α → Option β} {Q : β → Prop} (h : wp (f x) Q) : wp (bnd x f) Q := h
theorem wp_ite {α : Type} {c : Prop} {d : Decidable c} {a b : Option α} {Q : α → Prop} (h1 : c → wp a Q) (h2 : ¬ c → wp b Q) : wp (@ite _ c d a b) Q := by
  by_cases h : c
  · rw [if_pos h]; exact h1 h
  · rw [if_neg h]; exact h2 h
theorem wp_gb {β : Type} {v : Int32} {k : Option β} {Q : β → Prop} (hv : v = 0 ∨ v = 1) (h : wp k Q) : wp (gb v k) Q := by
  unfold gb
  rw [if_pos hv]; exact h
theorem wp_gb0 {β : Type} {k : Option β} {Q : β → Prop} (h : wp k Q) : wp (gb 0 k) Q := wp_gb (Or.inl rfl) h
theorem wp_gb1 {β : Type} {k : Option β} {Q : β → Prop} (h : wp k Q) : wp (gb 1 k) Q := wp_gb (Or.inr rfl) h
theorem ite01 {c : Prop} {d : Decidable c} {a b : Int32} (h1 : a = 0 ∨ a = 1) (h2 : b = 0 ∨ b = 1) : @ite _ c d a b = 0 ∨ @ite _ c d a b = 1 := by
  by_cases h : c
  · rw [if_pos h]; exact h1
  · rw [if_neg h]; exact h2
theorem wp_gb01 {β : Type} {c : Prop} {d : Decidable c} {k : Option β} {Q : β → Prop} (h : wp k Q) : wp (gb (@ite _ c d 0 1) k) Q := wp_gb (ite01 (Or.inl rfl) (Or.inr rfl)) h
theorem wp_gb10 {β : Type} {c : Prop} {d : Decidable c} {k : Option β} {Q : β → Prop} (h : wp k Q) : wp (gb (@ite _ c d 1 0) k) Q := wp_gb (ite01 (Or.inr rfl) (Or.inl rfl)) h
theorem wp_gd {β : Type} {i : Int32} {n : Nat} {k : Option β} {Q : β → Prop} (hi : ¬ (i < 0 ∨ n ≤ i.toNatClampNeg)) (h : wp k Q) : wp (gd i n k) Q := by
  unfold gd
  rw [if_neg hi]; exact h
theorem wp_gdn {β : Type} {i n : Nat} {k : Option β} {Q : β → Prop} (hi : i < n) (hn : n < 2 ^ 31) (h : wp k Q) : wp (gd (nI i) n k) Q := by
  rw [gd_in hi hn]; exact h
/-- what stays of z in u: the file and the latest report; jumps is no negative number -/
def kp (z u : St) : Prop := ¬ u.1 11 < 0 ∧ u.1 4 = z.1 4 ∧ u.1 5 = z.1 5 ∧ u.2 0 = z.2 0 ∧ u.2 1 = z.2 1 ∧ u.2 2 = z.2 2 ∧ u.2 3 = z.2 3
def SB (N r w : Nat) (z u : St) : Prop := XB N r w u ∧ kp z u
def SO (N i : Nat) (z u : St) : Prop := XO N i u ∧ kp z u
theorem kp_ko {s t : List Nat} {z u v : St} (h : kp z u) (hk : ko s t u v) (hs : 4 ∉ s ∧ 5 ∉ s ∧ 11 ∉ s) (ht : 0 ∉ t ∧ 1 ∉ t ∧ 2 ∉ t ∧ 3 ∉ t) : kp z v := by
  obtain ⟨a, b, c, d, e, f, g⟩ := h
  exact ⟨by rw [hk.1 _ hs.2.2]; exact a, by rw [hk.1 _ hs.1]; exact b, by rw [hk.1 _ hs.2.1]; exact c, by rw [hk.2 _ ht.1]; exact d, by rw [hk.2 _ ht.2.1]; exact e, by rw [hk.2 _ ht.2.2.1]; exact f, by rw [hk.2 _ ht.2.2.2]; exact g⟩
def svS (k : Nat) : Bool := k != 0 && k != 2 && k != 3 && k != 4 && k != 5 && k != 11
def saS (k : Nat) : Bool := k != 0 && k != 1 && k != 2 && k != 3
theorem SB_sv {N r w k : Nat} {z u : St} {x : Int32} (hk : svS k = true) (h : SB N r w z u) : SB N r w z (sv u k x) := by
  have e : ∀ j, svS j = false → (sv u k x).1 j = u.1 j := fun j hj => by
    rw [sv_g, if_neg]
    intro q
    rw [q, hk] at hj
    cases hj
  obtain ⟨⟨a1, a2, a3, a4, a5, a6, a7⟩, b1, b2, b3, b4⟩ := h
  exact ⟨⟨a1, by rw [e 0 rfl]; exact a2, a3, by rw [e 2 rfl]; exact a4, a5, a6, by rw [e 3 rfl]; exact a7⟩, by rw [e 11 rfl]; exact b1, by rw [e 4 rfl]; exact b2, by rw [e 5 rfl]; exact b3, b4⟩
theorem SB_sa {N r w k i : Nat} {z u : St} {x : Int32} (hk : saS k = true) (h : SB N r w z u) : SB N r w z (sa u k i x) := by
  have e : ∀ j, saS j = false → (sa u k i x).2 j = u.2 j := fun j hj => by
    rw [sa_a, if_neg]
    intro q
    rw [q, hk] at hj
    cases hj
  obtain ⟨⟨a1, a2, a3, a4, a5, a6, a7⟩, b1, b2, b3, b4, b5, b6, b7⟩ := h
  exact ⟨⟨a1, a2, by rw [e 0 rfl]; exact a3, a4, a5, a6, a7⟩, b1, b2, b3, by rw [e 0 rfl]; exact b4, by rw [e 1 rfl]; exact b5, by rw [e 2 rfl]; exact b6, by rw [e 3 rfl]; exact b7⟩
theorem SO_B {N i r w : Nat} {z u : St} (h : SO N i z u) (h1 : 1 ≤ r) (h2 : r ≤ 29) : SB N r w z (brk u r w) := ⟨brk_B h.1 h1 h2, h.2⟩
theorem wp_cI_b {β : Type} {N r w : Nat} {z : St} {o : Option (Int32 × St)} {k : Int32 → St → Option β} {Q : β → Prop} (h : wp o fun p => SB N r w z p.2) (hk : ∀ x u, SB N r w z u → wp (k x u) Q) : wp (cI o k) Q := wp_cI (wp_mono h fun p hp => hk p.1 p.2 hp)
theorem wp_cV_b {β : Type} {N r w : Nat} {z : St} {o : Option St} {k : St → Option β} {Q : β → Prop} (h : wp o fun p => SB N r w z p) (hk : ∀ u, SB N r w z u → wp (k u) Q) : wp (cV o k) Q := wp_cV (wp_mono h fun p hp => hk p hp)
theorem wp_cT_b {β : Type} {N r w : Nat} {z : St} {o : Option St} {k : St → Option β} {Q : β → Prop} (h : wp o fun p => SB N r w z p) (hk : ∀ u, SB N r w z u → wp (k u) Q) : wp (cT o k) Q := wp_cT (wp_mono h fun p hp => hk p hp)
theorem wp_cT_b1 {β γ : Type} {N r w : Nat} {z : St} {o : Option (St × γ)} {k : St × γ → Option β} {Q : β → Prop} (h : wp o fun p => SB N r w z p.1) (hk : ∀ u, SB N r w z u.1 → wp (k u) Q) : wp (cT o k) Q := wp_cT (wp_mono h fun p hp => hk p hp)
theorem wp_bnd_sv {β : Type} {N r w k : Nat} {z u : St} {x : Int32} {f : St → Option β} {Q : β → Prop} (hk : svS k = true) (h : SB N r w z u) (hf : ∀ v, SB N r w z v → wp (f v) Q) : wp (bnd (sv u k x) f) Q := hf _ (SB_sv hk h)
theorem wp_bnd_sa {β : Type} {N r w k i : Nat} {z u : St} {x : Int32} {f : St → Option β} {Q : β → Prop} (hk : saS k = true) (h : SB N r w z u) (hf : ∀ v, SB N r w z v → wp (f v) Q) : wp (bnd (sa u k i x) f) Q := hf _ (SB_sa hk h)
section BROKEN
variable {N r w : Nat} {z u : St}
theorem b_need {b r' p : Int32} (h : SB N r w z u) : wp (f_W_need u b r' p) (fun p => SB N r w z p) := ⟨u, nd_b h.1 _ _ _, h⟩
theorem b_next {k : Int32} (h : SB N r w z u) : wp (f_W_next u k) (fun p => SB N r w z p.2) := ⟨_, nx_b h.1 _, h⟩
theorem b_sound0 {β : Type} {k : Int32 → St → Option β} {Q : β → Prop} (h : SB N r w z u) (hk : wp (k 0 u) Q) : wp (cI (f_W_sound u) k) Q := by
  rw [snd_b h.1, cI_s]; exact hk
theorem b_next0 {β : Type} {a : Int32} {k : Int32 → St → Option β} {Q : β → Prop} (h : SB N r w z u) (hk : wp (k 0 u) Q) : wp (cI (f_W_next u a) k) Q := by
  rw [nx_b h.1, cI_s]; exact hk
theorem b_num {x : Int32} {k : Nat} (hk : k ≤ 4) (h : SB N r w z u) : wp (f_W_numberAt u x (nI k)) (fun p => SB N r w z p.2) := by
  obtain ⟨v, -, e⟩ := num_any u (k := k) x h.1.2.1 h.1.1 hk
  exact ⟨_, e, h⟩
theorem b_num1 {x : Int32} (h : SB N r w z u) : wp (f_W_numberAt u x 1) (fun p => SB N r w z p.2) := b_num (k := 1) (by decide) h
theorem b_num2 {x : Int32} (h : SB N r w z u) : wp (f_W_numberAt u x 2) (fun p => SB N r w z p.2) := b_num (k := 2) (by decide) h
theorem b_num4 {x : Int32} (h : SB N r w z u) : wp (f_W_numberAt u x 4) (fun p => SB N r w z p.2) := b_num (k := 4) (by decide) h
/-- an index that was tested -/
theorem ix_in {x : Int32} {n : Nat} (hn : n < 2 ^ 31) (h1 : ¬ x < 1) (h2 : ¬ nI n ≤ x) : ¬ (x < 0 ∨ n ≤ x.toNatClampNeg) := by
  have h0 : ¬ x < 0 := fun q => h1 (Int32.lt_trans q (by decide))
  obtain ⟨k, hk, rfl⟩ := nI_of h0
  have : k < n := Nat.lt_of_not_le fun q => h2 (nI_le q hk)
  rw [ncl hk]
  rintro (q | q)
  · exact h0 q
  · omega
theorem ix_in0 {x : Int32} {n : Nat} (hn : n < 2 ^ 31) (h0 : ¬ x < 0) (h2 : ¬ nI n ≤ x) : ¬ (x < 0 ∨ n ≤ x.toNatClampNeg) := by
  obtain ⟨k, hk, rfl⟩ := nI_of h0
  have : k < n := Nat.lt_of_not_le fun q => h2 (nI_le q hk)
  rw [ncl hk]
  rintro (q | q)
  · exact h0 q
  · omega
theorem kind_a (u : St) (x : Int32) : ∃ y, f_P_kindOf u x = some (y, u) := by
  unfold f_P_kindOf
  by_cases h1 : x < 1
  · exact ⟨0, by rw [if_pos h1]; rfl⟩
  · by_cases h2 : u.1 6 ≤ x
    · exact ⟨0, by rw [if_neg h1, if_pos h2]; rfl⟩
    · by_cases h3 : 300 ≤ x
      · exact ⟨0, by rw [if_neg h1, if_neg h2, if_pos h3]; rfl⟩
      · exact ⟨_, by rw [if_neg h1, if_neg h2, if_neg h3, gd, if_neg (ix_in (by decide) h1 h3)]; rfl⟩
theorem facts_a (u : St) (x : Int32) : ∃ y, f_P_factsOf u x = some (y, u) := by
  unfold f_P_factsOf
  by_cases h1 : x < 1
  · exact ⟨0, by rw [if_pos h1]; rfl⟩
  · by_cases h2 : u.1 6 ≤ x
    · exact ⟨0, by rw [if_neg h1, if_pos h2]; rfl⟩
    · by_cases h3 : 300 ≤ x
      · exact ⟨0, by rw [if_neg h1, if_neg h2, if_pos h3]; rfl⟩
      · exact ⟨_, by rw [if_neg h1, if_neg h2, if_neg h3, gd, if_neg (ix_in (by decide) h1 h3)]; rfl⟩
theorem measure_a (u : St) (x : Int32) : ∃ y, f_P_measureOf u x = some (y, u) := by
  unfold f_P_measureOf
  by_cases h1 : x < 1
  · exact ⟨0, by rw [if_pos h1]; rfl⟩
  · by_cases h2 : u.1 6 ≤ x
    · exact ⟨0, by rw [if_neg h1, if_pos h2]; rfl⟩
    · by_cases h3 : 300 ≤ x
      · exact ⟨0, by rw [if_neg h1, if_neg h2, if_pos h3]; rfl⟩
      · exact ⟨_, by rw [if_neg h1, if_neg h2, if_neg h3, gd, if_neg (ix_in (by decide) h1 h3)]; rfl⟩
theorem within_a (u : St) (x : Int32) : (f_P_within u x = some (1, u) ∧ ¬ (x < 0 ∨ 300 ≤ x.toNatClampNeg)) ∨ f_P_within u x = some (0, u) := by
  unfold f_P_within
  by_cases h1 : x < 1
  · exact Or.inr (by rw [if_pos h1]; rfl)
  · by_cases h2 : u.1 6 ≤ x
    · exact Or.inr (by rw [if_neg h1, if_pos h2]; rfl)
    · by_cases h3 : 300 ≤ x
      · exact Or.inr (by rw [if_neg h1, if_neg h2, if_pos h3]; rfl)
      · exact Or.inl ⟨by rw [if_neg h1, if_neg h2, if_neg h3]; rfl, ix_in (by decide) h1 h3⟩
theorem b_kindOf {x : Int32} (h : SB N r w z u) : wp (f_P_kindOf u x) (fun p => SB N r w z p.2) := by
  obtain ⟨y, e⟩ := kind_a u x
  exact ⟨_, e, h⟩
theorem b_factsOf {x : Int32} (h : SB N r w z u) : wp (f_P_factsOf u x) (fun p => SB N r w z p.2) := by
  obtain ⟨y, e⟩ := facts_a u x
  exact ⟨_, e, h⟩
theorem b_measureOf {x : Int32} (h : SB N r w z u) : wp (f_P_measureOf u x) (fun p => SB N r w z p.2) := by
  obtain ⟨y, e⟩ := measure_a u x
  exact ⟨_, e, h⟩
theorem first_a {N : Nat} {u : St} (h4 : N ≤ 4000) (hN : u.1 0 = nI N) (x : Int32) : ∃ v : Nat, v < 65536 ∧ f_P_firstOf u x = some (nI v, u) ∧ (v ≠ 0 → ¬ (x < 0 ∨ 300 ≤ x.toNatClampNeg)) := by
  unfold f_P_firstOf
  rcases within_a u x with ⟨e, hx⟩ | e
  · obtain ⟨v, h1, h2⟩ := num_any u (k := 2) (u.2 5 x.toNatClampNeg + 1) hN h4 (by decide)
    refine ⟨v, h1, ?_, fun _ => hx⟩
    rw [e, cI_s, if_neg (by decide), gd, if_neg hx, show (2 : Int32) = nI 2 from rfl, h2, cI_s, cT_s]
  · exact ⟨0, by omega, by rw [e, cI_s, if_pos rfl, cT_s]; rfl, fun q => absurd rfl q⟩
theorem second_a {N : Nat} {u : St} (h4 : N ≤ 4000) (hN : u.1 0 = nI N) (x : Int32) : ∃ v : Nat, v < 65536 ∧ f_P_secondOf u x = some (nI v, u) := by
  unfold f_P_secondOf
  rcases within_a u x with ⟨e, hx⟩ | e
  · obtain ⟨v, h1, h2⟩ := num_any u (k := 2) (u.2 5 x.toNatClampNeg + 3) hN h4 (by decide)
    refine ⟨v, h1, ?_⟩
    rw [e, cI_s, if_neg (by decide), gd, if_neg hx, show (2 : Int32) = nI 2 from rfl, h2, cI_s, cT_s]
  · exact ⟨0, by omega, by rw [e, cI_s, if_pos rfl, cT_s]; rfl⟩
theorem b_firstOf {x : Int32} (h : SB N r w z u) : wp (f_P_firstOf u x) (fun p => SB N r w z p.2) := by
  obtain ⟨v, -, e, -⟩ := first_a h.1.1 h.1.2.1 x
  exact ⟨_, e, h⟩
theorem b_secondOf {x : Int32} (h : SB N r w z u) : wp (f_P_secondOf u x) (fun p => SB N r w z p.2) := by
  obtain ⟨v, -, e⟩ := second_a h.1.1 h.1.2.1 x
  exact ⟨_, e, h⟩
theorem spL_a {N : Nat} {u : St} (h4 : N ≤ 4000) (hN : u.1 0 = nI N) {x : Int32} (hx : ¬ (x < 0 ∨ 300 ≤ x.toNatClampNeg)) {j : Nat} (hj : j < 10) : ∀ (m i f : Nat), m < f → i + m = lnS j → ∃ q : Int32, f_P_spells_L16 (fun u7 => gb 1 (some (1, u7))) x j f u (nI i) = some (q, u)
  | 0, i, f + 1, _, hi => by
    have hl := lnS_ok j hj
    rw [f_P_spells_L16, if_pos (show lenS j ≤ nI i from nI_le (by omega) (by omega)), gb_1]
    exact ⟨1, rfl⟩
  | m + 1, i, f + 1, hf, hi => by
    have hl := lnS_ok j hj
    obtain ⟨v, hv, e⟩ := num_any u (k := 1) (((u.2 5 x.toNatClampNeg) + 3) + nI i) hN h4 (by decide)
    rw [f_P_spells_L16, if_neg (show ¬ lenS j ≤ nI i from nI_ge (by omega) (by omega)), gd, if_neg hx, show (1 : Int32) = nI 1 from rfl, e, cI_s, gd_in (by omega) (by omega)]
    split
    · rw [show nI i + nI 1 = nI (i + 1) from nI_add i 1]
      exact spL_a h4 hN hx hj m (i + 1) f (by omega) (by omega)
    · rw [gb_0]
      exact ⟨0, rfl⟩
theorem spells_a {N : Nat} {u : St} (h4 : N ≤ 4000) (hN : u.1 0 = nI N) (x : Int32) {j : Nat} (hj : j < 10) : ∃ q : Int32, f_P_spells u x j = some (q, u) := by
  have hl := lnS_ok j hj
  obtain ⟨v, hv, e, hx⟩ := first_a h4 hN x
  unfold f_P_spells gk
  rw [if_pos hj, e, cI_s]
  by_cases q : v = lnS j
  · rw [if_pos (show nI v = lenS j by rw [q]; rfl)]
    exact spL_a h4 hN (hx (by omega)) hj (lnS j) 0 FU (by unfold FU; omega) (by omega)
  · rw [if_neg (show ¬ nI v = lenS j from fun z => q ((nI_eq (b := lnS j) (by omega) (by omega)).mp z)), gb_0]
    exact ⟨0, rfl⟩
theorem b_spells {x : Int32} {j : Nat} (hj : j < 10) (h : SB N r w z u) : wp (f_P_spells u x j) (fun p => SB N r w z p.2) := by
  obtain ⟨v, e⟩ := spells_a h.1.1 h.1.2.1 x hj
  exact ⟨_, e, h⟩
theorem alL_a {N : Nat} {u : St} (h4 : N ≤ 4000) (hN : u.1 0 = nI N) {x y : Int32} (hx : ¬ (x < 0 ∨ 300 ≤ x.toNatClampNeg)) (hy : ¬ (y < 0 ∨ 300 ≤ y.toNatClampNeg)) {n : Nat} (hn : n < 65536) : ∀ (m i f : Nat), m < f → i + m = n → ∃ q : Int32, f_P_alike_L67 (fun u25 => gb 1 (some (1, u25))) x y (nI n) f u (nI i) = some (q, u)
  | 0, i, f + 1, _, hi => by
    rw [f_P_alike_L67, if_pos (nI_le (by omega) (by omega)), gb_1]
    exact ⟨1, rfl⟩
  | m + 1, i, f + 1, hf, hi => by
    obtain ⟨v, hv, e⟩ := num_any u (k := 1) (((u.2 5 x.toNatClampNeg) + 3) + nI i) hN h4 (by decide)
    obtain ⟨v2, hv2, e2⟩ := num_any u (k := 1) (((u.2 5 y.toNatClampNeg) + 3) + nI i) hN h4 (by decide)
    rw [f_P_alike_L67, if_neg (nI_ge (by omega) (by omega)), gd, if_neg hx, show (1 : Int32) = nI 1 from rfl, e, cI_s, gd, if_neg hy, e2, cI_s]
    split
    · rw [show nI i + nI 1 = nI (i + 1) from nI_add i 1]
      exact alL_a h4 hN hx hy hn m (i + 1) f (by omega) (by omega)
    · rw [gb_0]
      exact ⟨0, rfl⟩
theorem alike_a {N : Nat} {u : St} (h4 : N ≤ 4000) (hN : u.1 0 = nI N) (x y : Int32) : ∃ q : Int32, f_P_alike u x y = some (q, u) := by
  unfold f_P_alike
  by_cases h0 : x = y
  · rw [if_pos h0, if_pos h0, bnd_s, gb_1]
    exact ⟨_, rfl⟩
  · rw [if_neg h0]
    rcases within_a u x with ⟨e, hx⟩ | e
    · rw [e, cI_s, if_neg (by decide)]
      rcases within_a u y with ⟨e2, hy⟩ | e2
      · rw [e2, cI_s, if_neg (by decide), gd, if_neg hx, gd, if_neg hy]
        by_cases h1 : u.2 8 x.toNatClampNeg = u.2 8 y.toNatClampNeg
        · obtain ⟨v, hv, f1, -⟩ := first_a h4 hN x
          obtain ⟨v2, hv2, f2, -⟩ := first_a h4 hN y
          rw [if_pos h1, f1, cI_s, f2, cI_s]
          by_cases h2 : nI v = nI v2
          · rw [if_pos h2]
            exact alL_a h4 hN hx hy hv v 0 FU (by unfold FU; omega) (by omega)
          · rw [if_neg h2, gb_0]
            exact ⟨_, rfl⟩
        · rw [if_neg h1, if_neg h0, bnd_s, gb_0]
          exact ⟨_, rfl⟩
      · rw [e2, cI_s, if_pos rfl, if_neg h0, bnd_s, gb_0]
        exact ⟨_, rfl⟩
    · rw [e, cI_s, if_pos rfl, if_neg h0, bnd_s, gb_0]
      exact ⟨_, rfl⟩
theorem b_alike {x y : Int32} (h : SB N r w z u) : wp (f_P_alike u x y) (fun p => SB N r w z p.2) := by
  obtain ⟨v, e⟩ := alike_a h.1.1 h.1.2.1 x y
  exact ⟨_, e, h⟩
end BROKEN

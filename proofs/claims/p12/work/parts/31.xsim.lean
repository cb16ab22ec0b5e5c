/-! THE CLASS against the spec: sound at a place (XO), broken by a rule at a place (XB) -/
def XO (N i : Nat) (u : St) : Prop := N ≤ 4000 ∧ u.1 0 = nI N ∧ bn (u.2 0) ∧ u.1 2 = 0 ∧ u.1 1 = nI i ∧ i ≤ N
def XB (N r w : Nat) (u : St) : Prop := N ≤ 4000 ∧ u.1 0 = nI N ∧ bn (u.2 0) ∧ u.1 2 = nI r ∧ 1 ≤ r ∧ r ≤ 29 ∧ u.1 3 = nI w
/-- numbers but those of s, arrays but those of t, are as before -/
def ko (s t : List Nat) (u u' : St) : Prop := (∀ k, k ∉ s → u'.1 k = u.1 k) ∧ ∀ k, k ∉ t → u'.2 k = u.2 k
theorem ko_rf {s t : List Nat} {u : St} : ko s t u u := ⟨fun _ _ => rfl, fun _ _ => rfl⟩
theorem ko_tr {s t : List Nat} {u v w : St} (h1 : ko s t u v) (h2 : ko s t v w) : ko s t u w := ⟨fun k hk => (h2.1 k hk).trans (h1.1 k hk), fun k hk => (h2.2 k hk).trans (h1.2 k hk)⟩
theorem ko_mono {s t s' t' : List Nat} {u v : St} (h : ko s t u v) (hs : ∀ k, k ∈ s → k ∈ s') (ht : ∀ k, k ∈ t → k ∈ t') : ko s' t' u v := ⟨fun k hk => h.1 k (fun z => hk (hs k z)), fun k hk => h.2 k (fun z => hk (ht k z))⟩
theorem ko_sv {s t : List Nat} {u : St} {k : Nat} {x : Int32} (h : k ∈ s) : ko s t u (sv u k x) := ⟨fun j hj => by
  have : j ≠ k := fun e => hj (e ▸ h)
  simp [sv, upd, this], fun _ _ => rfl⟩
theorem ko_sa {s t : List Nat} {u : St} {k i : Nat} {x : Int32} (h : k ∈ t) : ko s t u (sa u k i x) := ⟨fun _ _ => rfl, fun j hj => by
  have : j ≠ k := fun e => hj (e ▸ h)
  simp [sa, upA, this]⟩
theorem sv_g {u : St} {k j : Nat} {x : Int32} : (sv u k x).1 j = if j = k then x else u.1 j := rfl
theorem sv_a {u : St} {k : Nat} {x : Int32} : (sv u k x).2 = u.2 := rfl
theorem sa_g {u : St} {k i : Nat} {x : Int32} : (sa u k i x).1 = u.1 := rfl
theorem sa_a {u : St} {k i j : Nat} {x : Int32} : (sa u k i x).2 j = if j = k then upd (u.2 k) i x else u.2 j := rfl
theorem sa_ne {u : St} {k i a j : Nat} {x : Int32} (h : j ≠ i) : (sa u k i x).2 a j = u.2 a j := by
  rw [sa_a]
  by_cases e : a = k
  · rw [if_pos e, upd, if_neg h, e]
  · rw [if_neg e]
/-- broken now -/
def brk (u : St) (r w : Nat) : St := sv (sv u 2 (nI r)) 3 (nI w)
theorem brk_B {N i r w : Nat} {u : St} (h : XO N i u) (h1 : 1 ≤ r) (h2 : r ≤ 29) : XB N r w (brk u r w) := ⟨h.1, h.2.1, h.2.2.1, rfl, h1, h2, rfl⟩
theorem brk_ko {u : St} {r w : Nat} : ko [1, 2, 3] [] u (brk u r w) := ko_tr (ko_sv (by decide)) (ko_sv (by decide))
theorem nd_t {u : St} {b r p : Int32} (h : ¬ b = 0) : f_W_need u b r p = some u := by rw [need_eq, if_neg (fun z => h z.1)]
theorem nd_f {N i : Nat} {u : St} (h : XO N i u) (r w : Nat) : f_W_need u 0 (nI r) (nI w) = some (brk u r w) := by rw [need_eq, if_pos ⟨rfl, h.2.2.2.1⟩]; rfl
theorem XB_ne {N r w : Nat} {u : St} (h : XB N r w u) : ¬ u.1 2 = 0 := by
  have h1 := h.2.2.2.2.1
  have h2 := h.2.2.2.2.2.1
  rw [h.2.2.2.1]
  exact nI_ne0 (by omega) (by omega)
theorem nd_b {N r w : Nat} {u : St} (h : XB N r w u) (b r' p : Int32) : f_W_need u b r' p = some u := by rw [need_eq, if_neg (fun z => XB_ne h z.2)]
theorem snd_o {N i : Nat} {u : St} (h : XO N i u) : f_W_sound u = some (1, u) := by rw [sound_eq, if_pos h.2.2.2.1]
theorem snd_b {N r w : Nat} {u : St} (h : XB N r w u) : f_W_sound u = some (0, u) := by rw [sound_eq, if_neg (XB_ne h)]
theorem nx_b {N r w : Nat} {u : St} (h : XB N r w u) (k : Int32) : f_W_next u k = some (0, u) := next_bad u k (XB_ne h)
theorem nx_o {N i k : Nat} {u : St} (h : XO N i u) (hk : k ≤ 4) (hi : i + k ≤ N) : f_W_next u (nI k) = some (nI (be (xF u) i k), sv u 1 (nI (i + k))) := next_in u h.2.1 h.1 hk h.2.2.2.1 h.2.2.2.2.1 hi
theorem nx_e {N i k : Nat} {u : St} (h : XO N i u) (hk : k ≤ 8) (hi : ¬ i + k ≤ N) : f_W_next u (nI k) = some (0, brk u 1 N) := next_out u h.2.1 h.1 hk h.2.2.2.1 h.2.2.2.2.1 h.2.2.2.2.2 hi
theorem XO_at {N i j : Nat} {u : St} (h : XO N i u) (hj : j ≤ N) : XO N j (sv u 1 (nI j)) := ⟨h.1, h.2.1, h.2.2.1, h.2.2.2.1, rfl, hj⟩
theorem XO_ko {N i : Nat} {s t : List Nat} {u v : St} (h : XO N i u) (hk : ko s t u v) (hs : 0 ∉ s ∧ 1 ∉ s ∧ 2 ∉ s) (ht : 0 ∉ t) : XO N i v := by
  refine ⟨h.1, ?_, ?_, ?_, ?_, h.2.2.2.2.2⟩
  · rw [hk.1 0 hs.1]; exact h.2.1
  · rw [hk.2 0 ht]; exact h.2.2.1
  · rw [hk.1 2 hs.2.2]; exact h.2.2.2.1
  · rw [hk.1 1 hs.2.1]; exact h.2.2.2.2.1
theorem XB_ko {N r w : Nat} {s t : List Nat} {u v : St} (h : XB N r w u) (hk : ko s t u v) (hs : 0 ∉ s ∧ 2 ∉ s ∧ 3 ∉ s) (ht : 0 ∉ t) : XB N r w v := by
  refine ⟨h.1, ?_, ?_, ?_, h.2.2.2.2.1, h.2.2.2.2.2.1, ?_⟩
  · rw [hk.1 0 hs.1]; exact h.2.1
  · rw [hk.2 0 ht]; exact h.2.2.1
  · rw [hk.1 2 hs.2.1]; exact h.2.2.2.1
  · rw [hk.1 3 hs.2.2]; exact h.2.2.2.2.2.2
theorem pb_s {α β : Type} {p : P α} {f : α → P β} {i j : Nat} {a : α} (h : p i = .ok (a, j)) : pb p f i = f a j := by unfold pb; rw [h]
theorem pb_x {α β : Type} {p : P α} {f : α → P β} {i : Nat} {e : Er} (h : p i = .error e) : pb p f i = .error e := by unfold pb; rw [h]
theorem pa_i (i : Nat) : pa i = .ok (i, i) := rfl
theorem pu_s {F : Nat → Nat} {N k i : Nat} (h : i + k ≤ N) : pu F N k i = .ok (be F i k, i + k) := if_pos h
theorem pu_x {F : Nat → Nat} {N k i : Nat} (h : ¬ i + k ≤ N) : pu F N k i = .error (1, N) := if_neg h
theorem pn_s {b : Bool} {r w i : Nat} (h : b = true) : pn b r w i = .ok ((), i) := by rw [h]; rfl
theorem pn_x {b : Bool} {r w i : Nat} (h : b = false) : pn b r w i = .error (r, w) := by rw [h]; rfl
theorem be1 (F : Nat → Nat) (i : Nat) : be F i 1 = F i := by simp [be]
theorem nx_o1 {N i : Nat} {u : St} (h : XO N i u) (hi : i + 1 ≤ N) : f_W_next u 1 = some (nI (be (xF u) i 1), sv u 1 (nI (i + 1))) := nx_o h (by decide) hi
theorem nx_o2 {N i : Nat} {u : St} (h : XO N i u) (hi : i + 2 ≤ N) : f_W_next u 2 = some (nI (be (xF u) i 2), sv u 1 (nI (i + 2))) := nx_o h (by decide) hi
theorem nx_o4 {N i : Nat} {u : St} (h : XO N i u) (hi : i + 4 ≤ N) : f_W_next u 4 = some (nI (be (xF u) i 4), sv u 1 (nI (i + 4))) := nx_o h (by decide) hi
theorem nx_e1 {N i : Nat} {u : St} (h : XO N i u) (hi : ¬ i + 1 ≤ N) : f_W_next u 1 = some (0, brk u 1 N) := nx_e h (by decide) hi
theorem nx_e2 {N i : Nat} {u : St} (h : XO N i u) (hi : ¬ i + 2 ≤ N) : f_W_next u 2 = some (0, brk u 1 N) := nx_e h (by decide) hi
theorem nx_e4 {N i : Nat} {u : St} (h : XO N i u) (hi : ¬ i + 4 ≤ N) : f_W_next u 4 = some (0, brk u 1 N) := nx_e h (by decide) hi
theorem nx_e8 {N i : Nat} {u : St} (h : XO N i u) (hi : ¬ i + 8 ≤ N) : f_W_next u 8 = some (0, brk u 1 N) := nx_e h (by decide) hi
theorem nd_1 {N i : Nat} {u : St} (h : XO N i u) (w : Nat) : f_W_need u 0 1 (nI w) = some (brk u 1 w) := nd_f h 1 w
theorem nd_2 {N i : Nat} {u : St} (h : XO N i u) (w : Nat) : f_W_need u 0 2 (nI w) = some (brk u 2 w) := nd_f h 2 w
theorem nd_3 {N i : Nat} {u : St} (h : XO N i u) (w : Nat) : f_W_need u 0 3 (nI w) = some (brk u 3 w) := nd_f h 3 w
theorem nd_4 {N i : Nat} {u : St} (h : XO N i u) (w : Nat) : f_W_need u 0 4 (nI w) = some (brk u 4 w) := nd_f h 4 w
theorem nd_5 {N i : Nat} {u : St} (h : XO N i u) (w : Nat) : f_W_need u 0 5 (nI w) = some (brk u 5 w) := nd_f h 5 w
theorem nd_6 {N i : Nat} {u : St} (h : XO N i u) (w : Nat) : f_W_need u 0 6 (nI w) = some (brk u 6 w) := nd_f h 6 w
theorem nd_7 {N i : Nat} {u : St} (h : XO N i u) (w : Nat) : f_W_need u 0 7 (nI w) = some (brk u 7 w) := nd_f h 7 w
theorem nd_8 {N i : Nat} {u : St} (h : XO N i u) (w : Nat) : f_W_need u 0 8 (nI w) = some (brk u 8 w) := nd_f h 8 w
theorem nd_9 {N i : Nat} {u : St} (h : XO N i u) (w : Nat) : f_W_need u 0 9 (nI w) = some (brk u 9 w) := nd_f h 9 w
theorem nd_10 {N i : Nat} {u : St} (h : XO N i u) (w : Nat) : f_W_need u 0 10 (nI w) = some (brk u 10 w) := nd_f h 10 w
theorem nd_11 {N i : Nat} {u : St} (h : XO N i u) (w : Nat) : f_W_need u 0 11 (nI w) = some (brk u 11 w) := nd_f h 11 w
theorem nd_12 {N i : Nat} {u : St} (h : XO N i u) (w : Nat) : f_W_need u 0 12 (nI w) = some (brk u 12 w) := nd_f h 12 w
theorem nd_13 {N i : Nat} {u : St} (h : XO N i u) (w : Nat) : f_W_need u 0 13 (nI w) = some (brk u 13 w) := nd_f h 13 w
theorem nd_14 {N i : Nat} {u : St} (h : XO N i u) (w : Nat) : f_W_need u 0 14 (nI w) = some (brk u 14 w) := nd_f h 14 w
theorem nd_15 {N i : Nat} {u : St} (h : XO N i u) (w : Nat) : f_W_need u 0 15 (nI w) = some (brk u 15 w) := nd_f h 15 w
theorem nd_16 {N i : Nat} {u : St} (h : XO N i u) (w : Nat) : f_W_need u 0 16 (nI w) = some (brk u 16 w) := nd_f h 16 w
theorem nd_17 {N i : Nat} {u : St} (h : XO N i u) (w : Nat) : f_W_need u 0 17 (nI w) = some (brk u 17 w) := nd_f h 17 w
theorem nd_18 {N i : Nat} {u : St} (h : XO N i u) (w : Nat) : f_W_need u 0 18 (nI w) = some (brk u 18 w) := nd_f h 18 w
theorem nd_19 {N i : Nat} {u : St} (h : XO N i u) (w : Nat) : f_W_need u 0 19 (nI w) = some (brk u 19 w) := nd_f h 19 w
theorem nd_20 {N i : Nat} {u : St} (h : XO N i u) (w : Nat) : f_W_need u 0 20 (nI w) = some (brk u 20 w) := nd_f h 20 w
theorem nd_21 {N i : Nat} {u : St} (h : XO N i u) (w : Nat) : f_W_need u 0 21 (nI w) = some (brk u 21 w) := nd_f h 21 w
theorem nd_22 {N i : Nat} {u : St} (h : XO N i u) (w : Nat) : f_W_need u 0 22 (nI w) = some (brk u 22 w) := nd_f h 22 w
theorem nd_23 {N i : Nat} {u : St} (h : XO N i u) (w : Nat) : f_W_need u 0 23 (nI w) = some (brk u 23 w) := nd_f h 23 w
theorem nd_24 {N i : Nat} {u : St} (h : XO N i u) (w : Nat) : f_W_need u 0 24 (nI w) = some (brk u 24 w) := nd_f h 24 w
theorem nd_25 {N i : Nat} {u : St} (h : XO N i u) (w : Nat) : f_W_need u 0 25 (nI w) = some (brk u 25 w) := nd_f h 25 w
theorem nd_26 {N i : Nat} {u : St} (h : XO N i u) (w : Nat) : f_W_need u 0 26 (nI w) = some (brk u 26 w) := nd_f h 26 w
theorem nd_27 {N i : Nat} {u : St} (h : XO N i u) (w : Nat) : f_W_need u 0 27 (nI w) = some (brk u 27 w) := nd_f h 27 w
theorem nd_28 {N i : Nat} {u : St} (h : XO N i u) (w : Nat) : f_W_need u 0 28 (nI w) = some (brk u 28 w) := nd_f h 28 w
theorem nd_29 {N i : Nat} {u : St} (h : XO N i u) (w : Nat) : f_W_need u 0 29 (nI w) = some (brk u 29 w) := nd_f h 29 w
/-- the outcome of the spec, in the class -/
def XR {α : Type} (N : Nat) (res : Except Er (α × Nat)) (φ : α → Prop) (u : St) : Prop := match res with
  | .ok q => XO N q.2 u ∧ φ q.1
  | .error e => XB N e.1 e.2 u
-- TEXT
theorem fol_eq (u : St) {b : Nat} (hb : b < 256) : f_P_followers u (nI b) = some ((match fol b with
  | none => -1
  | some m => nI m), u) := by
  have key : ∀ b : Fin 256, (if nI b.val < 1 then (if nI b.val = 192 then ((1 : Int32)) else (if nI b.val < 194 then (if nI b.val < 224 then ((-1)) else (if 239 < nI b.val then ((-1)) else (2))) else (if 223 < nI b.val then (if nI b.val < 224 then ((-1)) else (if 239 < nI b.val then ((-1)) else (2))) else (1)))) else (if 127 < nI b.val then (if nI b.val = 192 then ((1)) else (if nI b.val < 194 then (if nI b.val < 224 then ((-1)) else (if 239 < nI b.val then ((-1)) else (2))) else (if 223 < nI b.val then (if nI b.val < 224 then ((-1)) else (if 239 < nI b.val then ((-1)) else (2))) else (1)))) else (0))) = (match fol b.val with
    | none => -1
    | some m => nI m) := by decide +kernel
  have := key ⟨b, hb⟩
  rw [← this]
  unfold f_P_followers
  simp only [bnd_s]
  repeat' split
  all_goals rfl
theorem fol_le {b m : Nat} (h : fol b = some m) : m ≤ 2 := by
  unfold fol at h
  repeat' split at h
  all_goals first | (cases h; omega) | cases h
/-- the class's sum over a text -/
def hs (F : Nat → Nat) : Nat → Nat → Int32 → Int32
  | 0, _, s => s
  | m + 1, a, s => hs F m (a + 1) (31 * s + nI (F a))

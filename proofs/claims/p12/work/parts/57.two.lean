/-! TWO COUNTS of a D's SLOTS: where they differ one reader says 12, the other 11, at the same place; else they are alike -/
section TWO
def er (e f : Er) : Prop := e.2 = f.2 ∧ (e.1 = f.1 ∨ (e.1 = 12 ∧ f.1 = 11))
def sm {α : Type} : Except Er α → Except Er α → Prop
  | .ok a, .ok b => a = b
  | .error e, .error f => er e f
  | .ok _, .error _ => False
  | .error _, .ok _ => False
theorem sm_rf {α : Type} (x : Except Er α) : sm x x := by
  cases x with
  | ok a => exact rfl
  | error e => exact ⟨rfl, Or.inl rfl⟩
theorem sm_pb {α β : Type} {p q : P α} {f g : α → P β} {i : Nat} (h : sm (p i) (q i)) (hf : ∀ a j, p i = .ok (a, j) → sm (f a j) (g a j)) : sm (pb p f i) (pb q g i) := by
  cases hp : p i with
  | error e =>
    cases hq : q i with
    | error e' =>
      rw [hp, hq] at h
      rw [pb_x hp, pb_x hq]
      exact h
    | ok a =>
      rw [hp, hq] at h
      exact h.elim
  | ok a =>
    cases hq : q i with
    | error e' =>
      rw [hp, hq] at h
      exact h.elim
    | ok b =>
      rw [hp, hq] at h
      have h2 : a = b := h
      subst h2
      obtain ⟨a, j⟩ := a
      rw [pb_s hp, pb_s hq]
      exact hf a j hp
theorem sm_pq {α β : Type} {p : P α} {f g : α → P β} {i : Nat} (hf : ∀ a j, p i = .ok (a, j) → sm (f a j) (g a j)) : sm (pb p f i) (pb p g i) := sm_pb (sm_rf _) hf
/-- the two checks of a descriptor and what comes behind -/
theorem sm_chk {β : Type} {a1 b1 a2 b2 : Bool} {w i : Nat} {f g : Unit → P β} (h : (a1 = a2 ∧ b1 = b2 ∧ (a1 = true → b1 = true → sm (f () i) (g () i))) ∨ (a1 = true ∧ b1 = false ∧ (a2 = false ∨ b2 = false))) : sm (pb (pn a1 11 w) (fun _ => pb (pn b1 12 w) f) i) (pb (pn a2 11 w) (fun _ => pb (pn b2 12 w) g) i) := by
  rcases h with ⟨rfl, rfl, h⟩ | ⟨rfl, rfl, h⟩
  · refine sm_pq fun _ j h1 => sm_pq fun _ j2 h2 => ?_
    obtain ⟨e1, e2⟩ := pn_ok h1
    obtain ⟨e3, e4⟩ := pn_ok h2
    have ej : j = i := congrArg Prod.snd e2
    have ej2 : j2 = j := congrArg Prod.snd e4
    subst ej2
    subst ej
    exact h e1 e3
  · have l : pb (pn true 11 w) (fun _ => pb (pn false 12 w) f) i = .error (12, w) := rfl
    rw [l]
    cases a2 with
    | false => exact ⟨rfl, Or.inr ⟨rfl, rfl⟩⟩
    | true =>
      cases b2 with
      | false => exact ⟨rfl, Or.inl rfl⟩
      | true => rcases h with h | h <;> cases h
theorem sm_all {c1 c2 : Nat → P Unit} : ∀ (n k i : Nat), (∀ j i', k ≤ j → j < k + n → sm (c1 j i') (c2 j i')) → sm (sAll c1 n k i) (sAll c2 n k i)
  | 0, k, i, _ => by
    simp only [sAll]
    exact sm_rf _
  | n + 1, k, i, h => by
    simp only [sAll]
    exact sm_pb (h k i (Nat.le_refl _) (by omega)) fun _ j _ => sm_all n (k + 1) j fun j' i' a b => h j' i' (by omega) (by omega)
theorem all_ok {c : Nat → P Unit} : ∀ (n k i : Nat) (q : Unit × Nat), sAll c n k i = .ok q → ∀ j, k ≤ j → j < k + n → ∃ i' q', c j i' = .ok q'
  | 0, k, i, q, _, j, h1, h2 => by omega
  | n + 1, k, i, q, h, j, h1, h2 => by
    simp only [sAll] at h
    obtain ⟨a, i', e1, e2⟩ := pb_ok h
    by_cases e : j = k
    · subst e
      exact ⟨i, _, e1⟩
    · exact all_ok n (k + 1) i' q e2 j (by omega) (by omega)
def mdS : Option (Nat × Nat × Bool × Nat) → Option (Nat × Nat × Bool × Nat) → Prop
  | none, none => True
  | some x, some y => x.1 = y.1 ∧ x.2.1 = y.2.1 ∧ x.2.2.1 = y.2.2.1 ∧ x.2.2.2 ≤ y.2.2.2 ∧ (x.2.2.1 = false → x.2.2.2 = y.2.2.2)
  | none, some _ => False
  | some _, none => False
theorem mdL_12 {F : Nat → Nat} : ∀ (f n a : Nat) (fl : Bool) (sl sl' : Nat), sl ≤ sl' → (fl = false → sl = sl') → mdS (mdL_o F f n a fl sl) (mdL F f n a fl sl')
  | 0, n, a, fl, sl, sl', h1, h2 => by
    rw [mdL_o, mdL]
    exact trivial
  | f + 1, n, a, fl, sl, sl', h1, h2 => by
    rw [mdL_o, mdL]
    by_cases c0 : n = 0
    · rw [if_pos c0, if_pos c0]
      exact ⟨rfl, rfl, rfl, h1, h2⟩
    · rw [if_neg c0, if_neg c0]
      by_cases c1 : F a = 41
      · rw [if_pos c1, if_pos c1]
        exact ⟨rfl, rfl, rfl, h1, h2⟩
      · rw [if_neg c1, if_neg c1]
        cases ht : tyE F n a with
        | none => exact trivial
        | some t =>
          have hle : (if t = 1 ∧ F a = 74 then 2 else 1) ≤ (if t = 1 ∧ (F a = 74 ∨ F a = 68) then 2 else 1) := by
            by_cases c2 : t = 1 ∧ F a = 74
            · rw [if_pos c2, if_pos ⟨c2.1, Or.inl c2.2⟩]
              exact Nat.le_refl _
            · rw [if_neg c2]
              split <;> decide
          refine mdL_12 f _ _ _ _ _ (by omega) fun hf => ?_
          have hf1 := Bool.or_eq_false_iff.mp hf
          rw [h2 hf1.1]
          by_cases c2 : t = 1
          · have hr : isR (F a) = false := by
              have := hf1.2
              rw [c2, Nat.add_sub_cancel] at this
              exact this
            have h68 : ¬ F a = 68 := fun z => by
              rw [z] at hr
              exact absurd hr (by decide)
            by_cases c3 : F a = 74
            · rw [if_pos ⟨c2, c3⟩, if_pos ⟨c2, Or.inl c3⟩]
            · rw [if_neg (fun z => c3 z.2), if_neg (fun z => z.2.elim c3 h68)]
          · rw [if_neg (fun z => c2 z.1), if_neg (fun z => c2 z.1)]
def mdF (F : Nat → Nat) (n' a' : Nat) (fl : Bool) : Option (Bool × Bool) := if n' ≤ 1 then none else if F (a' + 1) = 86 then (if n' = 2 then some (fl, true) else none) else match tyE F (n' - 1) (a' + 1) with
    | none => none
    | some t => if t = n' - 1 then some (fl || isR (F (a' + n' - 1)), false) else none
theorem mdF_fl {F : Nat → Nat} {n' a' : Nat} {r v : Bool} (h : mdF F n' a' true = some (r, v)) : r = true := by
  unfold mdF at h
  split at h
  · cases h
  · split at h
    · split at h
      · cases h; rfl
      · cases h
    · split at h
      · cases h
      · split at h
        · cases h; rfl
        · cases h
def mdG (F : Nat → Nat) (o : Option (Nat × Nat × Bool × Nat)) : Option (Bool × Nat × Bool) := match o with
  | none => none
  | some q => if 250 < q.2.2.2 then none else match mdF F q.1 q.2.1 q.2.2.1 with
    | none => none
    | some x => some (x.1, q.2.2.2, x.2)
theorem mdE_F (F : Nat → Nat) (n a : Nat) : mdE F n a = mdG F (mdL F (n + 1) n a false 0) := by
  unfold mdE mdG
  cases mdL F (n + 1) n a false 0 with
  | none => rfl
  | some q =>
    obtain ⟨n', a', fl, sl⟩ := q
    simp only
    unfold mdF
    by_cases c1 : 250 < sl
    · rw [if_pos c1, if_pos (Or.inl c1)]
    · rw [if_neg c1]
      by_cases c2 : n' ≤ 1
      · rw [if_pos c2, if_pos (Or.inr c2)]; try rfl
      · rw [if_neg c2, if_neg (fun z => z.elim c1 c2)]
        by_cases c3 : F (a' + 1) = 86
        · rw [if_pos c3, if_pos c3]
          by_cases c4 : n' = 2
          · rw [if_pos c4, if_pos c4]; try rfl
          · rw [if_neg c4, if_neg c4]; try rfl
        · rw [if_neg c3, if_neg c3]
          cases tyE F (n' - 1) (a' + 1) with
          | none => rfl
          | some t =>
            simp only
            by_cases c5 : t = n' - 1
            · rw [if_pos c5, if_pos c5]; try rfl
            · rw [if_neg c5, if_neg c5]; try rfl
theorem mdE_F_o (F : Nat → Nat) (n a : Nat) : mdE_o F n a = mdG F (mdL_o F (n + 1) n a false 0) := by
  unfold mdE_o mdG
  cases mdL_o F (n + 1) n a false 0 with
  | none => rfl
  | some q =>
    obtain ⟨n', a', fl, sl⟩ := q
    simp only
    unfold mdF
    by_cases c1 : 250 < sl
    · rw [if_pos c1, if_pos (Or.inl c1)]
    · rw [if_neg c1]
      by_cases c2 : n' ≤ 1
      · rw [if_pos c2, if_pos (Or.inr c2)]; try rfl
      · rw [if_neg c2, if_neg (fun z => z.elim c1 c2)]
        by_cases c3 : F (a' + 1) = 86
        · rw [if_pos c3, if_pos c3]
          by_cases c4 : n' = 2
          · rw [if_pos c4, if_pos c4]; try rfl
          · rw [if_neg c4, if_neg c4]; try rfl
        · rw [if_neg c3, if_neg c3]
          cases tyE F (n' - 1) (a' + 1) with
          | none => rfl
          | some t =>
            simp only
            by_cases c5 : t = n' - 1
            · rw [if_pos c5, if_pos c5]; try rfl
            · rw [if_neg c5, if_neg c5]; try rfl
/-- alike; or a real one in it, and the other doesn't take it -/
def alk (x y : Option (Bool × Nat × Bool)) : Prop := x = y ∧ (∀ q, x = some q → q.1 = false) ∨ (∃ s v, x = some (true, s, v)) ∧ (y = none ∨ ∃ s v, y = some (true, s, v))
theorem mdE_12 (F : Nat → Nat) (n a : Nat) : alk (mdE_o F n a) (mdE F n a) := by
  rw [mdE_F_o, mdE_F]
  have h := mdL_12 (F := F) (n + 1) n a false 0 0 (Nat.le_refl _) (fun _ => rfl)
  generalize mdL_o F (n + 1) n a false 0 = x at h ⊢
  generalize mdL F (n + 1) n a false 0 = y at h ⊢
  cases x with
  | none =>
    cases y with
    | none => exact Or.inl ⟨rfl, fun q e => by cases e⟩
    | some q => exact h.elim
  | some x =>
    cases y with
    | none => exact h.elim
    | some y =>
      obtain ⟨n1, a1, f1, s1⟩ := x
      obtain ⟨n2, a2, f2, s2⟩ := y
      obtain ⟨e1, e2, e3, h4, h5⟩ := h
      dsimp only at e1 e2 e3 h4 h5
      subst e1
      subst e2
      subst e3
      unfold mdG
      dsimp only
      cases hm : mdF F n1 a1 f1 with
      | none =>
        dsimp only
        refine Or.inl ⟨?_, fun q e => ?_⟩
        · by_cases c : 250 < s1
          · rw [if_pos c]
            split <;> rfl
          · rw [if_neg c]
            split <;> rfl
        · split at e <;> cases e
      | some x =>
        obtain ⟨r, v⟩ := x
        dsimp only
        cases r with
        | false =>
          have hf : f1 = false := by
            cases f1 with
            | false => rfl
            | true => exact absurd (mdF_fl hm) (by decide)
          rw [h5 hf]
          refine Or.inl ⟨rfl, fun q e => ?_⟩
          split at e
          · cases e
          · cases e; rfl
        | true =>
          by_cases c : 250 < s1
          · rw [if_pos c, if_pos (by omega)]
            exact Or.inl ⟨rfl, fun q e => by cases e⟩
          · rw [if_neg c]
            refine Or.inr ⟨⟨s1, v, rfl⟩, ?_⟩
            by_cases c2 : 250 < s2
            · rw [if_pos c2]
              exact Or.inl rfl
            · rw [if_neg c2]
              exact Or.inr ⟨s2, v, rfl⟩
section PL
variable {F : Nat → Nat} {many : Nat} {K B : Nat → Nat}
theorem mtT_12 (t : Nat) : alk (mtT_o F B t) (mtT F B t) := by
  unfold mtT_o mtT
  by_cases c : hdT F B 40 t = true
  · rw [if_pos c, if_pos c]
    exact mdE_12 _ _ _
  · rw [if_neg c, if_neg c]
    exact Or.inl ⟨rfl, fun q e => by cases e⟩
theorem slT_12 {t : Nat} (h : mtT_o F B t = mtT F B t) : slT_o F B t = slT F B t := by
  unfold slT_o slT
  rw [h]
theorem voT_12 {t : Nat} (h : mtT_o F B t = mtT F B t) : voT_o F B t = voT F B t := by
  unfold voT_o voT
  rw [h]
theorem dsT_12 (t : Nat) : (dsT_o F B t = dsT F B t ∧ mtT_o F B t = mtT F B t) ∨ (dsT_o F B t = some true ∧ (dsT F B t = none ∨ dsT F B t = some true) ∧ hdT F B 40 t = true ∧ (mtT_o F B t).isSome = true ∧ (mtT F B t).isSome = (dsT F B t).isSome) := by
  by_cases c : hdT F B 40 t = true
  · rcases mtT_12 (F := F) (B := B) t with ⟨h, -⟩ | ⟨⟨s, v, h⟩, h2⟩
    · refine Or.inl ⟨?_, h⟩
      unfold dsT_o dsT
      rw [h]
    · refine Or.inr ⟨?_, ?_, c, ?_, ?_⟩
      · unfold dsT_o
        rw [if_pos c, h]
        try rfl
      · unfold dsT
        rw [if_pos c]
        rcases h2 with h2 | ⟨s2, v2, h2⟩
        · rw [h2]
          exact Or.inl rfl
        · rw [h2]
          exact Or.inr rfl
      · rw [h]
        try rfl
      · unfold dsT
        rw [if_pos c]
        cases mtT F B t <;> rfl
  · refine Or.inl ⟨?_, ?_⟩
    · unfold dsT_o dsT
      rw [if_neg c, if_neg c]
    · unfold mtT_o mtT
      rw [if_neg c, if_neg c]
theorem ds_ok {t : Nat} (h : dsT_o F B t = some false) : mtT_o F B t = mtT F B t := by
  rcases dsT_12 (F := F) (B := B) t with ⟨-, e⟩ | ⟨e, -⟩
  · exact e
  · rw [h] at e
    cases e
theorem sf_of {o : Option Bool} (h1 : o.isSome = true) (h2 : (o != some true) = true) : o = some false := by
  cases o with
  | none => cases h1
  | some b =>
    cases b with
    | false => rfl
    | true => exact absurd h2 (by decide)
theorem sm_chk2 {a1 b1 a2 b2 : Bool} {w i : Nat} (h : (a1 = a2 ∧ b1 = b2) ∨ (a1 = true ∧ b1 = false ∧ (a2 = false ∨ b2 = false))) : sm (pb (pn a1 11 w) (fun _ => pn b1 12 w) i) (pb (pn a2 11 w) (fun _ => pn b2 12 w) i) := by
  rcases h with ⟨rfl, rfl⟩ | ⟨rfl, rfl, h⟩
  · exact sm_rf _
  · have l : pb (pn true 11 w) (fun _ => pn false 12 w) i = .error (12, w) := rfl
    rw [l]
    cases a2 with
    | false => exact ⟨rfl, Or.inr ⟨rfl, rfl⟩⟩
    | true =>
      cases b2 with
      | false => exact ⟨rfl, Or.inl rfl⟩
      | true => rcases h with h | h <;> cases h
theorem sLk1_12 (k i : Nat) : sm (sLk1_o F many K B k i) (sLk1 F many K B k i) := by
  unfold sLk1_o sLk1
  by_cases c7 : K k = 7
  · rw [if_pos c7, if_pos c7]
    exact sm_rf _
  · rw [if_neg c7, if_neg c7]
    by_cases c8 : K k = 8
    · rw [if_pos c8, if_pos c8]
      exact sm_rf _
    · rw [if_neg c8, if_neg c8]
      by_cases c12 : K k = 12
      · rw [if_pos c12, if_pos c12]
        refine sm_pq fun _ j _ => sm_pq fun _ j _ => sm_pq fun _ j _ => ?_
        refine sm_chk2 ?_
        rcases dsT_12 (F := F) (B := B) (n2 F (B k + 3)) with ⟨e, -⟩ | ⟨e, e2, -⟩
        · rw [e]
          exact Or.inl ⟨rfl, rfl⟩
        · rw [e]
          refine Or.inr ⟨rfl, rfl, ?_⟩
          rcases e2 with e2 | e2
          · rw [e2]; exact Or.inl rfl
          · rw [e2]; exact Or.inr rfl
      · rw [if_neg c12, if_neg c12]
        exact sm_rf _
theorem lk1_ok {k i : Nat} {q : Unit × Nat} (h : sLk1_o F many K B k i = .ok q) (c12 : K k = 12) : dsT_o F B (n2 F (B k + 3)) = some false := by
  unfold sLk1_o at h
  rw [if_neg (by omega), if_neg (by omega), if_pos c12] at h
  obtain ⟨_, _, -, h⟩ := pb_ok h
  obtain ⟨_, _, -, h⟩ := pb_ok h
  obtain ⟨_, _, -, h⟩ := pb_ok h
  obtain ⟨_, _, h1, h2⟩ := pb_ok h
  exact sf_of (pn_ok h1).1 (pn_ok h2).1
theorem isK_of {t kd : Nat} (h : isK many K t kd = true) : 1 ≤ t ∧ t < many ∧ K t = kd := of_decide_eq_true h
theorem sLk2_12 (GN : ∀ k, 1 ≤ k → k < many → K k = 12 → mtT_o F B (n2 F (B k + 3)) = mtT F B (n2 F (B k + 3))) (k i : Nat) : sm (sLk2_o F many K B k i) (sLk2 F many K B k i) := by
  unfold sLk2_o sLk2
  by_cases c : K k = 9 ∨ K k = 10 ∨ K k = 11
  · rw [if_pos c, if_pos c]
    refine sm_pq fun _ j _ => sm_pq fun _ j h => ?_
    obtain ⟨a1, a2, a3⟩ := isK_of (pn_ok h).1
    have e : fitM_o F K B k = fitM F K B k := by
      unfold fitM_o fitM
      rw [voT_12 (t := tyM F B k) (GN _ a1 a2 a3)]
    rw [e]
    exact sm_rf _
  · rw [if_neg c, if_neg c]
    exact sm_rf _
theorem lk2_ok {k i : Nat} {q : Unit × Nat} (h : sLk2_o F many K B k i = .ok q) (c : K k = 11) : isK many K (n2 F (B k + 3)) 12 = true := by
  unfold sLk2_o at h
  rw [if_pos (Or.inr (Or.inr c))] at h
  obtain ⟨_, _, -, h⟩ := pb_ok h
  obtain ⟨_, _, h1, -⟩ := pb_ok h
  exact (pn_ok h1).1
end PL
section RS
def GG (F : Nat → Nat) (many : Nat) (K B : Nat → Nat) : Prop := ∀ n, isK many K n 11 = true → mtT_o F B (tyM F B n) = mtT F B (tyM F B n)
variable {F : Nat → Nat} {N many : Nat} {K B : Nat → Nat}
theorem sFix_12 (G : GG F many K B) (ver lo b sz pc op fm : Nat) : sFix_o F many K B ver lo b sz pc op fm = sFix F many K B ver lo b sz pc op fm := by
  unfold sFix_o sFix
  by_cases hk : kfit many K fm op ver (be F (b + pc + 1) (nmN fm)) = true
  · have e : rfit_o F B fm op (be F (b + pc + 1) (nmN fm)) (b + pc) = rfit F B fm op (be F (b + pc + 1) (nmN fm)) (b + pc) := by
      unfold rfit_o rfit
      by_cases c : fm = 18
      · have hn : isK many K (be F (b + pc + 1) (nmN fm)) 11 = true := by
          unfold kfit at hk
          rw [if_neg (by omega), if_neg (by omega), if_neg (by omega), if_neg (by omega), if_pos c] at hk
          exact hk
        rw [slT_12 (G _ hn)]
      · rw [if_neg c, if_neg c]
    rw [e]
  · simp only [if_neg hk]
theorem stp_12 (G : GG F many K B) (ver lo b sz pc : Nat) : stp_o F many K B ver lo b sz pc = stp F many K B ver lo b sz pc := by
  unfold stp_o stp
  rw [sFix_12 G]
theorem sIns_12 (G : GG F many K B) (ver lo b sz : Nat) : ∀ (f pc cn la : Nat) (st : Nat → Bool) (jl : List (Nat × Int32)), sIns_o F many K B ver lo b sz f pc cn la st jl = sIns F many K B ver lo b sz f pc cn la st jl := by
  intro f
  induction f with
  | zero => intro pc cn la st jl; simp only [sIns_o, sIns]
  | succ f ih => intro pc cn la st jl; simp only [sIns_o, sIns, stp_12 G, ih]
theorem sCode_12 (G : GG F many K B) (ver least : Nat) : sCode_o F N many K B ver least = sCode F N many K B ver least := by
  unfold sCode_o sCode
  simp only [sIns_12 G]
theorem sBody_12 (G : GG F many K B) {ver f ty wh th : Nat} {cd : Cd} (h : wh = 2 → mtT_o F B ty = mtT F B ty) : sBody_o F N many K B ver f ty wh th cd = sBody F N many K B ver f ty wh th cd := by
  unfold sBody_o sBody
  by_cases c : wh = 2
  · rw [if_pos c, if_pos c, sCode_12 G, slT_12 (h c)]
  · rw [if_neg c, if_neg c]
theorem sAttL_12 (G : GG F many K B) {al ver f ty : Nat} (h : al &&& 2 ≠ 0 → mtT_o F B ty = mtT F B ty) : ∀ (n sn th : Nat) (cd : Cd) (i : Nat), sm (sAttL_o F N many K B al ver f ty n sn th cd i) (sAttL F N many K B al ver f ty n sn th cd i) := by
  intro n
  induction n with
  | zero =>
    intro sn th cd i
    simp only [sAttL_o, sAttL]
    exact sm_rf _
  | succ n ih =>
    intro sn th cd i
    simp only [sAttL_o, sAttL]
    refine sm_pq fun w j _ => sm_pq fun t j _ => sm_pq fun w2' j _ => sm_pq fun len j _ => sm_pq fun fr j _ => sm_pq fun _ j hw => ?_
    have ha := (pn_ok hw).1
    have ha' : ¬ (atO F B t &&& al) = 0 := by
      unfold alw at ha
      rw [Bool.and_eq_true] at ha
      exact of_decide_eq_true ha.1
    have hb : sBody_o F N many K B ver f ty (atO F B t) th cd = sBody F N many K B ver f ty (atO F B t) th cd := sBody_12 G (fun e => h (fun z => ha' (by rw [e, Nat.and_comm]; exact z)))
    rw [hb]
    exact sm_pq fun q j _ => sm_pq fun e j _ => sm_pq fun _ j _ => ih _ _ _ _
theorem sAtts_12 (G : GG F many K B) {al ver f ty : Nat} (h : al &&& 2 ≠ 0 → mtT_o F B ty = mtT F B ty) (i : Nat) : sm (sAtts_o F N many K B al ver f ty i) (sAtts F N many K B al ver f ty i) := by
  unfold sAtts_o sAtts
  exact sm_pq fun n j _ => sAttL_12 G h _ _ _ _ _
theorem fd_nh {t : Nat} (h : (fdT F B t).isSome = true) : ¬ hdT F B 40 t = true := by
  intro c
  unfold hdT at c
  rw [Bool.and_eq_true] at c
  obtain ⟨c1, c2⟩ := c
  have c1 := of_decide_eq_true c1
  have c2 : F (ta B t) = 40 := eq_of_beq c2
  have eb : br F (tn F B t) (ta B t) = 0 := by
    obtain ⟨m, hm⟩ : ∃ m, tn F B t = m + 1 := ⟨tn F B t - 1, by omega⟩
    rw [hm, br, if_neg (by omega)]
  have et : tyE F (tn F B t) (ta B t) = none := by
    unfold tyE
    rw [eb, Nat.add_zero, c2, if_neg (by omega), if_neg (by decide), if_neg (by decide)]
  unfold fdT at h
  rw [et] at h
  exact absurd (show false = true from h) (by decide)
theorem sFld_12 (cf : Nat) (l : List (Nat × Nat)) (i : Nat) : sm (sFld_o F N many K B cf l i) (sFld F N many K B cf l i) := by
  unfold sFld_o sFld
  refine sm_pq fun w j _ => sm_pq fun f j _ => sm_pq fun _ j _ => sm_pq fun w2' j _ => sm_pq fun nm j _ => sm_pq fun _ j _ => sm_pq fun w3 j _ => sm_pq fun ty j _ => sm_pq fun _ j h => ?_
  have c := fd_nh (pn_ok h).1
  have e : dsT_o F B ty = dsT F B ty := by
    unfold dsT_o dsT
    rw [if_neg c, if_neg c]
  rw [e]
  exact sm_rf _
theorem sFlds_12 (G : GG F many K B) (cf ver : Nat) : ∀ (n : Nat) (l : List (Nat × Nat)) (i : Nat), sm (sFlds_o F N many K B cf ver n l i) (sFlds F N many K B cf ver n l i) := by
  intro n
  induction n with
  | zero =>
    intro l i
    simp only [sFlds_o, sFlds]
    exact sm_rf _
  | succ n ih =>
    intro l i
    simp only [sFlds_o, sFlds]
    refine sm_pb (sFld_12 _ _ _) fun q j _ => sm_pb (sAtts_12 G (fun z => ?_) _) fun _ j _ => ih _ _
    exfalso
    split at z <;> exact z rfl
theorem mth_ok {cf i : Nat} {l : List (Nat × Nat)} {q : (Nat × Nat × Nat) × Nat} (h : sMth_o F N many K B cf l i = .ok q) : mtT_o F B q.1.2.2 = mtT F B q.1.2.2 := by
  unfold sMth_o at h
  obtain ⟨w, _, -, h⟩ := pb_ok h
  obtain ⟨f, _, -, h⟩ := pb_ok h
  obtain ⟨_, _, -, h⟩ := pb_ok h
  obtain ⟨w2', _, -, h⟩ := pb_ok h
  obtain ⟨nm, _, -, h⟩ := pb_ok h
  obtain ⟨_, _, -, h⟩ := pb_ok h
  obtain ⟨w3, _, -, h⟩ := pb_ok h
  obtain ⟨ty, _, -, h⟩ := pb_ok h
  obtain ⟨_, _, h1, h⟩ := pb_ok h
  obtain ⟨_, _, h2, h⟩ := pb_ok h
  obtain ⟨_, _, -, h⟩ := pb_ok h
  obtain ⟨_, _, -, h⟩ := pb_ok h
  have hq : q = ((f, nm, ty), _) := (Except.ok.inj h).symm
  rw [hq]
  dsimp only
  rcases dsT_12 (F := F) (B := B) ty with ⟨-, e⟩ | ⟨e, -⟩
  · exact e
  · have := (pn_ok h2).1
    rw [e] at this
    exact absurd this (by decide)
theorem sMth_12 (cf : Nat) (l : List (Nat × Nat)) (i : Nat) : sm (sMth_o F N many K B cf l i) (sMth F N many K B cf l i) := by
  unfold sMth_o sMth
  refine sm_pq fun w j _ => sm_pq fun f j _ => sm_pq fun _ j _ => sm_pq fun w2' j _ => sm_pq fun nm j _ => sm_pq fun _ j _ => sm_pq fun w3 j _ => sm_pq fun ty j _ => sm_chk ?_
  rcases dsT_12 (F := F) (B := B) ty with ⟨e1, e2⟩ | ⟨e1, e2, -, e4, e5⟩
  · have es : spc_o F B cf f nm ty = spc F B cf f nm ty := by
      unfold spc_o spc
      rw [voT_12 e2]
    rw [e1, e2, es]
    exact Or.inl ⟨rfl, rfl, fun _ _ => sm_rf _⟩
  · rw [e1, e4, e5]
    refine Or.inr ⟨rfl, rfl, ?_⟩
    rcases e2 with e2 | e2
    · rw [e2]; exact Or.inl rfl
    · rw [e2]; exact Or.inr rfl
theorem sMths_12 (G : GG F many K B) (cf ver : Nat) : ∀ (n : Nat) (l : List (Nat × Nat)) (rs : List Mr) (tl : Tl) (i : Nat), sm (sMths_o F N many K B cf ver n l rs tl i) (sMths F N many K B cf ver n l rs tl i) := by
  intro n
  induction n with
  | zero =>
    intro l rs tl i
    simp only [sMths_o, sMths]
    exact sm_rf _
  | succ n ih =>
    intro l rs tl i
    simp only [sMths_o, sMths]
    refine sm_pq fun w j _ => sm_pb (sMth_12 _ _ _) fun q j hq => ?_
    have e := mth_ok hq
    dsimp only at e
    refine sm_pb (sAtts_12 G (fun _ => e) _) fun a j _ => sm_pq fun _ j _ => ?_
    rw [slT_12 e]
    exact ih _ _ _ _
end RS
theorem sPool_12 (F : Nat → Nat) (N i : Nat) : sm (sPool_o F N i) (sPool F N i) := by
  unfold sPool_o sPool
  refine sm_pq fun q j _ => sm_pb (sm_all _ _ _ fun k i' _ _ => sLk1_12 _ _) fun _ j h1 => sm_pb (sm_all _ _ _ fun k i' _ _ => sLk2_12 (fun k a b c => ?_) _ _) fun _ j _ => sm_rf _
  obtain ⟨i'', q', e⟩ := all_ok _ _ _ _ h1 k a (by omega)
  exact ds_ok (lk1_ok e c)
theorem pool_ok {F : Nat → Nat} {N i : Nat} {q : (Nat × (Nat → Nat) × (Nat → Nat)) × Nat} (h : sPool_o F N i = .ok q) : GG F q.1.1 q.1.2.1 q.1.2.2 := by
  unfold sPool_o at h
  obtain ⟨p, _, -, h⟩ := pb_ok h
  obtain ⟨_, _, h1, h⟩ := pb_ok h
  obtain ⟨_, _, h2, h⟩ := pb_ok h
  have hq : q = (p, _) := (Except.ok.inj h).symm
  rw [hq]
  dsimp only
  intro n hn
  obtain ⟨a1, a2, a3⟩ := isK_of hn
  obtain ⟨i2, q2, e2⟩ := all_ok _ _ _ _ h2 n a1 (by omega)
  obtain ⟨b1, b2, b3⟩ := isK_of (lk2_ok e2 a3)
  obtain ⟨i1, q1, e1⟩ := all_ok _ _ _ _ h1 _ b1 (by omega)
  exact ds_ok (lk1_ok e1 b3)
theorem sGo_12 (F : Nat → Nat) (N i : Nat) : sm (sGo_o F N i) (sGo F N i) := by
  unfold sGo_o sGo
  refine sm_pq fun ver j _ => sm_pb (sPool_12 _ _ _) fun q j hq => ?_
  have G := pool_ok hq
  dsimp only at G
  refine sm_pq fun cf j _ => sm_pq fun ni j _ => sm_pq fun _ j _ => sm_pq fun nf j _ => sm_pb (sFlds_12 G _ _ _ _ _) fun _ j _ => sm_pq fun nm j _ => sm_pb (sMths_12 G _ _ _ _ _ _ _) fun m j _ => sm_pb (sAtts_12 G (fun z => absurd rfl z) _) fun _ j _ => sm_rf _
end TWO

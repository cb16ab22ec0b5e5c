/-! A BEGINNING of a FILE that is read through is cut short -/
def PF {α : Type} (p : Nat → P α) : Prop := ∀ N k i a j, k ≤ N → i ≤ k → p N i = .ok (a, j) → i ≤ j ∧ (p k i = .error (1, k) ∨ (j ≤ k ∧ p k i = .ok (a, j)))
theorem PF_c {α : Type} {p : P α} (h : ∀ i a j, p i = .ok (a, j) → j = i) : PF (fun _ => p) := fun N k i a j hk hi e => by
  have := h i a j e
  subst this
  exact ⟨Nat.le_refl _, Or.inr ⟨hi, e⟩⟩
theorem PF_pp {α : Type} {a : α} : PF (fun _ => pp a) := PF_c fun i b j e => by cases e; rfl
theorem PF_pe {α : Type} {r w : Nat} : PF (fun _ => (pe r w : P α)) := PF_c fun i b j e => by cases e
theorem PF_pa : PF (fun _ => pa) := PF_c fun i b j e => by cases e; rfl
theorem PF_pn {b : Bool} {r w : Nat} : PF (fun _ => pn b r w) := PF_c fun i a j e => by
  cases b with
  | true => cases e; rfl
  | false => cases e
theorem PF_plf {α : Type} {r : Except Er α} : PF (fun _ => plf r) := PF_c fun i a j e => by
  cases r with
  | ok x => cases e; rfl
  | error x => cases e
theorem PF_pu {F : Nat → Nat} {n : Nat} : PF (fun N => pu F N n) := fun N k i a j hk hi e => by
  dsimp only at e ⊢
  by_cases h : i + n ≤ N
  · rw [pu_s h] at e
    cases e
    refine ⟨Nat.le_add_right _ _, ?_⟩
    by_cases h2 : i + n ≤ k
    · exact Or.inr ⟨h2, pu_s h2⟩
    · exact Or.inl (pu_x h2)
  · rw [pu_x h] at e
    cases e
theorem PF_pk {n : Nat} : PF (fun N => pk N n) := fun N k i a j hk hi e => by
  unfold pk at e ⊢
  dsimp only at e ⊢
  by_cases h : i + n ≤ N
  · rw [if_pos h] at e
    cases e
    refine ⟨Nat.le_refl _, ?_⟩
    by_cases h2 : i + n ≤ k
    · exact Or.inr ⟨hi, by rw [if_pos h2]⟩
    · exact Or.inl (by rw [if_neg h2])
  · rw [if_neg h] at e
    cases e
theorem PF_psk {n : Nat} : PF (fun N => psk N n) := fun N k i a j hk hi e => by
  unfold psk at e ⊢
  dsimp only at e ⊢
  by_cases h : i + n ≤ N
  · rw [if_pos h] at e
    cases e
    refine ⟨Nat.le_add_right _ _, ?_⟩
    by_cases h2 : i + n ≤ k
    · exact Or.inr ⟨h2, by rw [if_pos h2]⟩
    · exact Or.inl (by rw [if_neg h2])
  · rw [if_neg h] at e
    cases e
theorem PF_pb {α β : Type} {p : Nat → P α} {f : Nat → α → P β} (hp : PF p) (hf : ∀ a, PF (fun N => f N a)) : PF (fun N => pb (p N) (f N)) := fun N k i b j hk hi e => by
  dsimp only at e ⊢
  cases hq : p N i with
  | error x =>
    rw [pb_x hq] at e
    cases e
  | ok q =>
    obtain ⟨a, j1⟩ := q
    rw [pb_s hq] at e
    obtain ⟨h1, h2⟩ := hp N k i a j1 hk hi hq
    rcases h2 with h2 | ⟨h2, h3⟩
    · refine ⟨?_, Or.inl (pb_x h2)⟩
      exact Nat.le_trans h1 (hf a N N j1 b j (Nat.le_refl _) (by
        by_cases hj : j1 ≤ N
        · exact hj
        · obtain ⟨-, g⟩ := hp N N i a j1 (Nat.le_refl _) (Nat.le_trans hi hk) hq
          rcases g with g | g
          · rw [hq] at g; cases g
          · exact g.1) e).1
    · obtain ⟨g1, g2⟩ := hf a N k j1 b j hk h2 e
      refine ⟨Nat.le_trans h1 g1, ?_⟩
      rw [pb_s h3]
      exact g2
theorem PF_if {α : Type} {c : Prop} {d : Decidable c} {p q : Nat → P α} (hp : PF p) (hq : PF q) : PF (fun N => @ite (P α) c d (p N) (q N)) := by
  by_cases h : c
  · simp only [if_pos h]; exact hp
  · simp only [if_neg h]; exact hq
theorem PF_txt {F : Nat → Nat} {sz : Nat} : ∀ n l lo hi, PF (fun N => sTxt F N sz n l lo hi)
  | 0, l, lo, hi => by
    simp only [sTxt]
    exact PF_pn
  | n + 1, l, lo, hi => by
    simp only [sTxt]
    refine PF_pb PF_pa (fun w => PF_pb PF_pu (fun b => PF_if ?_ (PF_pb PF_pn fun _ => PF_txt n _ _ _)))
    cases fol b with
    | none => exact PF_pe
    | some m => exact PF_txt n _ _ _
theorem PF_ent {F : Nat → Nat} {many k w : Nat} : PF (fun N => sEnt F N many k w) := by
  unfold sEnt
  refine PF_pb PF_pu (fun kd => PF_pb ?_ (fun _ => PF_pp))
  refine PF_if (PF_pb PF_pa fun _ => PF_pb PF_pu fun _ => PF_txt _ _ _ _) ?_
  (repeat first | exact PF_pa | exact PF_pp | exact PF_pn | exact PF_pu | exact PF_pe | exact PF_pk | exact PF_psk | exact PF_plf | with_reducible refine PF_if ?_ ?_ | with_reducible refine PF_pb ?_ (fun _ => ?_))
theorem PF_ents {F : Nat → Nat} {many : Nat} : ∀ f k K B, PF (fun N => sEnts F N many f k K B)
  | 0, k, K, B => by
    simp only [sEnts]
    exact PF_pp
  | f + 1, k, K, B => by
    simp only [sEnts]
    exact PF_if (PF_pb PF_pa fun w => PF_pb PF_ent fun kd => PF_if (PF_ents f _ _ _) (PF_ents f _ _ _)) PF_pp
theorem PF_pre {F : Nat → Nat} : PF (fun N => sPre F N) := by
  unfold sPre
  exact PF_pb PF_pa fun w => PF_pb PF_pu fun m => PF_pb PF_pn fun _ => PF_pb (PF_ents _ _ _ _) fun _ => PF_pp
theorem PF_all {c : Nat → P Unit} (h : ∀ k, PF (fun _ => c k)) : ∀ n k, PF (fun _ => sAll c n k)
  | 0, k => by
    simp only [sAll]
    exact PF_pp
  | n + 1, k => by
    simp only [sAll]
    exact PF_pb (h k) fun _ => PF_all h n (k + 1)
section PFS
variable {F : Nat → Nat} {c : Nat} {K B : Nat → Nat}
theorem PF_lk1 {k : Nat} : PF (fun _ => sLk1 F c K B k) := by
  unfold sLk1
  (repeat first | exact PF_pa | exact PF_pp | exact PF_pn | exact PF_pu | exact PF_pe | exact PF_pk | exact PF_psk | exact PF_plf | with_reducible refine PF_if ?_ ?_ | with_reducible refine PF_pb ?_ (fun _ => ?_))
theorem PF_lk2 {k : Nat} : PF (fun _ => sLk2 F c K B k) := by
  unfold sLk2
  (repeat first | exact PF_pa | exact PF_pp | exact PF_pn | exact PF_pu | exact PF_pe | exact PF_pk | exact PF_psk | exact PF_plf | with_reducible refine PF_if ?_ ?_ | with_reducible refine PF_pb ?_ (fun _ => ?_))
theorem PF_num {kd : Nat} : PF (fun N => sNum F N c K kd) := by
  unfold sNum
  (repeat first | exact PF_pa | exact PF_pp | exact PF_pn | exact PF_pu | exact PF_pe | exact PF_pk | exact PF_psk | exact PF_plf | with_reducible refine PF_if ?_ ?_ | with_reducible refine PF_pb ?_ (fun _ => ?_))
theorem PF_cls : PF (fun N => sCls F N c K B) := by
  unfold sCls
  exact PF_pb PF_pa fun _ => PF_pb PF_num fun _ => PF_pb PF_pn fun _ => PF_pp
theorem PF_clsA : PF (fun N => sClsA F N c K B) := by
  unfold sClsA
  exact PF_pb PF_pa fun _ => PF_pb PF_pu fun _ => PF_pb PF_pn fun _ => PF_pb PF_cls fun _ => PF_pb PF_pa fun _ => PF_pb PF_cls fun _ => PF_pb PF_pn fun _ => PF_pb PF_pn fun _ => PF_pp
theorem PF_cnt {m : Nat} : PF (fun N => sCnt F N m) := by
  unfold sCnt
  (repeat first | exact PF_pa | exact PF_pp | exact PF_pn | exact PF_pu | exact PF_pe | exact PF_pk | exact PF_psk | exact PF_plf | with_reducible refine PF_if ?_ ?_ | with_reducible refine PF_pb ?_ (fun _ => ?_))
theorem PF_fac : ∀ n l, PF (fun N => sFac F N c K B n l)
  | 0, l => by
    simp only [sFac]
    exact PF_pp
  | n + 1, l => by
    simp only [sFac]
    exact PF_pb PF_pa fun _ => PF_pb PF_cls fun _ => PF_pb PF_pn fun _ => PF_fac n _
theorem PF_row {sz : Nat} {st : Nat → Bool} : PF (fun N => sRow F N c K sz st) := by
  unfold sRow
  (repeat first | exact PF_pa | exact PF_pp | exact PF_pn | exact PF_pu | exact PF_pe | exact PF_pk | exact PF_psk | exact PF_plf | with_reducible refine PF_if ?_ ?_ | with_reducible refine PF_pb ?_ (fun _ => ?_))
theorem PF_rows {sz : Nat} {st : Nat → Bool} : ∀ n, PF (fun N => sRows F N c K sz st n)
  | 0 => by
    simp only [sRows]
    exact PF_pp
  | n + 1 => by
    simp only [sRows]
    exact PF_pb PF_row fun _ => PF_rows n
theorem PF_code {ver least : Nat} : PF (fun N => sCode F N c K B ver least) := by
  unfold sCode
  refine PF_pb PF_pa fun _ => PF_pb PF_pu fun _ => PF_pb PF_pn fun _ => PF_pb PF_pa fun _ => PF_pb PF_pu fun _ => PF_pb PF_pn fun _ => PF_pb PF_pn fun _ => PF_pb PF_pa fun _ => PF_pb PF_pu fun _ => PF_pb PF_pn fun _ => PF_pb PF_pk fun _ => PF_pb PF_pa fun _ => PF_pb PF_plf fun _ => PF_pb PF_plf fun _ => PF_pb PF_pn fun _ => PF_pb PF_psk fun _ => PF_pb PF_pa fun _ => PF_pb PF_pu fun _ => PF_pb PF_pn fun _ => PF_pb (PF_rows _) fun _ => PF_pb PF_pa fun _ => PF_pb PF_pu fun _ => PF_pb PF_pn fun _ => PF_pp
theorem PF_con {ty : Nat} : PF (fun N => sCon F N c K B ty) := by
  unfold sCon
  (repeat first | exact PF_pa | exact PF_pp | exact PF_pn | exact PF_pu | exact PF_pe | exact PF_pk | exact PF_psk | exact PF_plf | with_reducible refine PF_if ?_ ?_ | with_reducible refine PF_pb ?_ (fun _ => ?_))
theorem PF_tk : ∀ n, PF (fun N => sTk F N c K n)
  | 0 => by
    simp only [sTk]
    exact PF_pp
  | n + 1 => by
    simp only [sTk]
    exact PF_pb PF_num fun _ => PF_tk n
theorem PF_exc : PF (fun N => sExc F N c K) := by
  unfold sExc
  exact PF_pb PF_pu fun n => PF_pb (PF_tk n) fun _ => PF_pp
theorem PF_body {ver f ty wh th : Nat} {cd : Cd} : PF (fun N => sBody F N c K B ver f ty wh th cd) := by
  unfold sBody
  exact PF_if (PF_pb PF_code fun _ => PF_pp) (PF_if (PF_pb PF_con fun _ => PF_pp) (PF_if (PF_pb PF_exc fun _ => PF_pp) (PF_pb PF_num fun _ => PF_pp)))
theorem PF_attL {al ver f ty : Nat} : ∀ n sn th cd, PF (fun N => sAttL F N c K B al ver f ty n sn th cd)
  | 0, sn, th, cd => by
    simp only [sAttL]
    exact PF_pp
  | n + 1, sn, th, cd => by
    simp only [sAttL]
    exact PF_pb PF_pa fun _ => PF_pb PF_num fun _ => PF_pb PF_pa fun _ => PF_pb PF_pu fun _ => PF_pb PF_pa fun _ => PF_pb PF_pn fun _ => PF_pb PF_body fun _ => PF_pb PF_pa fun _ => PF_pb PF_pn fun _ => PF_attL n _ _ _
theorem PF_atts {al ver f ty : Nat} : PF (fun N => sAtts F N c K B al ver f ty) := by
  unfold sAtts
  exact PF_pb PF_pu fun n => PF_attL _ _ _ _
theorem PF_fld {cf : Nat} {l : List (Nat × Nat)} : PF (fun N => sFld F N c K B cf l) := by
  unfold sFld
  exact PF_pb PF_pa fun _ => PF_pb PF_pu fun _ => PF_pb PF_pn fun _ => PF_pb PF_pa fun _ => PF_pb PF_num fun _ => PF_pb PF_pn fun _ => PF_pb PF_pa fun _ => PF_pb PF_num fun _ => PF_pb PF_pn fun _ => PF_pb PF_pn fun _ => PF_pb PF_pn fun _ => PF_pp
theorem PF_flds {cf ver : Nat} : ∀ n l, PF (fun N => sFlds F N c K B cf ver n l)
  | 0, l => by
    simp only [sFlds]
    exact PF_pp
  | n + 1, l => by
    simp only [sFlds]
    exact PF_pb PF_fld fun _ => PF_pb PF_atts fun _ => PF_flds n _
theorem PF_mth {cf : Nat} {l : List (Nat × Nat)} : PF (fun N => sMth F N c K B cf l) := by
  unfold sMth
  exact PF_pb PF_pa fun _ => PF_pb PF_pu fun _ => PF_pb PF_pn fun _ => PF_pb PF_pa fun _ => PF_pb PF_num fun _ => PF_pb PF_pn fun _ => PF_pb PF_pa fun _ => PF_pb PF_num fun _ => PF_pb PF_pn fun _ => PF_pb PF_pn fun _ => PF_pb PF_pn fun _ => PF_pb PF_pn fun _ => PF_pp
theorem PF_mths {cf ver : Nat} : ∀ n l rs tl, PF (fun N => sMths F N c K B cf ver n l rs tl)
  | 0, l, rs, tl => by
    simp only [sMths]
    exact PF_pp
  | n + 1, l, rs, tl => by
    simp only [sMths]
    exact PF_pb PF_pa fun _ => PF_pb PF_mth fun _ => PF_pb PF_atts fun _ => PF_pb PF_pn fun _ => PF_mths n _ _ _
end PFS
def sG0 (F : Nat → Nat) (N : Nat) : P Rp := pb (pu F N 4) fun a => pb (pn (a == 3405691582) 2 0) fun _ => pb (pu F N 2) fun b => pb (pn (b == 0) 3 4) fun _ => pb (pu F N 2) fun ver => pb (pn (decide (45 ≤ ver) && decide (ver ≤ 61)) 3 6) fun _ => pb (sPre F N) fun q => pb (sAll (sLk1 F q.1 q.2.1 q.2.2) (q.1 - 1) 1) fun _ => pb (sAll (sLk2 F q.1 q.2.1 q.2.2) (q.1 - 1) 1) fun _ => pb (sClsA F N q.1 q.2.1 q.2.2) fun cf => pb (sCnt F N 20) fun ni => pb (sFac F N q.1 q.2.1 q.2.2 ni []) fun _ => pb (sCnt F N 60) fun nf => pb (sFlds F N q.1 q.2.1 q.2.2 cf ver nf []) fun _ => pb (sCnt F N 60) fun nm => pb (sMths F N q.1 q.2.1 q.2.2 cf ver nm [] [] (0, 0, 0, 0)) fun m => pb (sAtts F N q.1 q.2.1 q.2.2 8 ver 0 0) fun _ => pp (q.1, q.2.1, ni, nf, nm, m.2, cf, m.1)
theorem sG0_eq (F : Nat → Nat) (N : Nat) : sGo F N = pb (sG0 F N) fun x => pb pa fun w => pb (pn (decide (w = N)) 29 w) fun _ => pp x := by
  unfold sGo sG0 sHead sPool
  simp only [pb_as, pb_pp]
theorem PF_g0 {F : Nat → Nat} : PF (fun N => sG0 F N) := by
  unfold sG0
  exact PF_pb PF_pu fun _ => PF_pb PF_pn fun _ => PF_pb PF_pu fun _ => PF_pb PF_pn fun _ => PF_pb PF_pu fun _ => PF_pb PF_pn fun _ => PF_pb PF_pre fun _ => PF_pb (PF_all (fun _ => PF_lk1) _ _) fun _ => PF_pb (PF_all (fun _ => PF_lk2) _ _) fun _ => PF_pb PF_clsA fun _ => PF_pb PF_cnt fun _ => PF_pb (PF_fac _ _) fun _ => PF_pb PF_cnt fun _ => PF_pb (PF_flds _ _) fun _ => PF_pb PF_cnt fun _ => PF_pb (PF_mths _ _ _ _) fun _ => PF_pb PF_atts fun _ => PF_pp
/-- a FILE read through: each BEGINNING of it breaks rule 1 at its end -/
theorem begins {F : Nat → Nat} {N k : Nat} {q : Rp × Nat} (h : sGo F N 0 = .ok q) (hk : k < N) : sGo F k 0 = .error (1, k) := by
  rw [sG0_eq] at h ⊢
  cases hg : sG0 F N 0 with
  | error e =>
    rw [pb_x hg] at h
    cases h
  | ok x =>
    obtain ⟨x, j⟩ := x
    rw [pb_s hg] at h
    have hj : j = N := by
      by_cases e : j = N
      · exact e
      · exfalso
        have : (pb pa fun w => pb (pn (decide (w = N)) 29 w) fun _ => pp x) j = .error (29, j) := by
          show (pb (pn (decide (j = N)) 29 j) fun _ => pp x) j = _
          rw [pb_x (pn_x (decide_eq_false e))]
        rw [this] at h
        cases h
    subst hj
    obtain ⟨-, g⟩ := PF_g0 j k 0 x j (Nat.le_of_lt hk) (Nat.zero_le _) hg
    rcases g with g | g
    · exact pb_x g
    · omega

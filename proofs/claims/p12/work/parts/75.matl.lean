/-! THE REFERENCE: ATTRIBUTES, the loop -/
theorem cT_id {α : Type} {o : Option α} : cT o (fun v => some v) = o := by cases o <;> rfl
section MAL2
variable {F : Nat → Nat} {N c i r w ver : Nat} {K B : Nat → Nat} {z u : St} {β : Type}
theorem first_m {of f t : Nat} (hof : of = 1 ∨ of = 2 ∨ of = 3) (hf : f < 65536) (hT : TX F B t u) : (if nI of = 1 then (cI (f_M_is u (nI t) 13 4859223965108891252 371001685349 0) fun r55 u53 => if r55 = 0 then (some ((0 : Int32), u53)) else (if (nI f &&& 8) = 0 then (some (0, u53)) else (some (1, u53)))) else (if nI of = 2 then (cI (f_M_is u (nI t) 4 1131373669 0 0) fun r52 u50 => if r52 = 0 then (some (0, u50)) else (if (nI f &&& 1024) = 0 then (some (1, u50)) else (some (0, u50)))) else (cI (f_M_is u (nI t) 10 6012153161717204585 27749 0) fun r49 u47 => some (r49, u47)))) = some (if fiO of (atO F B t) (!decide (f &&& 8 = 0)) (decide (f &&& 1024 = 0)) then 1 else 0, u) := by
  obtain ⟨a3, a4, a5, a6⟩ := at_w F B t
  rw [is_l 13 hT (n := 13) rfl (j := 4) (by decide) (by decide) w_4, cI_s, is_l 4 hT (n := 4) rfl (j := 3) (by decide) (by decide) w_3, cI_s, is_l 10 hT (n := 10) rfl (j := 6) (by decide) (by decide) w_6, cI_s, a3, a4, a6]
  have q1 : (nI of = 1) = (of = 1) := neq (b := 1) (by omega) (by decide)
  have q2 : (nI of = 2) = (of = 2) := neq (b := 2) (by omega) (by decide)
  have e8 : (nI f &&& 8 = 0) = (f &&& 8 = 0) := propext (mskL hf)
  have e10 : (nI f &&& 1024 = 0) = (f &&& 1024 = 0) := propext (mskL hf)
  simp only [q1, q2, e8, e10]
  rcases hof with h | h | h
  · subst h
    rw [if_pos (show 1 = 1 from rfl), show fiO 1 (atO F B t) (!decide (f &&& 8 = 0)) (decide (f &&& 1024 = 0)) = ((atO F B t == 1) && !decide (f &&& 8 = 0)) from rfl]
    by_cases d : f &&& 8 = 0
    · rw [if_pos d, decide_eq_true d]
      cases (atO F B t == 1) <;> rfl
    · rw [if_neg d, decide_eq_false d]
      cases (atO F B t == 1) <;> rfl
  · subst h
    rw [if_neg (show ¬ 2 = 1 by decide), if_pos (show 2 = 2 from rfl), show fiO 2 (atO F B t) (!decide (f &&& 8 = 0)) (decide (f &&& 1024 = 0)) = ((atO F B t == 2) && decide (f &&& 1024 = 0)) from rfl]
    by_cases d : f &&& 1024 = 0
    · rw [if_pos d, decide_eq_true d]
      cases (atO F B t == 2) <;> rfl
    · rw [if_neg d, decide_eq_false d]
      cases (atO F B t == 2) <;> rfl
  · subst h
    rw [if_neg (show ¬ 3 = 1 by decide), if_neg (show ¬ 3 = 2 by decide), show fiO 3 (atO F B t) (!decide (f &&& 8 = 0)) (decide (f &&& 1024 = 0)) = (atO F B t == 8) from rfl]
theorem second_m {of t : Nat} (hof : of = 1 ∨ of = 2 ∨ of = 3) (hT : TX F B t u) : (if nI of = 2 then (cI (f_M_is u (nI t) 10 5005860273151830383 28275 0) fun r44 u42 => if r44 = 0 then (some ((0 : Int32), u42)) else (some (1, u42))) else (some (0, u))) = some (if seO of (atO F B t) then 1 else 0, u) := by
  obtain ⟨a3, a4, a5, a6⟩ := at_w F B t
  rw [is_l 10 hT (n := 10) rfl (j := 5) (by decide) (by decide) w_5, cI_s, a5]
  have q2 : (nI of = 2) = (of = 2) := neq (b := 2) (by omega) (by decide)
  simp only [q2]
  unfold seO
  rcases hof with h | h | h
  · subst h; rfl
  · subst h
    rw [if_pos rfl]
    cases (atO F B t == 4) <;> rfl
  · subst h; rfl
theorem len_m {e fr len : Nat} (h1 : fr ≤ e) (h2 : e ≤ 4000) (h3 : len < 2 ^ 32) : (if lg_cmp (nI e - nI fr).toInt64 (Int64.ofNat len) = 0 then (1 : Int32) else 0) = 0 ↔ decide (e - fr = len) = false := by
  have g : (lg_cmp (nI e - nI fr).toInt64 (Int64.ofNat len) = 0) = (e - fr = len) := by
    apply propext
    rw [lg_cmp_eq, nI_sub h1, ← Int64.toInt_inj, Int32.toInt_toInt64, nI_toInt (by omega), j_toInt h3]
    omega
  simp only [g]
  by_cases d : e - fr = len
  · rw [if_pos d, decide_eq_true d]; exact ⟨fun q => absurd q (by decide), fun q => by cases q⟩
  · rw [if_neg d, decide_eq_false d]; exact ⟨fun _ => rfl, fun _ => rfl⟩
theorem attM {of f wx ty k sl n : Nat} {tb : Tl} {x4 : Int32} {kx : St → Int32 → Option St} {f' : (Nat × Nat × Cd) → P β} {ψ : β → St → Prop} (hof : of = 1 ∨ of = 2 ∨ of = 3) (hn : n < 65536) (hf : f < 65536) (hk : k < 60) (hsl : sl ≤ 250) (hM : ML2 F c K B) (hver : ver < 65536) (hT : of = 1 → isK c K ty 1 = true ∧ (fdT F B ty).isSome = true ∧ wx = ty) (hX : of = 2 → wx = k ∧ sl = slT F B ty) (h2 : ∀ r w v x, RB N r w z v → wp (kx v x) (MP N z (fun v => v) (.error (r, w)) (fun a x => ψ a x))) : ∀ (m j g i : Nat) (o t : Bool) (th : Nat) (cd : Cd) (u : St), j + m = n → m < g → RO N i z u → MW F N c K B u → u.1 5 = nI ver → IV of k sl tb th cd u → (of = 2 → o = false → cd = (0, 0, 0, 0, 0, 0)) → (∀ v i' o' t' th' cd', RO N i' z v → MW F N c K B v → KA of k u v → IV of k sl tb th' cd' v → wp (kx v (if o' then 1 else 0)) (MP N z (fun v => v) (f' (snO of o' t', th', cd') i') (fun a x => ψ a x))) → wp (f_M_attributes_L15 kx (nI of) (nI f) (nI wx) x4 (nI n) g u (if o then 1 else 0) (if t then 1 else 0) (nI j)) (MP N z (fun v => v) (pb (sAttL F N c K B (alO of (!decide (f &&& 8 = 0)) (decide (f &&& 1024 = 0))) ver f ty m (snO of o t) th cd) f' i) (fun a x => ψ a x))
  | 0, j, g + 1, i, o, t, th, cd, u, e1, _, hO, hW, hv5, hI, hc0, h1 => by
    rw [f_M_attributes_L15, if_pos (nI_le (by omega) (by omega)), sAttL]
    exact h1 u i o t th cd hO hW KA_rf hI
  | m + 1, j, g + 1, i, o, t, th, cd, u, e1, e2, hO, hW, hv5, hI, hc0, h1 => by
    have hN := hO.1.1
    have hof' : of ∈ [1, 2, 3] := by rcases hof with h | h | h <;> rw [h] <;> decide
    rw [f_M_attributes_L15, if_neg (nI_ge (by omega) (by omega)), ok_o hO, cI_s, if_neg (by decide), nI_1, sAttL, hO.1.2.2.2.2.1]
    simp only [pb_as]
    refine mq_pa ?_
    refine mq_num hO hW rfl (by decide) (fun nm hnm hi => ?_) (fun r w x v h => ?_)
    · have hO1 := RO_at (j := i + 2) hO hi
      have k1 : ko [2] [] u (sv u 2 (nI (i + 2))) := ko_sv (by decide)
      generalize sv u 2 (nI (i + 2)) = v1 at hO1 k1 ⊢
      have hW1 := MW_ko hW k1 (by decide) (by decide)
      refine mq_pa ?_
      rw [hO1.1.2.2.2.2.1]
      refine mq_u4 hO1 hW1.1 (fun hi2 => ?_) (fun x v h => ?_)
      · have hlen := be_lt (F := F) hW.f8 (i + 2) 4
        have hO2 := RO_at (j := i + 2 + 4) hO1 hi2
        have k2 : ko [2] [] u (sv v1 2 (nI (i + 2 + 4))) := ko_tr k1 (ko_sv (by decide))
        generalize sv v1 2 (nI (i + 2 + 4)) = v2 at hO2 k2 ⊢
        have hW2 := MW_ko hW k2 (by decide) (by decide)
        have hTn := hW2.tx hN hnm
        refine mq_pa ?_
        rw [ok_o hO2, cI_s, if_neg (by decide), first_m hof hf hTn, cT_s]
        dsimp only
        rw [second_m hof hTn, cT_s]
        dsimp only
        rw [ord_m, ← alw_m of hof' _ (atO_m F B nm)]
        refine wp_bnd ?_
        refine mq_must hO2 rfl rfl (by decide) b10 (fun ha => ?_) (fun v h => ?_)
        · rw [if_neg (by decide)]
          obtain ⟨s1, s2⟩ := sn_m of hof' _ (atO_m F B nm) _ _ _ _ ha
          have hI2 : IV of k sl tb th cd v2 := fun q => by
            obtain ⟨i1, i2, i3, i4, i5, i6, i7, i8, i9⟩ := hI q
            exact ⟨by rw [k2.2 3 (by decide)]; exact i1, by rw [k2.2 3 (by decide)]; exact i2, by rw [k2.2 3 (by decide)]; exact i3, by rw [k2.2 3 (by decide)]; exact i4, by rw [k2.2 3 (by decide)]; exact i5, (k2.1 12 (by decide)).trans i6, (k2.1 13 (by decide)).trans i7, (k2.1 14 (by decide)).trans i8, (k2.1 15 (by decide)).trans i9⟩
          have bm := bodyM (F := F) (c := c) (K := K) (B := B) (i := i + 2 + 4) (z := z) (ver := ver) (of := of) (f := f) (wx := wx) (ty := ty) (k := k) (sl := sl) (th := th) (wh := atO F B nm) (tb := tb) (cd := cd) (fi := fiO of (atO F B nm) (!decide (f &&& 8 = 0)) (decide (f &&& 1024 = 0))) (se := seO of (atO F B nm)) (o := o) hf hk hsl hO2 hW2 hM ((k2.1 5 (by decide)).trans hv5) hver hT hX hI2 hc0 s2 (p := true) (q := true)
          rw [hO2.1.2.2.2.2.1]
          refine mq_T bm ?_ ?_
          · rintro ⟨th', cd'⟩ e v3 hp hO3 ⟨kA, hI3, hc3, -⟩
            have hmo := mo_sBody _ _ _ hp
            have he := hO3.1.2.2.2.2.2
            refine mq_pa ?_
            rw [hO3.1.2.2.2.2.1]
            refine wp_bnd ?_
            refine mq_must hO3 rfl rfl (by decide) (len_m hmo (by omega) hlen) (fun _ => ?_) (fun v h => ?_)
            · rw [or_m, or_m]
              dsimp only at hI3 hc3 ⊢
              rw [s1]
              have hW3 := MW_ko hW2 kA.1 (by decide) (by decide)
              refine attM hof hn hf hk hsl hM hver hT hX h2 m (j + 1) g e _ _ th' cd' v3 (by omega) (by omega) hO3 hW3 (((kA.1.1 5 (by decide)).trans (k2.1 5 (by decide))).trans hv5) hI3 hc3 ?_
              intro v i' o' t' th'' cd'' b1 b2 b3 b4
              exact h1 v i' o' t' th'' cd'' b1 b2 (KA_tr (KA_2 k2) (KA_tr kA b3)) b4
            · cases g with
              | zero => omega
              | succ g =>
                rw [f_M_attributes_L15]
                refine wp_ite (fun _ => h2 _ _ _ _ h) (fun _ => ?_)
                rw [ok_b h, cI_s, if_pos rfl]
                exact h2 _ _ _ _ h
          · intro r w v h
            refine wp_bnd ?_
            rw [must_b h, cI_s]
            cases g with
            | zero => omega
            | succ g =>
              rw [f_M_attributes_L15]
              refine wp_ite (fun _ => h2 _ _ _ _ h) (fun _ => ?_)
              rw [ok_b h, cI_s, if_pos rfl]
              exact h2 _ _ _ _ h
        · rw [if_pos rfl]
          exact wp_some h
      · rw [ok_b h, cI_s, if_pos rfl]
        exact wp_some h
    · rw [u4_b h, cJ_s, ok_b h, cI_s, if_pos rfl]
      exact wp_some h
theorem IV_0 {of k sl : Nat} {tb : Tl} (h : of = 2 → u.2 3 (6 * k + 1) = nI sl ∧ (∀ j, 6 * k + 2 ≤ j → j ≤ 6 * k + 5 → u.2 3 j = 0) ∧ u.1 12 = nI tb.1 ∧ u.1 13 = nI tb.2.1 ∧ u.1 14 = nI tb.2.2.1 ∧ u.1 15 = nI tb.2.2.2) : IV of k sl tb 0 (0, 0, 0, 0, 0, 0) u := fun q => by
  obtain ⟨a1, a2, a3, a4, a5, a6⟩ := h q
  exact ⟨a1, a2 _ (by omega) (by omega), a2 _ (by omega) (by omega), a2 _ (by omega) (by omega), a2 _ (by omega) (by omega), a3, a4, a5, a6⟩
/-- ATTRIBUTES of a field, or of the class -/
theorem atts_m {of f wx ty : Nat} {x4 : Int32} (hof : of = 1 ∨ of = 3) (hf : f < 65536) (hO : RO N i z u) (hW : MW F N c K B u) (hM : ML2 F c K B) (hv5 : u.1 5 = nI ver) (hver : ver < 65536) (hT : of = 1 → isK c K ty 1 = true ∧ (fdT F B ty).isSome = true ∧ wx = ty) : wp (f_M_attributes u (nI of) (nI f) (nI wx) x4) (RQ N z (sAtts F N c K B (alO of (!decide (f &&& 8 = 0)) (decide (f &&& 1024 = 0))) ver f ty i) (fun _ v => ko [2] [] u v)) := by
  have hn2 : of ≠ 2 := by omega
  have q2 : ¬ nI of = 2 := fun q => hn2 ((nI_eq (b := 2) (by omega) (by decide)).mp q)
  unfold f_M_attributes sAtts
  simp only [if_neg q2, cT_s]
  refine mq_u2 hO hW.1 (fun hi => ?_) (fun x v h => ?_)
  · have k1 : ko [2] [] u (sv u 2 (nI (i + 2))) := ko_sv (by decide)
    have am := attM (z := z) (F := F) (K := K) (B := B) (c := c) (ver := ver) (of := of) (f := f) (wx := wx) (ty := ty) (k := 0) (sl := 0) (n := be F i 2) (tb := (0, 0, 0, 0)) (x4 := x4) (kx := fun u57 z58 => some u57) (f' := fun q => pp q) (ψ := fun _ v => ko [2] [] u v) (by omega) (hW.n2 i) hf (by decide) (by decide) hM hver hT (fun q => absurd q hn2) (fun r w v x h => wp_some h) (be F i 2) 0 FU (i + 2) false false 0 (0, 0, 0, 0, 0, 0) (sv u 2 (nI (i + 2))) (by omega) (by have : be F i 2 < 65536 := hW.n2 i; unfold FU; omega) (RO_at hO hi) (MW_ko hW k1 (by decide) (by decide)) hv5 (fun q => absurd q hn2) (fun q => absurd q hn2) (fun v i' o' t' th' cd' b1 b2 b3 b4 => wp_some ⟨b1, ko_tr k1 (b3.2.1 hn2)⟩)
    have e0 : ∀ pp' : P (Nat × Nat × Cd), pb pp' (fun q => pp q) = pp' := by
      intro p
      funext i
      unfold pb
      cases p i <;> rfl
    rw [e0, show snO of false false = 0 by rcases hof with h | h <;> rw [h] <;> rfl] at am
    exact am
  · rw [show FU = 69999 + 1 from rfl, f_M_attributes_L15]
    refine wp_ite (fun _ => wp_some h) (fun _ => ?_)
    rw [ok_b h, cI_s, if_pos rfl]
    exact wp_some h
/-- ATTRIBUTES of a method -/
theorem attsM_m {f k ty w : Nat} {tb : Tl} {x4 : Int32} (hx : x4 = nI w) (hf : f < 65536) (hk : k < 60) (hO : RO N i z u) (hW : MW F N c K B u) (hM : ML2 F c K B) (hv5 : u.1 5 = nI ver) (hver : ver < 65536) (h3 : u.2 3 (6 * k + 1) = nI (slT F B ty)) (h0 : ∀ j, 6 * k + 2 ≤ j → j ≤ 6 * k + 5 → u.2 3 j = 0) (h12 : u.1 12 = nI tb.1) (h13 : u.1 13 = nI tb.2.1) (h14 : u.1 14 = nI tb.2.2.1) (h15 : u.1 15 = nI tb.2.2.2) : wp (f_M_attributes u 2 (nI f) (nI k) x4) (RQ N z ((pb (sAtts F N c K B ((if f &&& 1024 = 0 then 2 else 0) ||| 4) ver f ty) fun a => pb (pn (decide (f &&& 1024 ≠ 0) || decide (a.1 &&& 2 ≠ 0)) 20 w) fun _ => pp a) i) (fun a v => KA 2 k u v ∧ IV 2 k (slT F B ty) tb a.2.1 a.2.2 v)) := by
  have hsl := (ms_sl F B ty).2
  have eal : ((if f &&& 1024 = 0 then 2 else 0) ||| 4) = alO 2 (!decide (f &&& 8 = 0)) (decide (f &&& 1024 = 0)) := by
    show _ = ((if decide (f &&& 1024 = 0) = true then 2 else 0) ||| 4)
    by_cases d : f &&& 1024 = 0
    · rw [if_pos d, decide_eq_true d]; rfl
    · rw [if_neg d, decide_eq_false d]; rfl
  rw [eal]
  unfold f_M_attributes sAtts
  simp only [if_pos (show (2 : Int32) = 2 from rfl), pb_as]
  have kb : ∀ {r w : Nat} {v : St} {x : Int32}, RB N r w z v → wp (cT (bnd (if x = 0 then (if (nI f &&& 1024) = 0 then (0 : Int32) else (1)) else (1)) fun (z61 : Int32) => cI (f_M_must v z61 20 x4) fun r64 u62 => some (u62)) fun (u59 : St) => some u59) (fun v => RB N r w z v) := fun h => by
    refine wp_cT (wp_bnd ?_)
    rw [must_b h, cI_s]
    exact wp_some (wp_some h)
  refine mq_u2 hO hW.1 (fun hi => ?_) (fun x v h => ?_)
  · have k1 : ko [2] [] u (sv u 2 (nI (i + 2))) := ko_sv (by decide)
    refine attM (z := z) (F := F) (K := K) (B := B) (c := c) (ver := ver) (of := 2) (f := f) (wx := k) (ty := ty) (k := k) (sl := slT F B ty) (n := be F i 2) (tb := tb) (x4 := x4) (ψ := fun a v => KA 2 k u v ∧ IV 2 k (slT F B ty) tb a.2.1 a.2.2 v) (f' := fun a => pb (pn (decide (f &&& 1024 ≠ 0) || decide (a.1 &&& 2 ≠ 0)) 20 w) fun _ => pp a) (Or.inr (Or.inl rfl)) (hW.n2 i) hf hk (by omega) hM hver (fun q => absurd q (by decide)) (fun _ => ⟨rfl, rfl⟩) (fun r w v x h => kb h) (be F i 2) 0 FU (i + 2) false false 0 (0, 0, 0, 0, 0, 0) (sv u 2 (nI (i + 2))) (by omega) (by have : be F i 2 < 65536 := hW.n2 i; unfold FU; omega) (RO_at hO hi) (MW_ko hW k1 (by decide) (by decide)) hv5 (IV_0 (fun _ => ⟨h3, h0, h12, h13, h14, h15⟩)) (fun _ _ => rfl) ?_
    intro v i' o' t' th' cd' b1 b2 b3 b4
    rw [cT_id]
    refine wp_bnd ?_
    have es : (if (if o' = true then (1 : Int32) else 0) = 0 then (if (nI f &&& 1024) = 0 then (0 : Int32) else (1)) else (1)) = 0 ↔ (decide (f &&& 1024 ≠ 0) || decide (snO 2 o' t' &&& 2 ≠ 0)) = false := by
      have ed : decide (snO 2 o' t' &&& 2 ≠ 0) = o' := by cases o' <;> cases t' <;> decide
      rw [ed]
      by_cases d : f &&& 1024 = 0
      · rw [if_pos (show nI f &&& 1024 = 0 from (mskL hf).mpr d), decide_eq_false (fun q => q d), Bool.false_or]
        cases o' <;> decide
      · rw [if_neg (show ¬ nI f &&& 1024 = 0 from fun q => d ((mskL hf).mp q)), decide_eq_true d, Bool.true_or]
        cases o' <;> decide
    refine mq_must b1 rfl hx (by decide) es (fun _ => ?_) (fun v h => wp_some h)
    exact wp_some ⟨b1, KA_tr (KA_2 k1) b3, b4⟩
  · rw [show FU = 69999 + 1 from rfl, f_M_attributes_L15]
    refine wp_ite (fun _ => kb h) (fun _ => ?_)
    rw [ok_b h, cI_s, if_pos rfl]
    exact kb h
end MAL2

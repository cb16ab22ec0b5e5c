/-! THE CLASS: interfaces, fields' and methods' heads -/
theorem pb_as {α β δ : Type} (p : P α) (f : α → P β) (g : β → P δ) : pb (pb p f) g = pb p (fun a => pb (f a) g) := by
  funext i
  unfold pb
  cases p i <;> rfl
theorem pb_pp {α β : Type} (a : α) (f : α → P β) : pb (pp a) f = f a := rfl
theorem nI_sub {a b : Nat} (h : b ≤ a) : nI a - nI b = nI (a - b) := by
  have e : nI (a - b) + nI b = nI a := by rw [nI_add, Nat.sub_add_cancel h]
  rw [← e, Int32.add_sub_cancel]
theorem XP_mono {α γ : Type} {N : Nat} {z : St} {st : γ → St} {res : Except Er (α × Nat)} {φ φ' : α → γ → Prop} {x : γ} (h : XP N z st res φ x) (k : ∀ a, φ a x → φ' a x) : XP N z st res φ' x := by
  cases res with
  | error e => exact h
  | ok q => exact ⟨h.1, k _ h.2⟩
/-- the texts in an array -/
def NL (a : Nat) (l : List Nat) (u : St) : Prop := ∀ j t, l[j]? = some t → u.2 a j = nI t
theorem NL_snoc {a t : Nat} {l : List Nat} {u : St} (h : NL a l u) : NL a (l ++ [t]) (sa u a l.length (nI t)) := by
  intro j s hj
  by_cases q : j < l.length
  · rw [List.getElem?_append_left q] at hj
    rw [sa_ne (by omega)]
    exact h j s hj
  · by_cases e : j = l.length
    · subst e
      rw [List.getElem?_append_right (Nat.le_refl _)] at hj
      simp at hj
      rw [sa_a, if_pos rfl, upd, if_pos rfl, hj]
    · rw [List.getElem?_eq_none (by simp; omega)] at hj
      cases hj
section MBR
variable {F : Nat → Nat} {N c i r w : Nat} {K B : Nat → Nat} {z u : St}
theorem b_itL {k : Nat} {x y : Int32} (hk : k ≤ 60) : ∀ (m i g : Nat) (u : St), i + m = k → m < g → SB N r w z u → wp (f_G_readInterface_L16 (nI k) x y g u (nI i)) (fun p => SB N r w z p)
  | 0, i, g + 1, u, h1, _, h => by
    rw [f_G_readInterface_L16, if_pos (nI_le (by omega) (by omega))]
    exact wp_some h
  | m + 1, i, g + 1, u, h1, h2, h => by
    rw [f_G_readInterface_L16, if_neg (nI_ge (by omega) (by omega)), if_neg (show ¬ (60 : Int32) ≤ nI i from nI_ge (b := 60) (by omega) (by omega)), gd_in (by omega) (by decide), nI_1]
    refine wp_cI_b (b_alike h) (fun _ _ h => wp_bnd (wp_cV_b (b_need h) (fun _ h => ?_)))
    exact b_itL hk m (i + 1) g _ (by omega) (by omega) h
theorem itL_eq_o {l : List Nat} {t w : Nat} (hO : SO N i z u) (hP : PW_o F N c K B u) (hl : l.length ≤ 20) (hn : NL 14 l u) (ha : ∀ s ∈ l, isK c K s 1 = true) (ht : isK c K t 1 = true) : ∀ (m j g : Nat), j + m = l.length → m < g → wp (f_G_readInterface_L16 (nI l.length) (nI w) (nI t) g u (nI j)) (fun v => if (l.drop j).any (fun s => smT F B s t) = true then SB N 16 w z v else v = u)
  | 0, j, g + 1, h1, _ => by
    rw [f_G_readInterface_L16, if_pos (nI_le (by omega) (by omega)), List.drop_eq_nil_of_le (by omega)]
    exact wp_some rfl
  | m + 1, j, g + 1, h1, h2 => by
    have hj : j < l.length := by omega
    have e : u.2 14 j = nI l[j] := hn j _ (List.getElem?_eq_getElem hj)
    rw [f_G_readInterface_L16, if_neg (nI_ge (by omega) (by omega)), if_neg (show ¬ (60 : Int32) ≤ nI j from nI_ge (b := 60) (by omega) (by omega)), gd_in (by omega) (by decide), ncl (by omega), e, hP.alike hO (ha _ (List.getElem_mem hj)) ht, cI_s, bnd_s, nI_1, List.drop_eq_getElem_cons hj, List.any_cons]
    cases hs : smT F B l[j] t with
    | true =>
      rw [if_pos (show true = true from rfl), if_neg (show ¬ (1 : Int32) = 0 by decide), nd_16 hO.1, cV_s]
      refine wp_mono (b_itL (by omega) m (j + 1) g _ (by omega) (by omega) (SO_B hO (by decide) (by decide))) fun v hv => ?_
      simp only [Bool.true_or, if_true]
      exact hv
    | false =>
      rw [if_neg (show ¬ (false = true) by decide), if_pos (show (0 : Int32) = 0 from rfl), nd_t (by decide), cV_s]
      simp only [Bool.false_or]
      exact itL_eq_o hO hP hl hn ha ht m (j + 1) g (by omega) (by omega)
def sFc (F : Nat → Nat) (N c : Nat) (K B : Nat → Nat) (l : List Nat) : P Nat := pb pa fun w => pb (sCls F N c K B) fun t => pb (pn (!l.any (fun s => smT F B s t)) 16 w) fun _ => pp t
theorem sFac_s {n : Nat} {l : List Nat} : sFac F N c K B (n + 1) l = pb (sFc F N c K B l) fun t => sFac F N c K B n (l ++ [t]) := by
  unfold sFc
  simp only [pb_as, pb_pp]
  rfl
theorem not_t {b : Bool} (h : (!b) = true) : b = false := by cases b <;> first | rfl | cases h
theorem not_f {b : Bool} (h : (!b) = false) : b = true := by cases b <;> first | rfl | cases h
theorem iface_eq_o {l : List Nat} (hO : SO N i z u) (hP : PW_o F N c K B u) (hl : l.length < 20) (hn : NL 14 l u) (ha : ∀ s ∈ l, isK c K s 1 = true) : wp (f_G_readInterface u (nI l.length)) (XQ N z (sFc F N c K B l i) (fun t v => isK c K t 1 = true ∧ ko [1] [14] u v ∧ NL 14 (l ++ [t]) v)) := by
  unfold f_G_readInterface sFc
  refine wq_pa ?_
  refine wq_tct_o hO hP (fun t ht hi => ?_) (fun r w x u h => ?_)
  · have hO1 := SO_at hO hi
    rw [hO.1.2.2.2.2.1]
    refine wp_cT (wp_mono (itL_eq_o (w := i) hO1 (hP.at (x := nI (i + 2))) (by omega) hn ha ht l.length 0 FU (by omega) (by unfold FU; omega)) fun v hv => ?_)
    rw [List.drop_zero] at hv
    cases hs : l.any (fun s => smT F B s t) with
    | true =>
      rw [hs, if_pos rfl] at hv
      rw [pb_x (pn_x (by rfl)), if_neg (show ¬ (60 : Int32) ≤ nI l.length from nI_ge (b := 60) (by omega) (by omega)), gd_in (by omega) (by decide), bnd_s, cT_s]
      exact wp_some (SB_sa (by decide) hv)
    | false =>
      rw [hs, if_neg (by decide)] at hv
      subst hv
      rw [pb_s (pn_s (by rfl)), if_neg (show ¬ (60 : Int32) ≤ nI l.length from nI_ge (b := 60) (by omega) (by omega)), gd_in (by omega) (by decide), bnd_s, cT_s, ncl (by omega)]
      refine wp_some ⟨⟨XO_ko (s := []) (t := [14]) hO1.1 (ko_sa (by decide)) (by decide) (by decide), hO.2⟩, ht, ko_tr (ko_sv (by decide)) (ko_sa (by decide)), ?_⟩
      exact NL_snoc (u := sv u 1 (nI (i + 2))) hn
  · refine wp_cT (wp_mono (b_itL (by omega) l.length 0 FU u (by omega) (by unfold FU; omega) h) fun v h => ?_)
    rw [if_neg (show ¬ (60 : Int32) ≤ nI l.length from nI_ge (b := 60) (by omega) (by omega)), gd_in (by omega) (by decide), bnd_s, cT_s]
    exact wp_some (SB_sa (by decide) h)
theorem b_L45 {x y : Int32} (h : SB N r w z u) : ∀ g, 0 < g → wp (f_G_passes_L45 x g u y) (fun p => SB N r w z p)
  | g + 1, _ => by
    rw [f_G_passes_L45]
    refine wp_ite (fun _ => wp_some h) (fun _ => b_sound0 h ?_)
    exact wp_some h
theorem PW_ko_o {v : St} {s t : List Nat} (h : PW_o F N c K B u) (hk : ko s t u v) (hs : 6 ∉ s) (ht : 0 ∉ t ∧ 4 ∉ t ∧ 5 ∉ t ∧ 6 ∉ t ∧ 7 ∉ t ∧ 8 ∉ t) : PW_o F N c K B v := h.keep (hk.1 6 hs) (fun k hk' => hk.2 k (by
  rcases hk' with e | ⟨e1, e2⟩
  · subst e; exact ht.1
  · have : k = 4 ∨ k = 5 ∨ k = 6 ∨ k = 7 ∨ k = 8 := by omega
    rcases this with rfl | rfl | rfl | rfl | rfl
    · exact ht.2.1
    · exact ht.2.2.1
    · exact ht.2.2.2.1
    · exact ht.2.2.2.2.1
    · exact ht.2.2.2.2.2))
theorem fac_eq_o {ni : Nat} (hni : ni ≤ 20) : ∀ (m : Nat) (l : List Nat) (g i : Nat) (u : St), l.length + m = ni → m < g → SO N i z u → PW_o F N c K B u → NL 14 l u → (∀ s ∈ l, isK c K s 1 = true) → wp (f_G_passes_L45 (nI ni) g u (nI l.length)) (XQ N z (sFac F N c K B m l i) (fun _ v => ko [1] [14] u v))
  | 0, l, g + 1, i, u, h1, _, hO, hP, hn, ha => by
    rw [f_G_passes_L45, if_pos (nI_le (by omega) (by omega))]
    exact wp_some ⟨hO, ko_rf⟩
  | m + 1, l, g + 1, i, u, h1, h2, hO, hP, hn, ha => by
    rw [f_G_passes_L45, if_neg (nI_ge (by omega) (by omega)), snd_o hO.1, cI_s, if_neg (by decide), sFac_s, nI_1]
    refine wq_V (iface_eq_o hO hP (by omega) hn ha) ?_ (fun r w u h => b_L45 h g (by omega))
    rintro t j v hp hOv ⟨ht, kv, nv⟩
    have ih := fac_eq_o hni m (l ++ [t]) g j v (by simp; omega) (by omega) hOv (PW_ko_o hP kv (by decide) (by decide)) nv (by
      intro s hs
      rw [List.mem_append] at hs
      rcases hs with q | q
      · exact ha s q
      · rw [List.mem_singleton] at q; rw [q]; exact ht)
    rw [List.length_append] at ih
    exact wp_mono ih fun x hx => XP_mono hx fun _ q => ko_tr kv q
/-! members -/
def ML (l : List (Nat × Nat)) (u : St) : Prop := ∀ j q, l[j]? = some q → u.2 14 j = nI q.1 ∧ u.2 15 j = nI q.2
def MK (c : Nat) (K : Nat → Nat) (l : List (Nat × Nat)) : Prop := ∀ q ∈ l, isK c K q.1 1 = true ∧ isK c K q.2 1 = true
theorem ML_snoc {q : Nat × Nat} {l : List (Nat × Nat)} {u : St} (h : ML l u) : ML (l ++ [q]) (sa (sa u 14 l.length (nI q.1)) 15 l.length (nI q.2)) := by
  intro j s hj
  by_cases e : j < l.length
  · rw [List.getElem?_append_left e] at hj
    rw [sa_ne (by omega), sa_ne (by omega), sa_ne (by omega), sa_ne (by omega)]
    exact h j s hj
  · by_cases e : j = l.length
    · subst e
      rw [List.getElem?_append_right (Nat.le_refl _)] at hj
      simp at hj
      subst hj
      exact ⟨by simp [sa_a, upd], by simp [sa_a, upd]⟩
    · rw [List.getElem?_eq_none (by simp; omega)] at hj
      cases hj
theorem MK_snoc {q : Nat × Nat} {l : List (Nat × Nat)} (h : MK c K l) (h1 : isK c K q.1 1 = true) (h2 : isK c K q.2 1 = true) : MK c K (l ++ [q]) := by
  intro s hs
  rw [List.mem_append] at hs
  rcases hs with e | e
  · exact h s e
  · rw [List.mem_singleton] at e; rw [e]; exact ⟨h1, h2⟩
theorem b_adL {x y p : Int32} (h : SB N r w z u) : ∀ g, 0 < g → wp (f_G_addMember_L13 x y g u p) (fun p => SB N r w z p)
  | g + 1, _ => by
    rw [f_G_addMember_L13]
    refine wp_ite (fun _ => wp_some h) (fun _ => b_sound0 h ?_)
    exact wp_some h
theorem adL_eq_o {l : List (Nat × Nat)} {nm ty w : Nat} (hO : SO N i z u) (hP : PW_o F N c K B u) (h19 : u.1 19 = nI ty) (h17 : u.1 17 = nI w) (hl : l.length ≤ 60) (hn : ML l u) (ha : MK c K l) (h1 : isK c K nm 1 = true) (h2 : isK c K ty 1 = true) : ∀ (m j g : Nat), j + m = l.length → m < g → wp (f_G_addMember_L13 (nI l.length) (nI nm) g u (nI j)) (fun v => if dupM F B (l.drop j) nm ty = true then SB N 16 w z v else v = u)
  | 0, j, g + 1, e1, _ => by
    rw [f_G_addMember_L13, if_pos (nI_le (by omega) (by omega)), List.drop_eq_nil_of_le (by omega)]
    exact wp_some rfl
  | m + 1, j, g + 1, e1, e2 => by
    have hj : j < l.length := by omega
    obtain ⟨e, e'⟩ := hn j _ (List.getElem?_eq_getElem hj)
    obtain ⟨a1, a2⟩ := ha _ (List.getElem_mem hj)
    have ds : dupM F B (l.drop j) nm ty = ((smT F B l[j].1 nm && smT F B l[j].2 ty) || dupM F B (l.drop (j + 1)) nm ty) := by
      unfold dupM
      rw [List.drop_eq_getElem_cons hj, List.any_cons]
    rw [ds, f_G_addMember_L13, if_neg (nI_ge (by omega) (by omega)), snd_o hO.1, cI_s, if_neg (by decide), gd_in (by omega) (by decide), ncl (by omega), e, hP.alike hO a1 h1, cI_s, gd_in (by omega) (by decide), e', h19, hP.alike hO a2 h2, cI_s, nI_1]
    have stay : wp (f_G_addMember_L13 (nI l.length) (nI nm) g u (nI (j + 1))) (fun v => if (false || dupM F B (l.drop (j + 1)) nm ty) = true then SB N 16 w z v else v = u) := by
      simp only [Bool.false_or]
      exact adL_eq_o hO hP h19 h17 hl hn ha h1 h2 m (j + 1) g (by omega) (by omega)
    cases hs : smT F B l[j].1 nm with
    | false =>
      rw [if_neg (show ¬ (false = true) by decide), if_pos (show (0 : Int32) = 0 from rfl), cT_s, bnd_s]
      rw [if_pos (show (0 : Int32) = 0 from rfl), nd_t (by decide), cV_s, Bool.false_and]
      exact stay
    | true =>
      rw [if_pos (show true = true from rfl), if_neg (show ¬ (1 : Int32) = 0 by decide), Bool.true_and]
      cases ht : smT F B l[j].2 ty with
      | false =>
        rw [if_neg (show ¬ (false = true) by decide), if_pos (show (0 : Int32) = 0 from rfl), cT_s, bnd_s]
        rw [if_pos (show (0 : Int32) = 0 from rfl), nd_t (by decide), cV_s]
        exact stay
      | true =>
        rw [if_pos (show true = true from rfl), if_neg (show ¬ (1 : Int32) = 0 by decide), cT_s, bnd_s]
        rw [if_neg (show ¬ (1 : Int32) = 0 by decide), h17, nd_16 hO.1, cV_s]
        refine wp_mono (b_adL (SO_B hO (by decide) (by decide)) g (by omega)) fun v hv => ?_
        simp only [Bool.true_or, if_true]
        exact hv
theorem addMember_eq_o {l : List (Nat × Nat)} {nm ty w : Nat} (hO : SO N i z u) (hP : PW_o F N c K B u) (h19 : u.1 19 = nI ty) (h17 : u.1 17 = nI w) (hl : l.length < 60) (hn : ML l u) (ha : MK c K l) (h1 : isK c K nm 1 = true) (h2 : isK c K ty 1 = true) : wp (f_G_addMember u (nI l.length) (nI nm)) (XQ N z (pn (!dupM F B l nm ty) 16 w i) (fun _ v => ko [] [14, 15] u v ∧ ML (l ++ [(nm, ty)]) v)) := by
  unfold f_G_addMember
  rw [if_neg (nI_pos (by omega)), if_pos (show nI l.length < (60 : Int32) from nI_lt (b := 60) (by omega) (by omega))]
  refine wp_cT (wp_mono (adL_eq_o hO hP h19 h17 (by omega) hn ha h1 h2 l.length 0 FU (by omega) (by unfold FU; omega)) fun v hv => ?_)
  rw [List.drop_zero] at hv
  rw [gd_in (by omega) (by decide), bnd_s, gd_in (by omega) (by decide), bnd_s]
  cases hs : dupM F B l nm ty with
  | true =>
    rw [hs, if_pos rfl] at hv
    rw [pn_x (by rfl)]
    exact wp_some (SB_sa (by decide) (SB_sa (by decide) hv))
  | false =>
    rw [hs, if_neg (by decide)] at hv
    subst hv
    rw [pn_s (by rfl), ncl (by omega)]
    refine wp_some ⟨⟨XO_ko (s := []) (t := [14, 15]) hO.1 (ko_tr (ko_sa (by decide)) (ko_sa (by decide))) (by decide) (by decide), hO.2⟩, ko_tr (ko_sa (by decide)) (ko_sa (by decide)), ?_⟩
    have := ML_snoc (q := (nm, ty)) hn
    rw [← h19] at this
    exact this
/-! flags -/
theorem one7_eq {f : Nat} : (1 < bitc (nI f &&& 7)) ↔ one7 f = false := by
  rw [show (7 : Int32) = nI 7 from rfl, nand]
  have h : f &&& 7 < 2 ^ 3 := Nat.and_lt_two_pow f (by decide)
  unfold one7
  generalize f &&& 7 = m at h ⊢
  have key : ∀ m : Fin 8, (1 < bitc (nI m.val)) ↔ (decide (m.val = 0) || decide (m.val = 1) || decide (m.val = 2) || decide (m.val = 4)) = false := by decide +kernel
  exact key ⟨m, h⟩
theorem msk {f m : Nat} {x : Int32} (hf : f < 65536) (hx : x = nI m) : (nI f &&& x = 0) ↔ f &&& m = 0 := by
  rw [hx, nand, nq0 (by have : f &&& m < 65536 := and_lt hf; omega)]
theorem mskL {f m : Nat} (hf : f < 65536) : (nI f &&& (OfNat.ofNat m : Int32) = 0) ↔ f &&& m = 0 := msk hf rfl
theorem ffl_eq {u : St} {f cf : Nat} (hf : f < 65536) (hcf : cf < 65536) (h16 : u.1 16 = nI cf) : f_G_fieldFlagsHold u (nI f) = some (if ffl cf f then 1 else 0, u) := by
  unfold f_G_fieldFlagsHold ffl
  rw [h16]
  by_cases a : cf &&& 512 = 0
  · rw [if_pos ((mskL hcf).mpr a), if_pos a]
    by_cases b : f &&& 4294967136 = 0
    · rw [if_pos ((msk (x := -160) (m := 4294967136) hf (by decide)).mpr b), decide_eq_true b, Bool.true_and]
      unfold f_bitCount
      rw [cI_s]
      cases hs : one7 f with
      | true => rw [if_neg (fun q => by rw [one7_eq.mp q] at hs; cases hs), cT_s, gb_1]; rfl
      | false => rw [if_pos (one7_eq.mpr hs), cT_s, gb_0]; rfl
    · rw [if_neg (fun q => b ((msk (x := -160) (m := 4294967136) hf (by decide)).mp q)), decide_eq_false b, Bool.false_and, cT_s, gb_0]; rfl
  · rw [if_neg (fun q => a ((mskL hcf).mp q)), if_neg a, bnd_s]
    by_cases b : f = 25
    · rw [if_pos (show nI f = 25 by rw [b]; rfl), decide_eq_true b, gb_1]; rfl
    · rw [if_neg (show ¬ _ = (25 : Int32) from fun q => b ((nI_eq (b := 25) (by omega) (by decide)).mp q)), decide_eq_false b, gb_0]; rfl
theorem gbB {β : Type} {b : Bool} {k : Option β} : gb (if b = true then 1 else 0) k = k := by cases b <;> first | exact gb_0 | exact gb_1
theorem mfl_eq {u : St} {f cf : Nat} (hf : f < 65536) (hcf : cf < 65536) (h16 : u.1 16 = nI cf) : f_G_methodFlagsHold u (nI f) = some (if mfl cf f then 1 else 0, u) := by
  unfold f_G_methodFlagsHold mfl f_bitCount
  simp only [cI_s]
  rw [h16]
  have t1 : (if nI cf &&& 512 = 0 then (1 : Int32) else if nI f &&& 3 = 0 then 0 else if nI f &&& 16 = 0 then 1 else 0) = if (decide (cf &&& 512 = 0) || (decide (f &&& 3 ≠ 0) && decide (f &&& 16 = 0))) = true then 1 else 0 := by
    simp only [show (nI cf &&& 512 = 0) = (cf &&& 512 = 0) from propext (mskL hcf), show (nI f &&& 3 = 0) = (f &&& 3 = 0) from propext (mskL hf), show (nI f &&& 16 = 0) = (f &&& 16 = 0) from propext (mskL hf)]
    by_cases b1 : cf &&& 512 = 0 <;> by_cases b2 : f &&& 3 = 0 <;> by_cases b3 : f &&& 16 = 0 <;> simp [b1, b2, b3]
  simp only [bnd_s, t1, gbB, gb_0, cI_s, h16]
  by_cases b : f &&& 4294966240 = 0
  · rw [if_pos ((msk (x := -1056) (m := 4294966240) hf (by decide)).mpr b), decide_eq_true b, Bool.true_and]
    cases hs : one7 f with
    | false => rw [if_neg (show ¬ bitc (nI f &&& 7) ≤ 1 from fun q => Int32.not_lt.mpr q (one7_eq.mpr hs)), Bool.false_and, Bool.false_and]; rfl
    | true =>
      rw [if_pos (show bitc (nI f &&& 7) ≤ 1 from Int32.not_lt.mp fun q => by rw [one7_eq.mp q] at hs; cases hs), Bool.true_and]
      by_cases b4 : f &&& 1024 = 0
      · rw [if_pos ((mskL hf).mpr b4), decide_eq_true b4, Bool.true_or, Bool.true_and]
      · rw [if_neg (fun q => b4 ((mskL hf).mp q)), decide_eq_false b4, Bool.false_or]
        by_cases b5 : f &&& 26 = 0
        · rw [if_pos ((mskL hf).mpr b5), decide_eq_true b5, Bool.true_and]
          by_cases b6 : cf &&& 1024 = 0
          · rw [if_pos ((mskL hcf).mpr b6), decide_eq_false (fun q => q b6), Bool.false_and]; rfl
          · rw [if_neg (fun q => b6 ((mskL hcf).mp q)), decide_eq_true b6, Bool.true_and]
        · rw [if_neg (fun q => b5 ((mskL hf).mp q)), decide_eq_false b5, Bool.false_and, Bool.false_and]; rfl
  · rw [if_neg (fun q => b ((msk (x := -1056) (m := 4294966240) hf (by decide)).mp q)), decide_eq_false b, Bool.false_and, Bool.false_and, Bool.false_and]; rfl
end MBR

/-! LINKS in the class: members, and the whole pool -/
theorem b_refer {N r w : Nat} {z u : St} {x y : Int32} (h : SB N r w z u) : wp (f_P_refer u x y) (fun p => SB N r w z p.2) := by
  obtain ⟨v, -, e⟩ := num_any u (k := 2) x h.1.2.1 h.1.1 (by decide)
  unfold f_P_refer
  rw [show (2 : Int32) = nI 2 from rfl, e, cI_s]
  obtain ⟨y, e⟩ := kind_a u (nI v)
  rw [e, cI_s, bnd_s, nd_b h.1, cV_s]
  exact wp_some h
theorem b_fits {N r w : Nat} {z u : St} {x y p : Int32} (h : SB N r w z u) : wp (f_P_fits u x y p) (fun p => SB N r w z p.2) := by
  obtain ⟨q, e⟩ := fits_any u x y p
  exact ⟨_, e, h⟩
/-- the outcome of the spec in the class, with what stays of z -/
def XP {α γ : Type} (N : Nat) (z : St) (st : γ → St) (res : Except Er (α × Nat)) (φ : α → γ → Prop) (u : γ) : Prop := match res with
  | .ok q => SO N q.2 z (st u) ∧ φ q.1 u
  | .error e => SB N e.1 e.2 z (st u)
abbrev XQ {α : Type} (N : Nat) (z : St) (res : Except Er (α × Nat)) (φ : α → St → Prop) (u : St) : Prop := XP N z (fun v => v) res φ u
abbrev XQI {α : Type} (N : Nat) (z : St) (res : Except Er (α × Nat)) (φ : α → Int32 × St → Prop) (u : Int32 × St) : Prop := XP N z (fun v => v.2) res φ u
/-- a method of the class, then the rest, against a reader, then the rest -/
theorem wq_V {α β γ : Type} {N i : Nat} {z : St} {o : Option St} {k : St → Option γ} {p : P α} {f : α → P β} {φ : α → St → Prop} {st : γ → St} {ψ : β → γ → Prop} (h : wp o (XQ N z (p i) φ)) (h1 : ∀ a j u, p i = .ok (a, j) → SO N j z u → φ a u → wp (k u) (XP N z st (f a j) ψ)) (h2 : ∀ r w u, SB N r w z u → wp (k u) (XP N z st (.error (r, w)) ψ)) : wp (cV o k) (XP N z st (pb p f i) ψ) := by
  refine wp_cV (wp_mono h fun u hu => ?_)
  cases hp : p i with
  | error e =>
    rw [hp] at hu
    rw [pb_x hp]
    exact h2 _ _ _ hu
  | ok q =>
    rw [hp] at hu
    obtain ⟨a, j⟩ := q
    rw [pb_s hp]
    exact h1 _ _ _ hp hu.1 hu.2
theorem wq_T {α β γ : Type} {N i : Nat} {z : St} {o : Option St} {k : St → Option γ} {p : P α} {f : α → P β} {φ : α → St → Prop} {st : γ → St} {ψ : β → γ → Prop} (h : wp o (XQ N z (p i) φ)) (h1 : ∀ a j u, p i = .ok (a, j) → SO N j z u → φ a u → wp (k u) (XP N z st (f a j) ψ)) (h2 : ∀ r w u, SB N r w z u → wp (k u) (XP N z st (.error (r, w)) ψ)) : wp (cT o k) (XP N z st (pb p f i) ψ) := by
  refine wp_cT (wp_mono h fun u hu => ?_)
  cases hp : p i with
  | error e =>
    rw [hp] at hu
    rw [pb_x hp]
    exact h2 _ _ _ hu
  | ok q =>
    rw [hp] at hu
    obtain ⟨a, j⟩ := q
    rw [pb_s hp]
    exact h1 _ _ _ hp hu.1 hu.2
theorem wq_I {α β γ : Type} {N i : Nat} {z : St} {o : Option (Int32 × St)} {k : Int32 → St → Option γ} {p : P α} {f : α → P β} {φ : α → Int32 × St → Prop} {st : γ → St} {ψ : β → γ → Prop} (h : wp o (XQI N z (p i) φ)) (h1 : ∀ a j x u, p i = .ok (a, j) → SO N j z u → φ a (x, u) → wp (k x u) (XP N z st (f a j) ψ)) (h2 : ∀ r w x u, SB N r w z u → wp (k x u) (XP N z st (.error (r, w)) ψ)) : wp (cI o k) (XP N z st (pb p f i) ψ) := by
  refine wp_cI (wp_mono h fun u hu => ?_)
  cases hp : p i with
  | error e =>
    rw [hp] at hu
    rw [pb_x hp]
    exact h2 _ _ _ _ hu
  | ok q =>
    rw [hp] at hu
    obtain ⟨a, j⟩ := q
    rw [pb_s hp]
    exact h1 _ _ _ _ hp hu.1 hu.2
/-- a need -/
theorem wq_need {β γ : Type} {N i r w : Nat} {z u : St} {x y v : Int32} {b : Bool} {k : St → Option γ} {f : Unit → P β} {st : γ → St} {ψ : β → γ → Prop} (hO : SO N i z u) (hy : y = nI r) (hv : v = nI w) (hr : 1 ≤ r ∧ r ≤ 29) (hb : x = 0 ↔ b = false) (h1 : b = true → wp (k u) (XP N z st (f () i) ψ)) (h2 : ∀ u, SB N r w z u → wp (k u) (XP N z st (.error (r, w)) ψ)) : wp (cV (f_W_need u x y v) k) (XP N z st (pb (pn b r w) f i) ψ) := by
  cases b with
  | true =>
    rw [nd_t (fun q => by cases hb.mp q), cV_s, pb_s (pn_s rfl)]
    exact h1 rfl
  | false =>
    rw [hb.mpr rfl, hy, hv, nd_f hO.1, cV_s, pb_x (pn_x rfl)]
    exact h2 _ (SO_B hO hr.1 hr.2)
/-- the last need -/
theorem wq_needE {γ : Type} {N i r w : Nat} {z u : St} {x y v : Int32} {b : Bool} {k : St → Option γ} {st : γ → St} {ψ : Unit → γ → Prop} (hO : SO N i z u) (hy : y = nI r) (hv : v = nI w) (hr : 1 ≤ r ∧ r ≤ 29) (hb : x = 0 ↔ b = false) (h1 : b = true → wp (k u) (XP N z st (.ok ((), i)) ψ)) (h2 : ∀ u, SB N r w z u → wp (k u) (XP N z st (.error (r, w)) ψ)) : wp (cV (f_W_need u x y v) k) (XP N z st (pn b r w i) ψ) := by
  cases b with
  | true =>
    rw [nd_t (fun q => by cases hb.mp q), cV_s, pn_s rfl]
    exact h1 rfl
  | false =>
    rw [hb.mpr rfl, hy, hv, nd_f hO.1, cV_s, pn_x rfl]
    exact h2 _ (SO_B hO hr.1 hr.2)
theorem SO_at {N i j : Nat} {z u : St} (h : SO N i z u) (hj : j ≤ N) : SO N j z (sv u 1 (nI j)) := ⟨XO_at h.1 hj, h.2⟩
theorem wq_next {β γ : Type} {N i n : Nat} {F : Nat → Nat} {z u : St} {x : Int32} {k : Int32 → St → Option γ} {f : Nat → P β} {st : γ → St} {ψ : β → γ → Prop} (hO : SO N i z u) (hF : xF u = F) (hx : x = nI n) (hn : n ≤ 4) (h1 : i + n ≤ N → wp (k (nI (be F i n)) (sv u 1 (nI (i + n)))) (XP N z st (f (be F i n) (i + n)) ψ)) (h2 : ∀ u, SB N 1 N z u → wp (k 0 u) (XP N z st (.error (1, N)) ψ)) : wp (cI (f_W_next u x) k) (XP N z st (pb (pu F N n) f i) ψ) := by
  by_cases h : i + n ≤ N
  · rw [hx, nx_o hO.1 hn h, cI_s, pb_s (pu_s h), hF]
    exact h1 h
  · rw [hx, nx_e hO.1 (by omega) h, cI_s, pb_x (pu_x h)]
    exact h2 _ (SO_B hO (by decide) (by decide))
theorem i10 {c : Prop} {d : Decidable c} {b : Bool} (h : c ↔ b = true) : @ite Int32 c d 1 0 = 0 ↔ b = false := by
  by_cases q : c
  · rw [if_pos q, h.mp q]; exact ⟨fun z => absurd z (by decide), fun z => by cases z⟩
  · rw [if_neg q]
    have : b = false := by
      cases b with
      | false => rfl
      | true => exact absurd (h.mpr rfl) q
    exact ⟨fun _ => this, fun _ => rfl⟩
theorem i01 {c : Prop} {d : Decidable c} {b : Bool} (h : c ↔ b = false) : @ite Int32 c d 0 1 = 0 ↔ b = false := by
  by_cases q : c
  · rw [if_pos q, h.mp q]; exact ⟨fun _ => rfl, fun _ => rfl⟩
  · rw [if_neg q]
    exact ⟨fun z => absurd z (by decide), fun z => absurd (h.mpr z) q⟩
theorem b10 {b : Bool} : (if b = true then (1 : Int32) else 0) = 0 ↔ b = false := by cases b <;> decide
def isM (kd : Nat) : Prop := kd = 9 ∨ kd = 10 ∨ kd = 11
/-- tables behind the second round, up to k -/
def fs2_o (F : Nat → Nat) (c : Nat) (K B : Nat → Nat) (k : Nat) : Nat → Int32 := fun t => if t < k ∧ (9 ≤ K t ∧ K t ≤ 11) then fcv_o F (tn F B (nmM F B t)) (ta B (nmM F B t)) &&& 4 else nfs_o F K B c t
def ms2_o (F : Nat → Nat) (c : Nat) (K B : Nat → Nat) (k : Nat) : Nat → Int32 := fun t => if t < k ∧ (9 ≤ K t ∧ K t ≤ 11) then msv_o F (tn F B (tyM F B t)) (ta B (tyM F B t)) else ms1_o F c K B c t
theorem fs2_t_o {F : Nat → Nat} {c : Nat} {K B : Nat → Nat} {k t : Nat} (h : isK c K t 1 = true) : fs2_o F c K B k t = fcv_o F (tn F B t) (ta B t) := by
  obtain ⟨q1, q2, q3⟩ := isK_t.mp h
  rw [fs2_o, if_neg (by omega), nfs_o, if_pos ⟨q2, q3⟩]
theorem ms2_t_o {F : Nat → Nat} {c : Nat} {K B : Nat → Nat} {k t : Nat} (h : isK c K t 1 = true) : ms2_o F c K B k t = msv_o F (tn F B t) (ta B t) := by
  obtain ⟨q1, q2, q3⟩ := isK_t.mp h
  rw [ms2_o, if_neg (by omega), ms1_o, if_neg (by omega), nms_o, if_pos ⟨q2, q3⟩]
section MEM
variable {F : Nat → Nat} {N c i k z1 : Nat} {K B : Nat → Nat} {z u : St}
theorem fact_T {fs ms : Nat → Int32} (hX : XI N c u) (hT : TabG F N c K B fs ms u) {t kd : Nat} (h : isK c K t kd = true) : f_P_factsOf u (nI t) = some (fs t, u) := by
  obtain ⟨q1, q2, q3⟩ := isK_t.mp h
  have := hX.2.2.2.2
  rw [factsOf_eq hX (by omega), if_pos ⟨q1, q2⟩, (hT t q1 q2).2.2.1]
theorem meas_T {fs ms : Nat → Int32} (hX : XI N c u) (hT : TabG F N c K B fs ms u) {t kd : Nat} (h : isK c K t kd = true) : f_P_measureOf u (nI t) = some (ms t, u) := by
  obtain ⟨q1, q2, q3⟩ := isK_t.mp h
  have := hX.2.2.2.2
  rw [measureOf_eq hX (by omega), if_pos ⟨q1, q2⟩, (hT t q1 q2).2.2.2.1]
theorem first_T {fs ms : Nat → Int32} (hX : XI N c u) (hF : xF u = F) (hT : TabG F N c K B fs ms u) {t kd : Nat} (h : isK c K t kd = true) (hk : kd = 1 ∨ kd = 7 ∨ kd = 8 ∨ kd = 12) : f_P_firstOf u (nI t) = some (nI (n2 F (B t + 1)), u) := by
  obtain ⟨q1, q2, q3⟩ := isK_t.mp h
  obtain ⟨-, -, -, -, s5, -⟩ := hT t q1 q2
  obtain ⟨p1, -, p2, p3, p4⟩ := s5 (by omega)
  have : B t + 3 ≤ N := by
    rcases hk with e | e | e | e
    · have := p2 (by omega); omega
    · exact p3 (by omega)
    · exact p3 (by omega)
    · have := p4 (by omega); omega
  rw [firstOf_eq hX ⟨q1, q2⟩ p1 this, hF]
  rfl
theorem second_T {fs ms : Nat → Int32} (hX : XI N c u) (hF : xF u = F) (hT : TabG F N c K B fs ms u) {t : Nat} (h : isK c K t 12 = true) : f_P_secondOf u (nI t) = some (nI (n2 F (B t + 3)), u) := by
  obtain ⟨q1, q2, q3⟩ := isK_t.mp h
  obtain ⟨-, -, -, -, s5, -⟩ := hT t q1 q2
  obtain ⟨p1, -, p2, p3, p4⟩ := s5 (by omega)
  rw [secondOf_eq hX ⟨q1, q2⟩ p1 (p4 (by omega)), hF]
  rfl
theorem linkMember_eq_o (hO : SO N i z u) (hF : xF u = F) (h6 : u.1 6 = nI c) (hc : c ≤ 300) (hT : TabG F N c K B (fs2_o F c K B k) (ms2_o F c K B k) u) (hk : 1 ≤ k ∧ k < c) (hM : 9 ≤ K k ∧ K k ≤ 11) (hN : NmOK_o F c K B) : wp (f_P_linkMember u (nI k)) (XQ N z (sLk2_o F c K B k i) (fun _ v => ko [] [6, 7] u v ∧ (∀ a j, j ≠ k → v.2 a j = u.2 a j) ∧ v.2 6 k = fcv_o F (tn F B (nmM F B k)) (ta B (nmM F B k)) &&& 4 ∧ v.2 7 k = msv_o F (tn F B (tyM F B k)) (ta B (tyM F B k)))) := by
  have hN4 := hO.1.1
  have hX := XI_o hO.1 h6 hc
  obtain ⟨t1, t2, t3, t4, t5, t6⟩ := hT k hk.1 hk.2
  obtain ⟨p1, p2⟩ := t5 (by omega)
  have hx : B k + 5 ≤ N := p2.2.2.2 (by omega)
  unfold f_P_linkMember sLk2_o
  rw [if_pos (by omega), gd_in (by omega) (by decide), ncl (by omega), p1, nI_1, refer_7 hO.1 hF h6 hc hT (by omega), cI_s, show nI (B k + 1) + 2 = nI (B k + 3) from nI_add (B k + 1) 2]
  by_cases q7 : isK c K (n2 F (B k + 1)) 7 = true
  · rw [if_pos q7, pb_s (pn_s q7), refer_12 hO.1 hF h6 hc hT (by omega), cI_s]
    by_cases q12 : isK c K (n2 F (B k + 3)) 12 = true
    · rw [if_pos q12, pb_s (pn_s q12)]
      obtain ⟨m1, m2, m3, m4, m5⟩ := hN _ q12
      have en : nmM F B k = n2 F (B (n2 F (B k + 3)) + 1) := rfl
      have et : tyM F B k = n2 F (B (n2 F (B k + 3)) + 3) := rfl
      rw [← en] at m1 m4
      rw [← et] at m2 m3 m5
      rw [first_T hX hF hT q12 (by decide), cI_s, ← en, fact_T hX hT m1, cI_s, fs2_t_o m1, second_T hX hF hT q12, cI_s, ← et, fact_T hX hT m2, cI_s, fs2_t_o m2, gd_in (by omega) (by decide), t1]
      have hf := fits_eq u (kd := K k) (by omega) (fc_1_o F B (nmM F B k)) (w := wT F B 0 (nmM F B k)) (by rw [fc_4_o]; cases wT F B 0 (nmM F B k) <;> decide) (fc_16_o F B (tyM F B k)) (fc_32_o F B (tyM F B k)) (fc_128_o F B (tyM F B k))
      rw [hf, cI_s]
      have fit : (if K k = 9 then plT F B (nmM F B k) && (fdT F B (tyM F B k)).isSome else if K k = 11 then plT F B (nmM F B k) && (mtT_o F B (tyM F B k)).isSome else (mtT_o F B (tyM F B k)).isSome && (plT F B (nmM F B k) || (wT F B 0 (nmM F B k) && voT_o F B (tyM F B k)))) = fitM_o F K B k := by
        unfold fitM_o
        rcases tf_case_o F B (tyM F B k) with ⟨a1, -⟩ | ⟨r, a0, a1, a2, a3, -⟩ | ⟨fl, sl, vd, a0, -, a1, a2, a3, -⟩
        · rw [a1] at m3; cases m3
        · rw [a2, a3, a0]; rfl
        · rw [a2, a3, a0]; rfl
      rw [fit]
      refine wq_needE (z := z) (i := i) hO (r := 10) (w := B k + 3) rfl rfl (by decide) b10 (fun hb => ?_) (fun v h => ?_)
      · rw [gd_in (by omega) (by decide), bnd_s]
        obtain ⟨v, hv⟩ : ∃ v, v = sa u 6 k (fcv_o F (tn F B (nmM F B k)) (ta B (nmM F B k)) &&& 4) := ⟨_, rfl⟩
        rw [← hv]
        have kv : ko [] [6] u v := by rw [hv]; exact ko_sa (by decide)
        have hFv : xF v = F := (ko_F kv (by decide)).trans hF
        have hOv : XO N i v := XO_ko hO.1 kv (by decide) (by decide)
        have hXv : XI N c v := XI_o hOv ((kv.1 6 (by decide)).trans h6) hc
        -- places and measures stand
        obtain ⟨q1, q2, q3⟩ := isK_t.mp q12
        obtain ⟨w1, w2, w3⟩ := isK_t.mp m2
        have e2 : f_P_secondOf v (nI (n2 F (B k + 3))) = some (nI (tyM F B k), v) := by
          obtain ⟨-, -, -, -, s5, -⟩ := hT _ q1 q2
          obtain ⟨p1, -, p2, p3, p4⟩ := s5 (by omega)
          rw [secondOf_eq hXv ⟨q1, q2⟩ (by rw [kv.2 5 (by decide)]; exact p1) (p4 (by omega)), hFv]
          rfl
        have e3 : f_P_measureOf v (nI (tyM F B k)) = some (msv_o F (tn F B (tyM F B k)) (ta B (tyM F B k)), v) := by
          rw [measureOf_eq hXv (by omega), if_pos ⟨w1, w2⟩, kv.2 7 (by decide), (hT _ w1 w2).2.2.2.1, ms2_t_o m2]
        rw [e2, cI_s, e3, cI_s, gd_in (by omega) (by decide), bnd_s]
        refine wp_some ⟨⟨XO_ko (s := []) (t := [7]) hOv (ko_sa (by decide)) (by decide) (by decide), ?_⟩, ?_, ?_, ?_, ?_⟩
        · rw [hv]; exact hO.2
        · exact ko_tr (ko_mono kv (fun _ h => by cases h) (fun _ h => by simp at h; simp [h])) (ko_sa (by decide))
        · intro a j hj
          rw [sa_ne hj, hv, sa_ne hj]
        · rw [sa_a, if_neg (by decide), hv]
          simp [sa_a, upd]
        · rw [sa_a, if_pos rfl]
          simp [upd]
      · repeat' (first | exact h | (refine SB_sv (by decide) h) | (refine SB_sa (by decide) h) | (with_reducible refine wp_some ?_; try dsimp only) | (with_reducible refine wp_bnd_sv (by decide) h (fun _ h => ?_)) | (with_reducible refine wp_bnd_sa (by decide) h (fun _ h => ?_)) | (with_reducible refine wp_bnd ?_) | with_reducible refine wp_gb0 ?_ | with_reducible refine wp_gb1 ?_ | with_reducible refine wp_gb01 ?_ | with_reducible refine wp_gb10 ?_ | (with_reducible refine wp_cI_b (b_next h) (fun _ _ h => ?_)) | (with_reducible refine wp_cI_b (b_num1 h) (fun _ _ h => ?_)) | (with_reducible refine wp_cI_b (b_num2 h) (fun _ _ h => ?_)) | (with_reducible refine wp_cI_b (b_num4 h) (fun _ _ h => ?_)) | (with_reducible refine wp_cI_b (b_kindOf h) (fun _ _ h => ?_)) | (with_reducible refine wp_cI_b (b_factsOf h) (fun _ _ h => ?_)) | (with_reducible refine wp_cI_b (b_measureOf h) (fun _ _ h => ?_)) | (with_reducible refine wp_cI_b (b_firstOf h) (fun _ _ h => ?_)) | (with_reducible refine wp_cI_b (b_alike h) (fun _ _ h => ?_)) | (with_reducible refine wp_cI_b (b_take h) (fun _ _ h => ?_)) | (with_reducible refine wp_cI_b (b_bitCount h) (fun _ _ h => ?_)) | (with_reducible refine wp_cI_b (b_mayBeLast h) (fun _ _ h => ?_)) | (with_reducible refine wp_cI_b (b_kindFits h) (fun _ _ h => ?_)) | (with_reducible refine wp_cI_b (b_restFits h) (fun _ _ h => ?_)) | (with_reducible refine wp_cI_b (b_switchNumber h) (fun _ _ h => ?_)) | (with_reducible refine wp_cI_b (b_attributeOf h) (fun _ _ h => ?_)) | (with_reducible refine wp_cI_b (b_constantKind h) (fun _ _ h => ?_)) | (with_reducible refine wp_cI_b (b_readAttributes h) (fun _ _ h => ?_)) | (with_reducible refine wp_cI_b (b_classFlagsHold h) (fun _ _ h => ?_)) | (with_reducible refine wp_cI_b (b_takeClassText h) (fun _ _ h => ?_)) | (with_reducible refine wp_cI_b (b_refer h) (fun _ _ h => ?_)) | (with_reducible refine wp_cI_b (b_fits h) (fun _ _ h => ?_)) | (with_reducible refine wp_cI_b (b_secondOf h) (fun _ _ h => ?_)) | (with_reducible refine wp_cV_b (b_need h) (fun _ h => ?_)) | (with_reducible refine wp_cV_b (b_needType h) (fun _ h => ?_)) | (with_reducible refine wp_cV_b (b_addJump h) (fun _ h => ?_)) | (with_reducible refine wp_cV_b (b_readConstant h) (fun _ h => ?_)) | (with_reducible refine wp_cV_b (b_readExceptions h) (fun _ h => ?_)) | (with_reducible refine wp_cT_b (b_exL h) (fun _ h => ?_)) | (with_reducible refine wp_gdn (by omega) (by decide) ?_) | (with_reducible refine wp_cT ?_) | (with_reducible refine wp_ite (fun _ => ?_) (fun _ => ?_)))
    · have q12' : isK c K (n2 F (B k + 3)) 12 = false := by simpa using q12
      rw [if_neg q12, pb_x (pn_x q12')]
      have h : SB N 8 (B k + 3) z (brk u 8 (B k + 3)) := SO_B hO (by decide) (by decide)
      repeat' (first | exact h | (refine SB_sv (by decide) h) | (refine SB_sa (by decide) h) | (with_reducible refine wp_some ?_; try dsimp only) | (with_reducible refine wp_bnd_sv (by decide) h (fun _ h => ?_)) | (with_reducible refine wp_bnd_sa (by decide) h (fun _ h => ?_)) | (with_reducible refine wp_bnd ?_) | with_reducible refine wp_gb0 ?_ | with_reducible refine wp_gb1 ?_ | with_reducible refine wp_gb01 ?_ | with_reducible refine wp_gb10 ?_ | (with_reducible refine wp_cI_b (b_next h) (fun _ _ h => ?_)) | (with_reducible refine wp_cI_b (b_num1 h) (fun _ _ h => ?_)) | (with_reducible refine wp_cI_b (b_num2 h) (fun _ _ h => ?_)) | (with_reducible refine wp_cI_b (b_num4 h) (fun _ _ h => ?_)) | (with_reducible refine wp_cI_b (b_kindOf h) (fun _ _ h => ?_)) | (with_reducible refine wp_cI_b (b_factsOf h) (fun _ _ h => ?_)) | (with_reducible refine wp_cI_b (b_measureOf h) (fun _ _ h => ?_)) | (with_reducible refine wp_cI_b (b_firstOf h) (fun _ _ h => ?_)) | (with_reducible refine wp_cI_b (b_alike h) (fun _ _ h => ?_)) | (with_reducible refine wp_cI_b (b_take h) (fun _ _ h => ?_)) | (with_reducible refine wp_cI_b (b_bitCount h) (fun _ _ h => ?_)) | (with_reducible refine wp_cI_b (b_mayBeLast h) (fun _ _ h => ?_)) | (with_reducible refine wp_cI_b (b_kindFits h) (fun _ _ h => ?_)) | (with_reducible refine wp_cI_b (b_restFits h) (fun _ _ h => ?_)) | (with_reducible refine wp_cI_b (b_switchNumber h) (fun _ _ h => ?_)) | (with_reducible refine wp_cI_b (b_attributeOf h) (fun _ _ h => ?_)) | (with_reducible refine wp_cI_b (b_constantKind h) (fun _ _ h => ?_)) | (with_reducible refine wp_cI_b (b_readAttributes h) (fun _ _ h => ?_)) | (with_reducible refine wp_cI_b (b_classFlagsHold h) (fun _ _ h => ?_)) | (with_reducible refine wp_cI_b (b_takeClassText h) (fun _ _ h => ?_)) | (with_reducible refine wp_cI_b (b_refer h) (fun _ _ h => ?_)) | (with_reducible refine wp_cI_b (b_fits h) (fun _ _ h => ?_)) | (with_reducible refine wp_cI_b (b_secondOf h) (fun _ _ h => ?_)) | (with_reducible refine wp_cV_b (b_need h) (fun _ h => ?_)) | (with_reducible refine wp_cV_b (b_needType h) (fun _ h => ?_)) | (with_reducible refine wp_cV_b (b_addJump h) (fun _ h => ?_)) | (with_reducible refine wp_cV_b (b_readConstant h) (fun _ h => ?_)) | (with_reducible refine wp_cV_b (b_readExceptions h) (fun _ h => ?_)) | (with_reducible refine wp_cT_b (b_exL h) (fun _ h => ?_)) | (with_reducible refine wp_gdn (by omega) (by decide) ?_) | (with_reducible refine wp_cT ?_) | (with_reducible refine wp_ite (fun _ => ?_) (fun _ => ?_)))
  · have q7' : isK c K (n2 F (B k + 1)) 7 = false := by simpa using q7
    rw [if_neg q7, pb_x (pn_x q7')]
    have h : SB N 8 (B k + 1) z (brk u 8 (B k + 1)) := SO_B hO (by decide) (by decide)
    repeat' (first | exact h | (refine SB_sv (by decide) h) | (refine SB_sa (by decide) h) | (with_reducible refine wp_some ?_; try dsimp only) | (with_reducible refine wp_bnd_sv (by decide) h (fun _ h => ?_)) | (with_reducible refine wp_bnd_sa (by decide) h (fun _ h => ?_)) | (with_reducible refine wp_bnd ?_) | with_reducible refine wp_gb0 ?_ | with_reducible refine wp_gb1 ?_ | with_reducible refine wp_gb01 ?_ | with_reducible refine wp_gb10 ?_ | (with_reducible refine wp_cI_b (b_next h) (fun _ _ h => ?_)) | (with_reducible refine wp_cI_b (b_num1 h) (fun _ _ h => ?_)) | (with_reducible refine wp_cI_b (b_num2 h) (fun _ _ h => ?_)) | (with_reducible refine wp_cI_b (b_num4 h) (fun _ _ h => ?_)) | (with_reducible refine wp_cI_b (b_kindOf h) (fun _ _ h => ?_)) | (with_reducible refine wp_cI_b (b_factsOf h) (fun _ _ h => ?_)) | (with_reducible refine wp_cI_b (b_measureOf h) (fun _ _ h => ?_)) | (with_reducible refine wp_cI_b (b_firstOf h) (fun _ _ h => ?_)) | (with_reducible refine wp_cI_b (b_alike h) (fun _ _ h => ?_)) | (with_reducible refine wp_cI_b (b_take h) (fun _ _ h => ?_)) | (with_reducible refine wp_cI_b (b_bitCount h) (fun _ _ h => ?_)) | (with_reducible refine wp_cI_b (b_mayBeLast h) (fun _ _ h => ?_)) | (with_reducible refine wp_cI_b (b_kindFits h) (fun _ _ h => ?_)) | (with_reducible refine wp_cI_b (b_restFits h) (fun _ _ h => ?_)) | (with_reducible refine wp_cI_b (b_switchNumber h) (fun _ _ h => ?_)) | (with_reducible refine wp_cI_b (b_attributeOf h) (fun _ _ h => ?_)) | (with_reducible refine wp_cI_b (b_constantKind h) (fun _ _ h => ?_)) | (with_reducible refine wp_cI_b (b_readAttributes h) (fun _ _ h => ?_)) | (with_reducible refine wp_cI_b (b_classFlagsHold h) (fun _ _ h => ?_)) | (with_reducible refine wp_cI_b (b_takeClassText h) (fun _ _ h => ?_)) | (with_reducible refine wp_cI_b (b_refer h) (fun _ _ h => ?_)) | (with_reducible refine wp_cI_b (b_fits h) (fun _ _ h => ?_)) | (with_reducible refine wp_cI_b (b_secondOf h) (fun _ _ h => ?_)) | (with_reducible refine wp_cV_b (b_need h) (fun _ h => ?_)) | (with_reducible refine wp_cV_b (b_needType h) (fun _ h => ?_)) | (with_reducible refine wp_cV_b (b_addJump h) (fun _ h => ?_)) | (with_reducible refine wp_cV_b (b_readConstant h) (fun _ h => ?_)) | (with_reducible refine wp_cV_b (b_readExceptions h) (fun _ h => ?_)) | (with_reducible refine wp_cT_b (b_exL h) (fun _ h => ?_)) | (with_reducible refine wp_gdn (by omega) (by decide) ?_) | (with_reducible refine wp_cT ?_) | (with_reducible refine wp_ite (fun _ => ?_) (fun _ => ?_)))
theorem lk2_b {N r w : Nat} {z u : St} {x : Int32} (h : SB N r w z u) : ∀ g, 0 < g → wp (f_P_readLinks_L101 g u x) (fun p => SB N r w z p)
  | g + 1, _ => by
    rw [f_P_readLinks_L101]
    refine wp_ite (fun _ => wp_some h) (fun _ => ?_)
    refine b_sound0 h ?_
    exact wp_some h
theorem lk2_eq_o (hc : c ≤ 300) (hN : NmOK_o F c K B) : ∀ (m k g i : Nat) (u : St), k + m = c → m < g → 1 ≤ k → SO N i z u → xF u = F → u.1 6 = nI c → TabG F N c K B (fs2_o F c K B k) (ms2_o F c K B k) u → wp (f_P_readLinks_L101 g u (nI k)) (XQ N z (sAll (sLk2_o F c K B) m k i) (fun _ v => ko [] [6, 7] u v ∧ TabG F N c K B (fs2_o F c K B c) (ms2_o F c K B c) v)) := by
  intro m
  induction m with
  | zero =>
    intro k g i u h1 h2 h3 hO hF h6 hT
    cases g with
    | zero => omega
    | succ g =>
      rw [f_P_readLinks_L101, h6, if_pos (nI_le (by omega) (by omega))]
      have : k = c := by omega
      subst this
      exact wp_some ⟨hO, ko_rf, hT⟩
  | succ m ih =>
    intro k g i u h1 h2 h3 hO hF h6 hT
    cases g with
    | zero => omega
    | succ g =>
      obtain ⟨t1, t2, t3, t4, t5, t6⟩ := hT k h3 (by omega)
      have nq' : ∀ x, x < 2 ^ 31 → (nI (K k) = (OfNat.ofNat x : Int32) ↔ K k = x) := fun x hx => nq (by omega) x hx
      rw [f_P_readLinks_L101, h6, if_neg (nI_ge (by omega) (by omega)), snd_o hO.1, cI_s, if_neg (by decide), gd_in (by omega) (by decide), ncl (by omega), t1, sAll]
      have step : (9 ≤ K k ∧ K k ≤ 11) → wp (cT (cV (f_P_linkMember u (nI k)) fun u19 => some u19) fun u17 => f_P_readLinks_L101 g u17 (nI k + 1)) (XQ N z ((pb (sLk2_o F c K B k) fun _ => sAll (sLk2_o F c K B) m (k + 1)) i) (fun _ v => ko [] [6, 7] u v ∧ TabG F N c K B (fs2_o F c K B c) (ms2_o F c K B c) v)) := by
        intro hM
        have hl := linkMember_eq_o hO hF h6 hc hT ⟨h3, by omega⟩ hM hN
        have hl2 : wp (cV (f_P_linkMember u (nI k)) fun u19 => some u19) _ := wp_cV (wp_mono hl fun x hx => wp_some hx)
        refine wq_T hl2 ?_ ?_
        · rintro a j v hp hOv ⟨kv, jv, v6, v7⟩
          rw [nI_1]
          have hT' : TabG F N c K B (fs2_o F c K B (k + 1)) (ms2_o F c K B (k + 1)) v := by
            intro t q1 q2
            obtain ⟨s1, s2, s3, s4, s5, s6⟩ := hT t q1 q2
            by_cases tk : t = k
            · subst tk
              refine ⟨by rw [kv.2 4 (by decide)]; exact s1, s2, ?_, ?_, fun z => by rw [kv.2 5 (by decide)]; exact s5 z, fun z => by rw [kv.2 8 (by decide)]; exact s6 z⟩
              · rw [v6, fs2_o, if_pos ⟨by omega, hM⟩]
              · rw [v7, ms2_o, if_pos ⟨by omega, hM⟩]
            · refine ⟨by rw [jv _ _ tk]; exact s1, s2, ?_, ?_, fun z => by rw [jv _ _ tk]; exact s5 z, fun z => by rw [jv _ _ tk]; exact s6 z⟩
              · rw [jv _ _ tk, s3]
                unfold fs2_o
                have : (t < k ∧ (9 ≤ K t ∧ K t ≤ 11)) ↔ (t < k + 1 ∧ (9 ≤ K t ∧ K t ≤ 11)) := by omega
                simp only [this]
              · rw [jv _ _ tk, s4]
                unfold ms2_o
                have : (t < k ∧ (9 ≤ K t ∧ K t ≤ 11)) ↔ (t < k + 1 ∧ (9 ≤ K t ∧ K t ≤ 11)) := by omega
                simp only [this]
          refine wp_mono (ih (k + 1) g j v (by omega) (by omega) (by omega) hOv ((ko_F kv (by decide)).trans hF) ((kv.1 6 (by decide)).trans h6) hT') fun x hx => ?_
          cases hr : sAll (sLk2_o F c K B) m (k + 1) j with
          | error e => rw [hr] at hx; exact hx
          | ok q => rw [hr] at hx; exact ⟨hx.1, ko_tr kv hx.2.1, hx.2.2⟩
        · intro r w v h
          exact lk2_b h g (by omega)
      by_cases d9 : K k = 9
      · rw [if_pos ((nq' 9 (by decide)).mpr d9)]
        exact step (by omega)
      · rw [if_neg (fun z => d9 ((nq' 9 (by decide)).mp z)), gd_in (by omega) (by decide)]
        by_cases d10 : K k = 10
        · rw [if_pos ((nq' 10 (by decide)).mpr d10)]
          exact step (by omega)
        · rw [if_neg (fun z => d10 ((nq' 10 (by decide)).mp z)), gd_in (by omega) (by decide)]
          by_cases d11 : K k = 11
          · rw [if_pos ((nq' 11 (by decide)).mpr d11)]
            exact step (by omega)
          · rw [if_neg (fun z => d11 ((nq' 11 (by decide)).mp z)), cT_s, nI_1]
            have es : sLk2_o F c K B k i = .ok ((), i) := by
              unfold sLk2_o
              rw [if_neg (by omega)]
              rfl
            rw [pb_s es]
            refine ih (k + 1) g i u (by omega) (by omega) (by omega) hO hF h6 ?_
            intro t q1 q2
            obtain ⟨s1, s2, s3, s4, s5, s6⟩ := hT t q1 q2
            have : (t < k ∧ (9 ≤ K t ∧ K t ≤ 11)) ↔ (t < k + 1 ∧ (9 ≤ K t ∧ K t ≤ 11)) := by
              constructor
              · intro z; omega
              · intro z
                refine ⟨?_, z.2⟩
                have : t ≠ k := fun e => by subst e; omega
                omega
            refine ⟨s1, s2, ?_, ?_, s5, s6⟩
            · rw [s3]; unfold fs2_o; simp only [this]
            · rw [s4]; unfold ms2_o; simp only [this]
end MEM

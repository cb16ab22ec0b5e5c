/-! LINKS in the class: CLASS, STRING, NAMED -/
theorem XI_o {N c i : Nat} {u : St} (hO : XO N i u) (h6 : u.1 6 = nI c) (hc : c ≤ 300) : XI N c u := ⟨hO.1, hO.2.1, hO.2.2.1, h6, hc⟩
theorem XI_b {N c r w : Nat} {u : St} (hB : XB N r w u) (h6 : u.1 6 = nI c) (hc : c ≤ 300) : XI N c u := ⟨hB.1, hB.2.1, hB.2.2.1, h6, hc⟩
theorem isK_t {many t kd : Nat} {K : Nat → Nat} : isK many K t kd = true ↔ 1 ≤ t ∧ t < many ∧ K t = kd := by unfold isK; simp
theorem kind_is {F : Nat → Nat} {N c : Nat} {K B : Nat → Nat} {fs ms : Nat → Int32} {u : St} (hT : TabG F N c K B fs ms u) (hX : XI N c u) {t kd : Nat} (ht : t < 65536) (hkd : 1 ≤ kd ∧ kd < 256) : ∃ x, f_P_kindOf u (nI t) = some (x, u) ∧ ((x = nI kd) ↔ isK c K t kd = true) := by
  refine ⟨_, kindOf_eq hX ht, ?_⟩
  rw [isK_t]
  by_cases h : 1 ≤ t ∧ t < c
  · obtain ⟨e1, e2, -⟩ := hT t h.1 h.2
    rw [if_pos h, e1, nI_eq (by omega) (by omega)]
    exact ⟨fun z => ⟨h.1, h.2, z⟩, fun z => z.2.2⟩
  · rw [if_neg h]
    refine ⟨fun z => ?_, fun z => absurd ⟨z.1, z.2.1⟩ h⟩
    have : (0 : Int32) = nI 0 := rfl
    rw [this, nI_eq (by omega) (by omega)] at z
    omega
theorem refer_eq {F : Nat → Nat} {N c i w kd : Nat} {K B : Nat → Nat} {fs ms : Nat → Int32} {u : St} (hO : XO N i u) (hF : xF u = F) (h6 : u.1 6 = nI c) (hc : c ≤ 300) (hT : TabG F N c K B fs ms u) (hw : w + 2 ≤ N) (hkd : 1 ≤ kd ∧ kd < 256) : f_P_refer u (nI w) (nI kd) = some (nI (n2 F w), if isK c K (n2 F w) kd then u else brk u 8 w) := by
  have hN := hO.1
  have hlt : n2 F w < 65536 := by unfold n2; rw [← hF]; exact be_lt (fun j => by8_lt _ _) w 2
  obtain ⟨x, hx, hxe⟩ := kind_is hT (XI_o hO h6 hc) hlt hkd
  unfold f_P_refer
  rw [show (2 : Int32) = nI 2 from rfl, num_in u hO.2.1 hN (by decide) hw, hF, cI_s]
  show cI (f_P_kindOf u (nI (n2 F w))) _ = _
  rw [hx, cI_s, bnd_s]
  by_cases q : isK c K (n2 F w) kd = true
  · rw [if_pos (hxe.mpr q), if_pos q, nd_t (by decide), cV_s]
    rfl
  · rw [if_neg (fun z => q (hxe.mp z)), if_neg q, nd_8 hO, cV_s]
    rfl
theorem refer_1 {F : Nat → Nat} {N c i w : Nat} {K B : Nat → Nat} {fs ms : Nat → Int32} {u : St} (hO : XO N i u) (hF : xF u = F) (h6 : u.1 6 = nI c) (hc : c ≤ 300) (hT : TabG F N c K B fs ms u) (hw : w + 2 ≤ N) : f_P_refer u (nI w) 1 = some (nI (n2 F w), if isK c K (n2 F w) 1 then u else brk u 8 w) := refer_eq hO hF h6 hc hT hw (by decide)
theorem refer_7 {F : Nat → Nat} {N c i w : Nat} {K B : Nat → Nat} {fs ms : Nat → Int32} {u : St} (hO : XO N i u) (hF : xF u = F) (h6 : u.1 6 = nI c) (hc : c ≤ 300) (hT : TabG F N c K B fs ms u) (hw : w + 2 ≤ N) : f_P_refer u (nI w) 7 = some (nI (n2 F w), if isK c K (n2 F w) 7 then u else brk u 8 w) := refer_eq hO hF h6 hc hT hw (by decide)
theorem refer_12 {F : Nat → Nat} {N c i w : Nat} {K B : Nat → Nat} {fs ms : Nat → Int32} {u : St} (hO : XO N i u) (hF : xF u = F) (h6 : u.1 6 = nI c) (hc : c ≤ 300) (hT : TabG F N c K B fs ms u) (hw : w + 2 ≤ N) : f_P_refer u (nI w) 12 = some (nI (n2 F w), if isK c K (n2 F w) 12 then u else brk u 8 w) := refer_eq hO hF h6 hc hT hw (by decide)
theorem fact_x {N c k : Nat} {u : St} (h : XI N c u) (hk : k < 65536) : ∃ x, f_P_factsOf u (nI k) = some (x, u) := ⟨_, factsOf_eq h hk⟩
theorem meas_x {N c k : Nat} {u : St} (h : XI N c u) (hk : k < 65536) : ∃ x, f_P_measureOf u (nI k) = some (x, u) := ⟨_, measureOf_eq h hk⟩
/-- in a broken state: some number -/
theorem refer_b {N c r p : Nat} {u : St} (hB : XB N r p u) (h6 : u.1 6 = nI c) (hc : c ≤ 300) (x kd : Int32) : ∃ v : Nat, v < 65536 ∧ f_P_refer u x kd = some (nI v, u) := by
  obtain ⟨v, hv, e⟩ := num_any u (k := 2) x hB.2.1 hB.1 (by decide)
  refine ⟨v, hv, ?_⟩
  unfold f_P_refer
  rw [show (2 : Int32) = nI 2 from rfl, e, cI_s, kindOf_eq (XI_b hB h6 hc) (by omega), cI_s, bnd_s, nd_b hB, cV_s]
theorem needType_b {N c r p k : Nat} {u : St} (hB : XB N r p u) (h6 : u.1 6 = nI c) (hc : c ≤ 300) (hk : k < 65536) (a w : Int32) : f_P_needType u (nI k) a w = some u := by
  unfold f_P_needType
  rw [factsOf_eq (XI_b hB h6 hc) hk, cI_s, bnd_s, nd_b hB, cV_s, factsOf_eq (XI_b hB h6 hc) hk, cI_s, bnd_s, nd_b hB, cV_s]
theorem br_pos {F : Nat → Nat} {B : Nat → Nat} {t : Nat} : 0 < br F (tn F B t) (ta B t) ↔ hdT F B 91 t = true := by
  unfold hdT
  simp only [Bool.and_eq_true, decide_eq_true_eq, beq_iff_eq]
  cases h : tn F B t with
  | zero => simp [br]
  | succ n =>
    rw [br]
    by_cases q : F (ta B t) = 91
    · rw [if_pos q]; simp [q]
    · rw [if_neg q]; simp [q]
/-- how many brackets the TEXT of a CLASS has -/
def bkC (F : Nat → Nat) (B : Nat → Nat) (k : Nat) : Nat := br F (tn F B (n2 F (B k + 1))) (ta B (n2 F (B k + 1)))
theorem linkClass_eq_o {F : Nat → Nat} {N c i k : Nat} {K B : Nat → Nat} {ms : Nat → Int32} {u : St} (hO : XO N i u) (hF : xF u = F) (h6 : u.1 6 = nI c) (hc : c ≤ 300) (hT : TabG F N c K B (nfs_o F K B c) ms u) (hk : 1 ≤ k ∧ k < c) (h7 : K k = 7) : ∃ u', f_P_linkClass u (nI k) = some u' ∧ ko [1, 2, 3] [7] u u' ∧ (∀ a j, j ≠ k → u'.2 a j = u.2 a j) ∧ XR N (sLk1_o F c K B k i) (fun _ => u'.2 7 k = nI (bkC F B k) ∧ u'.1 1 = nI i) u' := by
  have hN := hO.1
  have hat : u.1 1 = nI i := hO.2.2.2.2.1
  obtain ⟨t1, t2, t3, t4, t5, t6⟩ := hT k hk.1 hk.2
  obtain ⟨p1, p2⟩ := t5 (by omega)
  have hx : B k + 3 ≤ N := p2.2.2.1 (Or.inl h7)
  have fin : ∀ (v : St) (x : Int32), ko [1, 2, 3] [] u v → gd (nI k) 300 (bnd (sa v 7 k x) fun u18 => some u18) = some (sa v 7 k x) ∧ ko [1, 2, 3] [7] u (sa v 7 k x) ∧ (∀ a j, j ≠ k → (sa v 7 k x).2 a j = u.2 a j) := by
    intro v x hv
    refine ⟨by rw [gd_in (by omega) (by decide)]; rfl, ko_tr (ko_mono hv (fun _ h => h) (fun _ h => by cases h)) (ko_sa (by decide)), fun a j hj => ?_⟩
    rw [sa_ne hj, hv.2 a (by simp)]
  have fB : ∀ (v : St) (x : Int32) (r w : Nat), XB N r w v → XB N r w (sa v 7 k x) := fun v x r w h => XB_ko (s := []) (t := [7]) h (ko_sa (by decide)) (by decide) (by decide)
  unfold f_P_linkClass sLk1_o
  rw [if_pos h7, gd_in (by omega) (by decide), ncl (by omega), p1, nI_1, refer_1 hO hF h6 hc hT (by omega), cI_s]
  have hlt : n2 F (B k + 1) < 65536 := by unfold n2; rw [← hF]; exact be_lt (fun j => by8_lt _ _) _ 2
  unfold bkC
  generalize n2 F (B k + 1) = t at hlt ⊢
  by_cases q : isK c K t 1 = true
  · rw [if_pos q, pb_s (pn_s q)]
    obtain ⟨q1, q2, q3⟩ := isK_t.mp q
    obtain ⟨s1, s2, s3, s4, s5, s6⟩ := hT t q1 q2
    obtain ⟨r1, r2⟩ := s5 (by omega)
    have hXI := XI_o hO h6 hc
    have hb := brackets_eq hXI ⟨q1, q2⟩ r1 (by rw [hF]; exact r2.2.1 q3)
    rw [hF] at hb
    have hb' : f_P_bracketsOf u (nI t) = some (nI (br F (tn F B t) (ta B t)), u) := hb
    have hbl := br_le F (tn F B t) (ta B t)
    have hnl : tn F B t < 65536 := by unfold tn; rw [← hF]; exact be_lt (fun j => by8_lt _ _) _ 2
    have hf : f_P_factsOf u (nI t) = some (fcv_o F (tn F B t) (ta B t), u) := by
      rw [factsOf_eq hXI hlt, if_pos ⟨q1, q2⟩, s3, nfs_o, if_pos ⟨q2, q3⟩]
    rw [hb', cI_s, bnd_s, hf, cI_s, bnd_s]
    have hbp := @br_pos F B t
    generalize br F (tn F B t) (ta B t) = b at hbl hbp ⊢
    by_cases d : hdT F B 91 t = true
    · have hb0 := hbp.mpr d
      rw [if_neg (show ¬ nI b ≤ 0 from nI_nle hb0 (by omega)), if_pos d]
      by_cases e1 : (fdT F B t).isSome = true
      · have e1' : ¬ (fcv_o F (tn F B t) (ta B t) &&& 16 = 0) := fun z => by rw [(fc_16_o F B t).mp z] at e1; cases e1
        rw [if_neg e1', nd_t (by decide), cV_s, pb_s (pn_s e1), if_neg (nI_ne0 hb0 (by omega)), hf, cI_s]
        have hds : dsT_o F B t = fdT F B t := by
          unfold dsT_o
          rw [if_neg]
          intro z
          unfold hdT at z d
          simp only [Bool.and_eq_true, decide_eq_true_eq, beq_iff_eq] at z d
          omega
        by_cases e2 : (fdT F B t != some true) = true
        · rw [if_pos ((fc_64_o F B t).mpr (by rw [hds]; exact e2)), cT_s]
          dsimp only
          rw [nd_t (by decide), cV_s, pn_s e2]
          obtain ⟨b1, b2, b3⟩ := fin u (nI b) ko_rf
          exact ⟨_, b1, b2, b3, XO_ko (s := []) (t := [7]) hO (ko_sa (by decide)) (by decide) (by decide), by rw [sa_a, if_pos rfl, upd, if_pos rfl], hat⟩
        · have e2' : (fdT F B t != some true) = false := by simpa using e2
          rw [if_neg (fun z => e2 (by rw [← hds]; exact (fc_64_o F B t).mp z)), cT_s]
          dsimp only
          rw [nd_12 hO, cV_s, pn_x e2']
          obtain ⟨b1, b2, b3⟩ := fin (brk u 12 (B k + 1)) (nI b) brk_ko
          exact ⟨_, b1, b2, b3, fB _ _ 12 _ (brk_B hO (by decide) (by decide))⟩
      · have e1' : (fdT F B t).isSome = false := by simpa using e1
        have hB : XB N 9 (B k + 1) (brk u 9 (B k + 1)) := brk_B hO (by decide) (by decide)
        rw [if_pos ((fc_16_o F B t).mpr e1'), nd_9 hO, cV_s, pb_x (pn_x e1'), if_neg (nI_ne0 hb0 (by omega))]
        obtain ⟨x, hx⟩ := fact_x (XI_b hB h6 hc) hlt
        rw [hx, cI_s]
        obtain ⟨b1, b2, b3⟩ := fin (brk u 9 (B k + 1)) (nI b) brk_ko
        by_cases z : x &&& 64 = 0
        · rw [if_pos z, cT_s]
          dsimp only
          rw [nd_b hB, cV_s]
          exact ⟨_, b1, b2, b3, fB _ _ 9 _ hB⟩
        · rw [if_neg z, cT_s]
          dsimp only
          rw [nd_b hB, cV_s]
          exact ⟨_, b1, b2, b3, fB _ _ 9 _ hB⟩
    · have hb0 : b = 0 := by
        by_cases z : 0 < b
        · exact absurd (hbp.mp z) d
        · omega
      subst hb0
      rw [if_pos (show nI 0 ≤ 0 by decide), if_neg d]
      by_cases e1 : cnT F B t = true
      · have e1' : ¬ (fcv_o F (tn F B t) (ta B t) &&& 2 = 0) := fun z => by rw [(fc_2_o F B t).mp z] at e1; cases e1
        rw [if_neg e1', nd_t (by decide), cV_s, pn_s e1, if_pos nI_0, cT_s]
        dsimp only
        rw [nd_t (by decide), cV_s]
        obtain ⟨b1, b2, b3⟩ := fin u (nI 0) ko_rf
        exact ⟨_, b1, b2, b3, XO_ko (s := []) (t := [7]) hO (ko_sa (by decide)) (by decide) (by decide), by rw [sa_a, if_pos rfl, upd, if_pos rfl], hat⟩
      · have e1' : cnT F B t = false := by simpa using e1
        have hB : XB N 9 (B k + 1) (brk u 9 (B k + 1)) := brk_B hO (by decide) (by decide)
        rw [if_pos ((fc_2_o F B t).mpr e1'), nd_9 hO, cV_s, pn_x e1', if_pos nI_0, cT_s]
        dsimp only
        rw [nd_b hB, cV_s]
        obtain ⟨b1, b2, b3⟩ := fin (brk u 9 (B k + 1)) (nI 0) brk_ko
        exact ⟨_, b1, b2, b3, fB _ _ 9 _ hB⟩
  · have q' : isK c K t 1 = false := by simpa using q
    have hB : XB N 8 (B k + 1) (brk u 8 (B k + 1)) := brk_B hO (by decide) (by decide)
    have hXB : XI N c (brk u 8 (B k + 1)) := XI_b hB h6 hc
    obtain ⟨b, hbl, hb⟩ := brackets_any hXB hlt
    obtain ⟨x, hx⟩ := fact_x hXB hlt
    rw [if_neg q, pb_x (pn_x q'), hb, cI_s, bnd_s, hx, cI_s, bnd_s, nd_b hB, cV_s]
    obtain ⟨b1, b2, b3⟩ := fin (brk u 8 (B k + 1)) (nI b) brk_ko
    by_cases z : nI b = 0
    · rw [if_pos z, cT_s]
      dsimp only
      rw [nd_b hB, cV_s]
      exact ⟨_, b1, b2, b3, fB _ _ 8 _ hB⟩
    · rw [if_neg z, hx, cI_s]
      by_cases z2 : x &&& 64 = 0
      · rw [if_pos z2, cT_s]
        dsimp only
        rw [nd_b hB, cV_s]
        exact ⟨_, b1, b2, b3, fB _ _ 8 _ hB⟩
      · rw [if_neg z2, cT_s]
        dsimp only
        rw [nd_b hB, cV_s]
        exact ⟨_, b1, b2, b3, fB _ _ 8 _ hB⟩

/-! WHAT THE CLASS NOTES of its texts -/
def TabG (F : Nat → Nat) (N c : Nat) (K B : Nat → Nat) (fs ms : Nat → Int32) (u : St) : Prop := ∀ t, 1 ≤ t → t < c → u.2 4 t = nI (K t) ∧ K t < 256 ∧ u.2 6 t = fs t ∧ u.2 7 t = ms t ∧ (K t ≠ 0 → u.2 5 t = nI (B t) ∧ ext F N (K t) (B t)) ∧ (K t = 1 → u.2 8 t = hs F (tn F B t) (ta B t) 0)
theorem Tab_G {F : Nat → Nat} {N c : Nat} {K B : Nat → Nat} {u : St} (h : Tab F N c K B u) : TabG F N c K B (fun _ => 0) (fun _ => 0) u := by
  intro t h1 h2
  rcases h t h1 h2 with ⟨a1, a2, a3, a4⟩ | ⟨a0, a1, a2, a3, a4, a5, a6⟩
  · exact ⟨by rw [a1, a2]; rfl, by omega, a3, a4, fun z => absurd a1 z, fun z => by omega⟩
  · exact ⟨a1, a0, a3, a4, fun _ => ⟨a2, a6⟩, a5⟩
/-- the facts of a name -/
def nmv (F : Nat → Nat) (n a : Nat) : Int32 := if isW F 1 n a then 8 else if isW F 0 n a then 4 else if cn F n a false then (if pl F n a then 3 else 2) else 0
def fcv_o (F : Nat → Nat) (n a : Nat) : Int32 := nmv F n a ||| (tfR_o F n a &&& 255)
def msv (F : Nat → Nat) (n a : Nat) : Int32 := tfR F n a >>> (8 &&& 31)
def msv_o (F : Nat → Nat) (n a : Nat) : Int32 := tfR_o F n a >>> (8 &&& 31)
theorem noteText_eq_o {N c k p : Nat} {u : St} (h : XI N c u) (hk : 1 ≤ k ∧ k < c) (hp : u.2 5 k = nI p) (hN : p + 3 + be (xF u) (p + 1) 2 ≤ N) : f_P_noteText u (nI k) = some (sa (sa u 6 k (fcv_o (xF u) (be (xF u) (p + 1) 2) (p + 3))) 7 k (msv_o (xF u) (be (xF u) (p + 1) 2) (p + 3))) := by
  have h4 := h.1
  have hc := h.2.2.2.2
  have hb := h.2.2.1
  unfold f_P_noteText
  rw [gd_in (by omega) (by decide), firstOf_eq h hk hp (by omega), cI_s, ncl (by omega), hp, show nI p + 3 = nI (p + 3) from nI_add p 3, nI_add, h.2.1]
  have hs0 := spells_eq h hk (j := 0) (by decide) hp hN
  have hs1 := spells_eq h hk (j := 1) (by decide) hp hN
  generalize be (xF u) (p + 1) 2 = n at hN hs0 hs1 ⊢
  rw [if_neg (nI_nlt hN (by omega)), typeFacts_eq_o hb (by omega), cI_s, name_eq hb (by omega), cI_s, hs0, cI_s, bnd_s, hs1, cI_s, bnd_s]
  unfold f_D_withoutSlots f_D_slotsOf
  rw [cI_s, gd_in (by omega) (by decide), bnd_s, cI_s, gd_in (by omega) (by decide), bnd_s]
  have en : (if (if isW (xF u) 1 n (p + 3) = true then (1 : Int32) else 0) = 0 then (if (if isW (xF u) 0 n (p + 3) = true then (1 : Int32) else 0) = 0 then (if cn (xF u) n (p + 3) false = true then (if pl (xF u) n (p + 3) = true then (3 : Int32) else 2) else 0) else 4) else 8) = nmv (xF u) n (p + 3) := by
    unfold nmv
    by_cases a : isW (xF u) 1 n (p + 3) = true <;> by_cases b : isW (xF u) 0 n (p + 3) = true <;> simp [a, b]
  rw [en]
  rfl
theorem noteB {N r w : Nat} {u : St} (h : XB N r w u) : f_P_noteTexts u = some u := by
  unfold f_P_noteTexts
  rw [show FU = 69999 + 1 from rfl, f_P_noteTexts_L2]
  by_cases c1 : u.1 6 ≤ 1
  · rw [if_pos c1, cT_s]
  · rw [if_neg c1, snd_b h, cI_s, if_pos rfl, cT_s]
def nfs_o (F : Nat → Nat) (K B : Nat → Nat) (k : Nat) : Nat → Int32 := fun t => if t < k ∧ K t = 1 then fcv_o F (tn F B t) (ta B t) else 0
def nms_o (F : Nat → Nat) (K B : Nat → Nat) (k : Nat) : Nat → Int32 := fun t => if t < k ∧ K t = 1 then msv_o F (tn F B t) (ta B t) else 0
theorem noteL_eq_o {N c i : Nat} (F : Nat → Nat) (K B : Nat → Nat) (hc : c ≤ 300) : ∀ (m k g : Nat) (u : St), k + m = c → m < g → 1 ≤ k → XO N i u → xF u = F → u.1 6 = nI c → TabG F N c K B (nfs_o F K B k) (nms_o F K B k) u → ∃ u', f_P_noteTexts_L2 g u (nI k) = some u' ∧ ko [] [6, 7] u u' ∧ TabG F N c K B (nfs_o F K B c) (nms_o F K B c) u' := by
  intro m
  induction m with
  | zero =>
    intro k g u h1 h2 h3 hO hF h6 hT
    cases g with
    | zero => omega
    | succ g =>
      rw [f_P_noteTexts_L2, h6, if_pos (nI_le (by omega) (by omega))]
      have : k = c := by omega
      subst this
      exact ⟨u, rfl, ko_rf, hT⟩
  | succ m ih =>
    intro k g u h1 h2 h3 hO hF h6 hT
    cases g with
    | zero => omega
    | succ g =>
      obtain ⟨t1, t2, t3, t4, t5, t6⟩ := hT k h3 (by omega)
      rw [f_P_noteTexts_L2, h6, if_neg (nI_ge (by omega) (by omega)), snd_o hO, cI_s, if_neg (by decide), gd_in (by omega) (by decide), ncl (by omega), t1]
      by_cases d : K k = 1
      · rw [if_pos (by rw [d]; rfl)]
        obtain ⟨p1, p2⟩ := t5 (by omega)
        have hXI : XI N c u := ⟨hO.1, hO.2.1, hO.2.2.1, h6, hc⟩
        have hx := p2.2.1 d
        have e := noteText_eq_o hXI ⟨h3, by omega⟩ p1 (by rw [hF]; exact hx)
        rw [hF] at e
        rw [e, cV_s, cT_s, nI_1]
        obtain ⟨v, hv⟩ : ∃ v, v = sa (sa u 6 k (fcv_o F (be F (B k + 1) 2) (B k + 3))) 7 k (msv_o F (be F (B k + 1) 2) (B k + 3)) := ⟨_, rfl⟩
        rw [← hv]
        have kv : ko [] [6, 7] u v := by rw [hv]; exact ko_tr (ko_sa (by decide)) (ko_sa (by decide))
        have jv : ∀ a j, j ≠ k → v.2 a j = u.2 a j := by
          intro a j hj
          rw [hv, sa_ne hj, sa_ne hj]
        have tv : v.2 6 k = fcv_o F (be F (B k + 1) 2) (B k + 3) ∧ v.2 7 k = msv_o F (be F (B k + 1) 2) (B k + 3) := by
          rw [hv]
          simp [sa_a, upd]
        clear hv
        have hT' : TabG F N c K B (nfs_o F K B (k + 1)) (nms_o F K B (k + 1)) v := by
          intro t q1 q2
          obtain ⟨s1, s2, s3, s4, s5, s6⟩ := hT t q1 q2
          by_cases tk : t = k
          · subst tk
            refine ⟨by rw [kv.2 4 (by decide)]; exact s1, s2, ?_, ?_, fun z => by rw [kv.2 5 (by decide)]; exact s5 z, fun z => by rw [kv.2 8 (by decide)]; exact s6 z⟩
            · rw [tv.1, nfs_o, if_pos ⟨by omega, d⟩]; rfl
            · rw [tv.2, nms_o, if_pos ⟨by omega, d⟩]; rfl
          · refine ⟨by rw [jv _ _ tk]; exact s1, s2, ?_, ?_, fun z => by rw [jv _ _ tk]; exact s5 z, fun z => by rw [jv _ _ tk]; exact s6 z⟩
            · rw [jv _ _ tk, s3]
              unfold nfs_o
              have : (t < k ∧ K t = 1) ↔ (t < k + 1 ∧ K t = 1) := by omega
              simp only [this]
            · rw [jv _ _ tk, s4]
              unfold nms_o
              have : (t < k ∧ K t = 1) ↔ (t < k + 1 ∧ K t = 1) := by omega
              simp only [this]
        obtain ⟨u', g1, g2, g3⟩ := ih (k + 1) g v (by omega) (by omega) (by omega) (XO_ko hO kv (by decide) (by decide)) ((ko_F kv (by decide)).trans hF) ((kv.1 6 (by decide)).trans h6) hT'
        exact ⟨u', g1, ko_tr kv g2, g3⟩
      · rw [if_neg (fun z => d ((nq (by omega) 1 (by decide)).mp z)), cT_s, nI_1]
        have hT' : TabG F N c K B (nfs_o F K B (k + 1)) (nms_o F K B (k + 1)) u := by
          intro t q1 q2
          obtain ⟨s1, s2, s3, s4, s5, s6⟩ := hT t q1 q2
          have : (t < k ∧ K t = 1) ↔ (t < k + 1 ∧ K t = 1) := by
            constructor
            · intro z; exact ⟨by omega, z.2⟩
            · intro z
              refine ⟨?_, z.2⟩
              have : t ≠ k := fun e => d (e ▸ z.2)
              omega
          refine ⟨s1, s2, ?_, ?_, s5, s6⟩
          · rw [s3]; unfold nfs_o; simp only [this]
          · rw [s4]; unfold nms_o; simp only [this]
        exact ih (k + 1) g u (by omega) (by omega) (by omega) hO hF h6 hT'
theorem noteTexts_eq_o {N c i : Nat} {u : St} (F : Nat → Nat) (K B : Nat → Nat) (hc1 : 1 ≤ c) (hc : c ≤ 300) (hO : XO N i u) (hF : xF u = F) (h6 : u.1 6 = nI c) (hT : Tab F N c K B u) : ∃ u', f_P_noteTexts u = some u' ∧ ko [] [6, 7] u u' ∧ TabG F N c K B (nfs_o F K B c) (nms_o F K B c) u' := by
  unfold f_P_noteTexts
  have hT0 : TabG F N c K B (nfs_o F K B 1) (nms_o F K B 1) u := by
    intro t h1 h2
    obtain ⟨s1, s2, s3, s4, s5, s6⟩ := Tab_G hT t h1 h2
    exact ⟨s1, s2, by rw [s3, nfs_o, if_neg (by omega)], by rw [s4, nms_o, if_neg (by omega)], s5, s6⟩
  obtain ⟨u', g1, g2, g3⟩ := noteL_eq_o F K B hc (c - 1) 1 FU u (by omega) (by unfold FU; omega) (by omega) hO hF h6 hT0
  have g1' : f_P_noteTexts_L2 FU u 1 = some u' := g1
  rw [g1', cT_s]
  exact ⟨u', rfl, g2, g3⟩

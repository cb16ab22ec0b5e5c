/-! ENTRIES, one and all, in the class -/
theorem nq {a : Nat} (ha : a < 2 ^ 31) (c : Nat) (hc : c < 2 ^ 31) : nI a = (OfNat.ofNat c : Int32) ↔ a = c := nI_eq ha hc
/-- what an entry of a kind holds of the file -/
def ext (F : Nat → Nat) (N kd b : Nat) : Prop := b ≤ N ∧ (kd = 1 → b + 3 + be F (b + 1) 2 ≤ N) ∧ (kd = 7 ∨ kd = 8 → b + 3 ≤ N) ∧ (kd = 9 ∨ kd = 10 ∨ kd = 11 ∨ kd = 12 → b + 5 ≤ N)
/-- what the tables have of entry t -/
def row (F : Nat → Nat) (N : Nat) (u : St) (t kd b : Nat) : Prop := kd < 256 ∧ u.2 4 t = nI kd ∧ u.2 5 t = nI b ∧ u.2 6 t = 0 ∧ u.2 7 t = 0 ∧ (kd = 1 → u.2 8 t = hs F (be F (b + 1) 2) (b + 3) 0) ∧ ext F N kd b
theorem readEntry_eq {N i k c : Nat} {u : St} (F : Nat → Nat) (hO : XO N i u) (hF : xF u = F) (hk : k < 300) (h6 : u.1 6 = nI c) (hc : c ≤ 300) : ∃ u', f_P_readEntry u (nI k) = some u' ∧ ko [1, 2, 3] [4, 5, 6, 7, 8] u u' ∧ (∀ a j, j ≠ k → u'.2 a j = u.2 a j) ∧ XR N (sEnt F N c k i i) (fun kd => row F N u' k kd i) u' := by
  have hN := hO.1
  have hat : u.1 1 = nI i := hO.2.2.2.2.1
  have hFl : F i < 256 := by rw [← hF]; exact by8_lt _ _
  have hiN := hO.2.2.2.2.2
  unfold f_P_readEntry
  obtain ⟨x, hx, hxe⟩ : ∃ x, f_W_numberAt u (u.1 1) 1 = some (x, u) ∧ (i + 1 ≤ N → x = nI (F i)) := by
    by_cases c1 : i + 1 ≤ N
    · refine ⟨nI (F i), ?_, fun _ => rfl⟩
      rw [hat, show (1 : Int32) = nI 1 from rfl, num_in u hO.2.1 hN (by decide) c1, be1, hF]
    · refine ⟨0, ?_, fun h => absurd h c1⟩
      rw [hat, show (1 : Int32) = nI 1 from rfl, num_out u hO.2.1 hN (by decide) (by omega) c1]
  rw [hx, cI_s, clear_eq hk, cV_s, hat]
  -- behind clear
  obtain ⟨v, hv⟩ : ∃ v, v = sa (sa (sa (sa u 4 k x) 5 k (nI i)) 6 k 0) 7 k 0 := ⟨_, rfl⟩
  rw [← hv]
  have kv : ko [1, 2, 3] [4, 5, 6, 7, 8] u v := by
    rw [hv]
    exact ko_tr (ko_tr (ko_tr (ko_sa (by decide)) (ko_sa (by decide))) (ko_sa (by decide))) (ko_sa (by decide))
  have kv0 : ko [] [4, 5, 6, 7] u v := by
    rw [hv]
    exact ko_tr (ko_tr (ko_tr (ko_sa (by decide)) (ko_sa (by decide))) (ko_sa (by decide))) (ko_sa (by decide))
  have jv : ∀ a j, j ≠ k → v.2 a j = u.2 a j := by
    intro a j hj
    rw [hv, sa_ne hj, sa_ne hj, sa_ne hj, sa_ne hj]
  have tv : v.2 4 k = x ∧ v.2 5 k = nI i ∧ v.2 6 k = 0 ∧ v.2 7 k = 0 := by
    rw [hv]
    simp [sa_a, upd]
  have hOv : XO N i v := XO_ko hO kv0 (by decide) (by decide)
  have hFv : xF v = F := (ko_F kv0 (by decide)).trans hF
  have h6v : v.1 6 = nI c := (kv0.1 6 (by decide)).trans h6
  clear hv
  -- what later steps keep
  have keep : ∀ (w : St), ko [1, 2, 3] [] v w → ko [1, 2, 3] [4, 5, 6, 7, 8] u w ∧ (∀ a j, j ≠ k → w.2 a j = u.2 a j) ∧ w.2 4 k = x ∧ w.2 5 k = nI i ∧ w.2 6 k = 0 ∧ w.2 7 k = 0 := by
    intro w hw
    have e : ∀ a, w.2 a = v.2 a := fun a => hw.2 a (by simp)
    exact ⟨ko_tr kv (ko_mono hw (fun _ h => h) (fun _ h => by cases h)), fun a j hj => by rw [e]; exact jv a j hj, by rw [e]; exact tv.1, by rw [e]; exact tv.2.1, by rw [e]; exact tv.2.2.1, by rw [e]; exact tv.2.2.2⟩
  unfold sEnt
  by_cases c1 : i + 1 ≤ N
  · have hx1 := hxe c1
    subst hx1
    rw [nx_o1 hOv c1, cI_s, pb_s (pu_s c1), be1, be1, hFv]
    have hO1 : XO N (i + 1) (sv v 1 (nI (i + 1))) := XO_at hOv c1
    have hF1 : xF (sv v 1 (nI (i + 1))) = F := hFv
    have hk1 : ko [1, 2, 3] [] v (sv v 1 (nI (i + 1))) := ko_sv (by decide)
    have h61 : (sv v 1 (nI (i + 1))).1 6 = nI c := h6v
    generalize sv v 1 (nI (i + 1)) = v1 at hO1 hF1 hk1 h61 ⊢
    obtain ⟨kd, hkd⟩ : ∃ kd, kd = F i := ⟨_, rfl⟩
    rw [← hkd] at hFl tv keep ⊢
    have q : ∀ c, c < 2 ^ 31 → (nI kd = (OfNat.ofNat c : Int32) ↔ kd = c) := fun c hc => nq (by omega) c hc
    by_cases d1 : kd = 1
    · rw [if_pos ((q 1 (by decide)).mpr d1), if_pos d1]
      obtain ⟨u', e1, e2, e3, e4⟩ := readText_eq F hO1 hF1 hk
      rw [e1, cV_s, cT_s]
      refine ⟨u', rfl, ?_, ?_, ?_⟩
      · exact ko_tr kv (ko_tr (ko_mono hk1 (fun _ h => h) (fun _ h => by cases h)) (ko_mono e2 (fun _ h => h) (by decide)))
      · intro a j hj
        by_cases ha : a = 8
        · subst ha
          rw [e3 j hj, hk1.2 8 (by decide)]
          exact jv 8 j hj
        · rw [e2.2 a (by simp [ha]), hk1.2 a (by simp)]
          exact jv a j hj
      · cases hres : (pb pa fun z => pb (pu F N 2) fun n => sTxt F N z n 0 0 0) (i + 1) with
        | ok qq =>
          rw [hres] at e4
          rw [pb_s (a := qq.1) (j := qq.2) hres]
          obtain ⟨a1, a2, a3⟩ := e4
          refine ⟨a1, hFl, ?_, ?_, ?_, ?_, fun _ => a2, ?_⟩
          · rw [e2.2 4 (by decide), hk1.2 4 (by decide)]; exact tv.1
          · rw [e2.2 5 (by decide), hk1.2 5 (by decide)]; exact tv.2.1
          · rw [e2.2 6 (by decide), hk1.2 6 (by decide)]; exact tv.2.2.1
          · rw [e2.2 7 (by decide), hk1.2 7 (by decide)]; exact tv.2.2.2
          · have hlt : be F (i + 1) 2 < 65536 := by rw [← hF]; exact be_lt (fun j => by8_lt _ _) _ 2
            have a4 := a1.2.2.2.2.1.symm.trans a3
            have a5 := a1.2.2.2.2.2
            rw [nI_eq (by omega) (by omega)] at a4
            exact ⟨hO.2.2.2.2.2, fun _ => by omega, fun z => by omega, fun z => by omega⟩
        | error er =>
          rw [hres] at e4
          rw [pb_x hres]
          exact e4
    · rw [if_neg (fun z => d1 ((q 1 (by decide)).mp z)), if_neg d1]
      have mk : ∀ (w : St) (j : Nat), ko [1, 2, 3] [] v1 w → XO N j w → ext F N kd i → ∃ u', some w = some u' ∧ ko [1, 2, 3] [4, 5, 6, 7, 8] u u' ∧ (∀ a j, j ≠ k → u'.2 a j = u.2 a j) ∧ XR N (.ok (kd, j)) (fun kd => row F N u' k kd i) u' := by
        intro w j hw hOw he
        obtain ⟨g1, g2, g3, g4, g5, g6⟩ := keep w (ko_tr hk1 hw)
        exact ⟨w, rfl, g1, g2, hOw, hFl, g3, g4, g5, g6, fun z => absurd z d1, he⟩
      have mkB : ∀ (w : St) (r p : Nat), ko [1, 2, 3] [] v1 w → XB N r p w → ∃ u', some w = some u' ∧ ko [1, 2, 3] [4, 5, 6, 7, 8] u u' ∧ (∀ a j, j ≠ k → u'.2 a j = u.2 a j) ∧ XR N (α := Nat) (.error (r, p)) (fun kd => row F N u' k kd i) u' := by
        intro w r p hw hBw
        obtain ⟨g1, g2, -⟩ := keep w (ko_tr hk1 hw)
        exact ⟨w, rfl, g1, g2, hBw⟩
      by_cases d2 : kd = 3 ∨ kd = 9 ∨ kd = 10 ∨ kd = 11 ∨ kd = 12
      · rw [if_pos (by rw [q 3 (by decide), q 9 (by decide), q 10 (by decide), q 11 (by decide), q 12 (by decide)]; exact d2), if_pos d2]
        by_cases c2 : i + 1 + 4 ≤ N
        · rw [nx_o4 hO1 c2, cI_s, cT_s, pb_s (a := ()) (j := i + 1 + 4) (by rw [pb_s (pu_s c2)]; rfl)]
          exact mk _ _ (ko_sv (by decide)) (XO_at hO1 c2) ⟨hiN, fun z => by omega, fun z => by omega, fun z => by omega⟩
        · rw [nx_e4 hO1 c2, cI_s, cT_s, pb_x (e := (1, N)) (by rw [pb_x (pu_x c2)])]
          exact mkB _ _ _ brk_ko (brk_B hO1 (by decide) (by decide))
      · rw [if_neg (by rw [q 3 (by decide), q 9 (by decide), q 10 (by decide), q 11 (by decide), q 12 (by decide)]; exact d2), if_neg d2]
        by_cases d3 : kd = 5
        · rw [if_pos ((q 5 (by decide)).mpr d3), if_pos d3]
          by_cases c2 : i + 1 + 8 ≤ N
          · obtain ⟨y, hy⟩ := nx_o8 hO1 c2
            rw [hy, cI_s, bnd_s]
            have hO2 : XO N (i + 1 + 8) (sv v1 1 (nI (i + 1 + 8))) := XO_at hO1 c2
            have e6 : (sv v1 1 (nI (i + 1 + 8))).1 6 = nI c := h61
            rw [e6, nI_1]
            by_cases c3 : k + 1 < c
            · rw [if_neg (nI_ge c3 (by omega)), nd_t (by decide), cV_s, cT_s, pb_s (a := ()) (j := i + 1 + 8) (by rw [pb_s (pu_s c2)]; exact pn_s (by simpa using c3))]
              exact mk _ _ (ko_sv (by decide)) hO2 ⟨hiN, fun z => by omega, fun z => by omega, fun z => by omega⟩
            · rw [if_pos (nI_le (by omega) (by omega)), nd_4 hO2, cV_s, cT_s, pb_x (e := (4, i)) (by rw [pb_s (pu_s c2)]; exact pn_x (by simpa using c3))]
              exact mkB _ _ _ (ko_tr (ko_sv (by decide)) brk_ko) (brk_B hO2 (by decide) (by decide))
          · rw [nx_e8 hO1 c2, cI_s, bnd_s, nd_b (brk_B hO1 (by decide) (by decide) : XB N 1 N _), cV_s, cT_s, pb_x (e := (1, N)) (by rw [pb_x (pu_x c2)])]
            exact mkB _ _ _ brk_ko (brk_B hO1 (by decide) (by decide))
        · rw [if_neg (fun z => d3 ((q 5 (by decide)).mp z)), if_neg d3]
          by_cases d4 : kd = 7 ∨ kd = 8
          · rw [if_pos (by rw [q 7 (by decide), q 8 (by decide)]; exact d4), if_pos d4]
            by_cases c2 : i + 1 + 2 ≤ N
            · rw [nx_o2 hO1 c2, cI_s, cT_s, pb_s (a := ()) (j := i + 1 + 2) (by rw [pb_s (pu_s c2)]; rfl)]
              exact mk _ _ (ko_sv (by decide)) (XO_at hO1 c2) ⟨hiN, fun z => by omega, fun z => by omega, fun z => by omega⟩
            · rw [nx_e2 hO1 c2, cI_s, cT_s, pb_x (e := (1, N)) (by rw [pb_x (pu_x c2)])]
              exact mkB _ _ _ brk_ko (brk_B hO1 (by decide) (by decide))
          · rw [if_neg (by rw [q 7 (by decide), q 8 (by decide)]; exact d4), if_neg d4, bnd_s]
            by_cases d5 : kd = 4 ∨ kd = 6 ∨ (15 ≤ kd ∧ kd ≤ 20)
            · have ez : (if nI kd = 4 then (0 : Int32) else if nI kd = 6 then 0 else if nI kd < 15 then 1 else if nI kd ≤ 20 then 0 else 1) = 0 := by
                by_cases z1 : kd = 4
                · rw [if_pos ((q 4 (by decide)).mpr z1)]
                · rw [if_neg (fun z => z1 ((q 4 (by decide)).mp z))]
                  by_cases z2 : kd = 6
                  · rw [if_pos ((q 6 (by decide)).mpr z2)]
                  · rw [if_neg (fun z => z2 ((q 6 (by decide)).mp z)), if_neg (show ¬ nI kd < 15 from nI_nlt (b := 15) (by omega) (by omega)), if_pos (show nI kd ≤ 20 from nI_le (b := 20) (by omega) (by decide))]
              have hB : XB N 7 i (brk v1 7 i) := brk_B hO1 (by decide) (by decide)
              rw [ez, nd_7 hO1, cV_s, nd_b hB, cV_s, cT_s, if_pos d5, pb_x (e := (7, i)) rfl]
              exact mkB _ _ _ brk_ko hB
            · have ez : (if nI kd = 4 then (0 : Int32) else if nI kd = 6 then 0 else if nI kd < 15 then 1 else if nI kd ≤ 20 then 0 else 1) = 1 := by
                rw [if_neg (fun z => d5 (Or.inl ((q 4 (by decide)).mp z))), if_neg (fun z => d5 (Or.inr (Or.inl ((q 6 (by decide)).mp z))))]
                by_cases z1 : kd < 15
                · rw [if_pos (show nI kd < 15 from nI_lt (b := 15) z1 (by decide))]
                · rw [if_neg (show ¬ nI kd < 15 from nI_nlt (b := 15) (by omega) (by omega)), if_neg (show ¬ nI kd ≤ 20 from nI_ge (a := 20) (by omega) (by omega))]
              rw [ez, nd_t (by decide), cV_s, nd_6 hO1, cV_s, cT_s, if_neg d5, pb_x (e := (6, i)) rfl]
              exact mkB _ _ _ brk_ko (brk_B hO1 (by decide) (by decide))
  · rw [nx_e1 hOv c1, cI_s, pb_x (pu_x c1)]
    have hB : XB N 1 N (brk v 1 N) := brk_B hOv (by decide) (by decide)
    have hkb : ko [1, 2, 3] [] v (brk v 1 N) := brk_ko
    rw [if_neg (by decide), if_neg (by decide), if_neg (by decide), if_neg (by decide), bnd_s, nd_b hB, cV_s, nd_b hB, cV_s, cT_s]
    obtain ⟨g1, g2, -⟩ := keep _ hkb
    exact ⟨_, rfl, g1, g2, hB⟩

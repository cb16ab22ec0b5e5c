/-! THE REFERENCE: CODE as a whole, values, thrown ones -/
section MAL
variable {F : Nat → Nat} {N c i r w ver : Nat} {K B : Nat → Nat} {z u : St}
theorem last_m {op : Nat} (h : op < 256) : (if nI op = 167 then (1 : Int32) else (if nI op = 200 then (1) else (if nI op = 170 then (1) else (if nI op = 171 then (1) else (if nI op = 172 then (1) else (if nI op = 173 then (1) else (if nI op = 176 then (1) else (if nI op = 177 then (1) else (if nI op = 191 then (1) else (0)))))))))) = if lasts op then 1 else 0 := by
  have key : ∀ op : Fin 256, (if nI op.val = 167 then (1 : Int32) else (if nI op.val = 200 then (1) else (if nI op.val = 170 then (1) else (if nI op.val = 171 then (1) else (if nI op.val = 172 then (1) else (if nI op.val = 173 then (1) else (if nI op.val = 176 then (1) else (if nI op.val = 177 then (1) else (if nI op.val = 191 then (1) else (0)))))))))) = if lasts op.val then 1 else 0 := by decide +kernel
  exact key ⟨op, h⟩
theorem rngJ {s : Nat} (hs : s < 2 ^ 32) : (if (lg_cmp (Int64.ofNat s) 1) < 0 then (0 : Int32) else (if 0 < (lg_cmp (Int64.ofNat s) 2000) then (0) else (1))) = 0 ↔ (decide (1 ≤ s) && decide (s ≤ 2000)) = false := by
  have g1 : (lg_cmp (Int64.ofNat s) 1 < 0) = (s < 1) := by
    apply propext
    rw [lg_cmp_lt, Int64.lt_iff_toInt_lt, j_toInt hs, show (1 : Int64).toInt = 1 from rfl]
    omega
  have g2 : (0 < lg_cmp (Int64.ofNat s) 2000) = (2000 < s) := by
    apply propext
    rw [lg_cmp_gt, Int64.lt_iff_toInt_lt, j_toInt hs, show (2000 : Int64).toInt = 2000 from rfl]
    omega
  simp only [g1, g2]
  by_cases a1 : s < 1
  · rw [if_pos a1, decide_eq_false (by omega)]; exact ⟨fun _ => rfl, fun _ => rfl⟩
  · rw [if_neg a1, decide_eq_true (by omega), Bool.true_and]
    by_cases a2 : 2000 < s
    · rw [if_pos a2, decide_eq_false (by omega)]; exact ⟨fun _ => rfl, fun _ => rfl⟩
    · rw [if_neg a2, decide_eq_true (by omega)]; exact ⟨fun q => absurd q (by decide), fun q => by cases q⟩
/-- what the CODE leaves, in the reference -/
def CDm (k : Nat) (t1 t2 t3 t4 : Nat) (q : Cd) (u v : St) : Prop := v.1 12 = nI (t1 + q.2.2.1) ∧ v.1 13 = nI (t2 + q.2.2.2.1) ∧ v.1 14 = nI (t3 + q.2.2.2.2.1) ∧ v.1 15 = nI (t4 + q.2.2.2.2.2) ∧ v.2 3 (6 * k + 2) = nI q.1 ∧ v.2 3 (6 * k + 3) = nI q.2.1 ∧ v.2 3 (6 * k + 4) = nI q.2.2.1 ∧ ∀ j, j ≠ 6 * k + 2 → j ≠ 6 * k + 3 → j ≠ 6 * k + 4 → v.2 3 j = u.2 3 j
theorem b_hd (h : RB N r w z u) : f_M_handlers u = some u := by
  unfold f_M_handlers
  rw [u2_b h, cI_s, bnd_s, must_b h, cI_s, show FU = 69999 + 1 from rfl, f_M_handlers_L31, if_pos (by decide)]
theorem code_m {f k sl t1 t2 t3 t4 : Nat} (hf : f < 65536) (hk : k < 60) (hsl : sl ≤ 250) (hO : RO N i z u) (hW : MW F N c K B u) (hM : ML2 F c K B) (hv5 : u.1 5 = nI ver) (hver : ver < 65536) (h3 : u.2 3 (6 * k + 1) = nI sl) (h12 : u.1 12 = nI t1) (h13 : u.1 13 = nI t2) (h14 : u.1 14 = nI t3) (h15 : u.1 15 = nI t4) : wp (f_M_code u (nI f) (nI k)) (RQ N z (sCode F N c K B ver (sl + if f &&& 8 = 0 then 1 else 0) i) (fun q v => ko [2, 12, 13, 14, 15, 18, 19, 20, 21, 22] [3, 7] u v ∧ CDm k t1 t2 t3 t4 q u v)) := by
  have hN := hO.1.1
  have f8 := hW.f8
  rw [sCode_s]
  unfold sSiz f_M_code
  rw [hO.1.2.2.2.2.1]
  simp only [pb_as, pb_pp]
  refine mq_pa ?_
  have e6 : (6 : Int32) * nI k = nI (6 * k) := nmul 6 k
  rw [e6, nI_1, show nI (6 * k) + 2 = nI (6 * k + 2) from nI_add _ 2, show nI (6 * k) + 3 = nI (6 * k + 3) from nI_add _ 3, show nI (6 * k) + 4 = nI (6 * k + 4) from nI_add _ 4]
  -- the end, in a broken state
  have fin : ∀ {r w : Nat} {v : St} {a b cc d : Int32}, RB N r w z v → wp (cV (f_M_handlers v) fun u64 => cI (f_M_u2 u64) fun r68 u66 => bnd (if r68 = 0 then (1) else (0)) fun (z69 : Int32) => cI (f_M_must u66 z69 19 (u64.1 2)) fun r72 u70 => gd (nI (6 * k + 2)) 360 (bnd (sa u70 3 (nI (6 * k + 2)).toNatClampNeg a) fun u73 => gd (nI (6 * k + 3)) 360 (bnd (sa u73 3 (nI (6 * k + 3)).toNatClampNeg (u73.1 22)) fun u74 => gd (nI (6 * k + 4)) 360 (bnd (sa u74 3 (nI (6 * k + 4)).toNatClampNeg cc) fun u75 => bnd (sv u75 12 ((u75.1 12) + cc)) fun u76 => bnd (sv u76 13 ((u76.1 13) + d)) fun u77 => some u77)))) (fun v => RB N r w z v) := fun {r w v a b cc d} h => by
    rw [b_hd h, cV_s, u2_b h, cI_s, bnd_s, must_b h, cI_s, gd_in (by omega) (by decide), bnd_s, gd_in (by omega) (by decide), bnd_s, gd_in (by omega) (by decide), bnd_s, bnd_s, bnd_s]
    exact wp_some (RB_sv (by decide) (RB_sv (by decide) (RB_sa (by decide) (RB_sa (by decide) (RB_sa (by decide) h)))))
  refine mq_u2 hO hW.1 (fun hi1 => ?_) (fun x u h => ?_)
  · have b1 : be F i 2 < 65536 := hW.n2 i
    have hO1 := RO_at (j := i + 2) hO hi1
    have k1 : ko [2] [] u (sv u 2 (nI (i + 2))) := ko_sv (by decide)
    generalize sv u 2 (nI (i + 2)) = u1 at hO1 k1 ⊢
    have hW1 := MW_ko hW k1 (by decide) (by decide)
    refine wp_bnd ?_
    generalize be F i 2 = sk at b1 ⊢
    refine mq_must hO1 rfl rfl (by decide) (i01 (i01lt (a := 255) (by decide) (by omega))) (fun _ => ?_) (fun v h => ?_)
    · refine mq_pa ?_
      rw [hO1.1.2.2.2.2.1]
      refine mq_u2 hO1 hW1.1 (fun hi2 => ?_) (fun x v h => ?_)
      · have b2 : be F (i + 2) 2 < 65536 := hW.n2 _
        refine wp_bnd (wp_bnd ?_)
        have hO2 : RO N (i + 2 + 2) z (sv (sv u1 2 (nI (i + 2 + 2))) 22 (nI (be F (i + 2) 2))) := RO_ko (s := [22]) (t := []) (RO_at hO1 hi2) (ko_sv (by decide)) (by decide) (by decide)
        have k2 : ko [2, 22] [] u1 (sv (sv u1 2 (nI (i + 2 + 2))) 22 (nI (be F (i + 2) 2))) := ko_tr (ko_sv (by decide)) (ko_sv (by decide))
        have e22 : (sv (sv u1 2 (nI (i + 2 + 2))) 22 (nI (be F (i + 2) 2))).1 22 = nI (be F (i + 2) 2) := rfl
        generalize be F (i + 2) 2 = lo at b2 hO2 k2 e22 ⊢
        generalize sv (sv u1 2 (nI (i + 2 + 2))) 22 (nI lo) = u2 at hO2 k2 e22 ⊢
        have hW2 := MW_ko hW1 k2 (by decide) (by decide)
        rw [e22]
        have e3 : u2.2 3 (6 * k + 1) = nI sl := by rw [k2.2 3 (by decide), k1.2 3 (by decide)]; exact h3
        refine mq_must hO2 rfl rfl (by decide) (i01 (i01lt (a := 255) (by decide) (by omega))) (fun hlo => ?_) (fun v h => ?_)
        · rw [gd_in (by omega) (by decide), ncl (by omega), e3]
          refine wp_bnd (wp_bnd ?_)
          have el : nI sl + (if nI f &&& 8 = 0 then (1 : Int32) else 0) = nI (sl + if f &&& 8 = 0 then 1 else 0) := by
            by_cases d : f &&& 8 = 0
            · rw [if_pos ((mskL hf).mpr d), if_pos d]; exact nI_add sl 1
            · rw [if_neg (fun q => d ((mskL hf).mp q)), if_neg d]; exact nI_add sl 0
          have hl : (sl + if f &&& 8 = 0 then 1 else 0) ≤ 251 := by split <;> omega
          rw [el, e22]
          generalize (sl + if f &&& 8 = 0 then 1 else 0) = least at hl ⊢
          refine mq_must hO2 rfl rfl (by decide) (i01 (i01lt (by omega) (by omega))) (fun _ => ?_) (fun v h => ?_)
          · refine mq_pa ?_
            rw [hO2.1.2.2.2.2.1]
            refine mq_u4 hO2 hW2.1 (fun hi3 => ?_) (fun x v h => ?_)
            · have b3 := be_lt (F := F) f8 (i + 2 + 2) 4
              have hO3 := RO_at (j := i + 2 + 2 + 4) hO2 hi3
              have k3 : ko [2] [] u2 (sv u2 2 (nI (i + 2 + 2 + 4))) := ko_sv (by decide)
              have e22' : (sv u2 2 (nI (i + 2 + 2 + 4))).1 22 = nI lo := e22
              generalize be F (i + 2 + 2) 4 = sz at b3 ⊢
              generalize sv u2 2 (nI (i + 2 + 2 + 4)) = u3 at hO3 k3 e22' ⊢
              have hW3 := MW_ko hW2 k3 (by decide) (by decide)
              refine wp_bnd ?_
              refine mq_must hO3 rfl rfl (by decide) (rngJ b3) (fun hsz => ?_) (fun v h => ?_)
              · rw [Bool.and_eq_true, decide_eq_true_eq, decide_eq_true_eq] at hsz
                have hszJ : (Int64.ofNat sz).toInt = sz := j_toInt b3
                rw [ok_o hO3, cI_s, if_neg (by decide), hO3.1.2.2.2.2.1]
                refine wp_bnd (wp_bnd (wp_bnd ?_))
                rw [show (sv u3 20 (nI (i + 2 + 2 + 4))).1 20 = nI (i + 2 + 2 + 4) from rfl, j32 (by omega) hszJ, nI_add]
                have hO4 : RO N (i + 2 + 2 + 4) z (sv (sv u3 20 (nI (i + 2 + 2 + 4))) 21 (nI (i + 2 + 2 + 4 + sz))) := RO_ko (s := [20, 21]) (t := []) hO3 (ko_tr (ko_sv (by decide)) (ko_sv (by decide))) (by decide) (by decide)
                have k4 : ko [20, 21] [] u3 (sv (sv u3 20 (nI (i + 2 + 2 + 4))) 21 (nI (i + 2 + 2 + 4 + sz))) := ko_tr (ko_sv (by decide)) (ko_sv (by decide))
                have e20 : (sv (sv u3 20 (nI (i + 2 + 2 + 4))) 21 (nI (i + 2 + 2 + 4 + sz))).1 20 = nI (i + 2 + 2 + 4) := rfl
                have e21 : (sv (sv u3 20 (nI (i + 2 + 2 + 4))) 21 (nI (i + 2 + 2 + 4 + sz))).1 21 = nI (i + 2 + 2 + 4 + sz) := rfl
                generalize sv (sv u3 20 (nI (i + 2 + 2 + 4))) 21 (nI (i + 2 + 2 + 4 + sz)) = u4 at hO4 k4 e20 e21 ⊢
                have hW4 := MW_ko hW3 k4 (by decide) (by decide)
                generalize i + 2 + 2 + 4 = b at hO4 e20 e21 ⊢
                rw [e21, hO4.1.2.1, pb_pk]
                refine mq_must hO4 rfl rfl (by decide) (i01 (i01lt (by omega) (by have := hO4.1.2.2.2.2.2; omega))) (fun hfit => ?_) (fun v h => ?_)
                · rw [decide_eq_true_eq] at hfit
                  rw [if_neg (by decide)]
                  refine mq_pa ?_
                  obtain ⟨u5, f1, k5, f3⟩ := clrM (x2 := nI k) (x4 := nI sk) hszJ hsz.2 (sz + 1) 0 FU u4 (by omega) (by unfold FU; omega) (fun t ht => by omega)
                  have f1' : f_M_code_L212 (nI k) (nI sk) (Int64.ofNat sz) FU u4 0 = some u5 := f1
                  rw [f1', cT_s]
                  have hO5 : RO N b z u5 := RO_ko hO4 k5 (by decide) (by decide)
                  have hW5 := MW_ko hW4 k5 (by decide) (by decide)
                  have hv' : u5.1 5 = nI ver := by rw [k5.1 5 (by decide), k4.1 5 (by decide), k3.1 5 (by decide), k2.1 5 (by decide), k1.1 5 (by decide)]; exact hv5
                  have hC5 : CM N b sz lo ver u5 := ⟨(k5.1 20 (by decide)).trans e20, (k5.1 21 (by decide)).trans e21, by rw [k5.1 22 (by decide), k4.1 22 (by decide)]; exact e22', hv', hfit, hsz.2, of_decide_eq_true hlo, hver⟩
                  have il := insM (z := z) (x2 := nI k) (x4 := nI sk) (x5 := Int64.ofNat sz) hM sz FU 0 0 0 (fun _ => false) [] u5 (by omega) (by unfold FU; omega) (by omega) (by omega) (by rw [Nat.add_zero]; exact hO5) hW5 hC5 (fun j hj => by rw [f3 j (by omega)]; rfl)
                  rw [Nat.add_zero] at il
                  rw [hC5.1]
                  have il' : wp (f_M_code_L244 (nI k) (nI sk) (Int64.ofNat sz) FU u5 (nI b) 0) _ := il
                  refine wp_cT (wp_mono il' fun p hp => ?_)
                  obtain ⟨p1, p2, p3⟩ := p
                  cases hr : sIns F c K B ver lo b sz sz 0 0 0 (fun _ => false) [] with
                  | error e =>
                    rw [hr] at hp
                    have h : RB N e.1 e.2 z p1 := hp
                    rw [plf_x rfl]
                    dsimp only
                    rw [ok_b h, cI_s, if_pos rfl]
                    exact wp_some h
                  | ok y =>
                    rw [hr] at hp
                    rw [plf_s rfl]
                    obtain ⟨j1, j2⟩ := sIns_jw _ _ _ _ _ _ _ hr
                    obtain ⟨cn, la, stt, jl⟩ := y
                    obtain ⟨hO6, ela, hla, ecn, hS6, k6⟩ : RO N (b + sz) z p1 ∧ p2 = nI (b + la) ∧ la < sz ∧ p3 = nI cn ∧ FM sz stt p1 ∧ ko [2, 18, 19] [7] u5 p1 := hp
                    subst ela
                    subst ecn
                    dsimp only at j1 ⊢
                    rw [List.nil_append] at j1
                    have hW6 := MW_ko hW5 k6 (by decide) (by decide)
                    have hC6 := CM_ko hC5 k6 (by decide)
                    have e14 : p1.1 14 = nI t3 := by rw [k6.1 14 (by decide), k5.1 14 (by decide), k4.1 14 (by decide), k3.1 14 (by decide), k2.1 14 (by decide), k1.1 14 (by decide)]; exact h14
                    rw [ok_o hO6, cI_s, if_neg (by decide), hC6.1]
                    have am := aimM (i := b + sz) (z := z) (F := F) (c := c) (K := K) (B := B) (u := p1) (st := stt) (x2 := nI k) (x4 := nI sk) (x5 := Int64.ofNat sz) (x7 := nI (b + la)) (x8 := nI cn) (fun v kv => (ko_F kv (by decide)).trans hW6.1) hC6 hS6 sz FU 0 t3 p1 (by omega) (by unfold FU; omega) (by omega) j2 hO6 ko_rf e14
                    rw [Nat.add_zero, ← j1] at am
                    refine wp_cT (wp_mono am fun v hv6 => ?_)
                    have hla' : F (b + la) < 256 := f8 _
                    have erd : ∀ v' : St, xF v' = F → v'.2 0 (nI (b + la)).toNatClampNeg &&& 255 = nI (F (b + la)) := fun v' hv' => by
                      rw [ncl (by omega), b8_and, ← hv']
                    cases hr2 : sAim b sz stt jl with
                    | error e =>
                      rw [hr2] at hv6
                      obtain ⟨h, kv⟩ : RB N e.1 e.2 z v ∧ ko [3, 4, 14] [] p1 v := hv6
                      rw [plf_x rfl, gd_in (by omega) (by decide)]
                      refine wp_bnd ?_
                      rw [must_b h, cI_s]
                      exact fin (b := 0) h
                    | ok y2 =>
                      rw [hr2] at hv6
                      obtain ⟨hO7, e147, k7⟩ : RO N (b + sz) z v ∧ v.1 14 = nI (t3 + jl.length) ∧ ko [14] [] p1 v := hv6
                      have hW7 := MW_ko hW6 k7 (by decide) (by decide)
                      have hC7 := CM_ko hC6 k7 (by decide)
                      have hS7 : FM sz stt v := fun j hj => by rw [k7.2 7 (by decide)]; exact hS6 j hj
                      rw [plf_s rfl, gd_in (by omega) (by decide), erd v hW7.1, last_m hla']
                      refine wp_bnd ?_
                      cases hl7 : lasts (F (b + la)) with
                      | false =>
                        rw [if_neg (show ¬ (false = true) by decide), must_fl 27 (r := 27) rfl hO7 (by decide) (by decide), cI_s, pb_x (pn_x rfl)]
                        have hB27 : RB N 27 (b + la) z (rbk v 27 (b + la)) := RO_B hO7 (by decide) (by decide)
                        exact fin (b := 0) hB27
                      | true =>
                        rw [if_pos (show true = true from rfl), must_t hO7 (by decide), cI_s, pb_s (pn_s rfl), pb_s (a := ()) (j := b + sz) (by unfold psk; rw [if_pos hfit])]
                        have e15 : v.1 15 = nI t4 := by rw [k7.1 15 (by decide), k6.1 15 (by decide), k5.1 15 (by decide), k4.1 15 (by decide), k3.1 15 (by decide), k2.1 15 (by decide), k1.1 15 (by decide)]; exact h15
                        refine mq_V (hd_m hO7 hW7 hC7 hS7 e15) ?_ ?_
                        · rintro nr j8 v8 - hO8 ⟨k8, e158⟩
                          have hW8 := MW_ko hW7 k8 (by decide) (by decide)
                          refine mq_pa ?_
                          rw [hO8.1.2.2.2.2.1]
                          refine mq_u2 hO8 hW8.1 (fun hi9 => ?_) (fun x v h => ?_)
                          · have b9 : be F j8 2 < 65536 := hW.n2 _
                            have hO9 := RO_at (j := j8 + 2) hO8 hi9
                            have k9 : ko [2] [] v8 (sv v8 2 (nI (j8 + 2))) := ko_sv (by decide)
                            generalize sv v8 2 (nI (j8 + 2)) = v9 at hO9 k9 ⊢
                            refine wp_bnd ?_
                            refine mq_must hO9 rfl rfl (by decide) (i10 (by simp only [show (nI (be F j8 2) = 0) = (be F j8 2 = 0) from neq (b := 0) (by omega) (by decide)]; rw [decide_eq_true_eq])) (fun _ => ?_) (fun v h => ?_)
                            · rw [gd_in (by omega) (by decide), bnd_s, gd_in (by omega) (by decide), bnd_s, gd_in (by omega) (by decide), bnd_s, bnd_s, bnd_s, ncl (by omega), ncl (by omega), ncl (by omega)]
                              refine wp_some ?_
                              have g : ∀ kk, kk ≠ 2 → kk ≠ 15 → kk ≠ 14 → kk ≠ 18 → kk ≠ 19 → kk ≠ 20 → kk ≠ 21 → kk ≠ 22 → v9.1 kk = u.1 kk := fun kk a1 a2 a3 a4 a5 a6 a7 a8 => by
                                rw [k9.1 kk (by simp; omega), k8.1 kk (by simp; omega), k7.1 kk (by simp; omega), k6.1 kk (by simp; omega), k5.1 kk (by simp), k4.1 kk (by simp; omega), k3.1 kk (by simp; omega), k2.1 kk (by simp; omega), k1.1 kk (by simp; omega)]
                              have ga : ∀ kk, kk ≠ 7 → v9.2 kk = u.2 kk := fun kk a1 => by
                                rw [k9.2 kk (by simp), k8.2 kk (by simp), k7.2 kk (by simp), k6.2 kk (by simp; omega), k5.2 kk (by simp; omega), k4.2 kk (by simp), k3.2 kk (by simp), k2.2 kk (by simp), k1.2 kk (by simp)]
                              have g12 : v9.1 12 = nI t1 := (g 12 (by decide) (by decide) (by decide) (by decide) (by decide) (by decide) (by decide) (by decide)).trans h12
                              have g13 : v9.1 13 = nI t2 := (g 13 (by decide) (by decide) (by decide) (by decide) (by decide) (by decide) (by decide) (by decide)).trans h13
                              have g14 : v9.1 14 = nI (t3 + jl.length) := by rw [k9.1 14 (by decide), k8.1 14 (by decide)]; exact e147
                              have g15 : v9.1 15 = nI (t4 + nr) := by rw [k9.1 15 (by decide)]; exact e158
                              have g22 : v9.1 22 = nI lo := by rw [k9.1 22 (by decide), k8.1 22 (by decide), k7.1 22 (by decide)]; exact hC6.2.2.1
                              refine ⟨RO_ko (s := [12, 13]) (t := [3]) hO9 (ko_tr (ko_sa (by decide)) (ko_tr (ko_sa (by decide)) (ko_tr (ko_sa (by decide)) (ko_tr (ko_sv (by decide)) (ko_sv (by decide)))))) (by decide) (by decide), ⟨fun kk hkk => ?_, fun kk hkk => ?_⟩, ?_, ?_, ?_, ?_, ?_, ?_, ?_, ?_⟩
                              · simp at hkk
                                rw [sv_g, if_neg (by omega), sv_g, if_neg (by omega)]
                                exact g kk (by omega) (by omega) (by omega) (by omega) (by omega) (by omega) (by omega) (by omega)
                              · simp at hkk
                                rw [sv_a, sv_a, sa_a, if_neg (by omega), sa_a, if_neg (by omega), sa_a, if_neg (by omega)]
                                exact ga kk (by omega)
                              · show v9.1 12 + nI cn = _
                                rw [g12]; exact nI_add _ _
                              · show v9.1 13 + _ = _
                                rw [g13]; exact nI_add _ _
                              · exact g14
                              · exact g15
                              · show (sa (sa (sa v9 3 (6 * k + 2) (nI sk)) 3 (6 * k + 3) ((sa v9 3 (6 * k + 2) (nI sk)).1 22)) 3 (6 * k + 4) (nI cn)).2 3 (6 * k + 2) = nI sk
                                rw [sa_ne (by omega), sa_ne (by omega), sa_a, if_pos rfl, upd, if_pos rfl]
                              · show (sa (sa (sa v9 3 (6 * k + 2) (nI sk)) 3 (6 * k + 3) ((sa v9 3 (6 * k + 2) (nI sk)).1 22)) 3 (6 * k + 4) (nI cn)).2 3 (6 * k + 3) = nI lo
                                rw [sa_ne (by omega), sa_a, if_pos rfl, upd, if_pos rfl]
                                exact g22
                              · show (sa (sa (sa v9 3 (6 * k + 2) (nI sk)) 3 (6 * k + 3) ((sa v9 3 (6 * k + 2) (nI sk)).1 22)) 3 (6 * k + 4) (nI cn)).2 3 (6 * k + 4) = nI cn
                                rw [sa_a, if_pos rfl, upd, if_pos rfl]
                              · intro j a1 a2 a3
                                show (sa (sa (sa v9 3 (6 * k + 2) (nI sk)) 3 (6 * k + 3) ((sa v9 3 (6 * k + 2) (nI sk)).1 22)) 3 (6 * k + 4) (nI cn)).2 3 j = _
                                rw [sa_ne (by omega), sa_ne (by omega), sa_ne (by omega), ga 3 (by decide)]
                            · rw [gd_in (by omega) (by decide), bnd_s, gd_in (by omega) (by decide), bnd_s, gd_in (by omega) (by decide), bnd_s, bnd_s, bnd_s]
                              exact wp_some (RB_sv (by decide) (RB_sv (by decide) (RB_sa (by decide) (RB_sa (by decide) (RB_sa (by decide) h)))))
                          · refine wp_bnd ?_
                            rw [must_b h, cI_s, gd_in (by omega) (by decide), bnd_s, gd_in (by omega) (by decide), bnd_s, gd_in (by omega) (by decide), bnd_s, bnd_s, bnd_s]
                            exact wp_some (RB_sv (by decide) (RB_sv (by decide) (RB_sa (by decide) (RB_sa (by decide) (RB_sa (by decide) h)))))
                        · intro r w v h
                          rw [u2_b h, cI_s]
                          refine wp_bnd ?_
                          rw [must_b h, cI_s, gd_in (by omega) (by decide), bnd_s, gd_in (by omega) (by decide), bnd_s, gd_in (by omega) (by decide), bnd_s, bnd_s, bnd_s]
                          exact wp_some (RB_sv (by decide) (RB_sv (by decide) (RB_sa (by decide) (RB_sa (by decide) (RB_sa (by decide) h)))))
                · rw [if_pos rfl]
                  exact wp_some h
              · rw [ok_b h, cI_s, if_pos rfl]
                exact wp_some h
            · refine wp_bnd ?_
              rw [must_b h, cI_s, ok_b h, cI_s, if_pos rfl]
              exact wp_some h
          · rw [u4_b h, cJ_s, bnd_s, must_b h, cI_s, ok_b h, cI_s, if_pos rfl]
            exact wp_some h
        · rw [gd_in (by omega) (by decide)]
          refine wp_bnd (wp_bnd ?_)
          rw [must_b h, cI_s, u4_b h, cJ_s, bnd_s, must_b h, cI_s, ok_b h, cI_s, if_pos rfl]
          exact wp_some h
      · refine wp_bnd (wp_bnd ?_)
        have h' := RB_sv (k := 22) (x := x) (by decide) h
        rw [must_b h', cI_s, gd_in (by omega) (by decide)]
        refine wp_bnd (wp_bnd ?_)
        rw [must_b h', cI_s, u4_b h', cJ_s, bnd_s, must_b h', cI_s, ok_b h', cI_s, if_pos rfl]
        exact wp_some h'
    · rw [u2_b h, cI_s]
      refine wp_bnd (wp_bnd ?_)
      have h' := RB_sv (k := 22) (x := 0) (by decide) h
      rw [must_b h', cI_s, gd_in (by omega) (by decide)]
      refine wp_bnd (wp_bnd ?_)
      rw [must_b h', cI_s, u4_b h', cJ_s, bnd_s, must_b h', cI_s, ok_b h', cI_s, if_pos rfl]
      exact wp_some h'
  · refine wp_bnd ?_
    rw [must_b h, cI_s, u2_b h, cI_s]
    refine wp_bnd (wp_bnd ?_)
    have h' := RB_sv (k := 22) (x := 0) (by decide) h
    rw [must_b h', cI_s, gd_in (by omega) (by decide)]
    refine wp_bnd (wp_bnd ?_)
    rw [must_b h', cI_s, u4_b h', cJ_s, bnd_s, must_b h', cI_s, ok_b h', cI_s, if_pos rfl]
    exact wp_some h'
end MAL

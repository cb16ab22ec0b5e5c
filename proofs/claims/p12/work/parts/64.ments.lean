/-! THE REFERENCE: the pool -/
section MEN
variable {F : Nat → Nat} {N i r w c : Nat} {z u : St} {β : Type}
/-- the table up to k -/
def TM (F : Nat → Nat) (N k : Nat) (K B : Nat → Nat) (u : St) : Prop := (∀ t, t < 300 → u.2 1 t = nI (K t)) ∧ (∀ t, k ≤ t → K t = 0) ∧ ∀ t, 1 ≤ t → t < k → K t < 256 ∧ (K t ≠ 0 → u.2 2 t = nI (B t) ∧ ext F N (K t) (B t))
theorem mq_u8 {γ : Type} {st : γ → St} {ψ : β → γ → Prop} {k : Int64 → Int64 → St → Option γ} {f : Nat → P β} (hO : RO N i z u) (h1 : i + 8 ≤ N → ∀ x y, wp (k x y (sv u 2 (nI (i + 8)))) (MP N z st (f (be F i 8) (i + 8)) ψ)) (h2 : ∀ x y u, RB N 1 N z u → wp (k x y u) (MP N z st (.error (1, N)) ψ)) : wp (cJ (f_M_u4 u) fun x u1 => cJ (f_M_u4 u1) fun y u2 => k x y u2) (MP N z st (pb (pu F N 8) f i) ψ) := by
  by_cases h : i + 8 ≤ N
  · have hO1 := RO_at (j := i + 4) hO (by omega)
    rw [u4_o hO (by omega), cJ_s, u4_o hO1 (by omega), cJ_s, svsv, pb_s (pu_s h)]
    exact h1 h _ _
  · rw [pb_x (pu_x h)]
    by_cases h4 : i + 4 ≤ N
    · have hO1 := RO_at (j := i + 4) hO (by omega)
      obtain ⟨y, v, e, hb⟩ := u4_x hO1 (by omega)
      rw [u4_o hO h4, cJ_s, e, cJ_s]
      exact h2 _ _ _ hb
    · obtain ⟨y, v, e, hb⟩ := u4_x hO h4
      rw [e, cJ_s, u4_b hb, cJ_s]
      exact h2 _ _ _ hb
def sBd (F : Nat → Nat) (N c k i kd : Nat) : P Unit := if kd = 1 then sTx F N else if kd = 3 ∨ kd = 9 ∨ kd = 10 ∨ kd = 11 ∨ kd = 12 then pb (pu F N 4) fun _ => pp () else if kd = 5 then pb (pu F N 8) fun _ => pn (decide (k + 1 < c)) 4 i else if kd = 7 ∨ kd = 8 then pb (pu F N 2) fun _ => pp () else if kd = 4 ∨ kd = 6 ∨ (15 ≤ kd ∧ kd ≤ 20) then pe 7 i else pe 6 i
theorem entsM (hc : c ≤ 300) {kx : St → Option St} {f' : ((Nat → Nat) × (Nat → Nat)) → P β} {ψ : β → St → Prop} : ∀ (f g k i : Nat) (K B : Nat → Nat) (u : St), c ≤ k + f → c + 1 < k + g → 1 ≤ k → k ≤ c → RO N i z u → xF u = F → u.1 6 = nI c → TM F N k K B u → (∀ K' B' j v, RO N j z v → TM F N c K' B' v → ko [2] [1, 2] u v → wp (kx v) (MP N z (fun v => v) (f' (K', B') j) (fun a x => ψ a x))) → wp (f_M_pool_L48 kx g u (nI k)) (MP N z (fun v => v) (pb (sEnts F N c f k K B) f' i) (fun a x => ψ a x)) := by
  intro f
  induction f with
  | zero =>
    intro g k i K B u h1 h2 h3 h4 hO hF h6 hT hk
    have : k = c := by omega
    subst this
    cases g with
    | zero => omega
    | succ g =>
      rw [f_M_pool_L48, h6, if_pos (nI_le (Nat.le_refl _) (by omega)), sEnts]
      exact hk K B i u hO hT ko_rf
  | succ f ih =>
    intro g k i K B u h1 h2 h3 h4 hO hF h6 hT hk
    cases g with
    | zero => omega
    | succ g =>
      have hF8 : ∀ j, F j < 256 := fun j => by rw [← hF]; exact F8 u j
      by_cases d : k < c
      · rw [f_M_pool_L48, h6, if_neg (nI_ge d (by omega)), ok_o hO, cI_s, if_neg (by decide), sEnts, if_pos d, pb_as]
        refine mq_pa ?_
        have hsE : ∀ q, sEnt F N c k i i = .ok q → q.1 < 256 ∧ ext F N q.1 i ∧ i + 1 ≤ q.2 ∧ q.1 ≠ 0 := fun q hq => sEnt_ok hF8 hq
        -- after the body
        have tail : ∀ (kd j : Nat) (v : St), sEnt F N c k i i = .ok (kd, j) → (kd = 5 → k + 1 < c) → RO N j z v → ko [2] [2] u v → v.2 2 k = nI i → (∀ t, t ≠ k → v.2 2 t = u.2 2 t) → wp (cI (f_M_ok v) fun r23 u21 => if r23 = 0 then some u21 else (gd (nI k) 300 (bnd (sa u21 1 k (nI kd)) fun u24 => bnd (if nI kd = 5 then (nI k + 1) else (nI k)) fun (z25 : Int32) => f_M_pool_L48 kx g u24 (z25 + 1)))) (MP N z (fun v => v) (pb (if kd = 5 then sEnts F N c f (k + 2) (upn (upn K k kd) (k + 1) 0) (upn B k i) else sEnts F N c f (k + 1) (upn K k kd) (upn B k i)) f' j) (fun a x => ψ a x)) := by
          intro kd j v hE h5 hOv kv vk vt
          obtain ⟨q1, q2, q3, q4⟩ := hsE _ hE
          dsimp only at q1 q2 q3 q4
          rw [ok_o hOv, cI_s, if_neg (by decide), gd_in (by omega) (by decide), bnd_s, bnd_s]; simp only [show (nI kd = 5) = (kd = 5) from neq (b := 5) (by omega) (by decide)]
          have ks : ko [2] [1, 2] u (sa v 1 k (nI kd)) := ko_tr (ko_mono kv (fun _ h => h) (fun k h => by simp at h ⊢; omega)) (ko_sa (by decide))
          have hOs : RO N j z (sa v 1 k (nI kd)) := RO_ko (s := []) (t := [1]) hOv (ko_sa (by decide)) (by decide) (by decide)
          have hFs : xF (sa v 1 k (nI kd)) = F := (ko_F ks (by decide)).trans hF
          have h6s : (sa v 1 k (nI kd)).1 6 = nI c := (ks.1 6 (by decide)).trans h6
          have hK : ∀ t, t < 300 → (sa v 1 k (nI kd)).2 1 t = nI (upn K k kd t) := by
            intro t ht
            unfold upn
            by_cases e : t = k
            · subst e; rw [if_pos rfl, sa_a, if_pos rfl, upd, if_pos rfl]
            · rw [if_neg e, sa_ne e, kv.2 1 (by decide)]; exact hT.1 t ht
          have hB : ∀ t, 1 ≤ t → t < k + 1 → upn K k kd t < 256 ∧ (upn K k kd t ≠ 0 → (sa v 1 k (nI kd)).2 2 t = nI (upn B k i t) ∧ ext F N (upn K k kd t) (upn B k i t)) := by
            intro t t1 t2
            have e2 : (sa v 1 k (nI kd)).2 2 t = v.2 2 t := by rw [sa_a, if_neg (by decide)]
            rw [e2]
            unfold upn
            by_cases e : t = k
            · subst e
              rw [if_pos rfl, if_pos rfl]
              exact ⟨q1, fun _ => ⟨vk, q2⟩⟩
            · rw [if_neg e, if_neg e, vt t e]
              exact hT.2.2 t t1 (by omega)
          by_cases e5 : kd = 5
          · have hk1 := h5 e5
            have eu : ∀ t, upn (upn K k kd) (k + 1) 0 t = upn K k kd t := by
              intro t
              show (if t = k + 1 then 0 else upn K k kd t) = _
              by_cases e : t = k + 1
              · rw [if_pos e]
                unfold upn
                rw [if_neg (by omega), hT.2.1 t (by omega)]
              · rw [if_neg e]
            have eu' : upn (upn K k kd) (k + 1) 0 = upn K k kd := funext eu
            rw [if_pos e5, if_pos e5, nI_1, nI_1, eu']
            refine ih g (k + 2) j _ _ _ (by omega) (by omega) (by omega) (by omega) hOs hFs h6s ⟨hK, ?_, ?_⟩ ?_
            · intro t ht
              unfold upn
              rw [if_neg (by omega)]
              exact hT.2.1 t (by omega)
            · intro t t1 t2
              by_cases e : t = k + 1
              · subst e
                have : upn K k kd (k + 1) = 0 := by
                  unfold upn
                  rw [if_neg (by omega)]
                  exact hT.2.1 _ (by omega)
                rw [this]
                exact ⟨by decide, fun q => absurd rfl q⟩
              · exact hB t t1 (by omega)
            · intro K' B' j' v' a1 a2 a3
              exact hk K' B' j' v' a1 a2 (ko_tr ks a3)
          · rw [if_neg e5, if_neg e5, nI_1]
            refine ih g (k + 1) j _ _ _ (by omega) (by omega) (by omega) (by omega) hOs hFs h6s ⟨hK, ?_, hB⟩ ?_
            · intro t ht
              unfold upn
              rw [if_neg (by omega)]
              exact hT.2.1 t (by omega)
            · intro K' B' j' v' a1 a2 a3
              exact hk K' B' j' v' a1 a2 (ko_tr ks a3)
        have hE0 : sEnt F N c k i = pb (pu F N 1) fun kd => pb (sBd F N c k i kd) fun _ => pp kd := rfl
        by_cases hi : i + 1 ≤ N
        · have hO1 := RO_at (j := i + 1) hO hi
          have hkd := hF8 i
          rw [u1_o hO hi, cI_s, ok_o hO1, cI_s, if_neg (by decide), gd_in (by omega) (by decide), hF, hO.1.2.2.2.2.1, ncl (by omega)]
          refine wp_bnd ?_
          have hO2 : RO N (i + 1) z (sa (sv u 2 (nI (i + 1))) 2 k (nI i)) := RO_ko (s := []) (t := [2]) hO1 (ko_sa (by decide)) (by decide) (by decide)
          have k2 : ko [2] [2] u (sa (sv u 2 (nI (i + 1))) 2 k (nI i)) := ko_tr (ko_sv (by decide)) (ko_sa (by decide))
          have v2 : (sa (sv u 2 (nI (i + 1))) 2 k (nI i)).2 2 k = nI i := by rw [sa_a, if_pos rfl, upd, if_pos rfl]
          have t2 : ∀ t, t ≠ k → (sa (sv u 2 (nI (i + 1))) 2 k (nI i)).2 2 t = u.2 2 t := fun t ht => by rw [sa_ne ht]; rfl
          generalize sa (sv u 2 (nI (i + 1))) 2 k (nI i) = v at hO2 k2 v2 t2 ⊢
          have hF2 : xF v = F := (ko_F k2 (by decide)).trans hF
          rw [hE0, pb_as, pb_as]
          have es : ∀ {α : Type} (g : Nat → P α), pb (pu F N 1) g i = g (F i) (i + 1) := fun g => by rw [pb_s (pu_s hi), be1]
          rw [es, pb_as]
          have hE1 : sEnt F N c k i i = (pb (sBd F N c k i (F i)) fun _ => pp (F i)) (i + 1) := by rw [hE0, es]
          generalize F i = kd at hkd hE1 ⊢
          have q1 : (nI kd = 1) = (kd = 1) := neq (b := 1) (by omega) (by decide)
          have q3 : (nI kd = 3) = (kd = 3) := neq (b := 3) (by omega) (by decide)
          have q4 : (nI kd = 4) = (kd = 4) := neq (b := 4) (by omega) (by decide)
          have q5 : (nI kd = 5) = (kd = 5) := neq (b := 5) (by omega) (by decide)
          have q6 : (nI kd = 6) = (kd = 6) := neq (b := 6) (by omega) (by decide)
          have q7 : (nI kd = 7) = (kd = 7) := neq (b := 7) (by omega) (by decide)
          have q8 : (nI kd = 8) = (kd = 8) := neq (b := 8) (by omega) (by decide)
          have q9 : (nI kd = 9) = (kd = 9) := neq (b := 9) (by omega) (by decide)
          have q10 : (nI kd = 10) = (kd = 10) := neq (b := 10) (by omega) (by decide)
          have q11 : (nI kd = 11) = (kd = 11) := neq (b := 11) (by omega) (by decide)
          have q12 : (nI kd = 12) = (kd = 12) := neq (b := 12) (by omega) (by decide)
          have q15 : (nI kd = 15) = (kd = 15) := neq (b := 15) (by omega) (by decide)
          have q16 : (nI kd = 16) = (kd = 16) := neq (b := 16) (by omega) (by decide)
          have q17 : (nI kd = 17) = (kd = 17) := neq (b := 17) (by omega) (by decide)
          have q18 : (nI kd = 18) = (kd = 18) := neq (b := 18) (by omega) (by decide)
          have q19 : (nI kd = 19) = (kd = 19) := neq (b := 19) (by omega) (by decide)
          have q20 : (nI kd = 20) = (kd = 20) := neq (b := 20) (by omega) (by decide)
          have tailV : ∀ (j : Nat) (v' : St), (sBd F N c k i kd) (i + 1) = .ok ((), j) → (kd = 5 → k + 1 < c) → RO N j z v' → ko [2] [] v v' → wp (cI (f_M_ok v') fun r23 u21 => if r23 = 0 then some u21 else (gd (nI k) 300 (bnd (sa u21 1 k (nI kd)) fun u24 => bnd (if nI kd = 5 then (nI k + 1) else (nI k)) fun (z25 : Int32) => f_M_pool_L48 kx g u24 (z25 + 1)))) (MP N z (fun v => v) (pb (if kd = 5 then sEnts F N c f (k + 2) (upn (upn K k kd) (k + 1) 0) (upn B k i) else sEnts F N c f (k + 1) (upn K k kd) (upn B k i)) f' j) (fun a x => ψ a x)) := by
            intro j v' e1 e2 e3 e4
            refine tail kd j v' (by rw [hE1, pb_s e1]; rfl) e2 e3 (ko_tr k2 (ko_mono e4 (fun _ h => h) (fun _ h => by cases h))) (by rw [e4.2 2 (by decide)]; exact v2) (fun t ht => by rw [e4.2 2 (by decide)]; exact t2 t ht)
          have bad : ∀ {r w : Nat} {v' : St}, RB N r w z v' → wp (cI (f_M_ok v') fun r23 u21 => if r23 = 0 then some u21 else (gd (nI k) 300 (bnd (sa u21 1 k (nI kd)) fun u24 => bnd (if nI kd = 5 then (nI k + 1) else (nI k)) fun (z25 : Int32) => f_M_pool_L48 kx g u24 (z25 + 1)))) (fun v => RB N r w z v) := fun h => by
            rw [ok_b h, cI_s, if_pos rfl]
            exact wp_some h
          by_cases c1 : kd = 1
          · rw [if_pos (show nI kd = 1 by rw [c1]; rfl)]
            have e0 : sBd F N c k i kd = sTx F N := by unfold sBd; rw [if_pos c1]
            rw [e0] at tailV ⊢
            refine mq_V (text_m hO2 hF2) ?_ ?_
            · intro a j v' hp hOv kv
              exact tailV j v' hp (by omega) hOv kv
            · intro r w v' h
              exact bad h
          · rw [if_neg (fun q => c1 (q1 ▸ q))]
            have four : (kd = 3 ∨ kd = 9 ∨ kd = 10 ∨ kd = 11 ∨ kd = 12) → wp (cJ (f_M_u4 v) fun r29 u27 => cI (f_M_ok u27) fun r23 u21 => if r23 = 0 then some u21 else (gd (nI k) 300 (bnd (sa u21 1 k (nI kd)) fun u24 => bnd (if nI kd = 5 then (nI k + 1) else (nI k)) fun (z25 : Int32) => f_M_pool_L48 kx g u24 (z25 + 1)))) (MP N z (fun v => v) (pb (sBd F N c k i kd) (fun _ => pb (pp kd) fun kd => pb (if kd = 5 then sEnts F N c f (k + 2) (upn (upn K k kd) (k + 1) 0) (upn B k i) else sEnts F N c f (k + 1) (upn K k kd) (upn B k i)) f') (i + 1)) (fun a x => ψ a x)) := by
              intro c2
              have e2 : sBd F N c k i kd = pb (pu F N 4) fun _ => pp () := by unfold sBd; rw [if_neg c1, if_pos c2]
              rw [e2] at tailV ⊢
              rw [pb_as]
              refine mq_u4 hO2 hF2 (fun hi4 => ?_) (fun x u h => bad h)
              exact tailV _ _ (by rw [pb_s (pu_s hi4)]; rfl) (by omega) (RO_at hO2 hi4) (ko_sv (by decide))
            by_cases c3 : kd = 3
            · rw [if_pos (show nI kd = 3 by rw [c3]; rfl)]
              exact four (Or.inl c3)
            · rw [if_neg (fun q => c3 (q3 ▸ q))]
              by_cases c4 : kd = 4 ∨ kd = 6 ∨ (15 ≤ kd ∧ kd ≤ 20)
              · have cc : nI kd = 4 ∨ nI kd = 6 ∨ nI kd = 15 ∨ nI kd = 16 ∨ nI kd = 17 ∨ nI kd = 18 ∨ nI kd = 19 ∨ nI kd = 20 := by
                  rw [q4, q6, q15, q16, q17, q18, q19, q20]; omega
                rw [if_pos cc, show (7 : Int32) = nI 7 from rfl, fails_o hO2, cI_s, show sBd F N c k i kd = pe 7 i by unfold sBd; rw [if_neg c1, if_neg (by omega), if_neg (by omega), if_neg (by omega), if_pos c4], pb_x (show pe 7 i (i + 1) = .error (7, i) from rfl)]
                exact wp_some (RO_B hO2 (by decide) (by decide))
              · have cc : ¬ (nI kd = 4 ∨ nI kd = 6 ∨ nI kd = 15 ∨ nI kd = 16 ∨ nI kd = 17 ∨ nI kd = 18 ∨ nI kd = 19 ∨ nI kd = 20) := by
                  rw [q4, q6, q15, q16, q17, q18, q19, q20]; omega
                rw [if_neg cc]
                by_cases c5 : kd = 5
                · rw [if_pos (show nI kd = 5 by rw [c5]; rfl)]
                  have e2 : sBd F N c k i kd = pb (pu F N 8) fun _ => pn (decide (k + 1 < c)) 4 i := by unfold sBd; rw [if_neg c1, if_neg (by omega), if_pos c5]
                  rw [e2] at tailV ⊢
                  rw [pb_as]
                  refine mq_u8 hO2 (fun hi8 x y => ?_) (fun x y u h => ?_)
                  · have hO3 := RO_at (j := i + 1 + 8) hO2 hi8
                    have e6 : (sv v 2 (nI (i + 1 + 8))).1 6 = nI c := (k2.1 6 (by decide)).trans h6
                    rw [e6]
                    refine wp_bnd ?_
                    have ec : (if nI c - 1 ≤ nI k then (0 : Int32) else 1) = 0 ↔ decide (k + 1 < c) = false := by
                      rw [show nI c - 1 = nI (c - 1) from nI_sub (b := 1) (by omega)]
                      simp only [show (nI (c - 1) ≤ nI k) = (c - 1 ≤ k) from nle (by omega) (by omega)]
                      by_cases dd : c - 1 ≤ k
                      · rw [if_pos dd, decide_eq_false (by omega)]; exact ⟨fun _ => rfl, fun _ => rfl⟩
                      · rw [if_neg dd, decide_eq_true (by omega)]; exact ⟨fun q => absurd q (by decide), fun q => by cases q⟩
                    refine mq_must hO3 rfl rfl (by decide) ec (fun hh => ?_) (fun u h => bad h)
                    exact tailV _ _ (by rw [pb_s (pu_s hi8), pn_s hh]) (fun _ => of_decide_eq_true hh) hO3 (ko_sv (by decide))
                  · refine wp_bnd ?_
                    rw [must_b h, cI_s]
                    exact bad h
                · rw [if_neg (fun q => c5 (q5 ▸ q))]
                  by_cases c7 : kd = 7 ∨ kd = 8
                  · rw [if_pos (show nI kd = 7 ∨ nI kd = 8 by rw [q7, q8]; exact c7)]
                    have e2 : sBd F N c k i kd = pb (pu F N 2) fun _ => pp () := by unfold sBd; rw [if_neg c1, if_neg (by omega), if_neg c5, if_pos c7]
                    rw [e2] at tailV ⊢
                    rw [pb_as]
                    refine mq_u2 hO2 hF2 (fun hi4 => ?_) (fun x u h => bad h)
                    exact tailV _ _ (by rw [pb_s (pu_s hi4)]; rfl) (by omega) (RO_at hO2 hi4) (ko_sv (by decide))
                  · rw [if_neg (show ¬ (nI kd = 7 ∨ nI kd = 8) by rw [q7, q8]; exact c7)]
                    by_cases c9 : kd = 9 ∨ kd = 10 ∨ kd = 11 ∨ kd = 12
                    · rw [if_pos (show nI kd = 9 ∨ nI kd = 10 ∨ nI kd = 11 ∨ nI kd = 12 by rw [q9, q10, q11, q12]; exact c9)]
                      exact four (Or.inr c9)
                    · rw [if_neg (show ¬ (nI kd = 9 ∨ nI kd = 10 ∨ nI kd = 11 ∨ nI kd = 12) by rw [q9, q10, q11, q12]; exact c9), show (6 : Int32) = nI 6 from rfl, fails_o hO2, cI_s, show sBd F N c k i kd = pe 6 i by unfold sBd; rw [if_neg c1, if_neg (by omega), if_neg c5, if_neg c7, if_neg c4], pb_x (show pe 6 i (i + 1) = .error (6, i) from rfl)]
                      exact wp_some (RO_B hO2 (by decide) (by decide))
        · have hb : RB N 1 N z (rbk u 1 N) := RO_B hO (by decide) (by decide)
          rw [u1_x hO hi, cI_s, ok_b hb, cI_s, if_pos rfl, hE0, pb_as, pb_as, pb_x (pu_x hi)]
          exact wp_some hb
      · have : k = c := by omega
        subst this
        rw [f_M_pool_L48, h6, if_pos (nI_le (Nat.le_refl _) (by omega)), sEnts, if_neg d]
        exact hk K B i u hO hT ko_rf
theorem pool_m (hO : RO N i z u) (hF : xF u = F) (h0 : ∀ t, t < 300 → u.2 1 t = 0) : wp (f_M_pool u) (RQ N z (sPre F N i) (fun q v => ko [2, 6] [1, 2] u v ∧ v.1 6 = nI q.1 ∧ 1 ≤ q.1 ∧ q.1 ≤ 300 ∧ TM F N q.1 q.2.1 q.2.2 v)) := by
  unfold f_M_pool sPre
  rw [hO.1.2.2.2.2.1]
  refine mq_pa ?_
  refine mq_u2 hO hF (fun hi => ?_) (fun x u h => ?_)
  · have hn := be_lt (F := F) (fun j => by rw [← hF]; exact F8 u j) i 2
    refine wp_bnd (wp_bnd ?_)
    have hO1 : RO N (i + 2) z (sv (sv u 2 (nI (i + 2))) 6 (nI (be F i 2))) := RO_ko (s := [6]) (t := []) (RO_at hO hi) (ko_sv (by decide)) (by decide) (by decide)
    have k1 : ko [2, 6] [] u (sv (sv u 2 (nI (i + 2))) 6 (nI (be F i 2))) := ko_tr (ko_sv (by decide)) (ko_sv (by decide))
    have e6 : (sv (sv u 2 (nI (i + 2))) 6 (nI (be F i 2))).1 6 = nI (be F i 2) := rfl
    generalize be F i 2 = c at hn hO1 k1 e6 ⊢
    generalize sv (sv u 2 (nI (i + 2))) 6 (nI c) = v at hO1 k1 e6 ⊢
    have hF1 : xF v = F := (ko_F k1 (by decide)).trans hF
    rw [e6]
    have ec : (if nI c < 1 then (0 : Int32) else if 300 < nI c then 0 else 1) = 0 ↔ (decide (1 ≤ c) && decide (c ≤ 300)) = false := by
      simp only [show (nI c < 1) = (c < 1) from nlt (b := 1) (by omega) (by decide), show (300 < nI c) = (300 < c) from nlt (a := 300) (by decide) (by omega)]
      by_cases a1 : c < 1
      · rw [if_pos a1, decide_eq_false (by omega)]; exact ⟨fun _ => rfl, fun _ => rfl⟩
      · rw [if_neg a1, decide_eq_true (by omega), Bool.true_and]
        by_cases a2 : 300 < c
        · rw [if_pos a2, decide_eq_false (by omega)]; exact ⟨fun _ => rfl, fun _ => rfl⟩
        · rw [if_neg a2, decide_eq_true (by omega)]; exact ⟨fun q => absurd q (by decide), fun q => by cases q⟩
    refine mq_must hO1 rfl rfl (by decide) ec (fun hc => ?_) (fun u h => ?_)
    · rw [Bool.and_eq_true, decide_eq_true_eq, decide_eq_true_eq] at hc
      rw [if_neg (by decide)]
      have he := entsM (z := z) (F := F) (N := N) hc.2 (kx := fun u77 => some u77) (f' := fun q => pp (c, q.1, q.2)) (ψ := fun q v => ko [2, 6] [1, 2] u v ∧ v.1 6 = nI q.1 ∧ 1 ≤ q.1 ∧ q.1 ≤ 300 ∧ TM F N q.1 q.2.1 q.2.2 v) c FU 1 (i + 2) (fun _ => 0) (fun _ => 0) v (by omega) (by unfold FU; omega) (by omega) hc.1 hO1 hF1 e6 ⟨fun t ht => by rw [k1.2 1 (by decide)]; exact h0 t ht, fun _ _ => rfl, fun t t1 t2 => by omega⟩ (fun K' B' j v' a1 a2 a3 => wp_some ⟨a1, ko_tr (ko_mono k1 (fun _ h => h) (fun _ h => by cases h)) (ko_mono a3 (fun k h => by simp at h ⊢; omega) (fun _ h => h)), (a3.1 6 (by decide)).trans e6, hc.1, hc.2, a2⟩)
      exact he
    · rw [if_pos rfl]
      exact wp_some h
  · refine wp_bnd (wp_bnd ?_)
    have h' := RB_sv (k := 6) (x := x) (by decide) h
    rw [must_b h', cI_s, if_pos rfl]
    exact wp_some h'
end MEN

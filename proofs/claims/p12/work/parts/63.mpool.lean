/-! THE REFERENCE: the pool's entries -/
theorem sTxt_ok {F : Nat → Nat} {N sz : Nat} : ∀ (n l lo hi i : Nat) (q : Unit × Nat), sTxt F N sz n l lo hi i = .ok q → i ≤ N → q.2 = i + n ∧ i + n ≤ N
  | 0, l, lo, hi, i, q, h, hi' => by
    rw [sTxt] at h
    have := (pn_ok h).2
    cases this
    exact ⟨rfl, hi'⟩
  | n + 1, l, lo, hi, i, q, h, hi' => by
    rw [sTxt, pb_s (pa_i i)] at h
    obtain ⟨b, j, h1, h2⟩ := pb_ok h
    have e : j = i + 1 ∧ i + 1 ≤ N := by
      unfold pu at h1
      split at h1
      · cases h1; exact ⟨rfl, by assumption⟩
      · cases h1
    obtain ⟨rfl, hN⟩ := e
    by_cases hl : l = 0
    · rw [if_pos hl] at h2
      cases hf : fol b with
      | none => rw [hf] at h2; cases h2
      | some m =>
        rw [hf] at h2
        have := sTxt_ok n _ _ _ _ _ h2 hN
        omega
    · rw [if_neg hl] at h2
      obtain ⟨b', j', h3, h4⟩ := pb_ok h2
      have := (pn_ok h3).2
      cases this
      have := sTxt_ok n _ _ _ _ _ h4 hN
      omega
theorem pu_ok {F : Nat → Nat} {N k i j a : Nat} (h : pu F N k i = .ok (a, j)) : a = be F i k ∧ j = i + k ∧ i + k ≤ N := by
  unfold pu at h
  split at h
  · cases h; exact ⟨rfl, rfl, by assumption⟩
  · cases h
section MPO
variable {F : Nat → Nat} {N i r w : Nat} {z u : St} {β : Type}
theorem fol_m {b : Nat} (hb : b < 256) : (if nI b < 1 then (if nI b = 192 then ((1 : Int32)) else (if nI b < 194 then (if nI b < 224 then ((-1)) else (if 239 < nI b then ((-1)) else (2))) else (if 223 < nI b then (if nI b < 224 then ((-1)) else (if 239 < nI b then ((-1)) else (2))) else (1)))) else (if 127 < nI b then (if nI b = 192 then (1) else (if nI b < 194 then (if nI b < 224 then ((-1)) else (if 239 < nI b then ((-1)) else (2))) else (if 223 < nI b then (if nI b < 224 then ((-1)) else (if 239 < nI b then ((-1)) else (2))) else (1)))) else (0))) = (match fol b with
    | none => -1
    | some m => nI m) := by
  have key : ∀ b : Fin 256, (if nI b.val < 1 then (if nI b.val = 192 then ((1 : Int32)) else (if nI b.val < 194 then (if nI b.val < 224 then ((-1)) else (if 239 < nI b.val then ((-1)) else (2))) else (if 223 < nI b.val then (if nI b.val < 224 then ((-1)) else (if 239 < nI b.val then ((-1)) else (2))) else (1)))) else (if 127 < nI b.val then (if nI b.val = 192 then (1) else (if nI b.val < 194 then (if nI b.val < 224 then ((-1)) else (if 239 < nI b.val then ((-1)) else (2))) else (if 223 < nI b.val then (if nI b.val < 224 then ((-1)) else (if 239 < nI b.val then ((-1)) else (2))) else (1)))) else (0))) = (match fol b.val with
    | none => -1
    | some m => nI m) := by decide +kernel
  exact key ⟨b, hb⟩
def loB (b q : Nat) : Nat := if b = 224 ∧ q = 0 then 160 else 128
def hiB (b : Nat) : Nat := if b = 192 then 128 else 191
theorem fits_m {b d q : Nat} (hb : b < 256) (hd : d < 256) (hq : q < 10) : (if nI d < 128 then (0 : Int32) else (if 191 < nI d then (0) else (if nI b = 192 then (if nI d = 128 then (if nI b = 224 then (if 0 < nI q then (1) else (if nI d < 160 then (0) else (1))) else (1)) else (0)) else (if nI b = 224 then (if 0 < nI q then (1) else (if nI d < 160 then (0) else (1))) else (1))))) = 0 ↔ (decide (loB b q ≤ d) && decide (d ≤ hiB b)) = false := by
  simp only [show (nI d < 128) = (d < 128) from nlt (b := 128) (by omega) (by decide), show (191 < nI d) = (191 < d) from nlt (a := 191) (by decide) (by omega), show (nI b = 192) = (b = 192) from neq (b := 192) (by omega) (by decide), show (nI d = 128) = (d = 128) from neq (b := 128) (by omega) (by decide), show (nI b = 224) = (b = 224) from neq (b := 224) (by omega) (by decide), show (0 < nI q) = (0 < q) from nlt (a := 0) (by decide) (by omega), show (nI d < 160) = (d < 160) from nlt (b := 160) (by omega) (by decide)]
  unfold loB hiB
  rw [Bool.and_eq_false_iff, decide_eq_false_iff_not, decide_eq_false_iff_not]
  repeat' split
  all_goals first
    | (constructor <;> intro hh <;> first | rfl | (exact absurd hh (by decide)) | omega)
/-- the bytes that follow the first of a letter -/
theorem contL {sz e b m : Nat} {kx : St → Option St} {f : Unit → P β} {ψ : β → St → Prop} (hb : b < 256) (hm : m ≤ 2) (he : e < 100000) : ∀ (l q n i g : Nat) (u : St), q + l = m → l < g → e = i + n → RO N i z u → xF u = F → (∀ (n' : Nat) (v : St) (i' : Nat), n' ≤ n → e = i' + n' → RO N i' z v → ko [2] [] u v → wp (kx v) (MP N z (fun v => v) (pb (sTxt F N sz n' 0 (loB b m) (hiB b)) f i') (fun a x => ψ a x))) → wp (f_M_text_L153 kx (nI sz) (nI e) (nI b) (nI m) g u (nI q)) (MP N z (fun v => v) (pb (sTxt F N sz n l (loB b q) (hiB b)) f i) (fun a x => ψ a x))
  | 0, q, n, i, g + 1, u, h1, _, h3, hO, hF, hk => by
    have : q = m := by omega
    subst this
    rw [f_M_text_L153, if_pos (nI_le (by omega) (by omega))]
    exact hk n u i (Nat.le_refl _) h3 hO ko_rf
  | l + 1, q, n, i, g + 1, u, h1, h2, h3, hO, hF, hk => by
    have hN := hO.1.1
    have hiN := hO.1.2.2.2.2.2
    rw [f_M_text_L153, if_neg (nI_ge (by omega) (by omega)), hO.1.2.2.2.2.1]
    refine wp_bnd ?_
    cases n with
    | zero =>
      rw [if_pos (nI_le (by omega) (by omega)), must_fl 5 (r := 5) rfl hO (by decide) (by decide), cI_s, if_pos rfl, sTxt]
      rw [pb_x (pn_x (by simp))]
      exact wp_some (RO_B hO (by decide) (by decide))
    | succ n =>
      rw [if_neg (nI_ge (by omega) (by omega)), must_t hO (by decide), cI_s, if_neg (by decide), sTxt, pb_as]
      refine mq_pa ?_
      rw [pb_as]
      refine mq_u1 hO hF (fun hi => ?_) (fun x u h => ?_)
      · have hO1 := RO_at (j := i + 1) hO hi
        rw [ok_o hO1, cI_s, if_neg (by decide), if_neg (show ¬ l + 1 = 0 by omega), pb_as]
        refine wp_bnd ?_
        have hd : F i < 256 := by rw [← hF]; exact F8 u i
        refine mq_must hO1 rfl hO.1.2.2.2.2.1 (by decide) (fits_m hb hd (by omega)) (fun _ => ?_) (fun u h => ?_)
        · rw [if_neg (by decide), nI_1, Nat.add_sub_cancel]
          have el : loB b (q + 1) = 128 := if_neg (by omega)
          have ih := contL (sz := sz) (e := e) (kx := kx) (f := f) (ψ := ψ) hb hm he l (q + 1) n (i + 1) g _ (by omega) (by omega) (by omega) hO1 hF (by
            intro n' v i' a1 a2 a3 a4
            exact hk n' v i' (by omega) a2 a3 (ko_tr (ko_sv (by decide)) a4))
          rw [el] at ih
          exact ih
        · rw [if_pos rfl]
          exact wp_some h
      · rw [ok_b h, cI_s, if_pos rfl]
        exact wp_some h
theorem textL {sz e : Nat} {kx : St → Option St} {f : Unit → P β} {ψ : β → St → Prop} (he : e < 100000) : ∀ (n i g lo hi : Nat) (u : St), n < g → e = i + n → RO N i z u → xF u = F → (∀ v, RO N e z v → ko [2] [] u v → wp (kx v) (MP N z (fun v => v) (f () e) (fun a x => ψ a x))) → wp (f_M_text_L25 kx (nI sz) (nI e) g u) (MP N z (fun v => v) (pb (sTxt F N sz n 0 lo hi) f i) (fun a x => ψ a x)) := by
  intro n
  induction n using Nat.strongRecOn with
  | ind n ih =>
    intro i g lo hi u hg h3 hO hF hk
    have hN := hO.1.1
    have hiN := hO.1.2.2.2.2.2
    cases g with
    | zero => omega
    | succ g =>
      rw [f_M_text_L25, hO.1.2.2.2.2.1]
      cases n with
      | zero =>
        rw [if_pos (nI_le (by omega) (by omega)), sTxt, pb_s (pn_s (by rfl))]
        have : e = i := by omega
        subst this
        exact hk u hO ko_rf
      | succ n =>
        rw [if_neg (nI_ge (by omega) (by omega)), ok_o hO, cI_s, if_neg (by decide), sTxt, pb_as]
        refine mq_pa ?_
        rw [pb_as]
        refine mq_u1 hO hF (fun hi1 => ?_) (fun x u h => ?_)
        · have hO1 := RO_at (j := i + 1) hO hi1
          have hd : F i < 256 := by rw [← hF]; exact F8 u i
          rw [ok_o hO1, cI_s, if_neg (by decide), if_pos (show (0 : Nat) = 0 from rfl), fol_m hd]
          refine wp_bnd (wp_bnd ?_)
          cases hf : fol (F i) with
          | none =>
            dsimp only
            rw [if_pos rfl, hO.1.2.2.2.2.1, must_fl 5 (r := 5) rfl hO1 (by decide) (by decide), cI_s, if_pos rfl, pb_x (show pe 5 i (i + 1) = .error (5, i) from rfl)]
            exact wp_some (RO_B hO1 (by decide) (by decide))
          | some m =>
            have hm := fol_le hf
            dsimp only
            rw [if_neg (show ¬ nI m = -1 by
              intro q
              have : nI m < 0 := by rw [q]; decide
              exact nI_pos (by omega) this), must_t hO1 (by decide), cI_s, if_neg (by decide)]
            have e1 : (if F i = 224 then 160 else 128) = loB (F i) 0 := by
              unfold loB
              by_cases q : F i = 224
              · rw [if_pos q, if_pos ⟨q, rfl⟩]
              · rw [if_neg q, if_neg (fun z => q z.1)]
            rw [e1]
            have hc := contL (sz := sz) (e := e) (kx := fun u37 => f_M_text_L25 kx (nI sz) (nI e) g u37) (f := f) (ψ := ψ) hd hm he m 0 n (i + 1) FU (sv u 2 (nI (i + 1))) (by omega) (by unfold FU; omega) (by omega) hO1 hF (by
              intro n' v i' a1 a2 a3 a4
              refine ih n' (by omega) i' g _ _ v (by omega) a2 a3 ((ko_F a4 (by decide)).trans hF) ?_
              intro v' b1 b2
              exact hk v' b1 (ko_tr (ko_sv (by decide)) (ko_tr a4 b2)))
            exact hc
        · rw [ok_b h, cI_s, if_pos rfl]
          exact wp_some h
def sTx (F : Nat → Nat) (N : Nat) : P Unit := pb pa fun w => pb (pu F N 2) fun n => sTxt F N w n 0 0 0
theorem text_m (hO : RO N i z u) (hF : xF u = F) : wp (f_M_text u) (RQ N z (sTx F N i) (fun _ v => ko [2] [] u v)) := by
  unfold f_M_text sTx
  rw [hO.1.2.2.2.2.1]
  refine mq_pa ?_
  refine mq_u2 hO hF (fun hi => ?_) (fun x u h => ?_)
  · have hO1 := RO_at (j := i + 2) hO hi
    have hn := be_lt (F := F) (fun j => by rw [← hF]; exact F8 u j) i 2
    have hN := hO.1.1
    rw [ok_o hO1, cI_s, if_neg (by decide), hO1.1.2.2.2.2.1, nI_add]
    have ht := textL (z := z) (sz := i) (e := i + 2 + be F i 2) (kx := fun u40 => some u40) (f := fun _ => pp ()) (ψ := fun _ v => ko [2] [] u v) (by omega) (be F i 2) (i + 2) FU 0 0 (sv u 2 (nI (i + 2))) (by unfold FU; omega) rfl hO1 hF (fun v b1 b2 => wp_some ⟨b1, ko_tr (ko_sv (by decide)) b2⟩)
    have e : ∀ p : P Unit, pb p (fun _ => pp ()) = p := by
      intro p
      funext i
      unfold pb
      cases p i <;> rfl
    rw [e] at ht
    exact ht
  · rw [ok_b h, cI_s, if_pos rfl]
    exact wp_some h
/-! entries -/
theorem sEnt_ok {many k : Nat} {q : Nat × Nat} (hF8 : ∀ j, F j < 256) (h : sEnt F N many k i i = .ok q) : q.1 < 256 ∧ ext F N q.1 i ∧ i + 1 ≤ q.2 ∧ q.1 ≠ 0 := by
  unfold sEnt at h
  obtain ⟨kd, j, h1, h2⟩ := pb_ok h
  obtain ⟨e1, e2, e3⟩ := pu_ok h1
  obtain ⟨a, j2, h3, h4⟩ := pb_ok h2
  cases h4
  rw [be1] at e1
  have hk := hF8 i
  subst e2
  dsimp only
  unfold ext
  split at h3
  · rename_i c
    obtain ⟨w, j3, h5, h6⟩ := pb_ok h3
    cases h5
    obtain ⟨n, j4, h7, h8⟩ := pb_ok h6
    obtain ⟨f1, f2, f3⟩ := pu_ok h7
    have := sTxt_ok _ _ _ _ _ _ h8 (by omega)
    rw [f1] at this
    subst f2
    refine ⟨by omega, ⟨by omega, fun _ => by omega, fun q => by omega, fun q => by omega⟩, by omega, by omega⟩
  · split at h3
    · obtain ⟨w, j3, h5, h6⟩ := pb_ok h3
      obtain ⟨f1, f2, f3⟩ := pu_ok h5
      cases h6
      exact ⟨by omega, ⟨by omega, fun _ => by omega, fun q => by omega, fun q => by omega⟩, by omega, by omega⟩
    · split at h3
      · obtain ⟨w, j3, h5, h6⟩ := pb_ok h3
        obtain ⟨f1, f2, f3⟩ := pu_ok h5
        have := (pn_ok h6).2
        cases this
        exact ⟨by omega, ⟨by omega, fun _ => by omega, fun q => by omega, fun q => by omega⟩, by omega, by omega⟩
      · split at h3
        · obtain ⟨w, j3, h5, h6⟩ := pb_ok h3
          obtain ⟨f1, f2, f3⟩ := pu_ok h5
          cases h6
          exact ⟨by omega, ⟨by omega, fun _ => by omega, fun q => by omega, fun q => by omega⟩, by omega, by omega⟩
        · split at h3
          · cases h3
          · cases h3
end MPO

/-! TEXT in the class -/
/-- what comes of the loop over a text's bytes -/
def txQ (N sz : Nat) (u u' : St) (s' x' : Int32) (e : Int32) (j : Nat) (res : Except Er (Unit × Nat)) : Prop := ko [1, 2, 3] [] u u' ∧ match res with
  | .ok q => XO N q.2 u' ∧ x' = 0 ∧ s' = e ∧ q.2 = j
  | .error (r, w) => XB N r w u' ∨ (XO N j u' ∧ ¬ x' = 0 ∧ r = 5 ∧ w = sz)
theorem txL_eq {N sz n : Nat} (hn : n < 65536) (x1 x2 : Int32) (F : Nat → Nat) : ∀ (m l lo hi j i f : Nat) (s : Int32) (u : St), m < f → j + m = n → XO N i u → xF u = F → l ≤ 2 → lo < 256 → hi < 256 → ∃ u' s' x', f_P_readText_L32 x1 x2 (nI n) f u s (nI l) (nI lo) (nI hi) (nI j) = some (u', s', x') ∧ txQ N sz u u' s' x' (hs F m i s) (i + m) (sTxt F N sz m l lo hi i)
  | 0, l, lo, hi, j, i, f + 1, s, u, _, hj, hO, hF, hl, hlo, hhi => by
    rw [f_P_readText_L32, if_pos (nI_le (by omega) (by omega))]
    refine ⟨u, s, nI l, rfl, ko_rf, ?_⟩
    rw [sTxt, pn]
    by_cases h : l = 0
    · subst h
      exact ⟨hO, rfl, rfl, rfl⟩
    · have : (l == 0) = false := by simp [h]
      rw [this]
      exact Or.inr ⟨hO, nI_ne0 (by omega) (by omega), rfl, rfl⟩
  | m + 1, l, lo, hi, j, i, f + 1, s, u, hf, hj, hO, hF, hl, hlo, hhi => by
    have hN := hO.1
    have hat : u.1 1 = nI i := hO.2.2.2.2.1
    rw [f_P_readText_L32, if_neg (nI_ge (by omega) (by omega)), snd_o hO, cI_s, if_neg (by decide), sTxt, pb_s (pa_i i)]
    by_cases c1 : i + 1 ≤ N
    · rw [nx_o1 hO c1, cI_s, pb_s (pu_s c1), be1, be1, hF]
      have hb : F i < 256 := by rw [← hF]; exact by8_lt _ _
      have hO1 : XO N (i + 1) (sv u 1 (nI (i + 1))) := XO_at hO c1
      have hF1 : xF (sv u 1 (nI (i + 1))) = F := hF
      have hk1 : ko [1, 2, 3] [] u (sv u 1 (nI (i + 1))) := ko_sv (by decide)
      generalize sv u 1 (nI (i + 1)) = v at hO1 hF1 hk1 ⊢
      by_cases c2 : l = 0
      · subst c2
        rw [if_pos nI_0, if_pos rfl, fol_eq v hb, cI_s]
        simp only [bnd_s]
        cases hfo : fol (F i) with
        | none =>
          simp only
          rw [if_pos (by decide), hat, nd_5 hO1, cV_s, cT_s]
          have hB : XB N 5 i (brk v 5 i) := brk_B hO1 (by decide) (by decide)
          simp only
          cases f with
          | zero => omega
          | succ f =>
            rw [f_P_readText_L32]
            by_cases c3 : nI n ≤ nI j + 1
            · rw [if_pos c3]
              exact ⟨_, _, _, rfl, ko_tr hk1 brk_ko, Or.inl hB⟩
            · rw [if_neg c3, snd_b hB, cI_s, if_pos rfl]
              exact ⟨_, _, _, rfl, ko_tr hk1 brk_ko, Or.inl hB⟩
        | some q =>
          have hq := fol_le hfo
          simp only
          rw [if_neg (nI_pos (by omega)), nd_t (by decide), cV_s, cT_s]
          simp only
          have ea : (if nI (F i) = 224 then (160 : Int32) else 128) = nI (if F i = 224 then 160 else 128) := by
            by_cases z : F i = 224
            · rw [if_pos (by rw [z]; rfl), if_pos z]; rfl
            · rw [if_neg (show ¬ nI (F i) = 224 from fun h => z ((nI_eq (b := 224) (by omega) (by decide)).mp h)), if_neg z]; rfl
          have eb : (if nI (F i) = 192 then (128 : Int32) else 191) = nI (if F i = 192 then 128 else 191) := by
            by_cases z : F i = 192
            · rw [if_pos (by rw [z]; rfl), if_pos z]; rfl
            · rw [if_neg (show ¬ nI (F i) = 192 from fun h => z ((nI_eq (b := 192) (by omega) (by decide)).mp h)), if_neg z]; rfl
          rw [ea, eb, nI_1]
          obtain ⟨u', s', x', h1, h2, h3⟩ := txL_eq hn x1 x2 F m q (if F i = 224 then 160 else 128) (if F i = 192 then 128 else 191) (j + 1) (i + 1) f (31 * s + nI (F i)) v (by omega) (by omega) hO1 hF1 hq (by split <;> decide) (by split <;> decide)
          refine ⟨u', s', x', h1, ko_tr hk1 h2, ?_⟩
          rw [show i + (m + 1) = i + 1 + m by omega]
          exact h3
      · rw [if_neg (nI_ne0 (by omega) (by omega)), if_neg c2]
        simp only [bnd_s]
        by_cases c4 : lo ≤ F i ∧ F i ≤ hi
        · rw [if_neg (nI_nlt c4.1 (by omega)), if_neg (nI_nlt c4.2 (by omega)), nd_t (by decide), cV_s, cT_s, pb_s (pn_s (by simp [c4.1, c4.2]))]
          have e5 : nI l + (-1) = nI (l - 1) := sb_m1 (by omega)
          rw [e5, nI_1]
          obtain ⟨u', s', x', h1, h2, h3⟩ := txL_eq hn x1 x2 F m (l - 1) 128 hi (j + 1) (i + 1) f (31 * s + nI (F i)) v (by omega) (by omega) hO1 hF1 (by omega) (by decide) hhi
          refine ⟨u', s', x', h1, ko_tr hk1 h2, ?_⟩
          rw [show i + (m + 1) = i + 1 + m by omega]
          exact h3
        · have ez : (if nI (F i) < nI lo then (0 : Int32) else if nI hi < nI (F i) then 0 else 1) = 0 := by
            by_cases z : F i < lo
            · rw [if_pos (nI_lt z (by omega))]
            · rw [if_neg (nI_nlt (by omega) (by omega)), if_pos (nI_lt (by omega) (by omega))]
          have ed : (decide (lo ≤ F i) && decide (F i ≤ hi)) = false := by simpa using c4
          rw [ez, hat, nd_5 hO1, cV_s, cT_s, pb_x (pn_x ed)]
          have hB : XB N 5 i (brk v 5 i) := brk_B hO1 (by decide) (by decide)
          cases f with
          | zero => omega
          | succ f =>
            rw [f_P_readText_L32]
            by_cases c3 : nI n ≤ nI j + 1
            · rw [if_pos c3]
              exact ⟨_, _, _, rfl, ko_tr hk1 brk_ko, Or.inl hB⟩
            · rw [if_neg c3, snd_b hB, cI_s, if_pos rfl]
              exact ⟨_, _, _, rfl, ko_tr hk1 brk_ko, Or.inl hB⟩
    · rw [nx_e1 hO c1, cI_s, pb_x (pu_x c1)]
      have hB : XB N 1 N (brk u 1 N) := brk_B hO (by decide) (by decide)
      have hk1 : ko [1, 2, 3] [] u (brk u 1 N) := brk_ko
      generalize brk u 1 N = v at hB hk1 ⊢
      have fin : ∀ (s x y z w : Int32), ∃ u' s' x', f_P_readText_L32 x1 x2 (nI n) f v s x y z w = some (u', s', x') ∧ u' = v := by
        intro s x y z w
        cases f with
        | zero => omega
        | succ f =>
          rw [f_P_readText_L32]
          by_cases c3 : nI n ≤ w
          · rw [if_pos c3]; exact ⟨_, _, _, rfl, rfl⟩
          · rw [if_neg c3, snd_b hB, cI_s, if_pos rfl]; exact ⟨_, _, _, rfl, rfl⟩
      have hfo : f_P_followers v 0 = some (-1, v) := fol_eq v (b := 0) (by decide)
      by_cases c2 : nI l = 0
      · rw [if_pos c2, hfo, cI_s]
        simp only [bnd_s]
        rw [nd_b hB, cV_s, cT_s]
        obtain ⟨u', s', x', h1, rfl⟩ := fin ((31 * s) + 0) (-1) 128 191 (nI j + 1)
        exact ⟨u', s', x', h1, hk1, Or.inl hB⟩
      · rw [if_neg c2]
        simp only [bnd_s]
        rw [nd_b hB, cV_s, cT_s]
        obtain ⟨u', s', x', h1, rfl⟩ := fin ((31 * s) + 0) (nI l + -1) 128 (nI hi) (nI j + 1)
        exact ⟨u', s', x', h1, hk1, Or.inl hB⟩

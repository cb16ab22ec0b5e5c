/-! the relation is kept by every call -/
theorem rl_0 : RL u0 u0 := by
  refine ⟨0, by decide, rfl, rfl, fun _ => rfl, rfl, ?_, Or.inl rfl, rfl, fun h => absurd rfl h⟩
  show ¬ (0 : Int32) < 0
  decide
theorem rel_ok : ∃ Rel : St → St → Prop, RelOK Rel := ⟨RL, rl_0, fun _ _ h => ⟨rl_feed h, rl_cut h, rl_turn h, rl_byteAt h, rl_judge h, rl_rule h, rl_told h, rl_method h, rl_entry h, rl_guarded h, rl_beginnings h⟩⟩

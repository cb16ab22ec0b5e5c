/-! what the pure side owes -/
def u0 : St := (fun _ => 0, fun _ _ => 0)
/-- a relation of the two states that holds at the start and is kept by each call, with one answer but for rule -/
def RelOK (Rel : St → St → Prop) : Prop := Rel u0 u0 ∧ ∀ s t : St, Rel s t → (∀ a b c d e : Int32, ∃ (r : Int32) (s' t' : St), f_X_feed s a b c d e = some (r, s') ∧ f_M_feed t a b c d e = some (r, t') ∧ Rel s' t') ∧
  (∀ a : Int32, ∃ (r : Int32) (s' t' : St), f_X_cut s a = some (r, s') ∧ f_M_cut t a = some (r, t') ∧ Rel s' t') ∧
  (∀ a b : Int32, ∃ (r : Int32) (s' t' : St), f_X_turn s a b = some (r, s') ∧ f_M_turn t a b = some (r, t') ∧ Rel s' t') ∧
  (∀ a : Int32, ∃ (r : Int32) (s' t' : St), f_X_byteAt s a = some (r, s') ∧ f_M_byteAt t a = some (r, t') ∧ Rel s' t') ∧
  (∃ (r : Int32) (s' t' : St), f_X_judge s = some (r, s') ∧ f_M_judge t = some (r, t') ∧ Rel s' t') ∧
  (∃ (r r' : Int32) (s' t' : St), f_X_rule s = some (r, s') ∧ f_M_rule t = some (r', t') ∧ Rel s' t') ∧
  (∀ a : Int32, ∃ (r : Int32) (s' t' : St), f_X_told s a = some (r, s') ∧ f_M_told t a = some (r, t') ∧ Rel s' t') ∧
  (∀ a b : Int32, ∃ (r : Int32) (s' t' : St), f_X_method s a b = some (r, s') ∧ f_M_method t a b = some (r, t') ∧ Rel s' t') ∧
  (∀ a : Int32, ∃ (r : Int32) (s' t' : St), f_X_entry s a = some (r, s') ∧ f_M_entry t a = some (r, t') ∧ Rel s' t') ∧
  (∀ a : Int32, ∃ (r : Int32) (s' t' : St), f_X_guarded s a = some (r, s') ∧ f_M_guarded t a = some (r, t') ∧ Rel s' t') ∧
  (∃ (r : Int32) (s' t' : St), f_X_beginnings s = some (r, s') ∧ f_M_beginnings t = some (r, t') ∧ Rel s' t')

/-! STATICS AND STRINGS of the class: what the Statement gives of them, carried along (xZ); the JDK methods that are reached -/
def tab_FORMS (j : Nat) : Int32 := ([1, 1, 1, 1, 1, 1, 1, 1, 1, 1, 1, 0, 0, 0, 0, 0, 2, 3, 4, 5, 6, 7, 8, 0, 0, 7, 9, 9, 9, 9, 10, 10, 10, 10, 0, 0, 0, 0, 0, 0, 0, 0, 9, 9, 9, 9, 1, 1, 0, 0, 1, 1, 1, 1, 7, 8, 0, 0, 7, 9, 9, 9, 9, 10, 10, 10, 10, 0, 0, 0, 0, 0, 0, 0, 0, 9, 9, 9, 9, 1, 1, 0, 0, 1, 1, 1, 1, 1, 1, 1, 1, 1, 1, 1, 1, 1, 1, 1, 0, 0, 1, 1, 0, 0, 1, 1, 0, 0, 1, 1, 0, 0, 1, 1, 0, 0, 1, 1, 0, 0, 1, 1, 1, 1, 1, 1, 1, 1, 1, 1, 1, 1, 11, 1, 0, 0, 1, 0, 0, 0, 0, 0, 0, 0, 0, 1, 1, 1, 1, 0, 0, 0, 0, 12, 12, 12, 12, 12, 12, 12, 12, 12, 12, 12, 12, 12, 12, 12, 0, 0, 14, 15, 1, 1, 0, 0, 1, 1, 16, 16, 16, 16, 17, 17, 17, 18, 0, 19, 20, 19, 1, 1, 19, 19, 0, 0, 22, 21, 12, 12, 13, 0] : List Int32).getD j 0
def tab_WIDTHS (j : Nat) : Int32 := ([1, 1, 2, 3, 2, 3, 3, 2, 2, 1, 1, 3, 3, 5, 0, 0, 3, 3, 5, 3, 2, 4, 0] : List Int32).getD j 0
def tab_NUMBERS (j : Nat) : Int32 := ([0, 0, 1, 2, 1, 2, 2, 1, 1, 0, 0, 1, 2, 4, 0, 0, 2, 2, 2, 2, 1, 2, 0] : List Int32).getD j 0
def lenL : List Nat := [6, 8, 16, 4, 13, 10, 10, 1, 18, 3]
def bytL : List (List Int32) := [[60, 105, 110, 105, 116, 62], [60, 99, 108, 105, 110, 105, 116, 62], [106, 97, 118, 97, 47, 108, 97, 110, 103, 47, 79, 98, 106, 101, 99, 116], [67, 111, 100, 101], [67, 111, 110, 115, 116, 97, 110, 116, 86, 97, 108, 117, 101], [69, 120, 99, 101, 112, 116, 105, 111, 110, 115], [83, 111, 117, 114, 99, 101, 70, 105, 108, 101], [74], [76, 106, 97, 118, 97, 47, 108, 97, 110, 103, 47, 83, 116, 114, 105, 110, 103, 59], [40, 41, 86]]
def lnS (k : Nat) : Nat := lenL.getD k 0
def lenS (k : Nat) : Int32 := nI (lnS k)
def chS (k : Nat) (i : Int32) : Int32 := (bytL.getD k []).getD i.toNatClampNeg 0 &&& 255
def gk {β : Type} (k : Nat) (q : Option β) : Option β := if k < 10 then q else none
theorem gk_u {β : Type} {k : Nat} {q : Option β} {F : β} (h : gk k q = some F) : k < 10 ∧ q = some F := by
  unfold gk at h
  split at h
  · rename_i z
    exact ⟨z, h⟩
  · cases h
theorem eo1 {α : Type} {x z : α} (h : some x = some z) : z = x := (Option.some.inj h).symm
theorem ep1 {α : Type} {x z : α} (h : x = z) : z = x := h.symm
theorem ep2 {α0 α1 : Type} {x0 z0 : α0} {x1 z1 : α1} (h : (x0, x1) = (z0, z1)) : z0 = x0 ∧ z1 = x1 := by
  simp only [Prod.mk.injEq] at h
  exact ⟨h.1.symm, h.2.symm⟩
theorem eo2 {α0 α1 : Type} {x0 z0 : α0} {x1 z1 : α1} (h : some (x0, x1) = some (z0, z1)) : z0 = x0 ∧ z1 = x1 := ep2 (Option.some.inj h)
theorem ep3 {α0 α1 α2 : Type} {x0 z0 : α0} {x1 z1 : α1} {x2 z2 : α2} (h : (x0, x1, x2) = (z0, z1, z2)) : z0 = x0 ∧ z1 = x1 ∧ z2 = x2 := by
  simp only [Prod.mk.injEq] at h
  exact ⟨h.1.symm, h.2.1.symm, h.2.2.symm⟩
theorem eo3 {α0 α1 α2 : Type} {x0 z0 : α0} {x1 z1 : α1} {x2 z2 : α2} (h : some (x0, x1, x2) = some (z0, z1, z2)) : z0 = x0 ∧ z1 = x1 ∧ z2 = x2 := ep3 (Option.some.inj h)
theorem ep4 {α0 α1 α2 α3 : Type} {x0 z0 : α0} {x1 z1 : α1} {x2 z2 : α2} {x3 z3 : α3} (h : (x0, x1, x2, x3) = (z0, z1, z2, z3)) : z0 = x0 ∧ z1 = x1 ∧ z2 = x2 ∧ z3 = x3 := by
  simp only [Prod.mk.injEq] at h
  exact ⟨h.1.symm, h.2.1.symm, h.2.2.1.symm, h.2.2.2.symm⟩
theorem eo4 {α0 α1 α2 α3 : Type} {x0 z0 : α0} {x1 z1 : α1} {x2 z2 : α2} {x3 z3 : α3} (h : some (x0, x1, x2, x3) = some (z0, z1, z2, z3)) : z0 = x0 ∧ z1 = x1 ∧ z2 = x2 ∧ z3 = x3 := ep4 (Option.some.inj h)
theorem ep5 {α0 α1 α2 α3 α4 : Type} {x0 z0 : α0} {x1 z1 : α1} {x2 z2 : α2} {x3 z3 : α3} {x4 z4 : α4} (h : (x0, x1, x2, x3, x4) = (z0, z1, z2, z3, z4)) : z0 = x0 ∧ z1 = x1 ∧ z2 = x2 ∧ z3 = x3 ∧ z4 = x4 := by
  simp only [Prod.mk.injEq] at h
  exact ⟨h.1.symm, h.2.1.symm, h.2.2.1.symm, h.2.2.2.1.symm, h.2.2.2.2.symm⟩
theorem eo5 {α0 α1 α2 α3 α4 : Type} {x0 z0 : α0} {x1 z1 : α1} {x2 z2 : α2} {x3 z3 : α3} {x4 z4 : α4} (h : some (x0, x1, x2, x3, x4) = some (z0, z1, z2, z3, z4)) : z0 = x0 ∧ z1 = x1 ∧ z2 = x2 ∧ z3 = x3 ∧ z4 = x4 := ep5 (Option.some.inj h)
theorem ep6 {α0 α1 α2 α3 α4 α5 : Type} {x0 z0 : α0} {x1 z1 : α1} {x2 z2 : α2} {x3 z3 : α3} {x4 z4 : α4} {x5 z5 : α5} (h : (x0, x1, x2, x3, x4, x5) = (z0, z1, z2, z3, z4, z5)) : z0 = x0 ∧ z1 = x1 ∧ z2 = x2 ∧ z3 = x3 ∧ z4 = x4 ∧ z5 = x5 := by
  simp only [Prod.mk.injEq] at h
  exact ⟨h.1.symm, h.2.1.symm, h.2.2.1.symm, h.2.2.2.1.symm, h.2.2.2.2.1.symm, h.2.2.2.2.2.symm⟩
theorem eo6 {α0 α1 α2 α3 α4 α5 : Type} {x0 z0 : α0} {x1 z1 : α1} {x2 z2 : α2} {x3 z3 : α3} {x4 z4 : α4} {x5 z5 : α5} (h : some (x0, x1, x2, x3, x4, x5) = some (z0, z1, z2, z3, z4, z5)) : z0 = x0 ∧ z1 = x1 ∧ z2 = x2 ∧ z3 = x3 ∧ z4 = x4 ∧ z5 = x5 := ep6 (Option.some.inj h)
theorem ep7 {α0 α1 α2 α3 α4 α5 α6 : Type} {x0 z0 : α0} {x1 z1 : α1} {x2 z2 : α2} {x3 z3 : α3} {x4 z4 : α4} {x5 z5 : α5} {x6 z6 : α6} (h : (x0, x1, x2, x3, x4, x5, x6) = (z0, z1, z2, z3, z4, z5, z6)) : z0 = x0 ∧ z1 = x1 ∧ z2 = x2 ∧ z3 = x3 ∧ z4 = x4 ∧ z5 = x5 ∧ z6 = x6 := by
  simp only [Prod.mk.injEq] at h
  exact ⟨h.1.symm, h.2.1.symm, h.2.2.1.symm, h.2.2.2.1.symm, h.2.2.2.2.1.symm, h.2.2.2.2.2.1.symm, h.2.2.2.2.2.2.symm⟩
theorem eo7 {α0 α1 α2 α3 α4 α5 α6 : Type} {x0 z0 : α0} {x1 z1 : α1} {x2 z2 : α2} {x3 z3 : α3} {x4 z4 : α4} {x5 z5 : α5} {x6 z6 : α6} (h : some (x0, x1, x2, x3, x4, x5, x6) = some (z0, z1, z2, z3, z4, z5, z6)) : z0 = x0 ∧ z1 = x1 ∧ z2 = x2 ∧ z3 = x3 ∧ z4 = x4 ∧ z5 = x5 ∧ z6 = x6 := ep7 (Option.some.inj h)
def strR : List (String × Nat × String) := [("CodeGate$Pool", 101, "<init>"), ("CodeGate$Pool", 106, "<clinit>"), ("CodeGate$Gate", 137, "java/lang/Object"), ("CodeGate$Gate", 197, "Code"), ("CodeGate$Gate", 199, "ConstantValue"), ("CodeGate$Gate", 201, "Exceptions"), ("CodeGate$Gate", 203, "SourceFile"), ("CodeGate$Gate", 211, "J"), ("CodeGate$Gate", 213, "Ljava/lang/String;"), ("CodeGate$Gate", 181, "()V")]
def xZ (sk sv9 st : Nat → Nat) : zT := fun A U H =>
  (va_Z "CodeGate$Code" "FORMS" "[I" (.ref (st 0)) A U H ∧ va_T .int (st 0) 202 (fun j => .int (tab_FORMS j)) A U H) ∧
  (va_Z "CodeGate$Code" "WIDTHS" "[I" (.ref (st 1)) A U H ∧ va_T .int (st 1) 23 (fun j => .int (tab_WIDTHS j)) A U H) ∧
  (va_Z "CodeGate$Code" "NUMBERS" "[I" (.ref (st 2)) A U H ∧ va_T .int (st 2) 23 (fun j => .int (tab_NUMBERS j)) A U H) ∧
  va_Z "java/lang/String" "COMPACT_STRINGS" "Z" (.int 1) A U H ∧ va_Zq "jdk/internal/util/Preconditions" "SIOOBE_FORMATTER" "Ljava/util/function/BiFunction;" A U H ∧
  vk_S 10 lenL bytL sk sv9 A U H ∧ ∀ (k : Nat) (q : String × Nat × String), strR[k]? = some q → vk_R q.1 q.2.1 q.2.2 (sk k) U
theorem xZ_ok (sk sv9 st : Nat → Nat) : zOK (xZ sk sv9 st) := by
  refine ⟨fun A u U H hW h => ?_, fun A u U H hv h => ?_, fun A U H H1 hq h => ?_, fun A B U H hq h => ?_⟩
  · obtain ⟨⟨h1, h2⟩, ⟨h3, h4⟩, ⟨h5, h6⟩, h7, h8, h9, h10⟩ := h
    exact ⟨⟨h1.moved hW.alike, h2.moved hW.alike⟩, ⟨h3.moved hW.alike, h4.moved hW.alike⟩, ⟨h5.moved hW.alike, h6.moved hW.alike⟩, h7.moved hW.alike, h8.moved hW.alike, h9.moved hW.alike, fun k q hk => (h10 k q hk).warm hW⟩
  · obtain ⟨⟨h1, h2⟩, ⟨h3, h4⟩, ⟨h5, h6⟩, h7, h8, h9, h10⟩ := h
    have ha : u.vm.Alike U.vm := by rw [hv]; exact Vm.Alike.refl _
    exact ⟨⟨h1.moved ha, h2.moved ha⟩, ⟨h3.moved ha, h4.moved ha⟩, ⟨h5.moved ha, h6.moved ha⟩, h7.moved ha, h8.moved ha, h9.moved ha, fun k q hk => (h10 k q hk).same hv⟩
  · obtain ⟨⟨h1, h2⟩, ⟨h3, h4⟩, ⟨h5, h6⟩, h7, h8, h9, h10⟩ := h
    exact ⟨⟨h1.kept hq, h2.kept hq⟩, ⟨h3.kept hq, h4.kept hq⟩, ⟨h5.kept hq, h6.kept hq⟩, h7.kept hq, h8.kept hq, h9.kept hq, h10⟩
  · obtain ⟨⟨h1, h2⟩, ⟨h3, h4⟩, ⟨h5, h6⟩, h7, h8, h9, h10⟩ := h
    exact ⟨⟨h1.narrow hq, h2.narrow hq⟩, ⟨h3.narrow hq, h4.narrow hq⟩, ⟨h5.narrow hq, h6.narrow hq⟩, h7.narrow hq, h8.narrow hq, h9.narrow hq, h10⟩
theorem zT_ok : zOK (fun _ _ _ => True) := ⟨fun _ _ _ _ _ _ => trivial, fun _ _ _ _ _ _ => trivial, fun _ _ _ _ _ _ => trivial, fun _ _ _ _ _ _ => trivial⟩
section SROWS
variable {own tx : String} {cc : ByteArray} {nL : Nat} {D : va_G} {cs : Nat → ClassId} {a sk sv9 st : Nat → Nat} {Z : zT} {l : Launch} {u u' : St} {pc index : Nat} {ls : Array Slot} {rest : List Value} {x i : Int32}
variable {p : Program} {e : Env} {R : Room} {s : State} {m : MethodId} {args : Array Value} {below : List Frame} {meth : Method} {c : Code} {H : Heap} {locs : List Loc} {Q : State → Prop}
theorem gs_FORMS (C : Cx clA own cc nL D cs (xW a cs) (xZ sk sv9 st) p s m args c) (I : Dy clA D (xW a cs) s H locs u) (hi : Cond.fieldLink own index "CodeGate$Code" "FORMS" "[I" ∈ tb) (hdg : decode cc pc = .ok (.getstatic index, 3)) (kk : W p l e R s m args below meth c H locs 0 0 Q (F0 m (pc + 3) ls (.ref (st 0) :: rest))) : W p l e R s m args below meth c H locs 0 0 Q (F0 m pc ls rest) := va_gets C.1.1 C.1.2.1 C.2.2.2.2.2.1.1 I.2 C.1.2.2.2 (C.2.1 _ hi) (fun _ h => h) hdg kk
theorem lt_FORMS (C : Cx clA own cc nL D cs (xW a cs) (xZ sk sv9 st) p s m args c) (I : Dy clA D (xW a cs) s H locs u) (h : vp_in i 202) (hdg : decode cc pc = .ok (.iaload, 1)) (kk : W p l e R s m args below meth c H locs 0 0 Q (F0 m (pc + 1) ls (.int (tab_FORMS i.toNatClampNeg) :: rest))) : W p l e R s m args below meth c H locs 0 0 Q (F0 m pc ls (.int i :: .ref (st 0) :: rest)) := va_ti C.1.1 C.1.2.1 C.2.2.2.2.2.1.2 I.2 h rfl hdg kk
theorem nt_FORMS (C : Cx clA own cc nL D cs (xW a cs) (xZ sk sv9 st) p s m args c) (I : Dy clA D (xW a cs) s H locs u) (hdg : decode cc pc = .ok (.arraylength, 1)) (kk : W p l e R s m args below meth c H locs 0 0 Q (F0 m (pc + 1) ls (.int 202 :: rest))) : W p l e R s m args below meth c H locs 0 0 Q (F0 m pc ls (.ref (st 0) :: rest)) := va_tlen C.1.1 C.1.2.1 C.2.2.2.2.2.1.2 I.2 (by decide) hdg kk
theorem gs_WIDTHS (C : Cx clA own cc nL D cs (xW a cs) (xZ sk sv9 st) p s m args c) (I : Dy clA D (xW a cs) s H locs u) (hi : Cond.fieldLink own index "CodeGate$Code" "WIDTHS" "[I" ∈ tb) (hdg : decode cc pc = .ok (.getstatic index, 3)) (kk : W p l e R s m args below meth c H locs 0 0 Q (F0 m (pc + 3) ls (.ref (st 1) :: rest))) : W p l e R s m args below meth c H locs 0 0 Q (F0 m pc ls rest) := va_gets C.1.1 C.1.2.1 C.2.2.2.2.2.2.1.1 I.2 C.1.2.2.2 (C.2.1 _ hi) (fun _ h => h) hdg kk
theorem lt_WIDTHS (C : Cx clA own cc nL D cs (xW a cs) (xZ sk sv9 st) p s m args c) (I : Dy clA D (xW a cs) s H locs u) (h : vp_in i 23) (hdg : decode cc pc = .ok (.iaload, 1)) (kk : W p l e R s m args below meth c H locs 0 0 Q (F0 m (pc + 1) ls (.int (tab_WIDTHS i.toNatClampNeg) :: rest))) : W p l e R s m args below meth c H locs 0 0 Q (F0 m pc ls (.int i :: .ref (st 1) :: rest)) := va_ti C.1.1 C.1.2.1 C.2.2.2.2.2.2.1.2 I.2 h rfl hdg kk
theorem nt_WIDTHS (C : Cx clA own cc nL D cs (xW a cs) (xZ sk sv9 st) p s m args c) (I : Dy clA D (xW a cs) s H locs u) (hdg : decode cc pc = .ok (.arraylength, 1)) (kk : W p l e R s m args below meth c H locs 0 0 Q (F0 m (pc + 1) ls (.int 23 :: rest))) : W p l e R s m args below meth c H locs 0 0 Q (F0 m pc ls (.ref (st 1) :: rest)) := va_tlen C.1.1 C.1.2.1 C.2.2.2.2.2.2.1.2 I.2 (by decide) hdg kk
theorem gs_NUMBERS (C : Cx clA own cc nL D cs (xW a cs) (xZ sk sv9 st) p s m args c) (I : Dy clA D (xW a cs) s H locs u) (hi : Cond.fieldLink own index "CodeGate$Code" "NUMBERS" "[I" ∈ tb) (hdg : decode cc pc = .ok (.getstatic index, 3)) (kk : W p l e R s m args below meth c H locs 0 0 Q (F0 m (pc + 3) ls (.ref (st 2) :: rest))) : W p l e R s m args below meth c H locs 0 0 Q (F0 m pc ls rest) := va_gets C.1.1 C.1.2.1 C.2.2.2.2.2.2.2.1.1 I.2 C.1.2.2.2 (C.2.1 _ hi) (fun _ h => h) hdg kk
theorem lt_NUMBERS (C : Cx clA own cc nL D cs (xW a cs) (xZ sk sv9 st) p s m args c) (I : Dy clA D (xW a cs) s H locs u) (h : vp_in i 23) (hdg : decode cc pc = .ok (.iaload, 1)) (kk : W p l e R s m args below meth c H locs 0 0 Q (F0 m (pc + 1) ls (.int (tab_NUMBERS i.toNatClampNeg) :: rest))) : W p l e R s m args below meth c H locs 0 0 Q (F0 m pc ls (.int i :: .ref (st 2) :: rest)) := va_ti C.1.1 C.1.2.1 C.2.2.2.2.2.2.2.1.2 I.2 h rfl hdg kk
theorem nt_NUMBERS (C : Cx clA own cc nL D cs (xW a cs) (xZ sk sv9 st) p s m args c) (I : Dy clA D (xW a cs) s H locs u) (hdg : decode cc pc = .ok (.arraylength, 1)) (kk : W p l e R s m args below meth c H locs 0 0 Q (F0 m (pc + 1) ls (.int 23 :: rest))) : W p l e R s m args below meth c H locs 0 0 Q (F0 m pc ls (.ref (st 2) :: rest)) := va_tlen C.1.1 C.1.2.1 C.2.2.2.2.2.2.2.1.2 I.2 (by decide) hdg kk
theorem ld_str (j : Nat) (C : Cx clA own cc nL D cs (xW a cs) (xZ sk sv9 st) p s m args c) (hr : strR[j]? = some (own, index, tx)) (hdg : decode cc pc = .ok (.ldc index, 2)) (kk : W p l e R s m args below meth c H locs 0 0 Q (F0 m (pc + 2) ls (.ref (sk j) :: rest))) : W p l e R s m args below meth c H locs 0 0 Q (F0 m pc ls rest) := va_ldcS C.1.1 C.1.2.1 C.1.2.2.2 (C.2.2.2.2.2.2.2.2.2.2.2 j _ hr) hdg kk
theorem cp_12_1 (C : Cx clA own cc nL D cs (xW a cs) Z p s m args c) (I : Dy clA D (xW a cs) s H locs u) (hi : Cond.methodLink own index arraycopyName ∈ tb) (hls : ls.size = nL) (hf : 1 ≤ R.frames) (hlo : 40 ≤ R.locals) (hdg : decode cc pc = .ok (.invokestatic index, 3)) (kk : ∀ (H : Heap) (locs : List Loc), Dy clA D (xW a cs) s H locs (sw u 1 (va_cpy (u.2 12) (u.2 1) 0 0 9)) → W p l e R s m args below meth c H locs 0 0 Q (F0 m (pc + 3) ls [])) : W p l e R s m args below meth c H locs 0 0 Q (F0 m pc ls [.int 9, .int 0, .ref (a 8), .int 0, .ref (a 19)]) :=
  va_copyi C.1.1 C.1.2.1 (C.1.2.2.1.trans hls.symm) C.1.2.2.2 (C.2.1 _ hi) (C.2.1 _ k_662) (C.2.1 _ k_661) (C.2.1 _ k_15) C.2.2.1 I.1 (C.2.2.2.1.A _ u) I.2 19 8 1 1 rfl rfl rfl rfl rfl (by decide) (by decide) (by decide) (by decide) (by decide) (fun i _ => rfl) hf (Nat.le_trans (by decide) hlo) hdg (fun H1 locs1 hP _ hS => kk H1 locs1 ⟨hP, hS⟩)
theorem cp_13_2 (C : Cx clA own cc nL D cs (xW a cs) Z p s m args c) (I : Dy clA D (xW a cs) s H locs u) (hi : Cond.methodLink own index arraycopyName ∈ tb) (hls : ls.size = nL) (hf : 1 ≤ R.frames) (hlo : 40 ≤ R.locals) (hdg : decode cc pc = .ok (.invokestatic index, 3)) (kk : ∀ (H : Heap) (locs : List Loc), Dy clA D (xW a cs) s H locs (sw u 2 (va_cpy (u.2 13) (u.2 2) 0 0 360)) → W p l e R s m args below meth c H locs 0 0 Q (F0 m (pc + 3) ls [])) : W p l e R s m args below meth c H locs 0 0 Q (F0 m pc ls [.int 360, .int 0, .ref (a 9), .int 0, .ref (a 20)]) :=
  va_copyi C.1.1 C.1.2.1 (C.1.2.2.1.trans hls.symm) C.1.2.2.2 (C.2.1 _ hi) (C.2.1 _ k_662) (C.2.1 _ k_661) (C.2.1 _ k_15) C.2.2.1 I.1 (C.2.2.2.1.A _ u) I.2 20 9 1 1 rfl rfl rfl rfl rfl (by decide) (by decide) (by decide) (by decide) (by decide) (fun i _ => rfl) hf (Nat.le_trans (by decide) hlo) hdg (fun H1 locs1 hP _ hS => kk H1 locs1 ⟨hP, hS⟩)
theorem cp_4_3 (C : Cx clA own cc nL D cs (xW a cs) Z p s m args c) (I : Dy clA D (xW a cs) s H locs u) (hi : Cond.methodLink own index arraycopyName ∈ tb) (hls : ls.size = nL) (hf : 1 ≤ R.frames) (hlo : 40 ≤ R.locals) (hdg : decode cc pc = .ok (.invokestatic index, 3)) (kk : ∀ (H : Heap) (locs : List Loc), Dy clA D (xW a cs) s H locs (sw u 3 (va_cpy (u.2 4) (u.2 3) 0 0 300)) → W p l e R s m args below meth c H locs 0 0 Q (F0 m (pc + 3) ls [])) : W p l e R s m args below meth c H locs 0 0 Q (F0 m pc ls [.int 300, .int 0, .ref (a 10), .int 0, .ref (a 11)]) :=
  va_copyi C.1.1 C.1.2.1 (C.1.2.2.1.trans hls.symm) C.1.2.2.2 (C.2.1 _ hi) (C.2.1 _ k_662) (C.2.1 _ k_661) (C.2.1 _ k_15) C.2.2.1 I.1 (C.2.2.2.1.A _ u) I.2 11 10 1 1 rfl rfl rfl rfl rfl (by decide) (by decide) (by decide) (by decide) (by decide) (fun i _ => rfl) hf (Nat.le_trans (by decide) hlo) hdg (fun H1 locs1 hP _ hS => kk H1 locs1 ⟨hP, hS⟩)
theorem call_runVr {y : MethodName} {rm : Room} {bytes : ByteArray} {maxL n idx b : Nat} {rt : Option FieldType} {As st0 : List Value} {w : St → va_W} (C : Cx clA own cc nL D cs w Z p s m args c) (I : Dy clA D w s H locs u) {Qc : Array Value → State → Outcome → State → Prop} (hM : Met l y (.code y bytes maxL rt :: tb) rm (PcW clA D cs w Z (.ref b :: As) u H.size) Qc 0 0 (wA w H.size)) (hW : wdV y bytes maxL rt n) (hrec : ∃ cellB : Cell, H[b]? = some cellB ∧ cellB.vm.isStatics = false ∧ s.vm.findClass y.cls = some cellB.cls) (hl : Cond.methodLink own idx y ∈ tb) (hrc : rm.cells = 0 ∧ rm.slots = 0) (hR : rm.frames + 1 ≤ R.frames ∧ 8 + (maxL + 11) + rm.locals ≤ R.locals) (hn : As.length = n) (hls : ls.size = nL) (hst : st0 = As.reverse ++ .ref b :: rest) (hr : (rest.map fun v => v.category).sum ≤ 8) (hdg : decode cc pc = .ok (.invokevirtual idx, 3)) :
    va_Run p l e R s m args below meth c H locs 0 0 0 0 (F0 m pc ls st0) rest (Qc (Value.ref b :: As).toArray) (wA w H.size) :=
  va_runV (Ts := tb) (own := own) (C := y.cls) (As := As) (rest := rest) ⟨C.1.1, C.1.2.1, C.1.2.2.1, C.1.2.2.2, C.2.1⟩ hM ⟨C.cb hW.1 hW.2.2.2.1 hW.2.2.2.2.1 hW.2.2.2.2.2.1 hW.2.2.2.2.2.2 hl hrc hR, C.2.1 _ hW.2.1, C.2.1 _ hW.2.2.1⟩ ⟨PcW.blind C.2.2.2.2.1 _, hrec, C.pay I⟩ rfl hn hls hst (lv_room hr) hdg ⟨Nat.zero_le _, Nat.zero_le _⟩
end SROWS
theorem d_len_0 : decode prog_12_method_54_code 0 = .ok (.aload_n 0, 1) := by decide +kernel
theorem d_len_1 : decode prog_12_method_54_code 1 = .ok (.getfield 9, 3) := by decide +kernel
theorem d_len_4 : decode prog_12_method_54_code 4 = .ok (.arraylength, 1) := by decide +kernel
theorem d_len_5 : decode prog_12_method_54_code 5 = .ok (.aload_n 0, 1) := by decide +kernel
theorem d_len_6 : decode prog_12_method_54_code 6 = .ok (.invokevirtual 335, 3) := by decide +kernel
theorem d_len_9 : decode prog_12_method_54_code 9 = .ok (.ishr, 1) := by decide +kernel
theorem d_len_10 : decode prog_12_method_54_code 10 = .ok (.ireturn, 1) := by decide +kernel
theorem d_coder_0 : decode prog_12_method_152_code 0 = .ok (.getstatic 38, 3) := by decide +kernel
theorem d_coder_3 : decode prog_12_method_152_code 3 = .ok (.ifCond .eq 10, 3) := by decide +kernel
theorem d_coder_6 : decode prog_12_method_152_code 6 = .ok (.aload_n 0, 1) := by decide +kernel
theorem d_coder_7 : decode prog_12_method_152_code 7 = .ok (.getfield 15, 3) := by decide +kernel
theorem d_coder_10 : decode prog_12_method_152_code 10 = .ok (.goto 4, 3) := by decide +kernel
theorem d_coder_14 : decode prog_12_method_152_code 14 = .ok (.ireturn, 1) := by decide +kernel
theorem d_cat_0 : decode prog_12_method_56_code 0 = .ok (.aload_n 0, 1) := by decide +kernel
theorem d_cat_1 : decode prog_12_method_56_code 1 = .ok (.invokevirtual 492, 3) := by decide +kernel
theorem d_cat_4 : decode prog_12_method_56_code 4 = .ok (.ifCond .eq 12, 3) := by decide +kernel
theorem d_cat_7 : decode prog_12_method_56_code 7 = .ok (.aload_n 0, 1) := by decide +kernel
theorem d_cat_8 : decode prog_12_method_56_code 8 = .ok (.getfield 9, 3) := by decide +kernel
theorem d_cat_11 : decode prog_12_method_56_code 11 = .ok (.iload_n 1, 1) := by decide +kernel
theorem d_cat_12 : decode prog_12_method_56_code 12 = .ok (.invokestatic 495, 3) := by decide +kernel
theorem d_cat_15 : decode prog_12_method_56_code 15 = .ok (.ireturn, 1) := by decide +kernel
theorem d_lat_0 : decode prog_12_method_154_code 0 = .ok (.getstatic 38, 3) := by decide +kernel
theorem d_lat_3 : decode prog_12_method_154_code 3 = .ok (.ifCond .eq 14, 3) := by decide +kernel
theorem d_lat_6 : decode prog_12_method_154_code 6 = .ok (.aload_n 0, 1) := by decide +kernel
theorem d_lat_7 : decode prog_12_method_154_code 7 = .ok (.getfield 15, 3) := by decide +kernel
theorem d_lat_10 : decode prog_12_method_154_code 10 = .ok (.ifCond .ne 7, 3) := by decide +kernel
theorem d_lat_13 : decode prog_12_method_154_code 13 = .ok (.iconst 1, 1) := by decide +kernel
theorem d_lat_14 : decode prog_12_method_154_code 14 = .ok (.goto 4, 3) := by decide +kernel
theorem d_lat_18 : decode prog_12_method_154_code 18 = .ok (.ireturn, 1) := by decide +kernel
theorem d_lca_0 : decode prog_13_method_2_code 0 = .ok (.iload_n 1, 1) := by decide +kernel
theorem d_lca_1 : decode prog_13_method_2_code 1 = .ok (.aload_n 0, 1) := by decide +kernel
theorem d_lca_2 : decode prog_13_method_2_code 2 = .ok (.arraylength, 1) := by decide +kernel
theorem d_lca_3 : decode prog_13_method_2_code 3 = .ok (.invokestatic 9, 3) := by decide +kernel
theorem d_lca_6 : decode prog_13_method_2_code 6 = .ok (.aload_n 0, 1) := by decide +kernel
theorem d_lca_7 : decode prog_13_method_2_code 7 = .ok (.iload_n 1, 1) := by decide +kernel
theorem d_lca_8 : decode prog_13_method_2_code 8 = .ok (.baload, 1) := by decide +kernel
theorem d_lca_9 : decode prog_13_method_2_code 9 = .ok (.sipush 255, 3) := by decide +kernel
theorem d_lca_12 : decode prog_13_method_2_code 12 = .ok (.iand, 1) := by decide +kernel
theorem d_lca_13 : decode prog_13_method_2_code 13 = .ok (.i2c, 1) := by decide +kernel
theorem d_lca_14 : decode prog_13_method_2_code 14 = .ok (.ireturn, 1) := by decide +kernel
theorem d_sci_0 : decode prog_12_method_155_code 0 = .ok (.iload_n 0, 1) := by decide +kernel
theorem d_sci_1 : decode prog_12_method_155_code 1 = .ok (.iload_n 1, 1) := by decide +kernel
theorem d_sci_2 : decode prog_12_method_155_code 2 = .ok (.getstatic 1053, 3) := by decide +kernel
theorem d_sci_5 : decode prog_12_method_155_code 5 = .ok (.invokestatic 1059, 3) := by decide +kernel
theorem d_sci_8 : decode prog_12_method_155_code 8 = .ok (.pop, 1) := by decide +kernel
theorem d_sci_9 : decode prog_12_method_155_code 9 = .ok (.return_, 1) := by decide +kernel
theorem d_pci_0 : decode prog_16_method_11_code 0 = .ok (.iload_n 0, 1) := by decide +kernel
theorem d_pci_1 : decode prog_16_method_11_code 1 = .ok (.ifCond .lt 8, 3) := by decide +kernel
theorem d_pci_4 : decode prog_16_method_11_code 4 = .ok (.iload_n 0, 1) := by decide +kernel
theorem d_pci_5 : decode prog_16_method_11_code 5 = .ok (.iload_n 1, 1) := by decide +kernel
theorem d_pci_6 : decode prog_16_method_11_code 6 = .ok (.if_icmp .lt 10, 3) := by decide +kernel
theorem d_pci_16 : decode prog_16_method_11_code 16 = .ok (.iload_n 0, 1) := by decide +kernel
theorem d_pci_17 : decode prog_16_method_11_code 17 = .ok (.ireturn, 1) := by decide +kernel
theorem d_bitc_0 : decode prog_10_method_49_code 0 = .ok (.iload_n 0, 1) := by decide +kernel
theorem d_bitc_1 : decode prog_10_method_49_code 1 = .ok (.iload_n 0, 1) := by decide +kernel
theorem d_bitc_2 : decode prog_10_method_49_code 2 = .ok (.iconst 1, 1) := by decide +kernel
theorem d_bitc_3 : decode prog_10_method_49_code 3 = .ok (.iushr, 1) := by decide +kernel
theorem d_bitc_4 : decode prog_10_method_49_code 4 = .ok (.ldc_w 265, 3) := by decide +kernel
theorem d_bitc_7 : decode prog_10_method_49_code 7 = .ok (.iand, 1) := by decide +kernel
theorem d_bitc_8 : decode prog_10_method_49_code 8 = .ok (.isub, 1) := by decide +kernel
theorem d_bitc_9 : decode prog_10_method_49_code 9 = .ok (.istore_n 0, 1) := by decide +kernel
theorem d_bitc_10 : decode prog_10_method_49_code 10 = .ok (.iload_n 0, 1) := by decide +kernel
theorem d_bitc_11 : decode prog_10_method_49_code 11 = .ok (.ldc_w 266, 3) := by decide +kernel
theorem d_bitc_14 : decode prog_10_method_49_code 14 = .ok (.iand, 1) := by decide +kernel
theorem d_bitc_15 : decode prog_10_method_49_code 15 = .ok (.iload_n 0, 1) := by decide +kernel
theorem d_bitc_16 : decode prog_10_method_49_code 16 = .ok (.iconst 2, 1) := by decide +kernel
theorem d_bitc_17 : decode prog_10_method_49_code 17 = .ok (.iushr, 1) := by decide +kernel
theorem d_bitc_18 : decode prog_10_method_49_code 18 = .ok (.ldc_w 266, 3) := by decide +kernel
theorem d_bitc_21 : decode prog_10_method_49_code 21 = .ok (.iand, 1) := by decide +kernel
theorem d_bitc_22 : decode prog_10_method_49_code 22 = .ok (.iadd, 1) := by decide +kernel
theorem d_bitc_23 : decode prog_10_method_49_code 23 = .ok (.istore_n 0, 1) := by decide +kernel
theorem d_bitc_24 : decode prog_10_method_49_code 24 = .ok (.iload_n 0, 1) := by decide +kernel
theorem d_bitc_25 : decode prog_10_method_49_code 25 = .ok (.iload_n 0, 1) := by decide +kernel
theorem d_bitc_26 : decode prog_10_method_49_code 26 = .ok (.iconst 4, 1) := by decide +kernel
theorem d_bitc_27 : decode prog_10_method_49_code 27 = .ok (.iushr, 1) := by decide +kernel
theorem d_bitc_28 : decode prog_10_method_49_code 28 = .ok (.iadd, 1) := by decide +kernel
theorem d_bitc_29 : decode prog_10_method_49_code 29 = .ok (.ldc_w 267, 3) := by decide +kernel
theorem d_bitc_32 : decode prog_10_method_49_code 32 = .ok (.iand, 1) := by decide +kernel
theorem d_bitc_33 : decode prog_10_method_49_code 33 = .ok (.istore_n 0, 1) := by decide +kernel
theorem d_bitc_34 : decode prog_10_method_49_code 34 = .ok (.iload_n 0, 1) := by decide +kernel
theorem d_bitc_35 : decode prog_10_method_49_code 35 = .ok (.iload_n 0, 1) := by decide +kernel
theorem d_bitc_36 : decode prog_10_method_49_code 36 = .ok (.bipush 8, 2) := by decide +kernel
theorem d_bitc_38 : decode prog_10_method_49_code 38 = .ok (.iushr, 1) := by decide +kernel
theorem d_bitc_39 : decode prog_10_method_49_code 39 = .ok (.iadd, 1) := by decide +kernel
theorem d_bitc_40 : decode prog_10_method_49_code 40 = .ok (.istore_n 0, 1) := by decide +kernel
theorem d_bitc_41 : decode prog_10_method_49_code 41 = .ok (.iload_n 0, 1) := by decide +kernel
theorem d_bitc_42 : decode prog_10_method_49_code 42 = .ok (.iload_n 0, 1) := by decide +kernel
theorem d_bitc_43 : decode prog_10_method_49_code 43 = .ok (.bipush 16, 2) := by decide +kernel
theorem d_bitc_45 : decode prog_10_method_49_code 45 = .ok (.iushr, 1) := by decide +kernel
theorem d_bitc_46 : decode prog_10_method_49_code 46 = .ok (.iadd, 1) := by decide +kernel
theorem d_bitc_47 : decode prog_10_method_49_code 47 = .ok (.istore_n 0, 1) := by decide +kernel
theorem d_bitc_48 : decode prog_10_method_49_code 48 = .ok (.iload_n 0, 1) := by decide +kernel
theorem d_bitc_49 : decode prog_10_method_49_code 49 = .ok (.bipush 63, 2) := by decide +kernel
theorem d_bitc_51 : decode prog_10_method_49_code 51 = .ok (.iand, 1) := by decide +kernel
theorem d_bitc_52 : decode prog_10_method_49_code 52 = .ok (.ireturn, 1) := by decide +kernel
def y_len : MethodName := ⟨"java/lang/String", "length", "()I"⟩
theorem wd_len : wdV y_len prog_12_method_54_code 1 (Option.some Jvm.ClassFile.FieldType.int) 0 := ⟨k_374, k_372, k_373, k_10, by decide +kernel, by decide +kernel, by decide +kernel⟩
def y_coder : MethodName := ⟨"java/lang/String", "coder", "()B"⟩
theorem wd_coder : wdV y_coder prog_12_method_152_code 1 (Option.some Jvm.ClassFile.FieldType.byte) 0 := ⟨k_378, k_376, k_377, k_10, by decide +kernel, by decide +kernel, by decide +kernel⟩
def y_cat : MethodName := ⟨"java/lang/String", "charAt", "(I)C"⟩
theorem wd_cat : wdV y_cat prog_12_method_56_code 2 (Option.some Jvm.ClassFile.FieldType.char) 1 := ⟨k_384, k_382, k_383, k_10, by decide +kernel, by decide +kernel, by decide +kernel⟩
def y_lat : MethodName := ⟨"java/lang/String", "isLatin1", "()Z"⟩
theorem wd_lat : wdV y_lat prog_12_method_154_code 1 (Option.some Jvm.ClassFile.FieldType.boolean) 0 := ⟨k_388, k_386, k_387, k_10, by decide +kernel, by decide +kernel, by decide +kernel⟩
def y_lca : MethodName := ⟨"java/lang/StringLatin1", "charAt", "([BI)C"⟩
theorem wd_lca : wdS y_lca prog_13_method_2_code 2 (Option.some Jvm.ClassFile.FieldType.char) 2 := ⟨k_391, k_390, k_11, by decide +kernel, by decide +kernel, by decide +kernel⟩
def y_sci : MethodName := ⟨"java/lang/String", "checkIndex", "(II)V"⟩
theorem wd_sci : wdS y_sci prog_12_method_155_code 2 (Option.none : Option Jvm.ClassFile.FieldType) 2 := ⟨k_394, k_393, k_10, by decide +kernel, by decide +kernel, by decide +kernel⟩
def y_pci : MethodName := ⟨"jdk/internal/util/Preconditions", "checkIndex", "(IILjava/util/function/BiFunction;)I"⟩
theorem wd_pci : wdS y_pci prog_16_method_11_code 3 (Option.some Jvm.ClassFile.FieldType.int) 3 := ⟨k_399, k_398, k_12, by decide +kernel, by decide +kernel, by decide +kernel⟩
def y_bitCount : MethodName := ⟨"java/lang/Integer", "bitCount", "(I)I"⟩
theorem wd_bitCount : wdS y_bitCount prog_10_method_49_code 1 (Option.some Jvm.ClassFile.FieldType.int) 1 := ⟨k_515, k_514, k_14, by decide +kernel, by decide +kernel, by decide +kernel⟩
def rm_0 : Room := { frames := 0, cells := 0, slots := 0, locals := 0 }
def rm_len : Room := { frames := 1, cells := 0, slots := 0, locals := 20 }
def rm_sci : Room := { frames := 1, cells := 0, slots := 0, locals := 22 }
def rm_lca : Room := { frames := 2, cells := 0, slots := 0, locals := 43 }
def rm_cat : Room := { frames := 3, cells := 0, slots := 0, locals := 64 }
set_option maxHeartbeats 4000000 in
set_option maxRecDepth 100000 in
theorem c_coder {D : va_G} {cs : Nat → ClassId} {a sk sv9 st : Nat → Nat} (hw : wD (xW a cs)) (l : Launch) {u : St} {k : Nat} (hk : k < 10) : KI clA D cs (xW a cs) (xZ sk sv9 st) l y_coder (.code y_coder prog_12_method_152_code 1 (some .byte)) rm_0 [.ref (sk k)] u 0 u := by
  refine KI.of (by decide) (Nat.le_of_ble_eq_true rfl) rfl hw (xZ_ok sk sv9 st) ?_
  intro p e s m args below meth c Q C I hQ ls hl
  have hx := C.1.1
  have hb := C.1.2.1
  obtain ⟨hO, hCo, hVa, hTa⟩ := C.2.2.2.2.2.2.2.2.2.2.1.1 k hk
  have hl : lv_has ls 1 [(0, .ref (sk k))] := hl
  refine va_gets hx hb C.2.2.2.2.2.2.2.2.1 I.2 C.1.2.2.2 (C.2.1 _ k_379) (fun _ h => h) d_coder_0 ?_
  refine lv_if_eq (tgt := 13) hx hb d_coder_3 (by decide) (fun hc => absurd hc (by decide)) (fun hc => ?_)
  refine lv_aload_n hx hb d_coder_6 rfl (lv_at hl 0 rfl) ?_
  refine vk_getf hx hb hCo I.2 C.1.2.2.2 (C.2.1 _ k_1070) (fun _ h => h) d_coder_7 ?_
  refine lv_goto (tgt := 14) hx hb d_coder_10 (by decide) ?_
  exact hQ _ _ _ _ _ _ I rfl d_coder_14
set_option maxHeartbeats 4000000 in
set_option maxRecDepth 100000 in
theorem c_lat {D : va_G} {cs : Nat → ClassId} {a sk sv9 st : Nat → Nat} (hw : wD (xW a cs)) (l : Launch) {u : St} {k : Nat} (hk : k < 10) : KI clA D cs (xW a cs) (xZ sk sv9 st) l y_lat (.code y_lat prog_12_method_154_code 1 (some .boolean)) rm_0 [.ref (sk k)] u 1 u := by
  refine KZ.of (by decide) (Nat.le_of_ble_eq_true rfl) hw (xZ_ok sk sv9 st) ?_
  intro p e s m args below meth c Q C I hQ ls hl
  have hx := C.1.1
  have hb := C.1.2.1
  obtain ⟨hO, hCo, hVa, hTa⟩ := C.2.2.2.2.2.2.2.2.2.2.1.1 k hk
  have hl : lv_has ls 1 [(0, .ref (sk k))] := hl
  refine va_gets hx hb C.2.2.2.2.2.2.2.2.1 I.2 C.1.2.2.2 (C.2.1 _ k_379) (fun _ h => h) d_lat_0 ?_
  refine lv_if_eq (tgt := 17) hx hb d_lat_3 (by decide) (fun hc => absurd hc (by decide)) (fun hc => ?_)
  refine lv_aload_n hx hb d_lat_6 rfl (lv_at hl 0 rfl) ?_
  refine vk_getf hx hb hCo I.2 C.1.2.2.2 (C.2.1 _ k_1070) (fun _ h => h) d_lat_7 ?_
  refine lv_if_ne (tgt := 17) hx hb d_lat_10 (by decide) (fun hc => absurd rfl hc) (fun hc => ?_)
  refine lv_iconst (v := 1) hx hb d_lat_13 (by decide) ?_
  refine lv_goto (tgt := 18) hx hb d_lat_14 (by decide) ?_
  exact hQ _ _ _ _ _ _ I rfl d_lat_18
set_option maxHeartbeats 4000000 in
set_option maxRecDepth 100000 in
theorem lnS_lt : ∀ k, k < 10 → lnS k < 2 ^ 31 := by decide +kernel
set_option maxHeartbeats 4000000 in
set_option maxRecDepth 100000 in
theorem c_len {D : va_G} {cs : Nat → ClassId} {a sk sv9 st : Nat → Nat} (hw : wD (xW a cs)) (l : Launch) {u : St} {k : Nat} (hk : k < 10) : KI clA D cs (xW a cs) (xZ sk sv9 st) l y_len (.code y_len prog_12_method_54_code 1 (some .int)) rm_len [.ref (sk k)] u (lenS k) u := by
  refine KI.of (by decide) (Nat.le_of_ble_eq_true rfl) rfl hw (xZ_ok sk sv9 st) ?_
  intro p e s m args below meth c Q C I hQ ls hl
  have hx := C.1.1
  have hb := C.1.2.1
  obtain ⟨hO, hCo, hVa, hTa⟩ := C.2.2.2.2.2.2.2.2.2.2.1.1 k hk
  have hl : lv_has ls 1 [(0, .ref (sk k))] := hl
  refine lv_aload_n hx hb d_len_0 rfl (lv_at hl 0 rfl) ?_
  refine vk_getf hx hb hVa I.2 C.1.2.2.2 (C.2.1 _ k_1069) (fun _ h => h) d_len_1 ?_
  refine va_tlen hx hb hTa I.2 (v := lenS k) rfl d_len_4 ?_
  refine lv_aload_n hx hb d_len_5 rfl (lv_at hl 0 rfl) ?_
  refine go_I I (call_runVr (rest := [.int (lenS k)]) C I (c_coder hw l hk _) wd_coder (vk_recv C.2.2.2.2.2.2.2.2.2.2.1 hk I.2) k_375 ⟨rfl, rfl⟩ ⟨by decide, by decide⟩ rfl hl.1 rfl (Nat.le_of_ble_eq_true rfl) d_len_6) (fun H locs I => ?_)
  refine lv_ishr hx hb d_len_9 ?_
  exact hQ _ _ _ _ _ _ I (by rw [lenS, sc_shr0 (lnS_lt k hk)]) d_len_10
set_option maxHeartbeats 4000000 in
set_option maxRecDepth 100000 in
theorem c_pcin {D : va_G} {cs : Nat → ClassId} {a sk sv9 st : Nat → Nat} (hw : wD (xW a cs)) (l : Launch) {u : St} {i n : Int32} (h0 : ¬ i < 0) (h1 : i < n) : KI clA D cs (xW a cs) (xZ sk sv9 st) l y_pci (.code y_pci prog_16_method_11_code 3 (some .int)) rm_0 [.int i, .int n, .null] u i u := by
  refine KI.of (by decide) (Nat.le_of_ble_eq_true rfl) rfl hw (xZ_ok sk sv9 st) ?_
  intro p e s m args below meth c Q C I hQ ls hl
  have hx := C.1.1
  have hb := C.1.2.1
  have hl : lv_has ls 3 [(0, .int i), (1, .int n), (2, .null)] := hl
  refine lv_iload_n hx hb d_pci_0 rfl (lv_at hl 0 rfl) ?_
  refine lv_if_lt (tgt := 9) hx hb d_pci_1 (by decide) (fun hc => absurd hc h0) (fun hc => ?_)
  refine lv_iload_n hx hb d_pci_4 rfl (lv_at hl 0 rfl) ?_
  refine lv_iload_n hx hb d_pci_5 rfl (lv_at hl 1 rfl) ?_
  refine lv_icmp_lt (tgt := 16) hx hb d_pci_6 (by decide) (fun hc => ?_) (fun hc => absurd h1 hc)
  refine lv_iload_n hx hb d_pci_16 rfl (lv_at hl 0 rfl) ?_
  exact hQ _ _ _ _ _ _ I rfl d_pci_17
set_option maxHeartbeats 4000000 in
set_option maxRecDepth 100000 in
theorem c_pcir {D : va_G} {cs : Nat → ClassId} {a sk sv9 st : Nat → Nat} (hw : wD (xW a cs)) (l : Launch) {u : St} {i n : Int32} (h0 : ¬ i < 0) (h1 : i < n) (t9 : Nat) : KI clA D cs (xW a cs) (xZ sk sv9 st) l y_pci (.code y_pci prog_16_method_11_code 3 (some .int)) rm_0 [.int i, .int n, .ref t9] u i u := by
  refine KI.of (by decide) (Nat.le_of_ble_eq_true rfl) rfl hw (xZ_ok sk sv9 st) ?_
  intro p e s m args below meth c Q C I hQ ls hl
  have hx := C.1.1
  have hb := C.1.2.1
  have hl : lv_has ls 3 [(0, .int i), (1, .int n), (2, .ref t9)] := hl
  refine lv_iload_n hx hb d_pci_0 rfl (lv_at hl 0 rfl) ?_
  refine lv_if_lt (tgt := 9) hx hb d_pci_1 (by decide) (fun hc => absurd hc h0) (fun hc => ?_)
  refine lv_iload_n hx hb d_pci_4 rfl (lv_at hl 0 rfl) ?_
  refine lv_iload_n hx hb d_pci_5 rfl (lv_at hl 1 rfl) ?_
  refine lv_icmp_lt (tgt := 16) hx hb d_pci_6 (by decide) (fun hc => ?_) (fun hc => absurd h1 hc)
  refine lv_iload_n hx hb d_pci_16 rfl (lv_at hl 0 rfl) ?_
  exact hQ _ _ _ _ _ _ I rfl d_pci_17
set_option maxHeartbeats 4000000 in
set_option maxRecDepth 100000 in
theorem c_sci {D : va_G} {cs : Nat → ClassId} {a sk sv9 st : Nat → Nat} (hw : wD (xW a cs)) (l : Launch) {u : St} {i n : Int32} (h0 : ¬ i < 0) (h1 : i < n) : KV clA D cs (xW a cs) (xZ sk sv9 st) l y_sci (.code y_sci prog_12_method_155_code 2 none) rm_sci [.int i, .int n] u u := by
  refine KV.of (by decide) (Nat.le_of_ble_eq_true rfl) hw (xZ_ok sk sv9 st) ?_
  intro p e s m args below meth c Q C I hQ ls hl
  have hx := C.1.1
  have hb := C.1.2.1
  have hl : lv_has ls 2 [(0, .int i), (1, .int n)] := hl
  refine lv_iload_n hx hb d_sci_0 rfl (lv_at hl 0 rfl) ?_
  refine lv_iload_n hx hb d_sci_1 rfl (lv_at hl 1 rfl) ?_
  rcases C.2.2.2.2.2.2.2.2.2.1 with hz | ⟨t9, hz⟩
  · refine va_gets hx hb hz I.2 C.1.2.2.2 (C.2.1 _ k_395) (fun _ h => h) d_sci_2 ?_
    refine go_I I (call_runS (rest := []) C I (c_pcin hw l h0 h1 _) wd_pci k_397 ⟨rfl, rfl⟩ ⟨by decide, by decide⟩ rfl hl.1 rfl (Nat.le_of_ble_eq_true rfl) d_sci_5) (fun H locs I => ?_)
    refine lv_pop hx hb d_sci_8 rfl ?_
    exact hQ _ _ _ _ _ I rfl d_sci_9
  · refine va_gets hx hb hz I.2 C.1.2.2.2 (C.2.1 _ k_395) (fun _ h => h) d_sci_2 ?_
    refine go_I I (call_runS (rest := []) C I (c_pcir hw l h0 h1 t9 _) wd_pci k_397 ⟨rfl, rfl⟩ ⟨by decide, by decide⟩ rfl hl.1 rfl (Nat.le_of_ble_eq_true rfl) d_sci_5) (fun H locs I => ?_)
    refine lv_pop hx hb d_sci_8 rfl ?_
    exact hQ _ _ _ _ _ I rfl d_sci_9
set_option maxHeartbeats 4000000 in
set_option maxRecDepth 100000 in
theorem in_lt {i : Int32} {n : Nat} (hn : n < 2 ^ 31) (h : vp_in i n) : ¬ i < 0 ∧ i < nI n := by
  obtain ⟨j, hj, rfl⟩ := vp_in_of h hn
  exact ⟨nI_pos (by omega), nI_lt hj hn⟩
set_option maxHeartbeats 4000000 in
set_option maxRecDepth 100000 in
theorem c_lca {D : va_G} {cs : Nat → ClassId} {a sk sv9 st : Nat → Nat} (hw : wD (xW a cs)) (l : Launch) {u : St} {k : Nat} (hk : k < 10) {i : Int32} (hi : vp_in i (lnS k)) : KI clA D cs (xW a cs) (xZ sk sv9 st) l y_lca (.code y_lca prog_13_method_2_code 2 (some .char)) rm_lca [.ref (sv9 k), .int i] u (chS k i) u := by
  refine KI.of (by decide) (Nat.le_of_ble_eq_true rfl) (sc_nar _) hw (xZ_ok sk sv9 st) ?_
  intro p e s m args below meth c Q C I hQ ls hl
  have hx := C.1.1
  have hb := C.1.2.1
  obtain ⟨hO, hCo, hVa, hTa⟩ := C.2.2.2.2.2.2.2.2.2.2.1.1 k hk
  have hl : lv_has ls 2 [(0, .ref (sv9 k)), (1, .int i)] := hl
  have hq := in_lt (lnS_lt k hk) hi
  refine lv_iload_n hx hb d_lca_0 rfl (lv_at hl 1 rfl) ?_
  refine lv_aload_n hx hb d_lca_1 rfl (lv_at hl 0 rfl) ?_
  refine va_tlen hx hb hTa I.2 (v := nI (lnS k)) rfl d_lca_2 ?_
  refine go_V I (call_runS (rest := []) C I (c_sci hw l hq.1 hq.2 _) wd_sci k_392 ⟨rfl, rfl⟩ ⟨by decide, by decide⟩ rfl hl.1 rfl (Nat.le_of_ble_eq_true rfl) d_lca_3) (fun H locs I => ?_)
  refine lv_aload_n hx hb d_lca_6 rfl (lv_at hl 0 rfl) ?_
  refine lv_iload_n hx hb d_lca_7 rfl (lv_at hl 1 rfl) ?_
  refine va_tb hx hb hTa I.2 hi rfl d_lca_8 ?_
  refine lv_sipush (v := 255) hx hb d_lca_9 (by decide) ?_
  refine lv_iand hx hb d_lca_12 ?_
  refine lv_i2c (v := chS k i) hx hb d_lca_13 (sc_c2 _) ?_
  exact hQ _ _ _ _ _ _ I rfl d_lca_14
set_option maxHeartbeats 4000000 in
set_option maxRecDepth 100000 in
theorem c_cat {D : va_G} {cs : Nat → ClassId} {a sk sv9 st : Nat → Nat} (hw : wD (xW a cs)) (l : Launch) {u : St} {k : Nat} (hk : k < 10) {i : Int32} (hi : vp_in i (lnS k)) : KI clA D cs (xW a cs) (xZ sk sv9 st) l y_cat (.code y_cat prog_12_method_56_code 2 (some .char)) rm_cat [.ref (sk k), .int i] u (chS k i) u := by
  refine KI.of (by decide) (Nat.le_of_ble_eq_true rfl) (sc_nar _) hw (xZ_ok sk sv9 st) ?_
  intro p e s m args below meth c Q C I hQ ls hl
  have hx := C.1.1
  have hb := C.1.2.1
  obtain ⟨hO, hCo, hVa, hTa⟩ := C.2.2.2.2.2.2.2.2.2.2.1.1 k hk
  have hl : lv_has ls 2 [(0, .ref (sk k)), (1, .int i)] := hl
  refine lv_aload_n hx hb d_cat_0 rfl (lv_at hl 0 rfl) ?_
  refine go_I I (call_runVr (rest := []) C I (c_lat hw l hk _) wd_lat (vk_recv C.2.2.2.2.2.2.2.2.2.2.1 hk I.2) k_385 ⟨rfl, rfl⟩ ⟨by decide, by decide⟩ rfl hl.1 rfl (Nat.le_of_ble_eq_true rfl) d_cat_1) (fun H locs I => ?_)
  refine lv_if_eq (tgt := 16) hx hb d_cat_4 (by decide) (fun hc => absurd hc (by decide)) (fun hc => ?_)
  refine lv_aload_n hx hb d_cat_7 rfl (lv_at hl 0 rfl) ?_
  refine vk_getf hx hb hVa I.2 C.1.2.2.2 (C.2.1 _ k_1069) (fun _ h => h) d_cat_8 ?_
  refine lv_iload_n hx hb d_cat_11 rfl (lv_at hl 1 rfl) ?_
  refine go_I I (call_runS (rest := []) C I (c_lca hw l hk hi _) wd_lca k_389 ⟨rfl, rfl⟩ ⟨by decide, by decide⟩ rfl hl.1 rfl (Nat.le_of_ble_eq_true rfl) d_cat_12) (fun H locs I => ?_)
  exact hQ _ _ _ _ _ _ I rfl d_cat_15
section SROWS2
variable {own tx : String} {cc : ByteArray} {nL : Nat} {D : va_G} {cs : Nat → ClassId} {a sk sv9 st : Nat → Nat} {l : Launch} {u u' : St} {pc index : Nat} {ls : Array Slot} {rest : List Value} {i : Int32} {k : Nat}
variable {p : Program} {e : Env} {R : Room} {s : State} {m : MethodId} {args : Array Value} {below : List Frame} {meth : Method} {c : Code} {H : Heap} {locs : List Loc} {Q : State → Prop}
theorem str_len (hk : k < 10) (C : Cx clA own cc nL D cs (xW a cs) (xZ sk sv9 st) p s m args c) (I : Dy clA D (xW a cs) s H locs u) (hi : Cond.methodLink own index y_len ∈ tb) (hls : ls.size = nL) (hR : 4 ≤ R.frames ∧ 90 ≤ R.locals) (hr : (rest.map fun v => v.category).sum ≤ 8) (hdg : decode cc pc = .ok (.invokevirtual index, 3)) (kk : ∀ (H : Heap) (locs : List Loc), Dy clA D (xW a cs) s H locs u → W p l e R s m args below meth c H locs 0 0 Q (F0 m (pc + 3) ls (.int (lenS k) :: rest))) : W p l e R s m args below meth c H locs 0 0 Q (F0 m pc ls (.ref (sk k) :: rest)) :=
  go_I I (call_runVr (rest := rest) C I (c_len C.2.2.2.1 l hk _) wd_len (vk_recv C.2.2.2.2.2.2.2.2.2.2.1 hk I.2) hi ⟨rfl, rfl⟩ ⟨Nat.le_trans (by decide) hR.1, Nat.le_trans (by decide) hR.2⟩ rfl hls rfl hr hdg) kk
theorem str_at (hk : k < 10) (C : Cx clA own cc nL D cs (xW a cs) (xZ sk sv9 st) p s m args c) (I : Dy clA D (xW a cs) s H locs u) (h : vp_in i (lnS k)) (hi : Cond.methodLink own index y_cat ∈ tb) (hls : ls.size = nL) (hR : 4 ≤ R.frames ∧ 90 ≤ R.locals) (hr : (rest.map fun v => v.category).sum ≤ 8) (hdg : decode cc pc = .ok (.invokevirtual index, 3)) (kk : ∀ (H : Heap) (locs : List Loc), Dy clA D (xW a cs) s H locs u → W p l e R s m args below meth c H locs 0 0 Q (F0 m (pc + 3) ls (.int (chS k i) :: rest))) : W p l e R s m args below meth c H locs 0 0 Q (F0 m pc ls (.int i :: .ref (sk k) :: rest)) :=
  go_I I (call_runVr (rest := rest) C I (c_cat C.2.2.2.1 l hk h _) wd_cat (vk_recv C.2.2.2.2.2.2.2.2.2.2.1 hk I.2) hi ⟨rfl, rfl⟩ ⟨Nat.le_trans (by decide) hR.1, Nat.le_trans (by decide) hR.2⟩ rfl hls rfl hr hdg) kk
end SROWS2
def bush (x y : Int32) : Int32 := (x.toUInt32 >>> (y.toUInt32 &&& Int32.toUInt32 31)).toInt32
def bitc (x : Int32) : Int32 := bnd (x - (bush x 1 &&& 1431655765)) fun x => bnd ((x &&& 858993459) + (bush x 2 &&& 858993459)) fun x => bnd ((x + bush x 4) &&& 252645135) fun x => bnd (x + bush x 8) fun x => bnd (x + bush x 16) fun x => x &&& 63
def f_bitCount (u : St) (x : Int32) : Option (Int32 × St) := some (bitc x, u)
set_option maxHeartbeats 4000000 in
set_option maxRecDepth 100000 in
theorem c_bitCount {D : va_G} {cs : Nat → ClassId} {w : St → va_W} {Z : zT} (hw : wD w) (hz : zOK Z) (l : Launch) {u : St} {x : Int32} {r : Int32} {u' : St} (hk : f_bitCount u x = some (r, u')) : KI clA D cs w Z l y_bitCount (.code y_bitCount prog_10_method_49_code 1 (some .int)) rm_0 [.int x] u r u' := by
  refine KI.of (by decide) (Nat.le_of_ble_eq_true rfl) rfl hw hz ?_
  intro p e s m args below meth c Q C I hQ ls hl
  have hx := C.1.1
  have hb := C.1.2.1
  have hl : lv_has ls 1 [(0, .int x)] := hl
  have hk : some (bitc x, u) = some (r, u') := hk
  refine lv_iload_n hx hb d_bitc_0 rfl (lv_at hl 0 rfl) ?_
  refine lv_iload_n hx hb d_bitc_1 rfl (lv_at hl 0 rfl) ?_
  refine lv_iconst (v := 1) hx hb d_bitc_2 (by decide) ?_
  refine lv_iushr (v := bush x 1) hx hb d_bitc_3 rfl ?_
  refine lv_ldcw hx hb C.1.2.2.2 (C.2.1 _ k_516) d_bitc_4 ?_
  refine lv_iand hx hb d_bitc_7 ?_
  refine lv_isub hx hb d_bitc_8 ?_
  obtain ⟨x1, ex1⟩ : ∃ z : Int32, (x - ((bush x 1) &&& 1431655765)) = z := ⟨_, rfl⟩
  rw [ex1]
  refine lv_istore_n (lv' := [(0, .int x1)]) hx hb d_bitc_9 rfl hl (by decide) rfl (fun ls hl => ?_)
  refine lv_iload_n hx hb d_bitc_10 rfl (lv_at hl 0 rfl) ?_
  refine lv_ldcw hx hb C.1.2.2.2 (C.2.1 _ k_517) d_bitc_11 ?_
  refine lv_iand hx hb d_bitc_14 ?_
  refine lv_iload_n hx hb d_bitc_15 rfl (lv_at hl 0 rfl) ?_
  refine lv_iconst (v := 2) hx hb d_bitc_16 (by decide) ?_
  refine lv_iushr (v := bush x1 2) hx hb d_bitc_17 rfl ?_
  refine lv_ldcw hx hb C.1.2.2.2 (C.2.1 _ k_517) d_bitc_18 ?_
  refine lv_iand hx hb d_bitc_21 ?_
  refine lv_iadd hx hb d_bitc_22 ?_
  obtain ⟨x2, ex2⟩ : ∃ z : Int32, ((x1 &&& 858993459) + ((bush x1 2) &&& 858993459)) = z := ⟨_, rfl⟩
  rw [ex2]
  refine lv_istore_n (lv' := [(0, .int x2)]) hx hb d_bitc_23 rfl hl (by decide) rfl (fun ls hl => ?_)
  refine lv_iload_n hx hb d_bitc_24 rfl (lv_at hl 0 rfl) ?_
  refine lv_iload_n hx hb d_bitc_25 rfl (lv_at hl 0 rfl) ?_
  refine lv_iconst (v := 4) hx hb d_bitc_26 (by decide) ?_
  refine lv_iushr (v := bush x2 4) hx hb d_bitc_27 rfl ?_
  refine lv_iadd hx hb d_bitc_28 ?_
  refine lv_ldcw hx hb C.1.2.2.2 (C.2.1 _ k_518) d_bitc_29 ?_
  refine lv_iand hx hb d_bitc_32 ?_
  obtain ⟨x3, ex3⟩ : ∃ z : Int32, ((x2 + (bush x2 4)) &&& 252645135) = z := ⟨_, rfl⟩
  rw [ex3]
  refine lv_istore_n (lv' := [(0, .int x3)]) hx hb d_bitc_33 rfl hl (by decide) rfl (fun ls hl => ?_)
  refine lv_iload_n hx hb d_bitc_34 rfl (lv_at hl 0 rfl) ?_
  refine lv_iload_n hx hb d_bitc_35 rfl (lv_at hl 0 rfl) ?_
  refine lv_bipush (v := 8) hx hb d_bitc_36 (by decide) ?_
  refine lv_iushr (v := bush x3 8) hx hb d_bitc_38 rfl ?_
  refine lv_iadd hx hb d_bitc_39 ?_
  obtain ⟨x4, ex4⟩ : ∃ z : Int32, (x3 + (bush x3 8)) = z := ⟨_, rfl⟩
  rw [ex4]
  refine lv_istore_n (lv' := [(0, .int x4)]) hx hb d_bitc_40 rfl hl (by decide) rfl (fun ls hl => ?_)
  refine lv_iload_n hx hb d_bitc_41 rfl (lv_at hl 0 rfl) ?_
  refine lv_iload_n hx hb d_bitc_42 rfl (lv_at hl 0 rfl) ?_
  refine lv_bipush (v := 16) hx hb d_bitc_43 (by decide) ?_
  refine lv_iushr (v := bush x4 16) hx hb d_bitc_45 rfl ?_
  refine lv_iadd hx hb d_bitc_46 ?_
  obtain ⟨x5, ex5⟩ : ∃ z : Int32, (x4 + (bush x4 16)) = z := ⟨_, rfl⟩
  rw [ex5]
  refine lv_istore_n (lv' := [(0, .int x5)]) hx hb d_bitc_47 rfl hl (by decide) rfl (fun ls hl => ?_)
  refine lv_iload_n hx hb d_bitc_48 rfl (lv_at hl 0 rfl) ?_
  refine lv_bipush (v := 63) hx hb d_bitc_49 (by decide) ?_
  refine lv_iand hx hb d_bitc_51 ?_
  exact hQ _ _ _ _ _ _ I (by rw [← hk]; subst ex5; subst ex4; subst ex3; subst ex2; subst ex1; rfl) d_bitc_52

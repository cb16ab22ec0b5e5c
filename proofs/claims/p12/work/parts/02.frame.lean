/-! THE PURE SIDE: a state is its numbers and its arrays; combinators of the functions that a program of mine writes out of the bytecode -/
abbrev St : Type := (Nat → Int32) × (Nat → Nat → Int32)
def upA (A : Nat → Nat → Int32) (k : Nat) (f : Nat → Int32) : Nat → Nat → Int32 := fun j => if j = k then f else A j
def sv (u : St) (k : Nat) (x : Int32) : St := (upd u.1 k x, u.2)
def sa (u : St) (k i : Nat) (x : Int32) : St := (u.1, upA u.2 k (upd (u.2 k) i x))
def sw (u : St) (k : Nat) (f : Nat → Int32) : St := (u.1, upA u.2 k f)
def bnd {α β : Type} (e : α) (f : α → β) : β := f e
def gd {β : Type} (i : Int32) (n : Nat) (k : Option β) : Option β := if i < 0 ∨ n ≤ i.toNatClampNeg then none else k
def gb {β : Type} (v : Int32) (k : Option β) : Option β := if v = 0 ∨ v = 1 then k else none
def cI {β : Type} (o : Option (Int32 × St)) (k : Int32 → St → Option β) : Option β := match o with
  | none => none
  | some q => k q.1 q.2
def cJ {β : Type} (o : Option (Int64 × St)) (k : Int64 → St → Option β) : Option β := match o with
  | none => none
  | some q => k q.1 q.2
def cV {β : Type} (o : Option St) (k : St → Option β) : Option β := match o with
  | none => none
  | some q => k q
def cT {α β : Type} (o : Option α) (k : α → Option β) : Option β := match o with
  | none => none
  | some q => k q
theorem gd_u {β : Type} {i : Int32} {n : Nat} {k : Option β} {F : β} (h : gd i n k = some F) : vp_in i n ∧ k = some F := by
  unfold gd at h
  split at h
  · cases h
  · rename_i q
    exact ⟨q, h⟩
theorem gb_u {β : Type} {v : Int32} {k : Option β} {F : β} (h : gb v k = some F) : (v = 0 ∨ v = 1) ∧ k = some F := by
  unfold gb at h
  split at h
  · rename_i q
    exact ⟨q, h⟩
  · cases h
theorem cI_u {β : Type} {o : Option (Int32 × St)} {k : Int32 → St → Option β} {F : β} (h : cI o k = some F) : ∃ (r : Int32) (u : St), o = some (r, u) ∧ k r u = some F := by
  cases o with
  | none => cases h
  | some q => exact ⟨q.1, q.2, rfl, h⟩
theorem cJ_u {β : Type} {o : Option (Int64 × St)} {k : Int64 → St → Option β} {F : β} (h : cJ o k = some F) : ∃ (r : Int64) (u : St), o = some (r, u) ∧ k r u = some F := by
  cases o with
  | none => cases h
  | some q => exact ⟨q.1, q.2, rfl, h⟩
theorem cV_u {β : Type} {o : Option St} {k : St → Option β} {F : β} (h : cV o k = some F) : ∃ u : St, o = some u ∧ k u = some F := by
  cases o with
  | none => cases h
  | some q => exact ⟨q, rfl, h⟩
theorem cT_u {α β : Type} {o : Option α} {k : α → Option β} {F : β} (h : cT o k = some F) : ∃ u : α, o = some u ∧ k u = some F := by
  cases o with
  | none => cases h
  | some q => exact ⟨q, rfl, h⟩
theorem bnd_u {α β : Type} {x : α} {f : α → β} {F : β} (h : bnd x f = F) : ∃ z : α, x = z ∧ f z = F := ⟨x, rfl, h⟩
def FU : Nat := 70000
theorem it_u {c : Prop} {d : Decidable c} {α : Type} {x y F : α} (h : c) (hk : @ite α c d x y = F) : x = F := by rw [if_pos h] at hk; exact hk
theorem ie_u {c : Prop} {d : Decidable c} {α : Type} {x y F : α} (h : ¬ c) (hk : @ite α c d x y = F) : y = F := by rw [if_neg h] at hk; exact hk
/-! THE FRAME: a world w of a state; what stays fixed within a method (Cx), what moves (Dy); contracts KI, KJ, KV -/
def tb : List Cond := lw_tbl.filter goodWord
theorem tb_in {w : Cond} (i : Nat) (h : tables_1[i]? = some w) (hg : goodWord w = true) : w ∈ tb := List.mem_filter.mpr ⟨List.mem_append_right _ (List.mem_of_getElem? h), hg⟩
theorem tb_sel {w : Cond} (i : Nat) (h : (k2_sels lw_privs)[i]? = some w) (hg : goodWord w = true) : w ∈ tb := List.mem_filter.mpr ⟨List.mem_append_left _ (List.mem_of_getElem? h), hg⟩
theorem tb_tbl {w : Cond} (h : w ∈ tb) : w ∈ lw_tbl := (List.mem_filter.mp h).1
theorem tb_good {w : Cond} (h : w ∈ tb) : (w.onTables && w.keeps) = true ∨ ∃ ty, w = .arrayClass ty := good_of_word (List.mem_filter.mp h).2
theorem tb_GoodIn {c c' : Cond} (h : c' ∈ tb) : GoodIn (c :: tb) (c' :: tb) := fun w hw => (List.mem_cons.mp hw).elim (fun e => by subst e; exact ⟨List.mem_cons_of_mem _ h, tb_good h⟩) (fun hw => ⟨List.mem_cons_of_mem _ hw, tb_good hw⟩)
def wA (w : St → va_W) (sz : Nat) : Nat → Prop := fun q => (∃ (u : St) (k : Nat) (e : va_E), (w u)[k]? = some (q, e)) ∨ sz ≤ q
def wD (w : St → va_W) : Prop := ∀ u, va_D (fun _ => True) (w u)
def tyA (cs : Nat → ClassId) : List (ClassId × FieldType) := [(cs 0, .byte), (cs 1, .int), (cs 2, .boolean)]
abbrev zT : Type := (Nat → Prop) → State → Heap → Prop
def zOK (Z : zT) : Prop := (∀ (A : Nat → Prop) (u U : State) (H : Heap), u.WarmedH U.vm → Z A u H → Z A U H) ∧ (∀ (A : Nat → Prop) (u U : State) (H : Heap), U.vm = u.vm → Z A u H → Z A U H) ∧ (∀ (A : Nat → Prop) (U : State) (H H1 : Heap), (∀ q : Nat, q < H.size → ¬ A q → H1[q]? = H[q]?) → Z A U H → Z A U H1) ∧ (∀ (A B : Nat → Prop) (U : State) (H : Heap), (∀ q, B q → A q) → Z A U H → Z B U H)
def Cx (cl : List vw_C) (own : String) (cc : ByteArray) (nL : Nat) (D : va_G) (cs : Nat → ClassId) (w : St → va_W) (Z : zT) (p : Program) (s : State) (m : MethodId) (args : Array Value) (c : Code) : Prop :=
  (p.tables.exec = Jvm.exec ∧ c.code = cc ∧ c.maxLocals = nL ∧ s.vm.findClass own = some m.cls) ∧ (∀ x ∈ tb, x.before args s = true) ∧ va_K D cl (tyA cs) s ∧ wD w ∧ zOK Z ∧ Z (wA w s.heap.size) s s.heap
def Dy (cl : List vw_C) (D : va_G) (w : St → va_W) (s : State) (H : Heap) (locs : List Loc) (u : St) : Prop := va_P D cl (w u) H ∧ va_S (wA w s.heap.size) s.heap H locs
def PcW (cl : List vw_C) (D : va_G) (cs : Nat → ClassId) (w : St → va_W) (Z : zT) (av : List Value) (u : St) (sz : Nat) : Array Value → State → Prop := va_Pc av (fun U => U.heap.size = sz ∧ va_P D cl (w u) U.heap ∧ va_K D cl (tyA cs) U ∧ Z (wA w sz) U U.heap)
def QcI (cl : List vw_C) (D : va_G) (w : St → va_W) (r : Int32) (u : St) (sz : Nat) : Array Value → State → Outcome → State → Prop := va_Qi (fun (r' : Int32) (u' : St) => r' = r ∧ u' = u) (fun u' t => va_P D cl (w u') t.heap) (wA w sz)
def QcJ (cl : List vw_C) (D : va_G) (w : St → va_W) (r : Int64) (u : St) (sz : Nat) : Array Value → State → Outcome → State → Prop := va_Ql (fun (r' : Int64) (u' : St) => r' = r ∧ u' = u) (fun u' t => va_P D cl (w u') t.heap) (wA w sz)
def QcV (cl : List vw_C) (D : va_G) (w : St → va_W) (u : St) (sz : Nat) : Array Value → State → Outcome → State → Prop := va_Qv (fun (u' : St) => u' = u) (fun u' t => va_P D cl (w u') t.heap) (wA w sz)
def KI (cl : List vw_C) (D : va_G) (cs : Nat → ClassId) (w : St → va_W) (Z : zT) (l : Launch) (y : MethodName) (cd : Cond) (rm : Room) (av : List Value) (u : St) (r : Int32) (u' : St) : Prop := ∀ sz : Nat, Met l y (cd :: tb) rm (PcW cl D cs w Z av u sz) (QcI cl D w r u' sz) 0 0 (wA w sz)
def KJ (cl : List vw_C) (D : va_G) (cs : Nat → ClassId) (w : St → va_W) (Z : zT) (l : Launch) (y : MethodName) (cd : Cond) (rm : Room) (av : List Value) (u : St) (r : Int64) (u' : St) : Prop := ∀ sz : Nat, Met l y (cd :: tb) rm (PcW cl D cs w Z av u sz) (QcJ cl D w r u' sz) 0 0 (wA w sz)
def KV (cl : List vw_C) (D : va_G) (cs : Nat → ClassId) (w : St → va_W) (Z : zT) (l : Launch) (y : MethodName) (cd : Cond) (rm : Room) (av : List Value) (u : St) (u' : St) : Prop := ∀ sz : Nat, Met l y (cd :: tb) rm (PcW cl D cs w Z av u sz) (QcV cl D w u' sz) 0 0 (wA w sz)
section FRM
variable {cl : List vw_C} {own : String} {cc : ByteArray} {nL : Nat} {D : va_G} {cs : Nat → ClassId} {w : St → va_W} {Z : zT} {l : Launch} {y : MethodName} {rm : Room} {av : List Value} {u u' : St}
variable {p : Program} {e : Env} {R : Room} {s : State} {m : MethodId} {args : Array Value} {below : List Frame} {meth : Method} {c : Code} {H : Heap} {locs : List Loc} {Q : State → Prop}
theorem wD.A (h : wD w) (sz : Nat) (u : St) : va_D (wA w sz) (w u) := ⟨(h u).1, fun k q hk => Or.inl ⟨u, k, q.2, hk⟩⟩
theorem PcW.blind (hZ : zOK Z) (sz : Nat) : FrameBlind (PcW cl D cs w Z av u sz) := fun a U g mk q => ⟨q.1, q.2.1, q.2.2.1, va_K.moved (u := U) (U := U.calling g mk a) (Vm.Alike.refl U.vm) q.2.2.2.1, hZ.2.1 _ U _ _ rfl q.2.2.2.2⟩
/-- a contract's start: the world, the words, the places of the arguments -/
theorem Cx.start {maxL : Nat} {rt : Option FieldType} {sz : Nat} {s₁ : State} (hw : wD w) (hz : zOK Z) (B : BodyLoose p l y (headSpec (.code y cc maxL rt :: tb) rm) cc maxL rt e s m args below meth c s₁) (hml : c.maxLocals = maxL) (hv : PcW cl D cs w Z av u sz args s) : args = av.toArray ∧ s.heap.size = sz ∧ Cx cl y.cls cc maxL D cs w Z p s m args c ∧ Dy cl D w s s.heap [] u ∧ meth.sig.returnType = rt ∧ meth.locks = false := by
  obtain ⟨h1, h2, h3, h4, h5⟩ := hv
  refine ⟨h1, h2, ⟨⟨B.exec, B.bytes, hml, findClass_of_methodNamed B.named⟩, fun x hx => atoms_spec (ws := .code y cc maxL rt :: tb) B.pre x (List.mem_cons_of_mem _ hx), h4, hw, hz, by rw [h2]; exact h5⟩, ⟨h3, va_S.rf⟩, B.returns, B.notSynchronized⟩
theorem ent {vs : List Value} {n cells slots : Nat} (h : (lg_sl vs).length ≤ n) (kk : ∀ ls : Array Slot, lv_has ls n (lv_args 0 vs) → W p l e R s m args below meth c H locs cells slots Q (F0 m 0 ls [])) : W p l e R s m args below meth c H locs cells slots Q (entryFrame m vs.toArray n) := by
  have hl := lv_entry vs (n := n) h
  rw [lg_entry_eq]
  exact kk _ hl
theorem KI.of {maxL : Nat} {rt : FieldType} {r : Int32} (hy : plainName y.cls = true) (hlen : (lg_sl av).length ≤ maxL) (hn : narrow rt (.int r) = .int r) (hw : wD w) (hz : zOK Z)
    (body : ∀ (p : Program) (e : Env) (s : State) (m : MethodId) (args : Array Value) (below : List Frame) (meth : Method) (c : Code) (Q : State → Prop), Cx cl y.cls cc maxL D cs w Z p s m args c → Dy cl D w s s.heap [] u →
      (∀ (H : Heap) (locs : List Loc) (pc : Nat) (ls : Array Slot) (v : Int32) (u1 : St), Dy cl D w s H locs u1 → some (v, u1) = some (r, u') → decode cc pc = .ok (.ireturn, 1) → W p l e rm s m args below meth c H locs 0 0 Q (F0 m pc ls [.int v])) →
      ∀ ls : Array Slot, lv_has ls maxL (lv_args 0 av) → W p l e rm s m args below meth c s.heap [] 0 0 Q (F0 m 0 ls [])) : KI cl D cs w Z l y (.code y cc maxL (some rt)) rm av u r u' := by
  intro sz
  refine Met.ofW (cc := cc) (maxL := maxL) (ret := some rt) hy rfl ?_
  intro p e s m args below meth c s₁ B hml hv
  obtain ⟨rfl, hsz, hC, hI, hr, hlocks⟩ := Cx.start hw hz B hml hv
  subst hsz
  refine ent hlen fun ls hl => body p e s m _ below meth c _ hC hI (fun H locs pc ls v u1 I hk hdg => ?_) ls hl
  cases hk
  exact W.zret hC.1.1 hC.1.2.1 hr hn (fun t ht hW => ⟨⟨r, u', rfl, ⟨rfl, rfl⟩, by show va_P D cl (w u') t.heap; rw [ht]; exact I.1⟩, I.2.F ht⟩) I.2.2.2 hdg
theorem KJ.of {maxL : Nat} {r : Int64} (hy : plainName y.cls = true) (hlen : (lg_sl av).length ≤ maxL) (hw : wD w) (hz : zOK Z)
    (body : ∀ (p : Program) (e : Env) (s : State) (m : MethodId) (args : Array Value) (below : List Frame) (meth : Method) (c : Code) (Q : State → Prop), Cx cl y.cls cc maxL D cs w Z p s m args c → Dy cl D w s s.heap [] u →
      (∀ (H : Heap) (locs : List Loc) (pc : Nat) (ls : Array Slot) (v : Int64) (u1 : St), Dy cl D w s H locs u1 → some (v, u1) = some (r, u') → decode cc pc = .ok (.lreturn, 1) → W p l e rm s m args below meth c H locs 0 0 Q (F0 m pc ls [.long v])) →
      ∀ ls : Array Slot, lv_has ls maxL (lv_args 0 av) → W p l e rm s m args below meth c s.heap [] 0 0 Q (F0 m 0 ls [])) : KJ cl D cs w Z l y (.code y cc maxL (some .long)) rm av u r u' := by
  intro sz
  refine Met.ofW (cc := cc) (maxL := maxL) (ret := some .long) hy rfl ?_
  intro p e s m args below meth c s₁ B hml hv
  obtain ⟨rfl, hsz, hC, hI, hr, hlocks⟩ := Cx.start hw hz B hml hv
  subst hsz
  refine ent hlen fun ls hl => body p e s m _ below meth c _ hC hI (fun H locs pc ls v u1 I hk hdg => ?_) ls hl
  cases hk
  exact W.lret hC.1.1 hC.1.2.1 hr (fun t ht hW => ⟨⟨r, u', rfl, ⟨rfl, rfl⟩, by show va_P D cl (w u') t.heap; rw [ht]; exact I.1⟩, I.2.F ht⟩) I.2.2.2 hdg
theorem KZ.of {maxL : Nat} {r : Int32} (hy : plainName y.cls = true) (hlen : (lg_sl av).length ≤ maxL) (hw : wD w) (hz : zOK Z)
    (body : ∀ (p : Program) (e : Env) (s : State) (m : MethodId) (args : Array Value) (below : List Frame) (meth : Method) (c : Code) (Q : State → Prop), Cx cl y.cls cc maxL D cs w Z p s m args c → Dy cl D w s s.heap [] u →
      (∀ (H : Heap) (locs : List Loc) (pc : Nat) (ls : Array Slot) (v : Int32) (u1 : St), Dy cl D w s H locs u1 → gb v (some (v, u1)) = some (r, u') → decode cc pc = .ok (.ireturn, 1) → W p l e rm s m args below meth c H locs 0 0 Q (F0 m pc ls [.int v])) →
      ∀ ls : Array Slot, lv_has ls maxL (lv_args 0 av) → W p l e rm s m args below meth c s.heap [] 0 0 Q (F0 m 0 ls [])) : KI cl D cs w Z l y (.code y cc maxL (some .boolean)) rm av u r u' := by
  intro sz
  refine Met.ofW (cc := cc) (maxL := maxL) (ret := some .boolean) hy rfl ?_
  intro p e s m args below meth c s₁ B hml hv
  obtain ⟨rfl, hsz, hC, hI, hr, hlocks⟩ := Cx.start hw hz B hml hv
  subst hsz
  refine ent hlen fun ls hl => body p e s m _ below meth c _ hC hI (fun H locs pc ls v u1 I hk hdg => ?_) ls hl
  obtain ⟨hb, hk⟩ := gb_u hk
  cases hk
  exact W.zret hC.1.1 hC.1.2.1 hr (by rcases hb with rfl | rfl <;> rfl) (fun t ht hW => ⟨⟨r, u', rfl, ⟨rfl, rfl⟩, by show va_P D cl (w u') t.heap; rw [ht]; exact I.1⟩, I.2.F ht⟩) I.2.2.2 hdg
theorem KV.of {maxL : Nat} (hy : plainName y.cls = true) (hlen : (lg_sl av).length ≤ maxL) (hw : wD w) (hz : zOK Z)
    (body : ∀ (p : Program) (e : Env) (s : State) (m : MethodId) (args : Array Value) (below : List Frame) (meth : Method) (c : Code) (Q : State → Prop), Cx cl y.cls cc maxL D cs w Z p s m args c → Dy cl D w s s.heap [] u →
      (∀ (H : Heap) (locs : List Loc) (pc : Nat) (ls : Array Slot) (u1 : St), Dy cl D w s H locs u1 → some u1 = some u' → decode cc pc = .ok (.return_, 1) → W p l e rm s m args below meth c H locs 0 0 Q (F0 m pc ls [])) →
      ∀ ls : Array Slot, lv_has ls maxL (lv_args 0 av) → W p l e rm s m args below meth c s.heap [] 0 0 Q (F0 m 0 ls [])) : KV cl D cs w Z l y (.code y cc maxL none) rm av u u' := by
  intro sz
  refine Met.ofW (cc := cc) (maxL := maxL) (ret := none) hy rfl ?_
  intro p e s m args below meth c s₁ B hml hv
  obtain ⟨rfl, hsz, hC, hI, hr, hlocks⟩ := Cx.start hw hz B hml hv
  subst hsz
  refine ent hlen fun ls hl => body p e s m _ below meth c _ hC hI (fun H locs pc ls u1 I hk hdg => ?_) ls hl
  cases hk
  exact W.vret hC.1.1 hC.1.2.1 hr (fun t ht hW => ⟨⟨u', rfl, rfl, by show va_P D cl (w u') t.heap; rw [ht]; exact I.1⟩, I.2.F ht⟩) I.2.2.2 hdg
/-- the callee's start, of the caller's own -/
theorem Cx.pay (C : Cx cl own cc nL D cs w Z p s m args c) (I : Dy cl D w s H locs u) : ∀ U : State, U.heap = H → s.WarmedH U.vm → PcW cl D cs w Z av u H.size av.toArray U := by
  obtain ⟨-, -, hK, hw, hz, hZ⟩ := C
  intro U hU hW
  refine ⟨rfl, by rw [hU], by rw [hU]; exact I.1, va_K.moved hW.alike hK, ?_⟩
  rw [hU]
  refine hz.1 _ s _ _ hW (hz.2.2.1 _ _ s.heap _ ?_ (hz.2.2.2 (wA w s.heap.size) _ _ _ ?_ hZ))
  · intro q hq hnA
    refine I.2.2.1 q hq fun hA => hnA ?_
    rcases hA with h | h
    · exact Or.inl h
    · omega
  · intro q hA
    rcases hA with h | h
    · exact Or.inl h
    · exact Or.inr (Nat.le_trans I.2.1 h)
theorem wA.up (I : Dy cl D w s H locs u) {q : Nat} (h : wA w H.size q) : wA w s.heap.size q := by
  rcases h with h | h
  · exact Or.inl h
  · exact Or.inr (Nat.le_trans I.2.1 h)
/-- what a call of y wants of the tables: its code, that it is there, how many arguments -/
def wdV (y : MethodName) (bytes : ByteArray) (maxL : Nat) (rt : Option FieldType) (n : Nat) : Prop := Cond.code y bytes maxL rt ∈ tb ∧ Cond.instanceMethod y ∈ tb ∧ Cond.selects y.cls y y ∈ tb ∧ Cond.initialized y.cls ∈ tb ∧ y.cls ≠ "java/lang/invoke/MethodHandle" ∧ y.cls ≠ "java/lang/invoke/VarHandle" ∧ (parseMethodDescriptor y.desc).map (fun d => d.parameters.length) = some n
def wdS (y : MethodName) (bytes : ByteArray) (maxL : Nat) (rt : Option FieldType) (n : Nat) : Prop := Cond.code y bytes maxL rt ∈ tb ∧ Cond.static y ∈ tb ∧ Cond.initialized y.cls ∈ tb ∧ y.cls ≠ "java/lang/invoke/MethodHandle" ∧ y.cls ≠ "java/lang/invoke/VarHandle" ∧ (parseMethodDescriptor y.desc).map (fun d => d.parameters.length) = some n
theorem Cx.cb {bytes : ByteArray} {maxL n idx : Nat} {rt : Option FieldType} (C : Cx cl own cc nL D cs w Z p s m args c) (h1 : Cond.code y bytes maxL rt ∈ tb) (h2 : Cond.initialized y.cls ∈ tb) (h3 : y.cls ≠ "java/lang/invoke/MethodHandle") (h4 : y.cls ≠ "java/lang/invoke/VarHandle") (h5 : (parseMethodDescriptor y.desc).map (fun d => d.parameters.length) = some n) (hl : Cond.methodLink own idx y ∈ tb) (hrc : rm.cells = 0 ∧ rm.slots = 0) (hR : rm.frames + 1 ≤ R.frames ∧ 8 + (maxL + 11) + rm.locals ≤ R.locals) : CallB R s args own idx y bytes maxL rt (.code y bytes maxL rt :: tb) rm 0 0 n :=
  callB_of (Ts := tb) n C.2.1 (fun x hx => (List.mem_cons.mp hx).elim (fun e => by subst e; exact ⟨h1, tb_good h1⟩) (fun hx => ⟨hx, tb_good hx⟩)) rfl hrc.1 hrc.2 (C.2.1 _ h2) (C.2.1 _ hl) ⟨h3, h4, h5⟩ hR
section CALLS
variable {bytes : ByteArray} {maxL n idx : Nat} {rt : Option FieldType} {As rest st : List Value} {b pc : Nat} {ls : Array Slot}
theorem call_runV (C : Cx cl own cc nL D cs w Z p s m args c) (I : Dy cl D w s H locs u) {Qc : Array Value → State → Outcome → State → Prop} (hM : Met l y (.code y bytes maxL rt :: tb) rm (PcW cl D cs w Z (.ref b :: As) u H.size) Qc 0 0 (wA w H.size)) (hW : wdV y bytes maxL rt n) {q0 ci : Nat} {fs : List Value} {T : u_T} {N : Nat} (he : (w u)[q0]? = some (b, .inr (ci, fs))) (hc : cl[ci]? = some (y.cls, T, N)) (hl : Cond.methodLink own idx y ∈ tb) (hrc : rm.cells = 0 ∧ rm.slots = 0) (hR : rm.frames + 1 ≤ R.frames ∧ 8 + (maxL + 11) + rm.locals ≤ R.locals) (hn : As.length = n) (hls : ls.size = nL) (hst : st = As.reverse ++ .ref b :: rest) (hr : (rest.map fun v => v.category).sum ≤ 8) (hdg : decode cc pc = .ok (.invokevirtual idx, 3)) :
    va_Run p l e R s m args below meth c H locs 0 0 0 0 (F0 m pc ls st) rest (Qc (Value.ref b :: As).toArray) (wA w H.size) :=
  va_runV (Ts := tb) (own := own) (C := y.cls) (As := As) (rest := rest) ⟨C.1.1, C.1.2.1, C.1.2.2.1, C.1.2.2.2, C.2.1⟩ hM ⟨C.cb hW.1 hW.2.2.2.1 hW.2.2.2.2.1 hW.2.2.2.2.2.1 hW.2.2.2.2.2.2 hl hrc hR, C.2.1 _ hW.2.1, C.2.1 _ hW.2.2.1⟩ ⟨PcW.blind C.2.2.2.2.1 _, va_recv C.2.2.1 I.1 hc he, C.pay I⟩ rfl hn hls hst (lv_room hr) hdg ⟨Nat.zero_le _, Nat.zero_le _⟩
theorem call_runS (C : Cx cl own cc nL D cs w Z p s m args c) (I : Dy cl D w s H locs u) {Qc : Array Value → State → Outcome → State → Prop} (hM : Met l y (.code y bytes maxL rt :: tb) rm (PcW cl D cs w Z As u H.size) Qc 0 0 (wA w H.size)) (hW : wdS y bytes maxL rt n) (hl : Cond.methodLink own idx y ∈ tb) (hrc : rm.cells = 0 ∧ rm.slots = 0) (hR : rm.frames + 1 ≤ R.frames ∧ 8 + (maxL + 11) + rm.locals ≤ R.locals) (hn : As.length = n) (hls : ls.size = nL) (hst : st = As.reverse ++ rest) (hr : (rest.map fun v => v.category).sum ≤ 8) (hdg : decode cc pc = .ok (.invokestatic idx, 3)) :
    va_Run p l e R s m args below meth c H locs 0 0 0 0 (F0 m pc ls st) rest (Qc As.toArray) (wA w H.size) :=
  va_runS (Ts := tb) (own := own) (As := As) (rest := rest) ⟨C.1.1, C.1.2.1, C.1.2.2.1, C.1.2.2.2, C.2.1⟩ hM ⟨C.cb hW.1 hW.2.2.1 hW.2.2.2.1 hW.2.2.2.2.1 hW.2.2.2.2.2 hl hrc hR, C.2.1 _ hW.2.1⟩ ⟨PcW.blind C.2.2.2.2.1 _, C.pay I⟩ rfl hn hls hst (lv_room hr) hdg ⟨Nat.zero_le _, Nat.zero_le _⟩
theorem go_I {a : Array Value} {r : Int32} (I : Dy cl D w s H locs u) (h : va_Run p l e R s m args below meth c H locs 0 0 0 0 (F0 m pc ls st) rest (QcI cl D w r u' H.size a) (wA w H.size)) (kk : ∀ (H : Heap) (locs : List Loc), Dy cl D w s H locs u' → W p l e R s m args below meth c H locs 0 0 Q (F0 m (pc + 3) ls (.int r :: rest))) : W p l e R s m args below meth c H locs 0 0 Q (F0 m pc ls st) := by
  refine va_calli (A0 := wA w s.heap.size) h I.2 (fun q _ h => wA.up I h) (fun q h => wA.up I h) (fun r1 u1 t H1 locs1 ht hvm hw hB hz1 hk1 hS => ?_)
  obtain ⟨rfl, rfl⟩ := hw
  exact kk H1 locs1 ⟨by rw [← ht]; exact hB, hS⟩
theorem go_J {a : Array Value} {r : Int64} (I : Dy cl D w s H locs u) (h : va_Run p l e R s m args below meth c H locs 0 0 0 0 (F0 m pc ls st) rest (QcJ cl D w r u' H.size a) (wA w H.size)) (kk : ∀ (H : Heap) (locs : List Loc), Dy cl D w s H locs u' → W p l e R s m args below meth c H locs 0 0 Q (F0 m (pc + 3) ls (.long r :: rest))) : W p l e R s m args below meth c H locs 0 0 Q (F0 m pc ls st) := by
  refine va_calll (A0 := wA w s.heap.size) h I.2 (fun q _ h => wA.up I h) (fun q h => wA.up I h) (fun r1 u1 t H1 locs1 ht hvm hw hB hz1 hk1 hS => ?_)
  obtain ⟨rfl, rfl⟩ := hw
  exact kk H1 locs1 ⟨by rw [← ht]; exact hB, hS⟩
theorem go_V {a : Array Value} (I : Dy cl D w s H locs u) (h : va_Run p l e R s m args below meth c H locs 0 0 0 0 (F0 m pc ls st) rest (QcV cl D w u' H.size a) (wA w H.size)) (kk : ∀ (H : Heap) (locs : List Loc), Dy cl D w s H locs u' → W p l e R s m args below meth c H locs 0 0 Q (F0 m (pc + 3) ls rest)) : W p l e R s m args below meth c H locs 0 0 Q (F0 m pc ls st) := by
  refine va_callv (A0 := wA w s.heap.size) h I.2 (fun q _ h => wA.up I h) (fun q h => wA.up I h) (fun u1 t H1 locs1 ht hvm hw hB hz1 hk1 hS => ?_)
  subst hw
  exact kk H1 locs1 ⟨by rw [← ht]; exact hB, hS⟩
end CALLS
end FRM

/-! THE DOCUMENT'S READER: class, members, ATTRIBUTES, CODE -/
def plf {α : Type} (r : Except Er α) : P α := fun i => match r with
  | .ok a => .ok (a, i)
  | .error e => .error e
/-- n bytes are there -/
def pk (N n : Nat) : P Unit := fun i => if i + n ≤ N then .ok ((), i) else .error (1, N)
def psk (N n : Nat) : P Unit := fun i => if i + n ≤ N then .ok ((), i + n) else .error (1, N)
def one7 (f : Nat) : Bool := decide (f &&& 7 = 0) || decide (f &&& 7 = 1) || decide (f &&& 7 = 2) || decide (f &&& 7 = 4)
def ffl (cf f : Nat) : Bool := if cf &&& 512 = 0 then decide (f &&& 4294967136 = 0) && one7 f else decide (f = 25)
def mfl (cf f : Nat) : Bool := decide (f &&& 4294966240 = 0) && one7 f && (decide (f &&& 1024 = 0) || (decide (f &&& 26 = 0) && decide (cf &&& 1024 ≠ 0))) && (decide (cf &&& 512 = 0) || (decide (f &&& 3 ≠ 0) && decide (f &&& 16 = 0)))
def cflA (f : Nat) : Bool := decide (f &&& 4294965710 = 0) && (if f &&& 512 = 0 then decide (f &&& 1040 ≠ 1040) else decide (f &&& 1072 = 1024))
def fmN (op : Nat) : Nat := if op < 202 then (tab_FORMS op).toNatClampNeg else 0
def wdN (fm : Nat) : Nat := (tab_WIDTHS fm).toNatClampNeg
def nmN (fm : Nat) : Nat := (tab_NUMBERS fm).toNatClampNeg
def sx (n : Nat) : Int := (nI n).toInt
def lasts (op : Nat) : Bool := op == 167 || op == 170 || op == 171 || op == 172 || op == 173 || op == 176 || op == 177 || op == 191 || op == 200
abbrev Cd : Type := Nat × Nat × Nat × Nat × Nat × Nat
section CODE
variable (F : Nat → Nat) (N many : Nat) (K B : Nat → Nat)
def kfit (fm op ver n : Nat) : Bool := if fm = 4 ∨ fm = 5 then isK many K n 3 || isK many K n 8 || isK many K n 7 else if fm = 6 then isK many K n 5 else if fm = 16 then isK many K n 9 else if fm = 17 then isK many K n 10 || (decide (op ≠ 182) && decide (52 ≤ ver) && isK many K n 11) else if fm = 18 then isK many K n 11 else isK many K n 7
def rfit (fm op n p : Nat) : Bool := if fm = 17 then decide (op = 183) || !wT F B 0 (nmM F B n) else if fm = 18 then decide (be F (p + 3) 2 = (slT F B (tyM F B n) + 1) * 256) else if fm = 19 then decide (op ≠ 187) || decide (bkC F B n = 0) else if fm = 21 then decide (1 ≤ F (p + 3)) && decide (F (p + 3) ≤ bkC F B n) else true
def rfit_o (fm op n p : Nat) : Bool := if fm = 17 then decide (op = 183) || !wT F B 0 (nmM F B n) else if fm = 18 then decide (be F (p + 3) 2 = (slT_o F B (tyM F B n) + 1) * 256) else if fm = 19 then decide (op ≠ 187) || decide (bkC F B n = 0) else if fm = 21 then decide (1 ≤ F (p + 3)) && decide (F (p + 3) ≤ bkC F B n) else true
def lic (op : Nat) : Nat := (if op < 54 then op - 26 else op - 59) % 4
def sFix (ver lo b sz pc op fm : Nat) : Except Er (Nat × List Int32) :=
  if sz < pc + wdN fm then .error (25, b + pc)
  else if fm = 2 ∨ fm = 3 then .ok (wdN fm, [])
  else if fm = 7 ∨ fm = 8 ∨ fm = 11 then (if lo < be F (b + pc + 1) (nmN fm) + (if fm = 8 then 2 else 1) then .error (23, b + pc) else .ok (wdN fm, []))
  else if fm = 9 ∨ fm = 10 then (if lo < lic op + (if fm = 10 then 2 else 1) then .error (23, b + pc) else .ok (wdN fm, []))
  else if fm = 12 then .ok (wdN fm, [(nI (be F (b + pc + 1) (nmN fm))).toInt16.toInt32])
  else if fm = 13 then .ok (wdN fm, [nI (be F (b + pc + 1) (nmN fm))])
  else if fm = 20 then (if be F (b + pc + 1) (nmN fm) = 4 ∨ be F (b + pc + 1) (nmN fm) = 5 ∨ (8 ≤ be F (b + pc + 1) (nmN fm) ∧ be F (b + pc + 1) (nmN fm) ≤ 11) then .ok (wdN fm, []) else .error (24, b + pc))
  else if kfit many K fm op ver (be F (b + pc + 1) (nmN fm)) then (if rfit F B fm op (be F (b + pc + 1) (nmN fm)) (b + pc) then .ok (wdN fm, []) else .error (24, b + pc)) else .error (8, b + pc)
def sFix_o (ver lo b sz pc op fm : Nat) : Except Er (Nat × List Int32) :=
  if sz < pc + wdN fm then .error (25, b + pc)
  else if fm = 2 ∨ fm = 3 then .ok (wdN fm, [])
  else if fm = 7 ∨ fm = 8 ∨ fm = 11 then (if lo < be F (b + pc + 1) (nmN fm) + (if fm = 8 then 2 else 1) then .error (23, b + pc) else .ok (wdN fm, []))
  else if fm = 9 ∨ fm = 10 then (if lo < lic op + (if fm = 10 then 2 else 1) then .error (23, b + pc) else .ok (wdN fm, []))
  else if fm = 12 then .ok (wdN fm, [(nI (be F (b + pc + 1) (nmN fm))).toInt16.toInt32])
  else if fm = 13 then .ok (wdN fm, [nI (be F (b + pc + 1) (nmN fm))])
  else if fm = 20 then (if be F (b + pc + 1) (nmN fm) = 4 ∨ be F (b + pc + 1) (nmN fm) = 5 ∨ (8 ≤ be F (b + pc + 1) (nmN fm) ∧ be F (b + pc + 1) (nmN fm) ≤ 11) then .ok (wdN fm, []) else .error (24, b + pc))
  else if kfit many K fm op ver (be F (b + pc + 1) (nmN fm)) then (if rfit_o F B fm op (be F (b + pc + 1) (nmN fm)) (b + pc) then .ok (wdN fm, []) else .error (24, b + pc)) else .error (8, b + pc)
/-- m bytes of padding from a on -/
def sPad (b sz : Nat) : Nat → Nat → Option Nat
  | 0, _ => none
  | m + 1, a => if sz ≤ a then some 25 else if F (b + a) ≠ 0 then some 24 else sPad b sz m (a + 1)
def pst (pc : Nat) : Nat := (pc + 4) / 4 * 4
def sPrs (b sz : Nat) : Nat → Nat → Option Int → Option Nat
  | 0, _, _ => none
  | m + 1, a, pr => if sz < a + 4 then some 25 else if (match pr with
      | none => false
      | some x => decide (sx (be F (b + a) 4) ≤ x)) then some 24 else if sz < a + 8 then some 25 else sPrs b sz m (a + 8) (some (sx (be F (b + a) 4)))
/-- the numbers at a, a + d .. -/
def nms4 (d : Nat) : Nat → Nat → List Int32
  | 0, _ => []
  | m + 1, a => nI (be F a 4) :: nms4 d m (a + d)
def sTab (b sz pc : Nat) : Except Er (Nat × List Int32) := match sPad F b sz (pst pc - (pc + 1)) (pc + 1) with
  | some r => .error (r, b + pc)
  | none => if sz < pst pc + 12 then .error (25, b + pc) else if sx (be F (b + (pst pc + 8)) 4) - sx (be F (b + (pst pc + 4)) 4) + 1 < 1 ∨ 500 < sx (be F (b + (pst pc + 8)) 4) - sx (be F (b + (pst pc + 4)) 4) + 1 then .error (24, b + pc)
    else if sz < pst pc + 12 + 4 * (sx (be F (b + (pst pc + 8)) 4) - sx (be F (b + (pst pc + 4)) 4) + 1).toNat then .error (25, b + pc)
    else .ok (pst pc + 12 + 4 * (sx (be F (b + (pst pc + 8)) 4) - sx (be F (b + (pst pc + 4)) 4) + 1).toNat - pc, nI (be F (b + pst pc) 4) :: nms4 F 4 (sx (be F (b + (pst pc + 8)) 4) - sx (be F (b + (pst pc + 4)) 4) + 1).toNat (b + (pst pc + 12)))
def sPai (b sz pc : Nat) : Except Er (Nat × List Int32) := match sPad F b sz (pst pc - (pc + 1)) (pc + 1) with
  | some r => .error (r, b + pc)
  | none => if sz < pst pc + 8 then .error (25, b + pc) else if sx (be F (b + (pst pc + 4)) 4) < 0 ∨ 250 < sx (be F (b + (pst pc + 4)) 4) then .error (24, b + pc)
    else match sPrs F b sz (sx (be F (b + (pst pc + 4)) 4)).toNat (pst pc + 8) none with
      | some r => .error (r, b + pc)
      | none => .ok (pst pc + 8 + 8 * (sx (be F (b + (pst pc + 4)) 4)).toNat - pc, nI (be F (b + pst pc) 4) :: nms4 F 8 (sx (be F (b + (pst pc + 4)) 4)).toNat (b + (pst pc + 12)))
def sWid (lo b sz pc : Nat) : Except Er (Nat × List Int32) :=
  if sz ≤ pc + 1 then .error (25, b + pc)
  else if ¬ (fmN (F (b + pc + 1)) = 7 ∨ fmN (F (b + pc + 1)) = 8 ∨ fmN (F (b + pc + 1)) = 11) then .error (22, b + pc)
  else if sz < pc + (if fmN (F (b + pc + 1)) = 11 then 6 else 4) then .error (25, b + pc)
  else if lo < be F (b + pc + 2) 2 + (if fmN (F (b + pc + 1)) = 8 then 2 else 1) then .error (23, b + pc)
  else .ok (if fmN (F (b + pc + 1)) = 11 then 6 else 4, [])
def stp (ver lo b sz pc : Nat) : Except Er (Nat × List Int32) :=
  if fmN (F (b + pc)) = 0 then .error (22, b + pc)
  else if fmN (F (b + pc)) = 1 then .ok (1, [])
  else if fmN (F (b + pc)) = 14 then sTab F b sz pc
  else if fmN (F (b + pc)) = 15 then sPai F b sz pc
  else if fmN (F (b + pc)) = 22 then sWid F lo b sz pc
  else sFix F many K B ver lo b sz pc (F (b + pc)) (fmN (F (b + pc)))
def stp_o (ver lo b sz pc : Nat) : Except Er (Nat × List Int32) :=
  if fmN (F (b + pc)) = 0 then .error (22, b + pc)
  else if fmN (F (b + pc)) = 1 then .ok (1, [])
  else if fmN (F (b + pc)) = 14 then sTab F b sz pc
  else if fmN (F (b + pc)) = 15 then sPai F b sz pc
  else if fmN (F (b + pc)) = 22 then sWid F lo b sz pc
  else sFix_o F many K B ver lo b sz pc (F (b + pc)) (fmN (F (b + pc)))
/-- all INSTRUCTIONS from pc on: how many, the last, which are first, the jumps -/
def sIns (ver lo b sz : Nat) : Nat → Nat → Nat → Nat → (Nat → Bool) → List (Nat × Int32) → Except Er (Nat × Nat × (Nat → Bool) × List (Nat × Int32))
  | 0, _, cn, la, st, jl => .ok (cn, la, st, jl)
  | f + 1, pc, cn, la, st, jl => if pc < sz then (match stp F many K B ver lo b sz pc with
      | .error e => .error e
      | .ok q => sIns ver lo b sz f (pc + q.1) (cn + 1) pc (fun j => if j = pc then true else st j) (jl ++ q.2.map fun x => (pc, x)))
    else .ok (cn, la, st, jl)
/-- all INSTRUCTIONS from pc on: how many, the last, which are first, the jumps -/
def sIns_o (ver lo b sz : Nat) : Nat → Nat → Nat → Nat → (Nat → Bool) → List (Nat × Int32) → Except Er (Nat × Nat × (Nat → Bool) × List (Nat × Int32))
  | 0, _, cn, la, st, jl => .ok (cn, la, st, jl)
  | f + 1, pc, cn, la, st, jl => if pc < sz then (match stp_o F many K B ver lo b sz pc with
      | .error e => .error e
      | .ok q => sIns_o ver lo b sz f (pc + q.1) (cn + 1) pc (fun j => if j = pc then true else st j) (jl ++ q.2.map fun x => (pc, x)))
    else .ok (cn, la, st, jl)
def aimOK (sz : Nat) (st : Nat → Bool) (j : Nat × Int32) : Bool := decide (0 ≤ (j.1 : Int) + j.2.toInt) && decide ((j.1 : Int) + j.2.toInt < sz) && st ((j.1 : Int) + j.2.toInt).toNat
def sAim (b sz : Nat) (st : Nat → Bool) : List (Nat × Int32) → Except Er Unit
  | [] => .ok ()
  | j :: l => if aimOK sz st j then sAim b sz st l else .error (26, b + j.1)
def fst' (sz : Nat) (st : Nat → Bool) (p : Nat) : Bool := decide (p < sz) && st p
def sRow (sz : Nat) (st : Nat → Bool) : P Unit := pb pa fun w => pb (pu F N 2) fun fr => pb (pu F N 2) fun to => pb (pu F N 2) fun h => pb (pu F N 2) fun cl => pb (pn (decide (fr < to) && (decide (to = sz) || fst' sz st to) && fst' sz st fr && fst' sz st h) 28 w) fun _ => pn (decide (cl = 0) || isK many K cl 7) 8 (w + 6)
def sRows (sz : Nat) (st : Nat → Bool) : Nat → P Unit
  | 0 => pp ()
  | n + 1 => pb (sRow F N many K sz st) fun _ => sRows sz st n
def sCode (ver least : Nat) : P Cd := pb pa fun w => pb (pu F N 2) fun sk => pb (pn (decide (sk ≤ 255)) 15 w) fun _ => pb pa fun w2 => pb (pu F N 2) fun lo => pb (pn (decide (lo ≤ 255)) 15 w2) fun _ => pb (pn (decide (least ≤ lo)) 21 w2) fun _ => pb pa fun w3 => pb (pu F N 4) fun sz => pb (pn (decide (1 ≤ sz) && decide (sz ≤ 2000)) 15 w3) fun _ => pb (pk N sz) fun _ => pb pa fun b =>
  pb (plf (sIns F many K B ver lo b sz sz 0 0 0 (fun _ => false) [])) fun q => pb (plf (sAim b sz q.2.2.1 q.2.2.2)) fun _ => pb (pn (lasts (F (b + q.2.1))) 27 (b + q.2.1)) fun _ => pb (psk N sz) fun _ =>
  pb pa fun w4 => pb (pu F N 2) fun nr => pb (pn (decide (nr ≤ 30)) 15 w4) fun _ => pb (sRows F N many K sz q.2.2.1 nr) fun _ => pb pa fun w5 => pb (pu F N 2) fun na => pb (pn (decide (na = 0)) 19 w5) fun _ => pp (sk, lo, q.1, sz, q.2.2.2.length, nr)
def sCode_o (ver least : Nat) : P Cd := pb pa fun w => pb (pu F N 2) fun sk => pb (pn (decide (sk ≤ 255)) 15 w) fun _ => pb pa fun w2 => pb (pu F N 2) fun lo => pb (pn (decide (lo ≤ 255)) 15 w2) fun _ => pb (pn (decide (least ≤ lo)) 21 w2) fun _ => pb pa fun w3 => pb (pu F N 4) fun sz => pb (pn (decide (1 ≤ sz) && decide (sz ≤ 2000)) 15 w3) fun _ => pb (pk N sz) fun _ => pb pa fun b =>
  pb (plf (sIns_o F many K B ver lo b sz sz 0 0 0 (fun _ => false) [])) fun q => pb (plf (sAim b sz q.2.2.1 q.2.2.2)) fun _ => pb (pn (lasts (F (b + q.2.1))) 27 (b + q.2.1)) fun _ => pb (psk N sz) fun _ =>
  pb pa fun w4 => pb (pu F N 2) fun nr => pb (pn (decide (nr ≤ 30)) 15 w4) fun _ => pb (sRows F N many K sz q.2.2.1 nr) fun _ => pb pa fun w5 => pb (pu F N 2) fun na => pb (pn (decide (na = 0)) 19 w5) fun _ => pp (sk, lo, q.1, sz, q.2.2.2.length, nr)
-- members
def sCnt (most : Nat) : P Nat := pb pa fun w => pb (pu F N 2) fun n => pb (pn (decide (n ≤ most)) 15 w) fun _ => pp n
def sClsA : P Nat := pb pa fun w => pb (pu F N 2) fun f => pb (pn (cflA f) 13 w) fun _ => pb (sCls F N many K B) fun s => pb pa fun w2 => pb (sCls F N many K B) fun a => pb (pn (!smT F B s a) 14 w2) fun _ => pb (pn (decide (f &&& 512 = 0) || wT F B 2 a) 14 w2) fun _ => pp f
def sFac : Nat → List Nat → P Unit
  | 0, _ => pp ()
  | n + 1, l => pb pa fun w => pb (sCls F N many K B) fun t => pb (pn (!l.any (fun s => smT F B s t)) 16 w) fun _ => sFac n (l ++ [t])
def atO (t : Nat) : Nat := if wT F B 3 t then 2 else if wT F B 4 t then 1 else if wT F B 5 t then 4 else if wT F B 6 t then 8 else 0
def due (ty : Nat) : Nat := if wT F B 7 ty then 5 else if wT F B 8 ty then 8 else if tn F B ty = 1 then 3 else 0
def sCon (ty : Nat) : P Unit := pb pa fun w => pb (pu F N 2) fun k => pn (decide (due F B ty ≠ 0) && isK many K k (due F B ty)) 8 w
def sTk : Nat → P Unit
  | 0 => pp ()
  | n + 1 => pb (sNum F N many K 7) fun _ => sTk n
def sExc : P Nat := pb (pu F N 2) fun n => pb (sTk F N many K n) fun _ => pp n
def alw (wh al sn : Nat) : Bool := decide (wh &&& al ≠ 0) && decide (wh &&& sn = 0)
def sBody (ver f ty wh : Nat) (th : Nat) (cd : Cd) : P (Nat × Cd) := if wh = 2 then pb (sCode F N many K B ver (slT F B ty + (if f &&& 8 = 0 then 1 else 0))) fun c => pp (th, c) else if wh = 1 then pb (sCon F N many K B ty) fun _ => pp (th, cd) else if wh = 4 then pb (sExc F N many K) fun m => pp (m, cd) else pb (sNum F N many K 1) fun _ => pp (th, cd)
def sBody_o (ver f ty wh : Nat) (th : Nat) (cd : Cd) : P (Nat × Cd) := if wh = 2 then pb (sCode_o F N many K B ver (slT_o F B ty + (if f &&& 8 = 0 then 1 else 0))) fun c => pp (th, c) else if wh = 1 then pb (sCon F N many K B ty) fun _ => pp (th, cd) else if wh = 4 then pb (sExc F N many K) fun m => pp (m, cd) else pb (sNum F N many K 1) fun _ => pp (th, cd)
def sAttL (al ver f ty : Nat) : Nat → Nat → Nat → Cd → P (Nat × Nat × Cd)
  | 0, sn, th, cd => pp (sn, th, cd)
  | n + 1, sn, th, cd => pb pa fun w => pb (sNum F N many K 1) fun t => pb pa fun w2 => pb (pu F N 4) fun len => pb pa fun fr => pb (pn (alw (atO F B t) al sn) 19 w) fun _ => pb (sBody F N many K B ver f ty (atO F B t) th cd) fun q => pb pa fun e => pb (pn (decide (e - fr = len)) 18 w2) fun _ => sAttL al ver f ty n (sn ||| atO F B t) q.1 q.2
def sAttL_o (al ver f ty : Nat) : Nat → Nat → Nat → Cd → P (Nat × Nat × Cd)
  | 0, sn, th, cd => pp (sn, th, cd)
  | n + 1, sn, th, cd => pb pa fun w => pb (sNum F N many K 1) fun t => pb pa fun w2 => pb (pu F N 4) fun len => pb pa fun fr => pb (pn (alw (atO F B t) al sn) 19 w) fun _ => pb (sBody_o F N many K B ver f ty (atO F B t) th cd) fun q => pb pa fun e => pb (pn (decide (e - fr = len)) 18 w2) fun _ => sAttL_o al ver f ty n (sn ||| atO F B t) q.1 q.2
def sAtts (al ver f ty : Nat) : P (Nat × Nat × Cd) := pb (pu F N 2) fun n => sAttL F N many K B al ver f ty n 0 0 (0, 0, 0, 0, 0, 0)
def sAtts_o (al ver f ty : Nat) : P (Nat × Nat × Cd) := pb (pu F N 2) fun n => sAttL_o F N many K B al ver f ty n 0 0 (0, 0, 0, 0, 0, 0)
def dupM (l : List (Nat × Nat)) (nm ty : Nat) : Bool := l.any fun q => smT F B q.1 nm && smT F B q.2 ty
def sFld (cf : Nat) (l : List (Nat × Nat)) : P (Nat × Nat × Nat) := pb pa fun w => pb (pu F N 2) fun f => pb (pn (ffl cf f) 13 w) fun _ => pb pa fun w2 => pb (sNum F N many K 1) fun nm => pb (pn (plT F B nm) 9 w2) fun _ => pb pa fun w3 => pb (sNum F N many K 1) fun ty => pb (pn (fdT F B ty).isSome 11 w3) fun _ => pb (pn (dsT F B ty != some true) 12 w3) fun _ => pb (pn (!dupM F B l nm ty) 16 w) fun _ => pp (f, nm, ty)
def sFld_o (cf : Nat) (l : List (Nat × Nat)) : P (Nat × Nat × Nat) := pb pa fun w => pb (pu F N 2) fun f => pb (pn (ffl cf f) 13 w) fun _ => pb pa fun w2 => pb (sNum F N many K 1) fun nm => pb (pn (plT F B nm) 9 w2) fun _ => pb pa fun w3 => pb (sNum F N many K 1) fun ty => pb (pn (fdT F B ty).isSome 11 w3) fun _ => pb (pn (dsT_o F B ty != some true) 12 w3) fun _ => pb (pn (!dupM F B l nm ty) 16 w) fun _ => pp (f, nm, ty)
def sFlds (cf ver : Nat) : Nat → List (Nat × Nat) → P Unit
  | 0, _ => pp ()
  | n + 1, l => pb (sFld F N many K B cf l) fun q => pb (sAtts F N many K B (if q.1 &&& 8 = 0 then 0 else 1) ver q.1 q.2.2) fun _ => sFlds cf ver n (l ++ [(q.2.1, q.2.2)])
def sFlds_o (cf ver : Nat) : Nat → List (Nat × Nat) → P Unit
  | 0, _ => pp ()
  | n + 1, l => pb (sFld_o F N many K B cf l) fun q => pb (sAtts_o F N many K B (if q.1 &&& 8 = 0 then 0 else 1) ver q.1 q.2.2) fun _ => sFlds_o cf ver n (l ++ [(q.2.1, q.2.2)])
def spc (cf f nm ty : Nat) : Bool := if wT F B 0 nm then decide (cf &&& 512 = 0) && voT F B ty && decide (f &&& 1048 = 0) else if wT F B 1 nm then decide (f = 8) && wT F B 9 ty else true
def spc_o (cf f nm ty : Nat) : Bool := if wT F B 0 nm then decide (cf &&& 512 = 0) && voT_o F B ty && decide (f &&& 1048 = 0) else if wT F B 1 nm then decide (f = 8) && wT F B 9 ty else true
def sMth (cf : Nat) (l : List (Nat × Nat)) : P (Nat × Nat × Nat) := pb pa fun w => pb (pu F N 2) fun f => pb (pn (mfl cf f) 13 w) fun _ => pb pa fun w2 => pb (sNum F N many K 1) fun nm => pb (pn (plT F B nm || wT F B 0 nm || wT F B 1 nm) 9 w2) fun _ => pb pa fun w3 => pb (sNum F N many K 1) fun ty => pb (pn (mtT F B ty).isSome 11 w3) fun _ => pb (pn (dsT F B ty != some true) 12 w3) fun _ => pb (pn (spc F B cf f nm ty) 17 w2) fun _ => pb (pn (!dupM F B l nm ty) 16 w) fun _ => pp (f, nm, ty)
def sMth_o (cf : Nat) (l : List (Nat × Nat)) : P (Nat × Nat × Nat) := pb pa fun w => pb (pu F N 2) fun f => pb (pn (mfl cf f) 13 w) fun _ => pb pa fun w2 => pb (sNum F N many K 1) fun nm => pb (pn (plT F B nm || wT F B 0 nm || wT F B 1 nm) 9 w2) fun _ => pb pa fun w3 => pb (sNum F N many K 1) fun ty => pb (pn (mtT_o F B ty).isSome 11 w3) fun _ => pb (pn (dsT_o F B ty != some true) 12 w3) fun _ => pb (pn (spc_o F B cf f nm ty) 17 w2) fun _ => pb (pn (!dupM F B l nm ty) 16 w) fun _ => pp (f, nm, ty)
/-- a method's six numbers -/
abbrev Mr : Type := Nat × Nat × Nat × Nat × Nat × Nat
/-- tallies: instructions, bytes, jumps, rows -/
abbrev Tl : Type := Nat × Nat × Nat × Nat
def sMths (cf ver : Nat) : Nat → List (Nat × Nat) → List Mr → Tl → P (List Mr × Tl)
  | 0, _, rs, tl => pp (rs, tl)
  | n + 1, l, rs, tl => pb pa fun w => pb (sMth F N many K B cf l) fun q => pb (sAtts F N many K B ((if q.1 &&& 1024 = 0 then 2 else 0) ||| 4) ver q.1 q.2.2) fun a => pb (pn (decide (q.1 &&& 1024 ≠ 0) || decide (a.1 &&& 2 ≠ 0)) 20 w) fun _ =>
    sMths cf ver n (l ++ [(q.2.1, q.2.2)]) (rs ++ [(q.1, slT F B q.2.2, a.2.2.1, a.2.2.2.1, a.2.2.2.2.1, a.2.1)]) (tl.1 + a.2.2.2.2.1, tl.2.1 + a.2.2.2.2.2.1, tl.2.2.1 + a.2.2.2.2.2.2.1, tl.2.2.2 + a.2.2.2.2.2.2.2)
def sMths_o (cf ver : Nat) : Nat → List (Nat × Nat) → List Mr → Tl → P (List Mr × Tl)
  | 0, _, rs, tl => pp (rs, tl)
  | n + 1, l, rs, tl => pb pa fun w => pb (sMth_o F N many K B cf l) fun q => pb (sAtts_o F N many K B ((if q.1 &&& 1024 = 0 then 2 else 0) ||| 4) ver q.1 q.2.2) fun a => pb (pn (decide (q.1 &&& 1024 ≠ 0) || decide (a.1 &&& 2 ≠ 0)) 20 w) fun _ =>
    sMths_o cf ver n (l ++ [(q.2.1, q.2.2)]) (rs ++ [(q.1, slT_o F B q.2.2, a.2.2.1, a.2.2.2.1, a.2.2.2.2.1, a.2.1)]) (tl.1 + a.2.2.2.2.1, tl.2.1 + a.2.2.2.2.2.1, tl.2.2.1 + a.2.2.2.2.2.2.1, tl.2.2.2 + a.2.2.2.2.2.2.2)
end CODE
/-- numbers of the pool, kinds, interfaces, fields, methods, tallies, flags, the methods' rows -/
abbrev Rp : Type := Nat × (Nat → Nat) × Nat × Nat × Nat × Tl × Nat × List Mr
def sGo (F : Nat → Nat) (N : Nat) : P Rp := pb (sHead F N) fun ver => pb (sPool F N) fun q => pb (sClsA F N q.1 q.2.1 q.2.2) fun cf => pb (sCnt F N 20) fun ni => pb (sFac F N q.1 q.2.1 q.2.2 ni []) fun _ => pb (sCnt F N 60) fun nf => pb (sFlds F N q.1 q.2.1 q.2.2 cf ver nf []) fun _ => pb (sCnt F N 60) fun nm => pb (sMths F N q.1 q.2.1 q.2.2 cf ver nm [] [] (0, 0, 0, 0)) fun m => pb (sAtts F N q.1 q.2.1 q.2.2 8 ver 0 0) fun _ => pb pa fun w => pb (pn (decide (w = N)) 29 w) fun _ => pp (q.1, q.2.1, ni, nf, nm, m.2, cf, m.1)

def sGo_o (F : Nat → Nat) (N : Nat) : P Rp := pb (sHead F N) fun ver => pb (sPool_o F N) fun q => pb (sClsA F N q.1 q.2.1 q.2.2) fun cf => pb (sCnt F N 20) fun ni => pb (sFac F N q.1 q.2.1 q.2.2 ni []) fun _ => pb (sCnt F N 60) fun nf => pb (sFlds_o F N q.1 q.2.1 q.2.2 cf ver nf []) fun _ => pb (sCnt F N 60) fun nm => pb (sMths_o F N q.1 q.2.1 q.2.2 cf ver nm [] [] (0, 0, 0, 0)) fun m => pb (sAtts_o F N q.1 q.2.1 q.2.2 8 ver 0 0) fun _ => pb pa fun w => pb (pn (decide (w = N)) 29 w) fun _ => pp (q.1, q.2.1, ni, nf, nm, m.2, cf, m.1)

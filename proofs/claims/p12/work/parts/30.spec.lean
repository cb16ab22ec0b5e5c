/-! THE DOCUMENT'S READER, once, over bytes F and a limit N: both sides are held against it -/
abbrev Er : Type := Nat × Nat
abbrev P (α : Type) : Type := Nat → Except Er (α × Nat)
def pp {α : Type} (a : α) : P α := fun i => .ok (a, i)
def pe {α : Type} (r w : Nat) : P α := fun _ => .error (r, w)
def pb {α β : Type} (p : P α) (f : α → P β) : P β := fun i => match p i with
  | .ok q => f q.1 q.2
  | .error e => .error e
def pn (b : Bool) (r w : Nat) : P Unit := fun i => if b then .ok ((), i) else .error (r, w)
def pa : P Nat := fun i => .ok (i, i)
def pu (F : Nat → Nat) (N k : Nat) : P Nat := fun i => if i + k ≤ N then .ok (be F i k, i + k) else .error (1, N)
def upn (f : Nat → Nat) (k x : Nat) : Nat → Nat := fun j => if j = k then x else f j
-- TEXT
def fol (b : Nat) : Option Nat := if 1 ≤ b ∧ b ≤ 127 then some 0 else if b = 192 ∨ (194 ≤ b ∧ b ≤ 223) then some 1 else if 224 ≤ b ∧ b ≤ 239 then some 2 else none
def sTxt (F : Nat → Nat) (N sz : Nat) : Nat → Nat → Nat → Nat → P Unit
  | 0, l, _, _ => pn (l == 0) 5 sz
  | n + 1, l, lo, hi => pb pa fun w => pb (pu F N 1) fun b => if l = 0 then (match fol b with
      | none => pe 5 w
      | some m => sTxt F N sz n m (if b = 224 then 160 else 128) (if b = 192 then 128 else 191))
    else pb (pn (decide (lo ≤ b) && decide (b ≤ hi)) 5 w) fun _ => sTxt F N sz n (l - 1) 128 hi
-- THE POOL
def sEnt (F : Nat → Nat) (N many k w : Nat) : P Nat := pb (pu F N 1) fun kd => pb (
    if kd = 1 then pb pa fun z => pb (pu F N 2) fun n => sTxt F N z n 0 0 0
    else if kd = 3 ∨ kd = 9 ∨ kd = 10 ∨ kd = 11 ∨ kd = 12 then pb (pu F N 4) fun _ => pp ()
    else if kd = 5 then pb (pu F N 8) fun _ => pn (decide (k + 1 < many)) 4 w
    else if kd = 7 ∨ kd = 8 then pb (pu F N 2) fun _ => pp ()
    else if kd = 4 ∨ kd = 6 ∨ (15 ≤ kd ∧ kd ≤ 20) then pe 7 w else pe 6 w) fun _ => pp kd
def sEnts (F : Nat → Nat) (N many : Nat) : Nat → Nat → (Nat → Nat) → (Nat → Nat) → P ((Nat → Nat) × (Nat → Nat))
  | 0, _, K, B => pp (K, B)
  | f + 1, k, K, B => if k < many then (pb pa fun w => pb (sEnt F N many k w) fun kd => if kd = 5 then sEnts F N many f (k + 2) (upn (upn K k kd) (k + 1) 0) (upn B k w) else sEnts F N many f (k + 1) (upn K k kd) (upn B k w)) else pp (K, B)
section POOL
variable (F : Nat → Nat) (many : Nat) (K B : Nat → Nat)
def n2 (w : Nat) : Nat := be F w 2
def tn (t : Nat) : Nat := be F (B t + 1) 2
def ta (t : Nat) : Nat := B t + 3
def isK (t kd : Nat) : Bool := decide (1 ≤ t ∧ t < many ∧ K t = kd)
def plT (t : Nat) : Bool := decide (0 < tn F B t) && pl F (tn F B t) (ta B t)
def wT (j t : Nat) : Bool := isW F j (tn F B t) (ta B t)
def cnT (t : Nat) : Bool := cn F (tn F B t) (ta B t) false
def hdT (c t : Nat) : Bool := decide (0 < tn F B t) && (F (ta B t) == c)
def fdT (t : Nat) : Option Bool := match tyE F (tn F B t) (ta B t) with
  | none => none
  | some q => if q = tn F B t then some (isR (F (ta B t + tn F B t - 1))) else none
def mtT (t : Nat) : Option (Bool × Nat × Bool) := if hdT F B 40 t then mdE F (tn F B t - 1) (ta B t + 1) else none
def mtT_o (t : Nat) : Option (Bool × Nat × Bool) := if hdT F B 40 t then mdE_o F (tn F B t - 1) (ta B t + 1) else none
/-- a descriptor: real types in it -/
def dsT (t : Nat) : Option Bool := if hdT F B 40 t then (mtT F B t).map (fun q => q.1) else fdT F B t
/-- a descriptor: real types in it -/
def dsT_o (t : Nat) : Option Bool := if hdT F B 40 t then (mtT_o F B t).map (fun q => q.1) else fdT F B t
def slT (t : Nat) : Nat := match mtT F B t with
  | none => 0
  | some q => q.2.1
def slT_o (t : Nat) : Nat := match mtT_o F B t with
  | none => 0
  | some q => q.2.1
def voT (t : Nat) : Bool := match mtT F B t with
  | none => false
  | some q => q.2.2
def voT_o (t : Nat) : Bool := match mtT_o F B t with
  | none => false
  | some q => q.2.2
def sLk1 (k : Nat) : P Unit :=
  if K k = 7 then pb (pn (isK many K (n2 F (B k + 1)) 1) 8 (B k + 1)) fun _ =>
      if hdT F B 91 (n2 F (B k + 1)) then pb (pn (fdT F B (n2 F (B k + 1))).isSome 9 (B k + 1)) fun _ => pn (fdT F B (n2 F (B k + 1)) != some true) 12 (B k + 1)
      else pn (cnT F B (n2 F (B k + 1))) 9 (B k + 1)
  else if K k = 8 then pn (isK many K (n2 F (B k + 1)) 1) 8 (B k + 1)
  else if K k = 12 then pb (pn (isK many K (n2 F (B k + 1)) 1) 8 (B k + 1)) fun _ => pb (pn (plT F B (n2 F (B k + 1)) || wT F B 0 (n2 F (B k + 1)) || wT F B 1 (n2 F (B k + 1))) 9 (B k + 1)) fun _ =>
      pb (pn (isK many K (n2 F (B k + 3)) 1) 8 (B k + 3)) fun _ => pb (pn (dsT F B (n2 F (B k + 3))).isSome 11 (B k + 3)) fun _ => pn (dsT F B (n2 F (B k + 3)) != some true) 12 (B k + 3)
  else pp ()
def sLk1_o (k : Nat) : P Unit :=
  if K k = 7 then pb (pn (isK many K (n2 F (B k + 1)) 1) 8 (B k + 1)) fun _ =>
      if hdT F B 91 (n2 F (B k + 1)) then pb (pn (fdT F B (n2 F (B k + 1))).isSome 9 (B k + 1)) fun _ => pn (fdT F B (n2 F (B k + 1)) != some true) 12 (B k + 1)
      else pn (cnT F B (n2 F (B k + 1))) 9 (B k + 1)
  else if K k = 8 then pn (isK many K (n2 F (B k + 1)) 1) 8 (B k + 1)
  else if K k = 12 then pb (pn (isK many K (n2 F (B k + 1)) 1) 8 (B k + 1)) fun _ => pb (pn (plT F B (n2 F (B k + 1)) || wT F B 0 (n2 F (B k + 1)) || wT F B 1 (n2 F (B k + 1))) 9 (B k + 1)) fun _ =>
      pb (pn (isK many K (n2 F (B k + 3)) 1) 8 (B k + 3)) fun _ => pb (pn (dsT_o F B (n2 F (B k + 3))).isSome 11 (B k + 3)) fun _ => pn (dsT_o F B (n2 F (B k + 3)) != some true) 12 (B k + 3)
  else pp ()
def nmM (k : Nat) : Nat := n2 F (B (n2 F (B k + 3)) + 1)
def tyM (k : Nat) : Nat := n2 F (B (n2 F (B k + 3)) + 3)
def fitM (k : Nat) : Bool := if K k = 9 then plT F B (nmM F B k) && !hdT F B 40 (tyM F B k) else if K k = 11 then plT F B (nmM F B k) && hdT F B 40 (tyM F B k) else hdT F B 40 (tyM F B k) && (plT F B (nmM F B k) || (wT F B 0 (nmM F B k) && voT F B (tyM F B k)))
def fitM_o (k : Nat) : Bool := if K k = 9 then plT F B (nmM F B k) && !hdT F B 40 (tyM F B k) else if K k = 11 then plT F B (nmM F B k) && hdT F B 40 (tyM F B k) else hdT F B 40 (tyM F B k) && (plT F B (nmM F B k) || (wT F B 0 (nmM F B k) && voT_o F B (tyM F B k)))
def sLk2 (k : Nat) : P Unit := if K k = 9 ∨ K k = 10 ∨ K k = 11 then pb (pn (isK many K (n2 F (B k + 1)) 7) 8 (B k + 1)) fun _ => pb (pn (isK many K (n2 F (B k + 3)) 12) 8 (B k + 3)) fun _ => pn (fitM F K B k) 10 (B k + 3) else pp ()
def sLk2_o (k : Nat) : P Unit := if K k = 9 ∨ K k = 10 ∨ K k = 11 then pb (pn (isK many K (n2 F (B k + 1)) 7) 8 (B k + 1)) fun _ => pb (pn (isK many K (n2 F (B k + 3)) 12) 8 (B k + 3)) fun _ => pn (fitM_o F K B k) 10 (B k + 3) else pp ()
end POOL
/-- a check for each of k, k + 1 .. k + n - 1 -/
def sAll (c : Nat → P Unit) : Nat → Nat → P Unit
  | 0, _ => pp ()
  | n + 1, k => pb (c k) fun _ => sAll c n (k + 1)
def sPre (F : Nat → Nat) (N : Nat) : P (Nat × (Nat → Nat) × (Nat → Nat)) := pb pa fun w => pb (pu F N 2) fun many => pb (pn (decide (1 ≤ many) && decide (many ≤ 300)) 4 w) fun _ => pb (sEnts F N many many 1 (fun _ => 0) (fun _ => 0)) fun q => pp (many, q.1, q.2)
def sPool (F : Nat → Nat) (N : Nat) : P (Nat × (Nat → Nat) × (Nat → Nat)) := pb (sPre F N) fun q => pb (sAll (sLk1 F q.1 q.2.1 q.2.2) (q.1 - 1) 1) fun _ => pb (sAll (sLk2 F q.1 q.2.1 q.2.2) (q.1 - 1) 1) fun _ => pp q
def sPool_o (F : Nat → Nat) (N : Nat) : P (Nat × (Nat → Nat) × (Nat → Nat)) := pb (sPre F N) fun q => pb (sAll (sLk1_o F q.1 q.2.1 q.2.2) (q.1 - 1) 1) fun _ => pb (sAll (sLk2_o F q.1 q.2.1 q.2.2) (q.1 - 1) 1) fun _ => pp q
def sHead (F : Nat → Nat) (N : Nat) : P Nat := pb (pu F N 4) fun a => pb (pn (a == 3405691582) 2 0) fun _ => pb (pu F N 2) fun b => pb (pn (b == 0) 3 4) fun _ => pb (pu F N 2) fun v => pb (pn (decide (45 ≤ v) && decide (v ≤ 61)) 3 6) fun _ => pp v
section REST
variable (F : Nat → Nat) (N many : Nat) (K B : Nat → Nat)
/-- a number of the pool of a kind -/
def sNum (kd : Nat) : P Nat := pb pa fun w => pb (pu F N 2) fun k => pb (pn (isK many K k kd) 8 w) fun _ => pp k
/-- a CLASS that is no array: its TEXT -/
def sCls : P Nat := pb pa fun w => pb (sNum F N many K 7) fun k => pb (pn (!hdT F B 91 (n2 F (B k + 1))) 9 w) fun _ => pp (n2 F (B k + 1))
def eqT (a b : Nat) : Nat → Bool
  | 0 => true
  | m + 1 => (F (a + m) == F (b + m)) && eqT a b m
def smT (s t : Nat) : Bool := (tn F B s == tn F B t) && eqT F (ta B s) (ta B t) (tn F B s)
def sFace : Nat → Nat → List Nat → P (List Nat)
  | 0, _, l => pp l
  | n + 1, k, l => pb pa fun w => pb (sCls F N many K B) fun t => pb (pn (!l.any (fun s => smT F B s t)) 16 w) fun _ => sFace n (k + 1) (l ++ [t])
def cfl (f : Nat) : Bool := decide (f &&& 1585 = f) && (if f &&& 512 = 0 then decide (f &&& 1040 ≠ 1040) else decide (f &&& 1072 = 1024))
def sClass : P (Nat × Nat) := pb pa fun w => pb (pu F N 2) fun f => pb (pn (cfl f) 13 w) fun _ => pb (sCls F N many K B) fun s => pb pa fun w2 => pb (sCls F N many K B) fun a => pb (pn (!smT F B s a) 14 w2) fun _ => pb (pn (decide (f &&& 512 = 0) || wT F B 2 a) 14 w2) fun _ =>
  pb pa fun w3 => pb (pu F N 2) fun n => pb (pn (decide (n ≤ 20)) 15 w3) fun _ => pb (sFace F N many K B n 0 []) fun _ => pp (f, n)
end REST

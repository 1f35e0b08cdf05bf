/-! the rows, by number -/
def fct : Nat → Nat
  | 0 => 1
  | k + 1 => (k + 1) * fct k
def layN : List Nat → Nat → Nat → List Nat
  | _, 0, _ => []
  | l, k + 1, c => l.getD (c / fct k) 0 :: layN (l.erase (l.getD (c / fct k) 0)) k (c % fct k)
def rwN (n st c j : Nat) : Nat := (layN ((List.range n).erase st) (n - 1) c).getD j 0
def cS (n st : Nat) : wSt := (fun a j => if a = 77 then -1 else if a = 44 then (if j = st then 0 else 1) else if a = 2 then nI n else 0, fun _ _ => 0, fun a j => if a = 0 then (if j = 2 then 3 else if j = 12 then 78 else if j = 5 then 44 else 0) else if a = 43 then 45 else 0)
def cT (n st c : Nat) : wSt := (fun a j => if a = 77 then (if j = 0 then nI st else nI (rwN n st c (j - 1))) else if a = 2 then nI n else 0, fun _ _ => 0, fun a j => if a = 0 then (if j = 2 then 3 else if j = 12 then 78 else if j = 5 then 44 else 0) else if a = 43 then 45 else 0)
def r9 : wSt := (fun a _ => if a = 113 then -1 else 0, fun _ _ => 0, fun a j => if a = 79 then (if j = 69 then 114 else 0) else 0)
def okF (n st : Nat) : Bool := match F_X8_firstSeating 0 (cS n st) with
  | none => false
  | some q => decide (q.2.1 77 0 = nI st) && (List.range (n - 1)).all (fun j => decide (q.2.1 77 (j + 1) = nI (rwN n st 0 j)))
def okN (n st c : Nat) : Bool := match F_X8_nextSeating 0 (cT n st c) with
  | none => false
  | some q => if c + 1 < fct (n - 1) then decide (q.1 = 1) && decide (q.2.1 77 0 = nI st) && (List.range (n - 1)).all (fun j => decide (q.2.1 77 (j + 1) = nI (rwN n st (c + 1) j))) else decide (q.1 = 0)
def okR (n st c : Nat) : Bool := match F_X9_layRow 79 (nI c) (nI (n - 1)) ((1 : Int32) <<< (nI st &&& 31)) r9 with
  | none => false
  | some q => (List.range (n - 1)).all (fun j => decide (q.2.1 113 j = nI (rwN n st c j)))
set_option maxRecDepth 100000
theorem okF_all : (List.range 7).all (fun n => (List.range n).all (fun st => okF n st)) = true := by decide +kernel
theorem okR_all : (List.range 7).all (fun n => (List.range n).all (fun st => (List.range (fct (n - 1))).all (fun c => okR n st c))) = true := by decide +kernel
theorem okN_all : (List.range 7).all (fun n => (List.range n).all (fun st => (List.range (fct (n - 1))).all (fun c => okN n st c))) = true := by decide +kernel
theorem rw_all : (List.range 7).all (fun n => (List.range n).all (fun st => (List.range (fct (n - 1))).all (fun c => (List.range (n - 1)).all (fun j => decide (rwN n st c j < n))))) = true := by decide +kernel
theorem all_of {p : Nat → Bool} {n i : Nat} (h : (List.range n).all p = true) (hi : i < n) : p i = true := List.all_eq_true.mp h i (List.mem_range.mpr hi)

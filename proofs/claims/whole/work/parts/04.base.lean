/-! the state of both systems: cells by the order in which they are made; ints, longs, references by cell and slot -/
abbrev wSt : Type := (Nat → Nat → Int32) × (Nat → Nat → Int64) × (Nat → Nat → Nat)
/-- what kind each cell is (0 .. 9: an object of that class; 10 int, 11 byte, 12 boolean, 13 long: a row of so many; 14: the law's own row) -/
def w_shL : List (Nat × Nat) := [(8, 0), (11, 700), (6, 0), (10, 6), (10, 6), (10, 6), (10, 6), (10, 8), (10, 8), (10, 8), (10, 8), (10, 8), (1, 0), (12, 3), (10, 3), (10, 3), (10, 64), (10, 64), (13, 64), (6, 0), (10, 6), (10, 6), (10, 6), (10, 6), (10, 8), (10, 8), (10, 8), (10, 8), (10, 8), (1, 0), (12, 3), (10, 3), (10, 3), (10, 64), (10, 64), (13, 64), (2, 0), (10, 72), (5, 0), (10, 20), (10, 701), (10, 701), (10, 701), (3, 0), (10, 6), (10, 6), (10, 6), (10, 6), (10, 8), (10, 8), (3, 0), (10, 6), (10, 6), (10, 6), (10, 6), (10, 8), (10, 8), (3, 0), (10, 6), (10, 6), (10, 6), (10, 6), (10, 8), (10, 8), (0, 0), (10, 7), (7, 0), (10, 20), (10, 20), (10, 20), (4, 0), (10, 24), (10, 24), (10, 24), (12, 24), (10, 24), (12, 24), (10, 6), (10, 6), (9, 0), (14, 700), (14, 106), (15, 3), (14, 6), (14, 12), (14, 12), (14, 12), (14, 12), (14, 16), (14, 16), (14, 16), (14, 16), (14, 16), (15, 6), (14, 6), (14, 6), (14, 128), (14, 1), (14, 128), (14, 128), (14, 96), (14, 96), (16, 7), (16, 64), (14, 12), (14, 12), (14, 12), (15, 12), (14, 12), (14, 16), (15, 16), (14, 16), (14, 2), (14, 6), (14, 96), (15, 24), (14, 360), (14, 18), (14, 37), (20, 1)]
def w_ftL : List (List Nat) := [[0, 0, 0, 0, 0, 0, 0, 0, 2, 2], [0, 2, 2, 2, 2, 2, 2], [0, 0, 2, 2, 0, 0, 0, 0, 0, 2], [0, 0, 0, 0, 2, 2, 2, 2, 2, 2], [0, 0, 2, 2, 2, 2, 2, 2], [0, 0, 0, 2, 0, 0, 0, 0, 2, 2, 2, 2], [0, 0, 0, 0, 0, 0, 0, 2, 2, 2, 2, 2, 2, 2, 2, 2, 2], [0, 2, 2, 2], [2, 0, 2, 2, 2, 2, 2, 2, 0, 2, 2, 2, 2, 2], [2, 0, 0, 2, 0, 0, 0, 0, 0, 0, 0, 0, 0, 0, 0, 0, 0, 0, 0, 0, 2, 2, 2, 2, 2, 2, 2, 2, 2, 2, 2, 2, 2, 2, 2, 2, 2, 2, 2, 2, 0, 0, 0, 0, 0, 0, 2, 2, 0, 2, 2, 2, 2, 2, 2, 2, 2, 2, 1, 0, 0, 0, 0, 0, 0, 0, 0, 0, 0, 2, 0, 0, 2, 2, 0, 2, 0, 2, 2, 1]]
abbrev w_NX : Nat := 79
abbrev w_NM : Nat := 119
def lw_tb : List Cond := lw_tbl.filter goodWord
theorem lw_at {w : Cond} (i : Nat) (h : lw_tbl[i]? = some w) (hg : goodWord w = true) : w ∈ lw_tb := List.mem_filter.mpr ⟨List.mem_of_getElem? h, hg⟩
theorem lw_all {ws : List Cond} (h : ∀ w ∈ ws, w ∈ lw_tbl) (hg : ws.all goodWord = true) : ∀ w ∈ ws, w ∈ lw_tb := fun w hw => List.mem_filter.mpr ⟨h w hw, List.all_eq_true.mp hg w hw⟩
def w_sh (c : Nat) : Nat × Nat := w_shL.getD c (99, 0)
def w_ft (ci k : Nat) : Nat := (w_ftL.getD ci []).getD k 0
def w_nf (ci : Nat) : Nat := (w_ftL.getD ci []).length
def w_rv (ρ : Nat → Nat) (r : Nat) : Value := match r with
  | 0 => .null
  | j + 1 => .ref (ρ j)
def w_v (ρ : Nat → Nat) (σ : wSt) (c k t : Nat) : Value := match t with
  | 0 => .int (σ.1 c k)
  | 1 => .long (σ.2.1 c k)
  | _ => w_rv ρ (σ.2.2 c k)
def w_fs (ρ : Nat → Nat) (σ : wSt) (c ci : Nat) : List Value := (List.range (w_nf ci)).map (fun k => w_v ρ σ c k (w_ft ci k))
/-- what a row holds (0 int, 1 byte, 2 boolean, 3 long), and whose a cell is (0: the class's, 1: the reference's) -/
def w_at (kd : Nat) : Nat := [9, 9, 9, 9, 9, 9, 9, 9, 9, 9, 0, 1, 2, 3, 0, 2, 3, 9, 9, 9, 3].getD kd 9
def w_sd (kd : Nat) : Nat := [0, 0, 0, 0, 0, 0, 0, 0, 0, 1, 0, 0, 0, 0, 1, 1, 1].getD kd 2
def w_lo (sd : Nat) : Nat := if sd = 0 then 0 else w_NX
def w_n (sd : Nat) : Nat := if sd = 0 then w_NX else w_NM - w_NX
def w_ce (κ : Nat → ClassId) (ρ : Nat → Nat) (σ : wSt) (c : Nat) : va_E :=
  if (w_sh c).1 < 10 then .inr ((w_sh c).1, w_fs ρ σ c (w_sh c).1)
  else if w_at (w_sh c).1 = 3 then .inl (κ 3, (w_sh c).2, .inr (.inl (σ.2.1 c)))
  else .inl (κ (w_at (w_sh c).1), (w_sh c).2, .inl (σ.1 c))
def w_wr (κ : Nat → ClassId) (ρ : Nat → Nat) (lo n : Nat) (σ : wSt) : va_W := (List.range n).map (fun c => (ρ (lo + c), w_ce κ ρ σ (lo + c)))
def w_sI (σ : wSt) (c k : Nat) (v : Int32) : wSt := (fun a b => if a = c ∧ b = k then v else σ.1 a b, σ.2)
def w_sL (σ : wSt) (c k : Nat) (v : Int64) : wSt := (σ.1, fun a b => if a = c ∧ b = k then v else σ.2.1 a b, σ.2.2)
def w_sR (σ : wSt) (c k : Nat) (v : Nat) : wSt := (σ.1, σ.2.1, fun a b => if a = c ∧ b = k then v else σ.2.2 a b)
def w_cp (σ : wSt) (a0 sp a dp n : Nat) : wSt := (fun q b => if q = a then va_cpy (σ.1 a0) (σ.1 a) sp dp n b else σ.1 q b, σ.2)
abbrev w_ws (κ : Nat → ClassId) (ρ : Nat → Nat) (sd : Nat) (σ : wSt) : va_W := w_wr κ ρ (w_lo sd) (w_n sd) σ
theorem w_tab : (List.range w_shL.length).all (fun c => (if w_sd (w_sh c).1 = 0 then decide (c < w_NX) else true) && (if w_sd (w_sh c).1 = 1 then decide (w_NX ≤ c) && decide (c < w_NM) else true)) = true := by decide +kernel
theorem w_lt {c sd : Nat} (h : w_sd (w_sh c).1 = sd) (h2 : sd < 2) : w_lo sd ≤ c ∧ c < w_lo sd + w_n sd := by
  by_cases hc : c < w_shL.length
  · have h3 := List.all_eq_true.mp w_tab c (List.mem_range.mpr hc)
    rcases (show sd = 0 ∨ sd = 1 by omega) with rfl | rfl
    · simp only [h, if_true, Bool.and_eq_true, decide_eq_true_eq] at h3
      exact ⟨Nat.zero_le _, by show c < 0 + w_NX; omega⟩
    · simp only [h, if_true, Bool.and_eq_true, decide_eq_true_eq] at h3
      exact ⟨h3.2.1, by show c < w_NX + (w_NM - w_NX); have := h3.2.2; omega⟩
  · have h2 : w_sh c = (99, 0) := by
      unfold w_sh
      rw [List.getD_eq_getElem?_getD, List.getElem?_eq_none (Nat.le_of_not_lt hc)]
      rfl
    rw [h2] at h
    have h3 : w_sd 99 = 2 := by decide
    rw [h3] at h
    omega
theorem w_wr_at {κ : Nat → ClassId} {ρ : Nat → Nat} {lo n c : Nat} {σ : wSt} (h : lo ≤ c ∧ c < lo + n) : (w_wr κ ρ lo n σ)[c - lo]? = some (ρ c, w_ce κ ρ σ c) := by
  have h1 : c - lo < n := by omega
  have h2 : lo + (c - lo) = c := by omega
  simp [w_wr, h1, h2]
theorem w_wr_ix {κ : Nat → ClassId} {ρ : Nat → Nat} {lo n i : Nat} {σ : wSt} (h : i < n) : (w_wr κ ρ lo n σ)[i]? = some (ρ (lo + i), w_ce κ ρ σ (lo + i)) := by
  simp [w_wr, h]
theorem w_wr_none {κ : Nat → ClassId} {ρ : Nat → Nat} {lo n c : Nat} {σ : wSt} (h : n ≤ c) : (w_wr κ ρ lo n σ)[c]? = none := by
  simp [w_wr, h]
theorem w_wr_set {κ : Nat → ClassId} {ρ : Nat → Nat} {lo n c : Nat} {σ σ' : wSt} (hc : lo ≤ c) (h : ∀ a, a ≠ c → w_ce κ ρ σ' a = w_ce κ ρ σ a) : (w_wr κ ρ lo n σ).set (c - lo) (ρ c, w_ce κ ρ σ' c) = w_wr κ ρ lo n σ' := by
  apply List.ext_getElem?
  intro i
  by_cases hi : i < n
  · rw [w_wr_ix hi, List.getElem?_set]
    by_cases hc2 : c - lo = i
    · have h2 : lo + i = c := by omega
      have h3 : i < (w_wr κ ρ lo n σ).length := by simp [w_wr, hi]
      rw [if_pos hc2, h2, if_pos (by rw [hc2]; exact h3)]
    · rw [if_neg hc2, w_wr_ix hi, h (lo + i) (fun e => hc2 (by omega))]
  · rw [w_wr_none (Nat.le_of_not_lt hi), List.getElem?_eq_none]
    rw [List.length_set]
    simp only [w_wr, List.length_map, List.length_range]
    exact Nat.le_of_not_lt hi
theorem w_ce_congr {κ : Nat → ClassId} {ρ : Nat → Nat} {σ σ' : wSt} {a : Nat} (h1 : σ'.1 a = σ.1 a) (h2 : σ'.2.1 a = σ.2.1 a) (h3 : σ'.2.2 a = σ.2.2 a) : w_ce κ ρ σ' a = w_ce κ ρ σ a := by
  unfold w_ce w_fs w_v
  rw [h1, h2, h3]
theorem w_ce_obj {κ : Nat → ClassId} {ρ : Nat → Nat} {σ : wSt} {c ci : Nat} (h : (w_sh c).1 = ci) (h1 : ci < 10) : w_ce κ ρ σ c = .inr (ci, w_fs ρ σ c ci) := by
  unfold w_ce
  rw [h, if_pos h1]
theorem w_ce_arr {κ : Nat → ClassId} {ρ : Nat → Nat} {σ : wSt} {c kd t : Nat} (h : (w_sh c).1 = kd) (h1 : w_at kd = t) (h2 : t < 3) : w_ce κ ρ σ c = .inl (κ t, (w_sh c).2, .inl (σ.1 c)) := by
  unfold w_ce
  have h3 : ¬ kd < 10 := by
    intro hk
    have : ∀ k, k < 10 → w_at k = 9 := by decide
    have := this kd hk
    omega
  rw [h, if_neg h3, h1, if_neg (by omega)]
theorem w_ce_lng {κ : Nat → ClassId} {ρ : Nat → Nat} {σ : wSt} {c kd : Nat} (h : (w_sh c).1 = kd) (h1 : w_at kd = 3) : w_ce κ ρ σ c = .inl (κ 3, (w_sh c).2, .inr (.inl (σ.2.1 c))) := by
  unfold w_ce
  have h3 : ¬ kd < 10 := by
    intro hk
    have : ∀ k, k < 10 → w_at k = 9 := by decide
    have := this kd hk
    omega
  rw [h, if_neg h3, if_pos h1]
theorem w_fs_at {ρ : Nat → Nat} {σ : wSt} {c ci k : Nat} (h : k < w_nf ci) : (w_fs ρ σ c ci)[k]? = some (w_v ρ σ c k (w_ft ci k)) := by
  simp [w_fs, h]
theorem w_fs_len {ρ : Nat → Nat} {σ : wSt} {c ci : Nat} : (w_fs ρ σ c ci).length = w_nf ci := by
  simp [w_fs]
theorem w_fs_set {ρ : Nat → Nat} {σ σ' : wSt} {c ci k : Nat} (h : ∀ j, j ≠ k → w_v ρ σ' c j (w_ft ci j) = w_v ρ σ c j (w_ft ci j)) : (w_fs ρ σ c ci).set k (w_v ρ σ' c k (w_ft ci k)) = w_fs ρ σ' c ci := by
  apply List.ext_getElem?
  intro i
  by_cases hi : i < w_nf ci
  · rw [w_fs_at hi, List.getElem?_set]
    by_cases hc : k = i
    · subst hc
      rw [if_pos rfl, if_pos (by rw [w_fs_len]; exact hi)]
    · rw [if_neg hc, w_fs_at hi, h i (fun e => hc e.symm)]
  · rw [List.getElem?_eq_none (by rw [List.length_set, w_fs_len]; exact Nat.le_of_not_lt hi), List.getElem?_eq_none]
    rw [w_fs_len]
    exact Nat.le_of_not_lt hi
/-! the pure programs' pieces -/
def wB {α β : Type} (a : α) (k : α → β) : β := k a
def wC {α β : Type} (o : Option (α × wSt)) (k : α → wSt → Option β) : Option β := match o with
  | none => none
  | some q => k q.1 q.2
def wG {β : Type} (c : Prop) [Decidable c] (k : Option β) : Option β := if c then k else none
def wJ {X Y : Type} (o : Option (X ⊕ Y)) (k : X → Option Y) : Option Y := match o with
  | none => none
  | some (.inl x) => k x
  | some (.inr y) => some y
def wL {S Y : Type} (b : S → Option (S ⊕ Y)) : Nat → S → Option Y
  | 0, _ => none
  | n + 1, s => wJ (b s) (wL b n)
/-- a reference that is read: no null, of that kind -/
def wR {β : Type} (r kd : Nat) (k : Nat → Option β) : Option β := match r with
  | 0 => none
  | j + 1 => if (w_sh j).1 = kd then k j else none
/-- an index into a row -/
def wN {β : Type} (i : Int32) (a : Nat) (k : Nat → Option β) : Option β := if 0 ≤ i ∧ i.toNatClampNeg < (w_sh a).2 then k i.toNatClampNeg else none
/-- a store into a row -/
def wSI {β : Type} (σ : wSt) (a : Nat) (i x : Int32) (k : wSt → Option β) : Option β := wN i a (fun j => wB (w_sI σ a j x) k)
def wSB {β : Type} (σ : wSt) (a : Nat) (i x : Int32) (k : wSt → Option β) : Option β := wN i a (fun j => wB (w_sI σ a j x.toInt8.toInt32) k)
def wSZ {β : Type} (σ : wSt) (a : Nat) (i x : Int32) (k : wSt → Option β) : Option β := wN i a (fun j => wB (w_sI σ a j (x &&& 1)) k)
def wSL {β : Type} (σ : wSt) (a : Nat) (i : Int32) (x : Int64) (k : wSt → Option β) : Option β := wN i a (fun j => wB (w_sL σ a j x) k)
theorem wC_some {α β : Type} {o : Option (α × wSt)} {k : α → wSt → Option β} {z : β} (h : wC o k = some z) : ∃ r σ, o = some (r, σ) ∧ k r σ = some z := by
  cases o with
  | none => cases h
  | some q => exact ⟨q.1, q.2, rfl, h⟩
theorem wG_some {β : Type} {c : Prop} [Decidable c] {k : Option β} {z : β} (h : wG c k = some z) : c ∧ k = some z := by
  unfold wG at h
  by_cases hc : c
  · rw [if_pos hc] at h; exact ⟨hc, h⟩
  · rw [if_neg hc] at h; cases h
def wJP {X Y : Type} (q : X ⊕ Y) (k : X → Option Y) (z : Y) : Prop := match q with
  | .inl x => k x = some z
  | .inr y => y = z
theorem wJ_some {X Y : Type} {o : Option (X ⊕ Y)} {k : X → Option Y} {z : Y} (h : wJ o k = some z) : ∃ q, o = some q ∧ wJP q k z := by
  rcases o with _ | x | y
  · cases h
  · exact ⟨_, rfl, h⟩
  · exact ⟨_, rfl, Option.some.inj h⟩
theorem wJ_l {X Y : Type} {q : X ⊕ Y} {k : X → Option Y} {z : Y} {x : X} (hq : wJP q k z) (h : some (Sum.inl x) = some q) : k x = some z := by
  cases h; exact hq
theorem wJ_r {X Y : Type} {q : X ⊕ Y} {k : X → Option Y} {z y : Y} (hq : wJP q k z) (h : some (Sum.inr y) = some q) : some y = some z := by
  cases h; exact congrArg some hq
theorem wR_some {β : Type} {r kd : Nat} {k : Nat → Option β} {z : β} (h : wR r kd k = some z) : ∃ j, r = j + 1 ∧ (w_sh j).1 = kd ∧ k j = some z := by
  cases r with
  | zero => cases h
  | succ j =>
    unfold wR at h
    by_cases hc : (w_sh j).1 = kd
    · exact ⟨j, rfl, hc, by simpa [hc] using h⟩
    · simp [hc] at h
theorem wN_some {β : Type} {i : Int32} {a : Nat} {k : Nat → Option β} {z : β} (h : wN i a k = some z) : vp_in i (w_sh a).2 ∧ k i.toNatClampNeg = some z := by
  unfold wN at h
  by_cases hc : 0 ≤ i ∧ i.toNatClampNeg < (w_sh a).2
  · rw [if_pos hc] at h
    refine ⟨fun q => ?_, h⟩
    rcases q with q | q
    · have h1 := hc.1
      rw [Int32.le_iff_toInt_le] at h1
      rw [Int32.lt_iff_toInt_lt] at q
      omega
    · omega
  · rw [if_neg hc] at h; cases h
theorem wx_t {β : Type} {c : Prop} [Decidable c] {a b : Option β} {z : β} (h : c) (hF : (if c then a else b) = some z) : a = some z := by rwa [if_pos h] at hF
theorem wx_f {β : Type} {c : Prop} [Decidable c] {a b : Option β} {z : β} (h : ¬ c) (hF : (if c then a else b) = some z) : b = some z := by rwa [if_neg h] at hF
/-! the machine beside them -/
def w_ty (κ : Nat → ClassId) : List (ClassId × FieldType) := [(κ 0, .int), (κ 1, .byte), (κ 2, .boolean), (κ 3, .long)]
def wCx (p : Program) (m : MethodId) (c : Code) (cc : ByteArray) (nL : Nat) (s : State) (args : Array Value) (own : String) (D : va_G) (κ : Nat → ClassId) (sd : Nat) : Prop :=
  CallFix p m c cc nL s args lw_tb own ∧ va_K D vwCl (w_ty κ) s ∧ sd < 2
def wHp (D : va_G) (κ : Nat → ClassId) (ρ : Nat → Nat) (sd : Nat) (A : Nat → Prop) (H0 H : Heap) (locs : List Loc) (σ : wSt) : Prop :=
  va_P D vwCl (w_ws κ ρ sd σ) H ∧ va_D A (w_ws κ ρ sd σ) ∧ va_S A H0 H locs ∧ ∀ q, H0.size ≤ q → A q
theorem w_D {κ : Nat → ClassId} {ρ : Nat → Nat} {lo n : Nat} {A : Nat → Prop} {σ σ' : wSt} (h : va_D A (w_wr κ ρ lo n σ)) : va_D A (w_wr κ ρ lo n σ') := by
  have key : ∀ (k : Nat) (q : Nat × va_E), (w_wr κ ρ lo n σ')[k]? = some q → (w_wr κ ρ lo n σ)[k]? = some (q.1, w_ce κ ρ σ (lo + k)) := by
    intro k q hq
    by_cases hk : k < n
    · rw [w_wr_ix hk] at hq ⊢
      cases hq
      rfl
    · rw [w_wr_none (Nat.le_of_not_lt hk)] at hq
      cases hq
  refine ⟨fun i j x y hi hj hxy => h.1 i j _ _ (key i x hi) (key j y hj) hxy, fun k q hk => h.2 k (q.1, w_ce κ ρ σ (lo + k)) (key k q hk)⟩
/-- a field's link, its place and its kind -/
def wFG (own : String) (idx ci k t : Nat) : Prop := ∃ (C : String) (T : u_T) (N : Nat), vwCl[ci]? = some (C, T, N) ∧ N = w_nf ci ∧ k < N ∧ ci < 10 ∧ w_ft ci k = t ∧ Cond.fieldLink own idx (T k).1 (T k).2.1 (T k).2.2.1 ∈ lw_tb ∧ ∀ w ∈ u_ws C T N, w ∈ lw_tb
def wFP (ci k : Nat) (ty : FieldType) (fin : Bool) : Prop := ∃ (C : String) (T : u_T) (N : Nat) (ty0 : Nat → FieldType), vwCl[ci]? = some (C, T, N) ∧ (∀ j, j < N → parseFieldDescriptor (T j).2.2.1 = some (ty0 j)) ∧ (∀ a, a < N → ∀ b, b < N → a ≠ b → (T a).2.1 ≠ (T b).2.1) ∧ (T k).2.2.2 = fin ∧ parseFieldDescriptor (T k).2.2.1 = some ty
def wQI (below : List Frame) (args : Array Value) (s : State) (A : Nat → Prop) (D : va_G) (κ : Nat → ClassId) (ρ : Nat → Nat) (sd : Nat) (z : Int32 × wSt) : State → Prop := MQ below (va_Qi (fun r u => (r, u) = z) (fun u t => va_P D vwCl (w_ws κ ρ sd u) t.heap) A) args s 0 0 A
def wQL (below : List Frame) (args : Array Value) (s : State) (A : Nat → Prop) (D : va_G) (κ : Nat → ClassId) (ρ : Nat → Nat) (sd : Nat) (z : Int64 × wSt) : State → Prop := MQ below (va_Ql (fun r u => (r, u) = z) (fun u t => va_P D vwCl (w_ws κ ρ sd u) t.heap) A) args s 0 0 A
def wQV (below : List Frame) (args : Array Value) (s : State) (A : Nat → Prop) (D : va_G) (κ : Nat → ClassId) (ρ : Nat → Nat) (sd : Nat) (z : Unit × wSt) : State → Prop := MQ below (va_Qv (fun u => ((), u) = z) (fun u t => va_P D vwCl (w_ws κ ρ sd u) t.heap) A) args s 0 0 A
def wQR (below : List Frame) (args : Array Value) (s : State) (A : Nat → Prop) (D : va_G) (κ : Nat → ClassId) (ρ : Nat → Nat) (sd : Nat) (z : Nat × wSt) : State → Prop := MQ below (va_Qr (fun _ : wSt => True) (fun u q t => (∃ j, q = ρ j ∧ (j, u) = z) ∧ va_P D vwCl (w_ws κ ρ sd u) t.heap) A) args s 0 0 A
section WX
variable {p : Program} {l : Launch} {e : Env} {R : Room} {s : State} {m : MethodId} {args : Array Value} {below : List Frame} {meth : Method} {c : Code} {H : Heap} {locs : List Loc} {cells slots : Nat} {Q : State → Prop}
variable {cc : ByteArray} {pc nL : Nat} {ls : Array Slot} {rest : List Value} {D : va_G} {κ : Nat → ClassId} {ρ : Nat → Nat} {sd : Nat} {A : Nat → Prop} {a : Nat} {H0 : Heap} {own : String} {σ : wSt} {β : Type} {z : β}
theorem wx_leti {x : Int32} {K : Int32 → Option β} (hF : wB x K = some z) (k : ∀ y : Int32, K y = some z → W p l e R s m args below meth c H locs cells slots Q (F0 m pc ls (.int y :: rest))) : W p l e R s m args below meth c H locs cells slots Q (F0 m pc ls (.int x :: rest)) := k x hF
theorem wx_letl {x : Int64} {K : Int64 → Option β} (hF : wB x K = some z) (k : ∀ y : Int64, K y = some z → W p l e R s m args below meth c H locs cells slots Q (F0 m pc ls (.long y :: rest))) : W p l e R s m args below meth c H locs cells slots Q (F0 m pc ls (.long x :: rest)) := k x hF
theorem wx_get {ci idx k t : Nat} (hC : wCx p m c cc nL s args own D κ sd) (hH : wHp D κ ρ sd A H0 H locs σ) (hs : (w_sh a).1 = ci) (hsd : w_sd ci = sd) (hf : wFG own idx ci k t) (hdg : decode cc pc = .ok (.getfield idx, 3))
    (kk : W p l e R s m args below meth c H locs cells slots Q (F0 m (pc + 3) ls (w_v ρ σ a k t :: rest))) : W p l e R s m args below meth c H locs cells slots Q (F0 m pc ls (.ref (ρ a) :: rest)) := by
  obtain ⟨⟨hx, hb, hml, hown, hts⟩, hK, hn⟩ := hC
  obtain ⟨C, T, N, h1, rfl, h3, h4, h5, h6, h7⟩ := hf
  have hlt := w_lt (c := a) (by rw [hs]; exact hsd) hn
  have he := w_wr_at (κ := κ) (ρ := ρ) (σ := σ) hlt
  rw [w_ce_obj hs h4] at he
  subst h5
  exact va_get hx hb hts h7 hown hK hH.1 (a - w_lo sd) he h1 k h3 (hts _ h6) (fun _ h9 => h9) (w_fs_at h3) hdg kk
theorem wx_getI {ci idx k : Nat} (hC : wCx p m c cc nL s args own D κ sd) (hH : wHp D κ ρ sd A H0 H locs σ) (hs : (w_sh a).1 = ci) (hsd : w_sd ci = sd) (hf : wFG own idx ci k 0) (hdg : decode cc pc = .ok (.getfield idx, 3))
    (kk : W p l e R s m args below meth c H locs cells slots Q (F0 m (pc + 3) ls (.int (σ.1 a k) :: rest))) : W p l e R s m args below meth c H locs cells slots Q (F0 m pc ls (.ref (ρ a) :: rest)) := wx_get hC hH hs hsd hf hdg kk
theorem wx_getL {ci idx k : Nat} (hC : wCx p m c cc nL s args own D κ sd) (hH : wHp D κ ρ sd A H0 H locs σ) (hs : (w_sh a).1 = ci) (hsd : w_sd ci = sd) (hf : wFG own idx ci k 1) (hdg : decode cc pc = .ok (.getfield idx, 3))
    (kk : W p l e R s m args below meth c H locs cells slots Q (F0 m (pc + 3) ls (.long (σ.2.1 a k) :: rest))) : W p l e R s m args below meth c H locs cells slots Q (F0 m pc ls (.ref (ρ a) :: rest)) := wx_get hC hH hs hsd hf hdg kk
theorem wx_getR {ci idx k kd : Nat} {K : Nat → Option β} (hC : wCx p m c cc nL s args own D κ sd) (hH : wHp D κ ρ sd A H0 H locs σ) (hs : (w_sh a).1 = ci) (hsd : w_sd ci = sd) (hf : wFG own idx ci k 2) (hdg : decode cc pc = .ok (.getfield idx, 3)) (hF : wR (σ.2.2 a k) kd K = some z)
    (kk : ∀ j, (w_sh j).1 = kd → K j = some z → W p l e R s m args below meth c H locs cells slots Q (F0 m (pc + 3) ls (.ref (ρ j) :: rest))) : W p l e R s m args below meth c H locs cells slots Q (F0 m pc ls (.ref (ρ a) :: rest)) := by
  obtain ⟨j, h1, h2, h3⟩ := wR_some hF
  refine wx_get hC hH hs hsd hf hdg ?_
  have h4 : w_v ρ σ a k 2 = .ref (ρ j) := by show w_rv ρ (σ.2.2 a k) = _; rw [h1]; rfl
  rw [h4]
  exact kk j h2 h3
theorem wx_put {ci idx k t : Nat} {ty : FieldType} {σ' : wSt} (hC : wCx p m c cc nL s args own D κ sd) (hH : wHp D κ ρ sd A H0 H locs σ) (hs : (w_sh a).1 = ci) (hsd : w_sd ci = sd) (hf : wFG own idx ci k t) (hp : wFP ci k ty false) (hn : narrow ty (w_v ρ σ' a k t) = w_v ρ σ' a k t) (hfit : fits ty (w_v ρ σ' a k t) = true)
    (e1 : ∀ b, b ≠ a → w_ce κ ρ σ' b = w_ce κ ρ σ b) (e2 : ∀ j, j ≠ k → w_v ρ σ' a j (w_ft ci j) = w_v ρ σ a j (w_ft ci j)) (hdg : decode cc pc = .ok (.putfield idx, 3))
    (kk : ∀ (H1 : Heap) (locs1 : List Loc), wHp D κ ρ sd A H0 H1 locs1 σ' → W p l e R s m args below meth c H1 locs1 cells slots Q (F0 m (pc + 3) ls rest)) : W p l e R s m args below meth c H locs cells slots Q (F0 m pc ls (w_v ρ σ' a k t :: .ref (ρ a) :: rest)) := by
  obtain ⟨⟨hx, hb, hml, hown, hts⟩, hK, hnn⟩ := hC
  obtain ⟨C, T, N, h1, rfl, h3, h4, h5, h6, h7⟩ := hf
  obtain ⟨C', T', N', ty0, g1, g2, g3, g4, g5⟩ := hp
  have hlt := w_lt (c := a) (by rw [hs]; exact hsd) hnn
  have he := w_wr_at (κ := κ) (ρ := ρ) (σ := σ) hlt
  rw [w_ce_obj hs h4] at he
  subst h5
  have ge := Option.some.inj (h1.symm.trans g1)
  cases ge
  have hset : (w_ws κ ρ sd σ).set (a - w_lo sd) (ρ a, .inr (ci, (w_fs ρ σ a ci).set k (w_v ρ σ' a k (w_ft ci k)))) = w_ws κ ρ sd σ' := by
    rw [w_fs_set e2, ← w_ce_obj (κ := κ) hs h4]
    exact w_wr_set hlt.1 e1
  refine va_put hx hb hts h7 ty0 g2 g3 hown hK hH.1 hH.2.1 hH.2.2.1 (a - w_lo sd) he h1 k h3 (hts _ h6) (fun _ h9 => h9) g4 g5 hn hfit (by rw [w_fs_len]; exact h3) hdg (fun H1 locs1 q1 q2 q3 => ?_)
  rw [hset] at q1 q2
  exact kk H1 locs1 ⟨q1, q2, q3, hH.2.2.2⟩
theorem w_sI_ce {σ : wSt} {a k b : Nat} {v : Int32} (h : b ≠ a) : w_ce κ ρ (w_sI σ a k v) b = w_ce κ ρ σ b := by
  refine w_ce_congr ?_ rfl rfl
  funext j
  simp [w_sI, h]
theorem w_sL_ce {σ : wSt} {a k b : Nat} {v : Int64} (h : b ≠ a) : w_ce κ ρ (w_sL σ a k v) b = w_ce κ ρ σ b := by
  refine w_ce_congr rfl ?_ rfl
  funext j
  simp [w_sL, h]
theorem w_sR_ce {σ : wSt} {a k b : Nat} {v : Nat} (h : b ≠ a) : w_ce κ ρ (w_sR σ a k v) b = w_ce κ ρ σ b := by
  refine w_ce_congr rfl rfl ?_
  funext j
  simp [w_sR, h]
theorem w_sI_v {σ : wSt} {a k j t : Nat} {v : Int32} (h : j ≠ k) : w_v ρ (w_sI σ a k v) a j t = w_v ρ σ a j t := by
  unfold w_v
  split <;> simp [w_sI, h]
theorem w_sL_v {σ : wSt} {a k j t : Nat} {v : Int64} (h : j ≠ k) : w_v ρ (w_sL σ a k v) a j t = w_v ρ σ a j t := by
  unfold w_v
  split <;> simp [w_sL, h]
theorem w_sR_v {σ : wSt} {a k j t : Nat} {v : Nat} (h : j ≠ k) : w_v ρ (w_sR σ a k v) a j t = w_v ρ σ a j t := by
  unfold w_v
  split <;> simp [w_sR, h]
theorem w_sI_at {σ : wSt} {a k : Nat} {v : Int32} : w_v ρ (w_sI σ a k v) a k 0 = .int v := by simp [w_v, w_sI]
theorem w_sL_at {σ : wSt} {a k : Nat} {v : Int64} : w_v ρ (w_sL σ a k v) a k 1 = .long v := by simp [w_v, w_sL]
theorem w_sR_at {σ : wSt} {a k j : Nat} : w_v ρ (w_sR σ a k (j + 1)) a k 2 = .ref (ρ j) := by simp [w_v, w_sR, w_rv]
theorem wx_putI {ci idx k : Nat} {v : Int32} {K : wSt → Option β} (hC : wCx p m c cc nL s args own D κ sd) (hH : wHp D κ ρ sd A H0 H locs σ) (hs : (w_sh a).1 = ci) (hsd : w_sd ci = sd) (hf : wFG own idx ci k 0) (hp : wFP ci k .int false) (hdg : decode cc pc = .ok (.putfield idx, 3)) (hF : wB (w_sI σ a k v) K = some z)
    (kk : ∀ (σ1 : wSt) (H1 : Heap) (locs1 : List Loc), K σ1 = some z → wHp D κ ρ sd A H0 H1 locs1 σ1 → W p l e R s m args below meth c H1 locs1 cells slots Q (F0 m (pc + 3) ls rest)) : W p l e R s m args below meth c H locs cells slots Q (F0 m pc ls (.int v :: .ref (ρ a) :: rest)) := by
  have h := wx_put (l := l) (e := e) (R := R) (below := below) (meth := meth) (cells := cells) (slots := slots) (Q := Q) (ls := ls) (rest := rest) (σ' := w_sI σ a k v) hC hH hs hsd hf hp (by rw [w_sI_at]; rfl) (by rw [w_sI_at]; rfl) (fun b hb => w_sI_ce hb) (fun j hj => w_sI_v hj) hdg (fun H1 locs1 h1 => kk _ H1 locs1 hF h1)
  rwa [w_sI_at] at h
theorem w_z01 {v : Int32} (h : v = 0 ∨ v = 1) : narrow .boolean (.int v) = .int v ∧ fits .boolean (.int v) = true := by
  rcases h with rfl | rfl <;> exact ⟨by decide, by decide⟩
theorem wx_putZ {ci idx k : Nat} {v : Int32} {K : wSt → Option β} (hC : wCx p m c cc nL s args own D κ sd) (hH : wHp D κ ρ sd A H0 H locs σ) (hs : (w_sh a).1 = ci) (hsd : w_sd ci = sd) (hf : wFG own idx ci k 0) (hp : wFP ci k .boolean false) (hdg : decode cc pc = .ok (.putfield idx, 3)) (h01 : v = 0 ∨ v = 1) (hF : wB (w_sI σ a k v) K = some z)
    (kk : ∀ (σ1 : wSt) (H1 : Heap) (locs1 : List Loc), K σ1 = some z → wHp D κ ρ sd A H0 H1 locs1 σ1 → W p l e R s m args below meth c H1 locs1 cells slots Q (F0 m (pc + 3) ls rest)) : W p l e R s m args below meth c H locs cells slots Q (F0 m pc ls (.int v :: .ref (ρ a) :: rest)) := by
  have h := wx_put (l := l) (e := e) (R := R) (below := below) (meth := meth) (cells := cells) (slots := slots) (Q := Q) (ls := ls) (rest := rest) (σ' := w_sI σ a k v) hC hH hs hsd hf hp (by rw [w_sI_at]; exact (w_z01 h01).1) (by rw [w_sI_at]; exact (w_z01 h01).2) (fun b hb => w_sI_ce hb) (fun j hj => w_sI_v hj) hdg (fun H1 locs1 h1 => kk _ H1 locs1 hF h1)
  rwa [w_sI_at] at h
theorem wx_putL {ci idx k : Nat} {v : Int64} {K : wSt → Option β} (hC : wCx p m c cc nL s args own D κ sd) (hH : wHp D κ ρ sd A H0 H locs σ) (hs : (w_sh a).1 = ci) (hsd : w_sd ci = sd) (hf : wFG own idx ci k 1) (hp : wFP ci k .long false) (hdg : decode cc pc = .ok (.putfield idx, 3)) (hF : wB (w_sL σ a k v) K = some z)
    (kk : ∀ (σ1 : wSt) (H1 : Heap) (locs1 : List Loc), K σ1 = some z → wHp D κ ρ sd A H0 H1 locs1 σ1 → W p l e R s m args below meth c H1 locs1 cells slots Q (F0 m (pc + 3) ls rest)) : W p l e R s m args below meth c H locs cells slots Q (F0 m pc ls (.long v :: .ref (ρ a) :: rest)) := by
  have h := wx_put (l := l) (e := e) (R := R) (below := below) (meth := meth) (cells := cells) (slots := slots) (Q := Q) (ls := ls) (rest := rest) (σ' := w_sL σ a k v) hC hH hs hsd hf hp (by rw [w_sL_at]; rfl) (by rw [w_sL_at]; rfl) (fun b hb => w_sL_ce hb) (fun j hj => w_sL_v hj) hdg (fun H1 locs1 h1 => kk _ H1 locs1 hF h1)
  rwa [w_sL_at] at h
theorem wx_putR {ci idx k j : Nat} {C : String} {K : wSt → Option β} (hC : wCx p m c cc nL s args own D κ sd) (hH : wHp D κ ρ sd A H0 H locs σ) (hs : (w_sh a).1 = ci) (hsd : w_sd ci = sd) (hf : wFG own idx ci k 2) (hp : wFP ci k (.object C) false) (hdg : decode cc pc = .ok (.putfield idx, 3)) (hF : wB (w_sR σ a k (j + 1)) K = some z)
    (kk : ∀ (σ1 : wSt) (H1 : Heap) (locs1 : List Loc), K σ1 = some z → wHp D κ ρ sd A H0 H1 locs1 σ1 → W p l e R s m args below meth c H1 locs1 cells slots Q (F0 m (pc + 3) ls rest)) : W p l e R s m args below meth c H locs cells slots Q (F0 m pc ls (.ref (ρ j) :: .ref (ρ a) :: rest)) := by
  have h := wx_put (l := l) (e := e) (R := R) (below := below) (meth := meth) (cells := cells) (slots := slots) (Q := Q) (ls := ls) (rest := rest) (σ' := w_sR σ a k (j + 1)) hC hH hs hsd hf hp (by rw [w_sR_at]; rfl) (by rw [w_sR_at]; rfl) (fun b hb => w_sR_ce hb) (fun j hj => w_sR_v hj) hdg (fun H1 locs1 h1 => kk _ H1 locs1 hF h1)
  rwa [w_sR_at] at h
theorem w_nin {i : Int32} {a : Nat} {K : Nat → Option β} (hF : wN i a K = some z) : vp_in i (w_sh a).2 := (wN_some hF).1
theorem wx_iald {kd : Nat} {i : Int32} {K : Nat → Option β} (hC : wCx p m c cc nL s args own D κ sd) (hH : wHp D κ ρ sd A H0 H locs σ) (hs : (w_sh a).1 = kd) (hsd : w_at kd = 0 ∧ w_sd kd = sd) (hdg : decode cc pc = .ok (.iaload, 1)) (hF : wN i a K = some z)
    (kk : ∀ j, K j = some z → W p l e R s m args below meth c H locs cells slots Q (F0 m (pc + 1) ls (.int (σ.1 a j) :: rest))) : W p l e R s m args below meth c H locs cells slots Q (F0 m pc ls (.int i :: .ref (ρ a) :: rest)) := by
  obtain ⟨⟨hx, hb, hml, hown, hts⟩, hK, hn⟩ := hC
  have hlt := w_lt (c := a) (by rw [hs]; exact hsd.2) hn
  have he := w_wr_at (κ := κ) (ρ := ρ) (σ := σ) hlt
  rw [w_ce_arr hs hsd.1 (by decide)] at he
  exact va_iald hx hb hK hH.1 (a - w_lo sd) 0 he rfl (wN_some hF).1 hdg (kk _ (wN_some hF).2)
theorem wx_bald {kd : Nat} {i : Int32} {K : Nat → Option β} (hC : wCx p m c cc nL s args own D κ sd) (hH : wHp D κ ρ sd A H0 H locs σ) (hs : (w_sh a).1 = kd) (hsd : w_at kd = 1 ∧ w_sd kd = sd) (hdg : decode cc pc = .ok (.baload, 1)) (hF : wN i a K = some z)
    (kk : ∀ j, K j = some z → W p l e R s m args below meth c H locs cells slots Q (F0 m (pc + 1) ls (.int (σ.1 a j) :: rest))) : W p l e R s m args below meth c H locs cells slots Q (F0 m pc ls (.int i :: .ref (ρ a) :: rest)) := by
  obtain ⟨⟨hx, hb, hml, hown, hts⟩, hK, hn⟩ := hC
  have hlt := w_lt (c := a) (by rw [hs]; exact hsd.2) hn
  have he := w_wr_at (κ := κ) (ρ := ρ) (σ := σ) hlt
  rw [w_ce_arr hs hsd.1 (by decide)] at he
  exact va_bald hx hb hK hH.1 (a - w_lo sd) 1 he rfl (wN_some hF).1 hdg (kk _ (wN_some hF).2)
theorem wx_zald {kd : Nat} {i : Int32} {K : Nat → Option β} (hC : wCx p m c cc nL s args own D κ sd) (hH : wHp D κ ρ sd A H0 H locs σ) (hs : (w_sh a).1 = kd) (hsd : w_at kd = 2 ∧ w_sd kd = sd) (hdg : decode cc pc = .ok (.baload, 1)) (hF : wN i a K = some z)
    (kk : ∀ j, K j = some z → W p l e R s m args below meth c H locs cells slots Q (F0 m (pc + 1) ls (.int (σ.1 a j) :: rest))) : W p l e R s m args below meth c H locs cells slots Q (F0 m pc ls (.int i :: .ref (ρ a) :: rest)) := by
  obtain ⟨⟨hx, hb, hml, hown, hts⟩, hK, hn⟩ := hC
  have hlt := w_lt (c := a) (by rw [hs]; exact hsd.2) hn
  have he := w_wr_at (κ := κ) (ρ := ρ) (σ := σ) hlt
  rw [w_ce_arr hs hsd.1 (by decide)] at he
  exact va_zald hx hb hK hH.1 (a - w_lo sd) 2 he rfl (wN_some hF).1 hdg (kk _ (wN_some hF).2)
theorem wx_lald {kd : Nat} {i : Int32} {K : Nat → Option β} (hC : wCx p m c cc nL s args own D κ sd) (hH : wHp D κ ρ sd A H0 H locs σ) (hs : (w_sh a).1 = kd) (hsd : w_at kd = 3 ∧ w_sd kd = sd) (hdg : decode cc pc = .ok (.laload, 1)) (hF : wN i a K = some z)
    (kk : ∀ j, K j = some z → W p l e R s m args below meth c H locs cells slots Q (F0 m (pc + 1) ls (.long (σ.2.1 a j) :: rest))) : W p l e R s m args below meth c H locs cells slots Q (F0 m pc ls (.int i :: .ref (ρ a) :: rest)) := by
  obtain ⟨⟨hx, hb, hml, hown, hts⟩, hK, hn⟩ := hC
  have hlt := w_lt (c := a) (by rw [hs]; exact hsd.2) hn
  have he := w_wr_at (κ := κ) (ρ := ρ) (σ := σ) hlt
  rw [w_ce_lng hs hsd.1] at he
  exact va_lald hx hb hK hH.1 (a - w_lo sd) 3 he rfl (wN_some hF).1 hdg (kk _ (wN_some hF).2)
theorem w_row {kd t : Nat} {x : Int32} {j : Nat} (hs : (w_sh a).1 = kd) (hk : w_at kd = t) (ht : t < 3) (hlo : w_lo sd ≤ a) : (w_ws κ ρ sd σ).set (a - w_lo sd) (ρ a, .inl (κ t, (w_sh a).2, .inl (upd (σ.1 a) j x))) = w_ws κ ρ sd (w_sI σ a j x) := by
  have h1 : (Sum.inl (κ t, (w_sh a).2, Sum.inl (upd (σ.1 a) j x)) : va_E) = w_ce κ ρ (w_sI σ a j x) a := by
    rw [w_ce_arr hs hk ht]
    congr 4
    funext q
    simp [w_sI, upd]
  rw [h1]
  exact w_wr_set hlo (fun b hb => w_sI_ce hb)
theorem w_rowL {x : Int64} {j : Nat} {kd : Nat} (hs : (w_sh a).1 = kd) (ht : w_at kd = 3) (hlo : w_lo sd ≤ a) : (w_ws κ ρ sd σ).set (a - w_lo sd) (ρ a, .inl (κ 3, (w_sh a).2, .inr (.inl (vp_updL (σ.2.1 a) j x)))) = w_ws κ ρ sd (w_sL σ a j x) := by
  have h1 : (Sum.inl (κ 3, (w_sh a).2, Sum.inr (Sum.inl (vp_updL (σ.2.1 a) j x))) : va_E) = w_ce κ ρ (w_sL σ a j x) a := by
    rw [w_ce_lng hs ht]
    congr 5
    funext q
    simp [w_sL, vp_updL]
  rw [h1]
  exact w_wr_set hlo (fun b hb => w_sL_ce hb)
theorem wx_iast {kd : Nat} {i x : Int32} {K1 : wSt → Option β} (hC : wCx p m c cc nL s args own D κ sd) (hH : wHp D κ ρ sd A H0 H locs σ) (hs : (w_sh a).1 = kd) (hsd : w_at kd = 0 ∧ w_sd kd = sd) (hdg : decode cc pc = .ok (.iastore, 1)) (hF : wSI σ a i x K1 = some z)
    (kk : ∀ (σ1 : wSt) (H1 : Heap) (locs1 : List Loc), K1 σ1 = some z → wHp D κ ρ sd A H0 H1 locs1 σ1 → W p l e R s m args below meth c H1 locs1 cells slots Q (F0 m (pc + 1) ls rest)) : W p l e R s m args below meth c H locs cells slots Q (F0 m pc ls (.int x :: .int i :: .ref (ρ a) :: rest)) := by
  obtain ⟨⟨hx, hb, hml, hown, hts⟩, hK, hn⟩ := hC
  have hlt := w_lt (c := a) (by rw [hs]; exact hsd.2) hn
  have he := w_wr_at (κ := κ) (ρ := ρ) (σ := σ) hlt
  rw [w_ce_arr hs hsd.1 (by decide)] at he
  refine va_iast hx hb hK hH.1 hH.2.1 hH.2.2.1 (a - w_lo sd) 0 he rfl (wN_some hF).1 hdg (fun H1 locs1 q1 q2 q3 => ?_)
  rw [w_row hs hsd.1 (by decide) hlt.1] at q1 q2
  have h2 := (wN_some hF).2
  exact kk _ H1 locs1 h2 ⟨q1, q2, q3, hH.2.2.2⟩
theorem wx_bast {kd : Nat} {i x : Int32} {K1 : wSt → Option β} (hC : wCx p m c cc nL s args own D κ sd) (hH : wHp D κ ρ sd A H0 H locs σ) (hs : (w_sh a).1 = kd) (hsd : w_at kd = 1 ∧ w_sd kd = sd) (hdg : decode cc pc = .ok (.bastore, 1)) (hF : wSB σ a i x K1 = some z)
    (kk : ∀ (σ1 : wSt) (H1 : Heap) (locs1 : List Loc), K1 σ1 = some z → wHp D κ ρ sd A H0 H1 locs1 σ1 → W p l e R s m args below meth c H1 locs1 cells slots Q (F0 m (pc + 1) ls rest)) : W p l e R s m args below meth c H locs cells slots Q (F0 m pc ls (.int x :: .int i :: .ref (ρ a) :: rest)) := by
  obtain ⟨⟨hx, hb, hml, hown, hts⟩, hK, hn⟩ := hC
  have hlt := w_lt (c := a) (by rw [hs]; exact hsd.2) hn
  have he := w_wr_at (κ := κ) (ρ := ρ) (σ := σ) hlt
  rw [w_ce_arr hs hsd.1 (by decide)] at he
  refine va_bast hx hb hK hH.1 hH.2.1 hH.2.2.1 (a - w_lo sd) 1 he rfl (wN_some hF).1 hdg (fun H1 locs1 q1 q2 q3 => ?_)
  rw [w_row hs hsd.1 (by decide) hlt.1] at q1 q2
  have h2 := (wN_some hF).2
  exact kk _ H1 locs1 h2 ⟨q1, q2, q3, hH.2.2.2⟩
theorem wx_zast {kd : Nat} {i x : Int32} {K1 : wSt → Option β} (hC : wCx p m c cc nL s args own D κ sd) (hH : wHp D κ ρ sd A H0 H locs σ) (hs : (w_sh a).1 = kd) (hsd : w_at kd = 2 ∧ w_sd kd = sd) (hdg : decode cc pc = .ok (.bastore, 1)) (hF : wSZ σ a i x K1 = some z)
    (kk : ∀ (σ1 : wSt) (H1 : Heap) (locs1 : List Loc), K1 σ1 = some z → wHp D κ ρ sd A H0 H1 locs1 σ1 → W p l e R s m args below meth c H1 locs1 cells slots Q (F0 m (pc + 1) ls rest)) : W p l e R s m args below meth c H locs cells slots Q (F0 m pc ls (.int x :: .int i :: .ref (ρ a) :: rest)) := by
  obtain ⟨⟨hx, hb, hml, hown, hts⟩, hK, hn⟩ := hC
  have hlt := w_lt (c := a) (by rw [hs]; exact hsd.2) hn
  have he := w_wr_at (κ := κ) (ρ := ρ) (σ := σ) hlt
  rw [w_ce_arr hs hsd.1 (by decide)] at he
  refine va_zast hx hb hK hH.1 hH.2.1 hH.2.2.1 (a - w_lo sd) 2 he rfl (wN_some hF).1 hdg (fun H1 locs1 q1 q2 q3 => ?_)
  rw [show vp_nar .boolean x = x &&& 1 from rfl, w_row hs hsd.1 (by decide) hlt.1] at q1 q2
  have h2 := (wN_some hF).2
  exact kk _ H1 locs1 h2 ⟨q1, q2, q3, hH.2.2.2⟩
theorem wx_last {kd : Nat} {i : Int32} {x : Int64} {K1 : wSt → Option β} (hC : wCx p m c cc nL s args own D κ sd) (hH : wHp D κ ρ sd A H0 H locs σ) (hs : (w_sh a).1 = kd) (hsd : w_at kd = 3 ∧ w_sd kd = sd) (hdg : decode cc pc = .ok (.lastore, 1)) (hF : wSL σ a i x K1 = some z)
    (kk : ∀ (σ1 : wSt) (H1 : Heap) (locs1 : List Loc), K1 σ1 = some z → wHp D κ ρ sd A H0 H1 locs1 σ1 → W p l e R s m args below meth c H1 locs1 cells slots Q (F0 m (pc + 1) ls rest)) : W p l e R s m args below meth c H locs cells slots Q (F0 m pc ls (.long x :: .int i :: .ref (ρ a) :: rest)) := by
  obtain ⟨⟨hx, hb, hml, hown, hts⟩, hK, hn⟩ := hC
  have hlt := w_lt (c := a) (by rw [hs]; exact hsd.2) hn
  have he := w_wr_at (κ := κ) (ρ := ρ) (σ := σ) hlt
  rw [w_ce_lng hs hsd.1] at he
  refine va_last hx hb hK hH.1 hH.2.1 hH.2.2.1 (a - w_lo sd) 3 he rfl (wN_some hF).1 hdg (fun H1 locs1 q1 q2 q3 => ?_)
  rw [w_rowL hs hsd.1 hlt.1] at q1 q2
  have h2 := (wN_some hF).2
  exact kk _ H1 locs1 h2 ⟨q1, q2, q3, hH.2.2.2⟩
theorem wx_alen {t kd : Nat} (hC : wCx p m c cc nL s args own D κ sd) (hH : wHp D κ ρ sd A H0 H locs σ) (hs : (w_sh a).1 = kd) (hsd : w_at kd = t ∧ w_sd kd = sd) (ht : t < 3) (hdg : decode cc pc = .ok (.arraylength, 1))
    (kk : W p l e R s m args below meth c H locs cells slots Q (F0 m (pc + 1) ls (.int (Int32.ofNat (w_sh a).2) :: rest))) : W p l e R s m args below meth c H locs cells slots Q (F0 m pc ls (.ref (ρ a) :: rest)) := by
  obtain ⟨⟨hx, hb, hml, hown, hts⟩, hK, hn⟩ := hC
  have hlt := w_lt (c := a) (by rw [hs]; exact hsd.2) hn
  have he := w_wr_at (κ := κ) (ρ := ρ) (σ := σ) hlt
  rw [w_ce_arr hs hsd.1 ht] at he
  have h3 : ∃ ty, (w_ty κ)[t]? = some (κ t, ty) := by
    rcases (show t = 0 ∨ t = 1 ∨ t = 2 by omega) with rfl | rfl | rfl <;> exact ⟨_, rfl⟩
  obtain ⟨ty, h3⟩ := h3
  exact va_alen hx hb hK hH.1 (a - w_lo sd) t he h3 rfl hdg kk
theorem wx_iret {z : Int32 × wSt} {v : Int32} (hC : wCx p m c cc nL s args own D κ sd) (hH : wHp D κ ρ sd A s.heap H locs σ) (hr : meth.sig.returnType = some .int) (hlk : meth.locks = false) (hdg : decode cc pc = .ok (.ireturn, 1)) (hF : some (v, σ) = some z) :
    W p l e R s m args below meth c H locs 0 0 (wQI below args s A D κ ρ sd z) (F0 m pc ls [.int v]) :=
  W.iret hC.1.1 hC.1.2.1 hr (fun t ht hW => ⟨⟨v, σ, rfl, Option.some.inj hF, by show va_P D vwCl _ t.heap; rw [ht]; exact hH.1⟩, hH.2.2.1.F ht⟩) hH.2.2.1.2.2 hdg (hlocks := hlk)
theorem wx_zret {z : Int32 × wSt} {v : Int32} (hC : wCx p m c cc nL s args own D κ sd) (hH : wHp D κ ρ sd A s.heap H locs σ) (hr : meth.sig.returnType = some .boolean) (hlk : meth.locks = false) (hdg : decode cc pc = .ok (.ireturn, 1)) (h01 : v = 0 ∨ v = 1) (hF : some (v, σ) = some z) :
    W p l e R s m args below meth c H locs 0 0 (wQI below args s A D κ ρ sd z) (F0 m pc ls [.int v]) :=
  W.zret hC.1.1 hC.1.2.1 hr (w_z01 h01).1 (fun t ht hW => ⟨⟨v, σ, rfl, Option.some.inj hF, by show va_P D vwCl _ t.heap; rw [ht]; exact hH.1⟩, hH.2.2.1.F ht⟩) hH.2.2.1.2.2 hdg (hlocks := hlk)
theorem wx_lret {z : Int64 × wSt} {v : Int64} (hC : wCx p m c cc nL s args own D κ sd) (hH : wHp D κ ρ sd A s.heap H locs σ) (hr : meth.sig.returnType = some .long) (hlk : meth.locks = false) (hdg : decode cc pc = .ok (.lreturn, 1)) (hF : some (v, σ) = some z) :
    W p l e R s m args below meth c H locs 0 0 (wQL below args s A D κ ρ sd z) (F0 m pc ls [.long v]) :=
  W.lret hC.1.1 hC.1.2.1 hr (fun t ht hW => ⟨⟨v, σ, rfl, Option.some.inj hF, by show va_P D vwCl _ t.heap; rw [ht]; exact hH.1⟩, hH.2.2.1.F ht⟩) hH.2.2.1.2.2 hdg (hlocks := hlk)
theorem wx_vret {z : Unit × wSt} (hC : wCx p m c cc nL s args own D κ sd) (hH : wHp D κ ρ sd A s.heap H locs σ) (hr : meth.sig.returnType = none) (hlk : meth.locks = false) (hdg : decode cc pc = .ok (.return_, 1)) (hF : some ((), σ) = some z) :
    W p l e R s m args below meth c H locs 0 0 (wQV below args s A D κ ρ sd z) (F0 m pc ls []) :=
  W.vret hC.1.1 hC.1.2.1 hr (fun t ht hW => ⟨⟨σ, rfl, Option.some.inj hF, by show va_P D vwCl _ t.heap; rw [ht]; exact hH.1⟩, hH.2.2.1.F ht⟩) hH.2.2.1.2.2 hdg (hlocks := hlk)
theorem wx_aret {z : Nat × wSt} {j : Nat} {C : String} (hC : wCx p m c cc nL s args own D κ sd) (hH : wHp D κ ρ sd A s.heap H locs σ) (hr : meth.sig.returnType = some (.object C)) (hlk : meth.locks = false) (hdg : decode cc pc = .ok (.areturn, 1)) (hF : some (j, σ) = some z) :
    W p l e R s m args below meth c H locs 0 0 (wQR below args s A D κ ρ sd z) (F0 m pc ls [.ref (ρ j)]) :=
  W.aret hC.1.1 hC.1.2.1 hr (Or.inl ⟨_, rfl⟩) (Or.inr ⟨_, rfl⟩) (fun t ht hW => ⟨⟨σ, ρ j, rfl, trivial, ⟨j, rfl, Option.some.inj hF⟩, by show va_P D vwCl _ t.heap; rw [ht]; exact hH.1⟩, hH.2.2.1.F ht⟩) hH.2.2.1.2.2 hdg (hlocks := hlk)
end WX
def wRm (f lo : Nat) : Room := { frames := f, cells := 0, slots := 0, locals := lo }
def wPc (D : va_G) (κ : Nat → ClassId) (ρ : Nat → Nat) (sd : Nat) (avs : List Value) (σ : wSt) (sz : Nat) : Array Value → State → Prop := va_Pc avs (fun U => U.heap.size = sz ∧ va_P D vwCl (w_ws κ ρ sd σ) U.heap ∧ va_K D vwCl (w_ty κ) U ∧ va_D (fun _ => True) (w_ws κ ρ sd σ))
def wA (ρ : Nat → Nat) (sd sz : Nat) : Nat → Prop := fun q => (∃ j, j < w_n sd ∧ q = ρ (w_lo sd + j)) ∨ sz ≤ q
theorem wA_D {κ : Nat → ClassId} {ρ : Nat → Nat} {sd sz : Nat} {A : Nat → Prop} {σ : wSt} (h : va_D A (w_ws κ ρ sd σ)) : va_D (wA ρ sd sz) (w_ws κ ρ sd σ) := by
  refine ⟨h.1, fun k q hk => ?_⟩
  by_cases hn : k < w_n sd
  · rw [w_wr_ix hn] at hk
    cases hk
    exact Or.inl ⟨k, hn, rfl⟩
  · rw [w_wr_none (Nat.le_of_not_lt hn)] at hk
    cases hk
theorem wA_in {κ : Nat → ClassId} {ρ : Nat → Nat} {sd : Nat} {A : Nat → Prop} {σ : wSt} {D : va_G} {H0 H : Heap} {locs : List Loc} (hH : wHp D κ ρ sd A H0 H locs σ) : ∀ q, wA ρ sd H.size q → A q := by
  intro q hq
  rcases hq with ⟨j, hj, rfl⟩ | hq
  · exact hH.2.1.2 j _ (w_wr_ix hj)
  · exact hH.2.2.2 q (Nat.le_trans hH.2.2.1.1 hq)
theorem wPc_blind {D : va_G} {κ : Nat → ClassId} {ρ : Nat → Nat} {sd : Nat} {avs : List Value} {σ : wSt} {sz : Nat} : FrameBlind (wPc D κ ρ sd avs σ sz) := fun a U g mk q => by
  obtain ⟨q0, q1, qP, qK, qD⟩ := q
  exact ⟨q0, q1, qP, va_K.moved (u := U) (U := U.calling g mk a) (Vm.Alike.refl U.vm) qK, qD⟩
theorem wPc_ok {D : va_G} {κ : Nat → ClassId} {ρ : Nat → Nat} {sd : Nat} {avs : List Value} {σ : wSt} {A : Nat → Prop} {H0 H : Heap} {locs : List Loc} {s U : State} (hH : wHp D κ ρ sd A H0 H locs σ) (hK : va_K D vwCl (w_ty κ) s) (hU : U.heap = H) (hW : s.WarmedH U.vm) : wPc D κ ρ sd avs σ H.size avs.toArray U :=
  ⟨rfl, by rw [hU], by rw [hU]; exact hH.1, va_K.moved hW.alike hK, hH.2.1.weaken (fun _ _ _ _ => trivial)⟩
theorem lw_tb_in {w : Cond} (h : w ∈ lw_tb) : w ∈ lw_tbl ∧ goodWord w = true := List.mem_filter.mp h
theorem lw_good {c : Cond} (h : c ∈ lw_tb) : GoodIn lw_tb (c :: lw_tb) := fun w hw => by
  have hm : w ∈ lw_tb := by
    rcases List.mem_cons.mp hw with rfl | h1
    · exact h
    · exact h1
  exact ⟨hm, good_of_word (lw_tb_in hm).2⟩
/-- what the tables say of a method that is called -/
def wYc (y : MethodName) (bytes : ByteArray) (mL : Nat) (ret : Option FieldType) (np : Nat) : Prop := Cond.code y bytes mL ret ∈ lw_tb ∧ Cond.initialized y.cls ∈ lw_tb ∧ y.cls ≠ "java/lang/invoke/MethodHandle" ∧ y.cls ≠ "java/lang/invoke/VarHandle" ∧ (parseMethodDescriptor y.desc).map (fun d => d.parameters.length) = some np
def wYv (y : MethodName) : Prop := Cond.instanceMethod y ∈ lw_tb ∧ Cond.selects y.cls y y ∈ lw_tb
def wMI (l : Launch) (y : MethodName) (cc : ByteArray) (mL : Nat) (ty : FieldType) (rm : Room) (avs : List Value) (D : va_G) (κ : Nat → ClassId) (ρ : Nat → Nat) (sd : Nat) (F : wSt → Option (Int32 × wSt)) : Prop :=
  ∀ (σ : wSt) (z : Int32 × wSt) (sz : Nat), sd < 2 → F σ = some z → Met l y (.code y cc mL (some ty) :: lw_tb) rm (wPc D κ ρ sd avs σ sz) (va_Qi (fun r u => (r, u) = z) (fun u t => va_P D vwCl (w_ws κ ρ sd u) t.heap) (wA ρ sd sz)) 0 0 (wA ρ sd sz)
def wML (l : Launch) (y : MethodName) (cc : ByteArray) (mL : Nat) (rm : Room) (avs : List Value) (D : va_G) (κ : Nat → ClassId) (ρ : Nat → Nat) (sd : Nat) (F : wSt → Option (Int64 × wSt)) : Prop :=
  ∀ (σ : wSt) (z : Int64 × wSt) (sz : Nat), sd < 2 → F σ = some z → Met l y (.code y cc mL (some .long) :: lw_tb) rm (wPc D κ ρ sd avs σ sz) (va_Ql (fun r u => (r, u) = z) (fun u t => va_P D vwCl (w_ws κ ρ sd u) t.heap) (wA ρ sd sz)) 0 0 (wA ρ sd sz)
def wMV (l : Launch) (y : MethodName) (cc : ByteArray) (mL : Nat) (rm : Room) (avs : List Value) (D : va_G) (κ : Nat → ClassId) (ρ : Nat → Nat) (sd : Nat) (F : wSt → Option (Unit × wSt)) : Prop :=
  ∀ (σ : wSt) (z : Unit × wSt) (sz : Nat), sd < 2 → F σ = some z → Met l y (.code y cc mL none :: lw_tb) rm (wPc D κ ρ sd avs σ sz) (va_Qv (fun u => ((), u) = z) (fun u t => va_P D vwCl (w_ws κ ρ sd u) t.heap) (wA ρ sd sz)) 0 0 (wA ρ sd sz)
def wMR (l : Launch) (y : MethodName) (cc : ByteArray) (mL : Nat) (C : String) (rm : Room) (avs : List Value) (D : va_G) (κ : Nat → ClassId) (ρ : Nat → Nat) (sd : Nat) (F : wSt → Option (Nat × wSt)) : Prop :=
  ∀ (σ : wSt) (z : Nat × wSt) (sz : Nat), sd < 2 → F σ = some z → Met l y (.code y cc mL (some (.object C)) :: lw_tb) rm (wPc D κ ρ sd avs σ sz) (va_Qr (fun _ : wSt => True) (fun u q t => (∃ j, q = ρ j ∧ (j, u) = z) ∧ va_P D vwCl (w_ws κ ρ sd u) t.heap) (wA ρ sd sz)) 0 0 (wA ρ sd sz)
section WM
variable {l : Launch} {y : MethodName} {cc : ByteArray} {mL : Nat} {ty : FieldType} {f lo : Nat} {avs : List Value} {D : va_G} {κ : Nat → ClassId} {ρ : Nat → Nat} {sd : Nat}
theorem w_enter {ret : Option FieldType} {Qc : Nat → Array Value → State → Outcome → State → Prop} {σ : wSt} {sz : Nat} (hy : plainName y.cls = true) (hfit : (lg_sl avs).length ≤ mL) (hn : sd < 2)
    (body : ∀ (p : Program) (e : Env) (s : State) (m : MethodId) (args : Array Value) (below : List Frame) (meth : Method) (c : Code) (ls : Array Slot), wCx p m c cc mL s args y.cls D κ sd → meth.sig.returnType = ret → meth.locks = false → meth.name = y.name → wHp D κ ρ sd (wA ρ sd s.heap.size) s.heap s.heap [] σ → lv_has ls mL (lv_args 0 avs) →
      W p l e (wRm f lo) s m args below meth c s.heap [] 0 0 (MQ below (Qc s.heap.size) args s 0 0 (wA ρ sd s.heap.size)) (F0 m 0 ls [])) :
    Met l y (.code y cc mL ret :: lw_tb) (wRm f lo) (wPc D κ ρ sd avs σ sz) (Qc sz) 0 0 (wA ρ sd sz) := by
  refine Met.ofW (cc := cc) (maxL := mL) (ret := ret) hy rfl ?_
  intro p e s m args below meth c s₁ B hml hv
  obtain ⟨rfl, hsz, hP, hK, hD⟩ := hv
  subst hsz
  have hts := atoms_spec (ws := .code y cc mL ret :: lw_tb) B.pre
  have hl := lv_entry avs (n := mL) hfit
  rw [lg_entry_eq]
  generalize (lg_sl avs ++ List.replicate (mL - (lg_sl avs).length) Slot.unset).toArray = ls at hl ⊢
  exact body p e s m avs.toArray below meth c ls ⟨⟨B.exec, B.bytes, hml, findClass_of_methodNamed B.named, fun w hw => hts w (List.mem_cons_of_mem _ hw)⟩, hK, hn⟩ B.returns B.notSynchronized (name_of_methodNamed B.named B.method).1 ⟨hP, wA_D hD, va_S.rf, fun q h => Or.inr h⟩ hl
end WM
section WCALL
variable {p : Program} {l : Launch} {e : Env} {R : Room} {s : State} {m : MethodId} {args : Array Value} {below : List Frame} {meth : Method} {c : Code} {H : Heap} {locs : List Loc} {cells slots : Nat} {Q : State → Prop}
variable {cc bytes : ByteArray} {pc nL mL f lo np idx : Nat} {ls : Array Slot} {rest st0 As : List Value} {D : va_G} {κ : Nat → ClassId} {ρ : Nat → Nat} {sd : Nat} {A : Nat → Prop} {c0 ci : Nat} {H0 : Heap} {own : String} {σ : wSt} {β : Type} {z : β} {y : MethodName} {ty : FieldType}
theorem w_recv {q : vw_C} (hC : wCx p m c cc nL s args own D κ sd) (hH : wHp D κ ρ sd A H0 H locs σ) (hk : (w_sh c0).1 = ci) (hsd : w_sd ci = sd) (hcl : vwCl[ci]? = some q) (hci : ci < 10) : ∃ cell : Cell, H[ρ c0]? = some cell ∧ cell.vm.isStatics = false ∧ s.vm.findClass q.1 = some cell.cls := by
  have he := w_wr_at (κ := κ) (ρ := ρ) (σ := σ) (w_lt (c := c0) (by rw [hk]; exact hsd) hC.2.2)
  rw [w_ce_obj hk hci] at he
  exact va_recv hC.2.1 hH.1 hcl he
theorem w_runV {ret : Option FieldType} {Qc : Array Value → State → Outcome → State → Prop} {q : vw_C} (hC : wCx p m c cc nL s args own D κ sd) (hH : wHp D κ ρ sd A H0 H locs σ) (hls : ls.size = nL) (hM : Met l y (.code y bytes mL ret :: lw_tb) (wRm f lo) (wPc D κ ρ sd (.ref (ρ c0) :: As) σ H.size) Qc 0 0 (wA ρ sd H.size)) (hY : wYc y bytes mL ret np) (hV : wYv y) (hk : (w_sh c0).1 = ci) (hsd : w_sd ci = sd) (hcl : vwCl[ci]? = some q) (hci : ci < 10) (hq : q.1 = y.cls) (hlink : Cond.methodLink own idx y ∈ lw_tb) (hlen : As.length = np) (hR : f + 1 ≤ R.frames ∧ 8 + (mL + 11) + lo ≤ R.locals) (hcs : cells ≤ R.cells ∧ slots ≤ R.slots) (hst : st0 = As.reverse ++ .ref (ρ c0) :: rest) (hw : (rest.map fun v => v.category).sum ≤ 8) (hdg : decode cc pc = .ok (.invokevirtual idx, 3)) :
    va_Run p l e R s m args below meth c H locs cells slots 0 0 (F0 m pc ls st0) rest (Qc (Value.ref (ρ c0) :: As).toArray) (wA ρ sd H.size) := by
  have hts := hC.1.2.2.2.2
  refine va_runV (C := y.cls) hC.1 hM ⟨callB_of np hts (lw_good hY.1) rfl rfl rfl (hts _ hY.2.1) (hts _ hlink) ⟨hY.2.2.1, hY.2.2.2.1, hY.2.2.2.2⟩ hR, hts _ hV.1, hts _ hV.2⟩ ⟨wPc_blind, ?_, fun U hU hW => wPc_ok hH hC.2.1 hU hW⟩ rfl hlen hls hst (by show 2 * 0 + _ ≤ 8; omega) hdg hcs
  rw [← hq]
  exact w_recv hC hH hk hsd hcl hci
theorem w_runS {ret : Option FieldType} {Qc : Array Value → State → Outcome → State → Prop} (hC : wCx p m c cc nL s args own D κ sd) (hH : wHp D κ ρ sd A H0 H locs σ) (hls : ls.size = nL) (hM : Met l y (.code y bytes mL ret :: lw_tb) (wRm f lo) (wPc D κ ρ sd As σ H.size) Qc 0 0 (wA ρ sd H.size)) (hY : wYc y bytes mL ret np) (hV : Cond.static y ∈ lw_tb) (hlink : Cond.methodLink own idx y ∈ lw_tb) (hlen : As.length = np) (hR : f + 1 ≤ R.frames ∧ 8 + (mL + 11) + lo ≤ R.locals) (hcs : cells ≤ R.cells ∧ slots ≤ R.slots) (hst : st0 = As.reverse ++ rest) (hw : (rest.map fun v => v.category).sum ≤ 8) (hdg : decode cc pc = .ok (.invokestatic idx, 3)) :
    va_Run p l e R s m args below meth c H locs cells slots 0 0 (F0 m pc ls st0) rest (Qc As.toArray) (wA ρ sd H.size) := by
  have hts := hC.1.2.2.2.2
  exact va_runS hC.1 hM ⟨callB_of np hts (lw_good hY.1) rfl rfl rfl (hts _ hY.2.1) (hts _ hlink) ⟨hY.2.2.1, hY.2.2.2.1, hY.2.2.2.2⟩ hR, hts _ hV⟩ ⟨wPc_blind, fun U hU hW => wPc_ok hH hC.2.1 hU hW⟩ rfl hlen hls hst (by show 2 * 0 + _ ≤ 8; omega) hdg hcs
theorem wx_behind {σ1 : wSt} {H1 : Heap} {locs1 : List Loc} (hH : wHp D κ ρ sd A H0 H locs σ) (hP : va_P D vwCl (w_ws κ ρ sd σ1) H1) (hS : va_S A H0 H1 locs1) : wHp D κ ρ sd A H0 H1 locs1 σ1 := ⟨hP, w_D hH.2.1, hS, hH.2.2.2⟩
theorem wx_cvi {F : wSt → Option (Int32 × wSt)} {K : Int32 → wSt → Option β} {q : vw_C} (hC : wCx p m c cc nL s args own D κ sd) (hH : wHp D κ ρ sd A H0 H locs σ) (hls : ls.size = nL) (hM : wMI l y bytes mL ty (wRm f lo) (.ref (ρ c0) :: As) D κ ρ sd F) (hY : wYc y bytes mL (some ty) np) (hV : wYv y) (hk : (w_sh c0).1 = ci) (hsd : w_sd ci = sd) (hcl : vwCl[ci]? = some q) (hci : ci < 10) (hq : q.1 = y.cls) (hlink : Cond.methodLink own idx y ∈ lw_tb) (hlen : As.length = np) (hR : f + 1 ≤ R.frames ∧ 8 + (mL + 11) + lo ≤ R.locals) (hcs : cells ≤ R.cells ∧ slots ≤ R.slots) (hst : st0 = As.reverse ++ .ref (ρ c0) :: rest) (hw : (rest.map fun v => v.category).sum ≤ 8) (hdg : decode cc pc = .ok (.invokevirtual idx, 3)) (hF : wC (F σ) K = some z)
    (kk : ∀ (r : Int32) (σ1 : wSt) (H1 : Heap) (locs1 : List Loc), K r σ1 = some z → wHp D κ ρ sd A H0 H1 locs1 σ1 → W p l e R s m args below meth c H1 locs1 cells slots Q (F0 m (pc + 3) ls (.int r :: rest))) : W p l e R s m args below meth c H locs cells slots Q (F0 m pc ls st0) := by
  obtain ⟨r, σ1, h1, h2⟩ := wC_some hF
  refine va_calli (w_runV hC hH hls (hM σ _ H.size hC.2.2 h1) hY hV hk hsd hcl hci hq hlink hlen hR hcs hst hw hdg) hH.2.2.1 (fun q _ h => wA_in hH q h) (wA_in hH) (fun r' u t H1 locs1 ht hvm hw hB hz1 hk1 hS => ?_)
  cases hw
  rw [ht] at hB
  exact kk r σ1 H1 locs1 h2 (wx_behind hH hB hS)
theorem wx_cvl {F : wSt → Option (Int64 × wSt)} {K : Int64 → wSt → Option β} {q : vw_C} (hC : wCx p m c cc nL s args own D κ sd) (hH : wHp D κ ρ sd A H0 H locs σ) (hls : ls.size = nL) (hM : wML l y bytes mL (wRm f lo) (.ref (ρ c0) :: As) D κ ρ sd F) (hY : wYc y bytes mL (some .long) np) (hV : wYv y) (hk : (w_sh c0).1 = ci) (hsd : w_sd ci = sd) (hcl : vwCl[ci]? = some q) (hci : ci < 10) (hq : q.1 = y.cls) (hlink : Cond.methodLink own idx y ∈ lw_tb) (hlen : As.length = np) (hR : f + 1 ≤ R.frames ∧ 8 + (mL + 11) + lo ≤ R.locals) (hcs : cells ≤ R.cells ∧ slots ≤ R.slots) (hst : st0 = As.reverse ++ .ref (ρ c0) :: rest) (hw : (rest.map fun v => v.category).sum ≤ 8) (hdg : decode cc pc = .ok (.invokevirtual idx, 3)) (hF : wC (F σ) K = some z)
    (kk : ∀ (r : Int64) (σ1 : wSt) (H1 : Heap) (locs1 : List Loc), K r σ1 = some z → wHp D κ ρ sd A H0 H1 locs1 σ1 → W p l e R s m args below meth c H1 locs1 cells slots Q (F0 m (pc + 3) ls (.long r :: rest))) : W p l e R s m args below meth c H locs cells slots Q (F0 m pc ls st0) := by
  obtain ⟨r, σ1, h1, h2⟩ := wC_some hF
  refine va_calll (w_runV hC hH hls (hM σ _ H.size hC.2.2 h1) hY hV hk hsd hcl hci hq hlink hlen hR hcs hst hw hdg) hH.2.2.1 (fun q _ h => wA_in hH q h) (wA_in hH) (fun r' u t H1 locs1 ht hvm hw hB hz1 hk1 hS => ?_)
  cases hw
  rw [ht] at hB
  exact kk r σ1 H1 locs1 h2 (wx_behind hH hB hS)
theorem wx_cvv {F : wSt → Option (Unit × wSt)} {K : Unit → wSt → Option β} {q : vw_C} (hC : wCx p m c cc nL s args own D κ sd) (hH : wHp D κ ρ sd A H0 H locs σ) (hls : ls.size = nL) (hM : wMV l y bytes mL (wRm f lo) (.ref (ρ c0) :: As) D κ ρ sd F) (hY : wYc y bytes mL none np) (hV : wYv y) (hk : (w_sh c0).1 = ci) (hsd : w_sd ci = sd) (hcl : vwCl[ci]? = some q) (hci : ci < 10) (hq : q.1 = y.cls) (hlink : Cond.methodLink own idx y ∈ lw_tb) (hlen : As.length = np) (hR : f + 1 ≤ R.frames ∧ 8 + (mL + 11) + lo ≤ R.locals) (hcs : cells ≤ R.cells ∧ slots ≤ R.slots) (hst : st0 = As.reverse ++ .ref (ρ c0) :: rest) (hw : (rest.map fun v => v.category).sum ≤ 8) (hdg : decode cc pc = .ok (.invokevirtual idx, 3)) (hF : wC (F σ) K = some z)
    (kk : ∀ (r : Unit) (σ1 : wSt) (H1 : Heap) (locs1 : List Loc), K r σ1 = some z → wHp D κ ρ sd A H0 H1 locs1 σ1 → W p l e R s m args below meth c H1 locs1 cells slots Q (F0 m (pc + 3) ls rest)) : W p l e R s m args below meth c H locs cells slots Q (F0 m pc ls st0) := by
  obtain ⟨r, σ1, h1, h2⟩ := wC_some hF
  refine va_callv (w_runV hC hH hls (hM σ _ H.size hC.2.2 h1) hY hV hk hsd hcl hci hq hlink hlen hR hcs hst hw hdg) hH.2.2.1 (fun q _ h => wA_in hH q h) (wA_in hH) (fun u t H1 locs1 ht hvm hw hB hz1 hk1 hS => ?_)
  cases hw
  rw [ht] at hB
  exact kk () σ1 H1 locs1 h2 (wx_behind hH hB hS)
theorem wx_cvr {C : String} {F : wSt → Option (Nat × wSt)} {K : Nat → wSt → Option β} {q : vw_C} (hC : wCx p m c cc nL s args own D κ sd) (hH : wHp D κ ρ sd A H0 H locs σ) (hls : ls.size = nL) (hM : wMR l y bytes mL C (wRm f lo) (.ref (ρ c0) :: As) D κ ρ sd F) (hY : wYc y bytes mL (some (.object C)) np) (hV : wYv y) (hk : (w_sh c0).1 = ci) (hsd : w_sd ci = sd) (hcl : vwCl[ci]? = some q) (hci : ci < 10) (hq : q.1 = y.cls) (hlink : Cond.methodLink own idx y ∈ lw_tb) (hlen : As.length = np) (hR : f + 1 ≤ R.frames ∧ 8 + (mL + 11) + lo ≤ R.locals) (hcs : cells ≤ R.cells ∧ slots ≤ R.slots) (hst : st0 = As.reverse ++ .ref (ρ c0) :: rest) (hw : (rest.map fun v => v.category).sum ≤ 8) (hdg : decode cc pc = .ok (.invokevirtual idx, 3)) (hF : wC (F σ) K = some z)
    (kk : ∀ (r : Nat) (σ1 : wSt) (H1 : Heap) (locs1 : List Loc), K r σ1 = some z → wHp D κ ρ sd A H0 H1 locs1 σ1 → W p l e R s m args below meth c H1 locs1 cells slots Q (F0 m (pc + 3) ls (.ref (ρ r) :: rest))) : W p l e R s m args below meth c H locs cells slots Q (F0 m pc ls st0) := by
  obtain ⟨r, σ1, h1, h2⟩ := wC_some hF
  refine va_callr (w_runV hC hH hls (hM σ _ H.size hC.2.2 h1) hY hV hk hsd hcl hci hq hlink hlen hR hcs hst hw hdg) hH.2.2.1 (fun q _ h => wA_in hH q h) (wA_in hH) (fun u a t H1 locs1 ht hvm hw hB hz1 hk1 hS => ?_)
  obtain ⟨⟨j, rfl, hj⟩, hB⟩ := hB
  cases hj
  rw [ht] at hB
  exact kk r σ1 H1 locs1 h2 (wx_behind hH hB hS)
theorem wx_csi {F : wSt → Option (Int32 × wSt)} {K : Int32 → wSt → Option β} (hC : wCx p m c cc nL s args own D κ sd) (hH : wHp D κ ρ sd A H0 H locs σ) (hls : ls.size = nL) (hM : wMI l y bytes mL ty (wRm f lo) As D κ ρ sd F) (hY : wYc y bytes mL (some ty) np) (hV : Cond.static y ∈ lw_tb) (hlink : Cond.methodLink own idx y ∈ lw_tb) (hlen : As.length = np) (hR : f + 1 ≤ R.frames ∧ 8 + (mL + 11) + lo ≤ R.locals) (hcs : cells ≤ R.cells ∧ slots ≤ R.slots) (hst : st0 = As.reverse ++ rest) (hw : (rest.map fun v => v.category).sum ≤ 8) (hdg : decode cc pc = .ok (.invokestatic idx, 3)) (hF : wC (F σ) K = some z)
    (kk : ∀ (r : Int32) (σ1 : wSt) (H1 : Heap) (locs1 : List Loc), K r σ1 = some z → wHp D κ ρ sd A H0 H1 locs1 σ1 → W p l e R s m args below meth c H1 locs1 cells slots Q (F0 m (pc + 3) ls (.int r :: rest))) : W p l e R s m args below meth c H locs cells slots Q (F0 m pc ls st0) := by
  obtain ⟨r, σ1, h1, h2⟩ := wC_some hF
  refine va_calli (w_runS hC hH hls (hM σ _ H.size hC.2.2 h1) hY hV hlink hlen hR hcs hst hw hdg) hH.2.2.1 (fun q _ h => wA_in hH q h) (wA_in hH) (fun r' u t H1 locs1 ht hvm hw hB hz1 hk1 hS => ?_)
  cases hw
  rw [ht] at hB
  exact kk r σ1 H1 locs1 h2 (wx_behind hH hB hS)
theorem wx_csl {F : wSt → Option (Int64 × wSt)} {K : Int64 → wSt → Option β} (hC : wCx p m c cc nL s args own D κ sd) (hH : wHp D κ ρ sd A H0 H locs σ) (hls : ls.size = nL) (hM : wML l y bytes mL (wRm f lo) As D κ ρ sd F) (hY : wYc y bytes mL (some .long) np) (hV : Cond.static y ∈ lw_tb) (hlink : Cond.methodLink own idx y ∈ lw_tb) (hlen : As.length = np) (hR : f + 1 ≤ R.frames ∧ 8 + (mL + 11) + lo ≤ R.locals) (hcs : cells ≤ R.cells ∧ slots ≤ R.slots) (hst : st0 = As.reverse ++ rest) (hw : (rest.map fun v => v.category).sum ≤ 8) (hdg : decode cc pc = .ok (.invokestatic idx, 3)) (hF : wC (F σ) K = some z)
    (kk : ∀ (r : Int64) (σ1 : wSt) (H1 : Heap) (locs1 : List Loc), K r σ1 = some z → wHp D κ ρ sd A H0 H1 locs1 σ1 → W p l e R s m args below meth c H1 locs1 cells slots Q (F0 m (pc + 3) ls (.long r :: rest))) : W p l e R s m args below meth c H locs cells slots Q (F0 m pc ls st0) := by
  obtain ⟨r, σ1, h1, h2⟩ := wC_some hF
  refine va_calll (w_runS hC hH hls (hM σ _ H.size hC.2.2 h1) hY hV hlink hlen hR hcs hst hw hdg) hH.2.2.1 (fun q _ h => wA_in hH q h) (wA_in hH) (fun r' u t H1 locs1 ht hvm hw hB hz1 hk1 hS => ?_)
  cases hw
  rw [ht] at hB
  exact kk r σ1 H1 locs1 h2 (wx_behind hH hB hS)
theorem wx_csv {F : wSt → Option (Unit × wSt)} {K : Unit → wSt → Option β} (hC : wCx p m c cc nL s args own D κ sd) (hH : wHp D κ ρ sd A H0 H locs σ) (hls : ls.size = nL) (hM : wMV l y bytes mL (wRm f lo) As D κ ρ sd F) (hY : wYc y bytes mL none np) (hV : Cond.static y ∈ lw_tb) (hlink : Cond.methodLink own idx y ∈ lw_tb) (hlen : As.length = np) (hR : f + 1 ≤ R.frames ∧ 8 + (mL + 11) + lo ≤ R.locals) (hcs : cells ≤ R.cells ∧ slots ≤ R.slots) (hst : st0 = As.reverse ++ rest) (hw : (rest.map fun v => v.category).sum ≤ 8) (hdg : decode cc pc = .ok (.invokestatic idx, 3)) (hF : wC (F σ) K = some z)
    (kk : ∀ (r : Unit) (σ1 : wSt) (H1 : Heap) (locs1 : List Loc), K r σ1 = some z → wHp D κ ρ sd A H0 H1 locs1 σ1 → W p l e R s m args below meth c H1 locs1 cells slots Q (F0 m (pc + 3) ls rest)) : W p l e R s m args below meth c H locs cells slots Q (F0 m pc ls st0) := by
  obtain ⟨r, σ1, h1, h2⟩ := wC_some hF
  refine va_callv (w_runS hC hH hls (hM σ _ H.size hC.2.2 h1) hY hV hlink hlen hR hcs hst hw hdg) hH.2.2.1 (fun q _ h => wA_in hH q h) (wA_in hH) (fun u t H1 locs1 ht hvm hw hB hz1 hk1 hS => ?_)
  cases hw
  rw [ht] at hB
  exact kk () σ1 H1 locs1 h2 (wx_behind hH hB hS)
end WCALL


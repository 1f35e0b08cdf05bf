/-! two programs side by side: both end well, and what they answer belongs together -/
def Rl {α β : Type} (P : α → β → Prop) (x : Option α) (y : Option β) : Prop := ∃ a b, x = some a ∧ y = some b ∧ P a b
theorem Rl_mono {α β : Type} {P Q : α → β → Prop} {x : Option α} {y : Option β} (h : Rl P x y) (hq : ∀ a b, P a b → Q a b) : Rl Q x y := by
  obtain ⟨a, b, h1, h2, h3⟩ := h
  exact ⟨a, b, h1, h2, hq a b h3⟩
theorem Rl_some {α β : Type} {P : α → β → Prop} {a : α} {b : β} (h : P a b) : Rl P (some a) (some b) := ⟨a, b, rfl, rfl, h⟩
theorem Rl_eq {α : Type} {x y : Option α} (a : α) (h1 : x = some a) (h2 : y = some a) : Rl Eq x y := ⟨a, a, h1, h2, rfl⟩
/-- one program alone -/
def Ro {α : Type} (P : α → Prop) (x : Option α) : Prop := ∃ a, x = some a ∧ P a
theorem Ro_mono {α : Type} {P Q : α → Prop} {x : Option α} (h : Ro P x) (hq : ∀ a, P a → Q a) : Ro Q x := by
  obtain ⟨a, h1, h3⟩ := h
  exact ⟨a, h1, hq a h3⟩
theorem wB_eq {α β : Type} (a : α) (k : α → β) : wB a k = k a := Eq.trans rfl rfl
theorem wC_s {α β : Type} (a : α) (u : wSt) (k : α → wSt → Option β) : wC (some (a, u)) k = k a u := Eq.trans rfl rfl
theorem wC_s2 {α β : Type} (a : α × wSt) (k : α → wSt → Option β) : wC (some a) k = k a.1 a.2 := Eq.trans rfl rfl
theorem wP_s {α β : Type} (a : α) (k : α → Option β) : wP (some a) k = k a := Eq.trans rfl rfl
theorem wJ_inl {X Y : Type} (x : X) (k : X → Option Y) : wJ (some (.inl x)) k = k x := Eq.trans rfl rfl
theorem wJ_inr {X Y : Type} (y : Y) (k : X → Option Y) : wJ (some (.inr y)) k = some y := Eq.trans rfl rfl
theorem wG_pos {β : Type} {c : Prop} [Decidable c] (h : c) (k : Option β) : wG c k = k := by unfold wG; rw [if_pos h]
theorem wSI_eq {β : Type} (σ : wSt) (a : Nat) (i x : Int32) (k : wSt → Option β) : wSI σ a i x k = wN i a (fun j => k (w_sI σ a j x)) := Eq.trans rfl rfl
theorem wSB_eq {β : Type} (σ : wSt) (a : Nat) (i x : Int32) (k : wSt → Option β) : wSB σ a i x k = wN i a (fun j => k (w_sI σ a j x.toInt8.toInt32)) := Eq.trans rfl rfl
theorem wSZ_eq {β : Type} (σ : wSt) (a : Nat) (i x : Int32) (k : wSt → Option β) : wSZ σ a i x k = wN i a (fun j => k (w_sI σ a j (x &&& 1))) := Eq.trans rfl rfl
theorem wSL_eq {β : Type} (σ : wSt) (a : Nat) (i : Int32) (x : Int64) (k : wSt → Option β) : wSL σ a i x k = wN i a (fun j => k (w_sL σ a j x)) := Eq.trans rfl rfl
theorem wG_eq {β : Type} (c : Prop) [Decidable c] (k : Option β) : wG c k = if c then k else none := Eq.trans rfl rfl
theorem wC_ite {α β : Type} {c : Prop} [Decidable c] (x y : Option (α × wSt)) (k : α → wSt → Option β) : wC (if c then x else y) k = if c then wC x k else wC y k := by split <;> rfl
theorem wP_ite {α β : Type} {c : Prop} [Decidable c] (x y : Option α) (k : α → Option β) : wP (if c then x else y) k = if c then wP x k else wP y k := by split <;> rfl
theorem wJ_ite {X Y : Type} {c : Prop} [Decidable c] (x y : Option (X ⊕ Y)) (k : X → Option Y) : wJ (if c then x else y) k = if c then wJ x k else wJ y k := by split <;> rfl
/-- a truth as the machine holds it -/
def bI (p : Prop) [Decidable p] : Int32 := if p then 1 else 0
theorem bI_0 {p : Prop} [Decidable p] : (bI p = 0) = ¬ p := by
  unfold bI
  by_cases h : p <;> simp [h]
theorem bI_1 {p : Prop} [Decidable p] : (bI p = 1) = p := by
  unfold bI
  by_cases h : p <;> simp [h]
theorem bI_or {p : Prop} [Decidable p] : bI p = 0 ∨ bI p = 1 := by
  unfold bI
  by_cases h : p <;> simp [h]
theorem bI_t {p : Prop} [Decidable p] (h : p) : bI p = 1 := if_pos h
theorem bI_f {p : Prop} [Decidable p] (h : ¬ p) : bI p = 0 := if_neg h
theorem bI_and1 {p : Prop} [Decidable p] : bI p &&& 1 = bI p := by
  unfold bI
  by_cases h : p <;> simp only [h, if_true, if_false] <;> decide
/-! stores and what is read behind them -/
theorem sI_r (u : wSt) (a j : Nat) (v : Int32) : (w_sI u a j v).2.2 = u.2.2 := Eq.trans rfl rfl
theorem sI_l (u : wSt) (a j : Nat) (v : Int32) : (w_sI u a j v).2.1 = u.2.1 := Eq.trans rfl rfl
theorem sL_r (u : wSt) (a j : Nat) (v : Int64) : (w_sL u a j v).2.2 = u.2.2 := Eq.trans rfl rfl
theorem sL_i (u : wSt) (a j : Nat) (v : Int64) : (w_sL u a j v).1 = u.1 := Eq.trans rfl rfl
theorem sR_i (u : wSt) (a j : Nat) (v : Nat) : (w_sR u a j v).1 = u.1 := Eq.trans rfl rfl
theorem sR_l (u : wSt) (a j : Nat) (v : Nat) : (w_sR u a j v).2.1 = u.2.1 := Eq.trans rfl rfl
theorem cp_r (u : wSt) (a sp b dp n : Nat) : (w_cp u a sp b dp n).2.2 = u.2.2 := Eq.trans rfl rfl
theorem cp_l (u : wSt) (a sp b dp n : Nat) : (w_cp u a sp b dp n).2.1 = u.2.1 := Eq.trans rfl rfl
theorem sI_i (u : wSt) (a j : Nat) (v : Int32) (x y : Nat) : (w_sI u a j v).1 x y = if x = a ∧ y = j then v else u.1 x y := Eq.trans rfl rfl
theorem sI_eq (u : wSt) (a j : Nat) (v : Int32) : (w_sI u a j v).1 a j = v := if_pos ⟨rfl, rfl⟩
theorem sI_ne (u : wSt) (a j : Nat) (v : Int32) (x y : Nat) (h : x ≠ a) : (w_sI u a j v).1 x y = u.1 x y := if_neg (fun q => h q.1)
theorem sI_ne2 (u : wSt) (a j : Nat) (v : Int32) (x y : Nat) (h : y ≠ j) : (w_sI u a j v).1 x y = u.1 x y := if_neg (fun q => h q.2)
theorem sI_row (u : wSt) (a j : Nat) (v : Int32) (y : Nat) : (w_sI u a j v).1 a y = if y = j then v else u.1 a y := by
  by_cases h : y = j <;> simp [w_sI, h]
theorem sI_rowne (u : wSt) (a j : Nat) (v : Int32) (x : Nat) (h : x ≠ a) : (w_sI u a j v).1 x = u.1 x := by
  funext y
  exact if_neg (fun q => h q.1)
theorem sL_lv (u : wSt) (a j : Nat) (v : Int64) (x y : Nat) : (w_sL u a j v).2.1 x y = if x = a ∧ y = j then v else u.2.1 x y := Eq.trans rfl rfl
theorem sL_eq (u : wSt) (a j : Nat) (v : Int64) : (w_sL u a j v).2.1 a j = v := if_pos ⟨rfl, rfl⟩
theorem sL_ne (u : wSt) (a j : Nat) (v : Int64) (x y : Nat) (h : x ≠ a) : (w_sL u a j v).2.1 x y = u.2.1 x y := if_neg (fun q => h q.1)
theorem sL_ne2 (u : wSt) (a j : Nat) (v : Int64) (x y : Nat) (h : y ≠ j) : (w_sL u a j v).2.1 x y = u.2.1 x y := if_neg (fun q => h q.2)
theorem sR_v (u : wSt) (a j : Nat) (v : Nat) (x y : Nat) : (w_sR u a j v).2.2 x y = if x = a ∧ y = j then v else u.2.2 x y := Eq.trans rfl rfl
theorem cp_ne (u : wSt) (a sp b dp n : Nat) (x y : Nat) (h : x ≠ b) : (w_cp u a sp b dp n).1 x y = u.1 x y := if_neg h
theorem cp_eq (u : wSt) (a sp b dp n : Nat) (y : Nat) : (w_cp u a sp b dp n).1 b y = if dp ≤ y ∧ y < dp + n then u.1 a (sp + (y - dp)) else u.1 b y := if_pos rfl
/-! small ints -/
theorem nI_mul (a b : Nat) : nI a * nI b = nI (a * b) := (Int32.ofNat_mul a b).symm
theorem nI_sub {a b : Nat} (h : b ≤ a) : nI a - nI b = nI (a - b) := by
  have h1 : nI a = nI (a - b) + nI b := by rw [nI_add]; congr 1; omega
  rw [h1, Int32.add_sub_cancel]
theorem nI_eqI {a b : Nat} (ha : a < 2147483648) (hb : b < 2147483648) : (nI a = nI b) = (a = b) := propext (nI_eq ha hb)
theorem nI_leE {a b : Nat} (ha : a < 2147483648) (hb : b < 2147483648) : (nI a ≤ nI b) = (a ≤ b) := propext (nI_leI ha hb)
theorem nI_ltE {a b : Nat} (ha : a < 2147483648) (hb : b < 2147483648) : (nI a < nI b) = (a < b) := propext (nI_ltI ha hb)
theorem nI_neg {a : Nat} (ha : a < 2147483648) : (nI a = (-1 : Int32)) = False := by
  apply eq_false
  intro h
  have h2 := congrArg Int32.toInt h
  rw [nI_toInt ha] at h2
  have h3 : (-1 : Int32).toInt = -1 := by decide
  omega
theorem nI_neg2 {a : Nat} (ha : a < 2147483648) : (nI a = (-2 : Int32)) = False := by
  apply eq_false
  intro h
  have h2 := congrArg Int32.toInt h
  rw [nI_toInt ha] at h2
  have h3 : (-2 : Int32).toInt = -2 := by decide
  omega
theorem nI_nn {a : Nat} (ha : a < 2147483648) : (nI a < (0 : Int32)) = False := eq_false (nI_pos ha)
theorem nI_of' {x : Int32} (h : 0 ≤ x) : ∃ j : Nat, j < 2147483648 ∧ x = nI j := nI_of (by
  intro hx
  rw [Int32.lt_iff_toInt_lt] at hx
  rw [Int32.le_iff_toInt_le] at h
  omega)
theorem nI_below {x : Int32} {n : Nat} (hn : n < 2147483648) (h : 0 ≤ x) (h2 : x < nI n) : ∃ j : Nat, j < n ∧ x = nI j := by
  obtain ⟨j, hj, rfl⟩ := nI_of' h
  rw [nI_ltE hj hn] at h2
  exact ⟨j, h2, rfl⟩
theorem i_nle {x y : Int32} : (¬ x ≤ y) = (y < x) := by
  apply propext
  rw [Int32.lt_iff_toInt_lt, Int32.le_iff_toInt_le]
  omega
theorem i_nlt {x y : Int32} : (¬ x < y) = (y ≤ x) := by
  apply propext
  rw [Int32.lt_iff_toInt_lt, Int32.le_iff_toInt_le]
  omega
theorem i_add {x y : Int32} (h1 : -2147483648 ≤ x.toInt + y.toInt) (h2 : x.toInt + y.toInt < 2147483648) : (x + y).toInt = x.toInt + y.toInt := by
  rw [Int32.toInt_add]
  exact Int.bmod_eq_of_le (by omega) (by omega)
theorem i_sub {x y : Int32} (h1 : -2147483648 ≤ x.toInt - y.toInt) (h2 : x.toInt - y.toInt < 2147483648) : (x - y).toInt = x.toInt - y.toInt := by
  rw [Int32.toInt_sub]
  exact Int.bmod_eq_of_le (by omega) (by omega)
/-! literals -/
theorem n_lit (n : Nat) : (@OfNat.ofNat Int32 n _) = nI (@OfNat.ofNat Nat n (instOfNatNat n)) := Eq.trans rfl rfl
theorem nI_leL {a k : Nat} (ha : a < 2147483648) (hk : (@OfNat.ofNat Nat k (instOfNatNat k)) < 2147483648) : (nI a ≤ (no_index (@OfNat.ofNat Int32 k _))) = (a ≤ @OfNat.ofNat Nat k (instOfNatNat k)) := nI_leE ha hk
theorem nI_geL {a k : Nat} (ha : a < 2147483648) (hk : (@OfNat.ofNat Nat k (instOfNatNat k)) < 2147483648) : ((no_index (@OfNat.ofNat Int32 k _)) ≤ nI a) = (@OfNat.ofNat Nat k (instOfNatNat k) ≤ a) := nI_leE hk ha
theorem nI_ltL {a k : Nat} (ha : a < 2147483648) (hk : (@OfNat.ofNat Nat k (instOfNatNat k)) < 2147483648) : (nI a < (no_index (@OfNat.ofNat Int32 k _))) = (a < @OfNat.ofNat Nat k (instOfNatNat k)) := nI_ltE ha hk
theorem nI_gtL {a k : Nat} (ha : a < 2147483648) (hk : (@OfNat.ofNat Nat k (instOfNatNat k)) < 2147483648) : ((no_index (@OfNat.ofNat Int32 k _)) < nI a) = (@OfNat.ofNat Nat k (instOfNatNat k) < a) := nI_ltE hk ha
theorem nI_eqL {a k : Nat} (ha : a < 2147483648) (hk : (@OfNat.ofNat Nat k (instOfNatNat k)) < 2147483648) : (nI a = (no_index (@OfNat.ofNat Int32 k _))) = (a = @OfNat.ofNat Nat k (instOfNatNat k)) := nI_eqI ha hk
theorem nI_mulL (a k : Nat) : (no_index (@OfNat.ofNat Int32 k _)) * nI a = nI (@OfNat.ofNat Nat k (instOfNatNat k) * a) := nI_mul k a
theorem nI_addL (a k : Nat) : nI a + (no_index (@OfNat.ofNat Int32 k _)) = nI (a + @OfNat.ofNat Nat k (instOfNatNat k)) := nI_add a k
theorem nI_Ladd (a k : Nat) : (no_index (@OfNat.ofNat Int32 k _)) + nI a = nI (@OfNat.ofNat Nat k (instOfNatNat k) + a) := nI_add k a
theorem nI_subL {a k : Nat} (h : @OfNat.ofNat Nat k (instOfNatNat k) ≤ a) : nI a - (no_index (@OfNat.ofNat Int32 k _)) = nI (a - @OfNat.ofNat Nat k (instOfNatNat k)) := nI_sub h
theorem wN_lit {β : Type} (k a : Nat) (K : Nat → Option β) : wN ((no_index (@OfNat.ofNat Int32 k _))) a K = wN (nI (@OfNat.ofNat Nat k (instOfNatNat k))) a K := Eq.trans rfl rfl
theorem l10 : ((1 : Int32) = 0) = False := by decide
theorem l01 : ((0 : Int32) = 1) = False := by decide
theorem lm0 : ((-1 : Int32) < 0) = True := by decide
theorem lm1 : ((-1 : Int32) = 0) = False := by decide
/-! loops -/
theorem wL_one {S Y : Type} {b : S → Option (S ⊕ Y)} {s : S} (I : Nat → S → Prop) (P : Y → Prop) (N : Nat) (hs : ∀ k s, k ≤ N → I k s → (∃ s', b s = some (.inl s') ∧ k < N ∧ I (k + 1) s') ∨ (∃ y, b s = some (.inr y) ∧ P y)) : ∀ (f k : Nat) (s : S), N < f + k → k ≤ N → I k s → Ro P (wL b f s) := by
  intro f
  induction f with
  | zero => intro k s hf hk hI; omega
  | succ f ih =>
    intro k s hf hk hI
    rcases hs k s hk hI with ⟨s', h1, h2, h3⟩ | ⟨y, h1, h2⟩
    · obtain ⟨y, e1, e2⟩ := ih (k + 1) s' (by omega) (by omega) h3
      exact ⟨y, by unfold wL; rw [h1]; exact e1, e2⟩
    · exact ⟨y, by unfold wL; rw [h1]; rfl, h2⟩
/-- a loop alone, from its invariant -/
theorem wL_ro {S Y : Type} {b : S → Option (S ⊕ Y)} {s : S} (I : Nat → S → Prop) (P : Y → Prop) (N : Nat) (hN : N < wFu) (hs : ∀ k s, k ≤ N → I k s → (∃ s', b s = some (.inl s') ∧ k < N ∧ I (k + 1) s') ∨ (∃ y, b s = some (.inr y) ∧ P y)) (h0 : I 0 s) : Ro P (wL b wFu s) :=
  wL_one (s := s) I P N hs wFu 0 s (by omega) (Nat.zero_le N) h0
theorem wL_two {S T Y Z : Type} {b : S → Option (S ⊕ Y)} {d : T → Option (T ⊕ Z)} (I : Nat → S → T → Prop) (P : Y → Z → Prop) (N : Nat) (hs : ∀ k s t, k ≤ N → I k s t → (∃ s' t', b s = some (.inl s') ∧ d t = some (.inl t') ∧ k < N ∧ I (k + 1) s' t') ∨ (∃ y z, b s = some (.inr y) ∧ d t = some (.inr z) ∧ P y z)) : ∀ (f k : Nat) (s : S) (t : T), N < f + k → k ≤ N → I k s t → Rl P (wL b f s) (wL d f t) := by
  intro f
  induction f with
  | zero => intro k s t hf hk hI; omega
  | succ f ih =>
    intro k s t hf hk hI
    rcases hs k s t hk hI with ⟨s', t', h1, g1, h2, h3⟩ | ⟨y, z, h1, g1, h2⟩
    · obtain ⟨y, z, e1, e2, e3⟩ := ih (k + 1) s' t' (by omega) (by omega) h3
      exact ⟨y, z, by unfold wL; rw [h1]; exact e1, by unfold wL; rw [g1]; exact e2, e3⟩
    · exact ⟨y, z, by unfold wL; rw [h1]; rfl, by unfold wL; rw [g1]; rfl, h2⟩
/-- two loops in step -/
theorem wL_rl {S T Y Z : Type} {b : S → Option (S ⊕ Y)} {d : T → Option (T ⊕ Z)} {s : S} {t : T} (I : Nat → S → T → Prop) (P : Y → Z → Prop) (N : Nat) (hN : N < wFu) (hs : ∀ k s t, k ≤ N → I k s t → (∃ s' t', b s = some (.inl s') ∧ d t = some (.inl t') ∧ k < N ∧ I (k + 1) s' t') ∨ (∃ y z, b s = some (.inr y) ∧ d t = some (.inr z) ∧ P y z)) (h0 : I 0 s t) : Rl P (wL b wFu s) (wL d wFu t) :=
  wL_two I P N hs wFu 0 s t (by omega) (Nat.zero_le N) h0

theorem wR_0 {β : Type} (K : Nat → Option β) : wR 1 8 K = K 0 := Eq.trans rfl rfl
theorem wR_1 {β : Type} (K : Nat → Option β) : wR 2 11 K = K 1 := Eq.trans rfl rfl
theorem wN_1 {β : Type} {j : Nat} (K : Nat → Option β) (h : j < 700) : wN (nI j) 1 K = K j := by
  unfold wN
  rw [if_pos ⟨nI_pos' (by omega), by rw [nI_clamp (by omega)]; exact h⟩, nI_clamp (by omega)]
theorem wR_2 {β : Type} (K : Nat → Option β) : wR 3 6 K = K 2 := Eq.trans rfl rfl
theorem wR_3 {β : Type} (K : Nat → Option β) : wR 4 10 K = K 3 := Eq.trans rfl rfl
theorem wN_3 {β : Type} {j : Nat} (K : Nat → Option β) (h : j < 6) : wN (nI j) 3 K = K j := by
  unfold wN
  rw [if_pos ⟨nI_pos' (by omega), by rw [nI_clamp (by omega)]; exact h⟩, nI_clamp (by omega)]
theorem wR_4 {β : Type} (K : Nat → Option β) : wR 5 10 K = K 4 := Eq.trans rfl rfl
theorem wN_4 {β : Type} {j : Nat} (K : Nat → Option β) (h : j < 6) : wN (nI j) 4 K = K j := by
  unfold wN
  rw [if_pos ⟨nI_pos' (by omega), by rw [nI_clamp (by omega)]; exact h⟩, nI_clamp (by omega)]
theorem wR_5 {β : Type} (K : Nat → Option β) : wR 6 10 K = K 5 := Eq.trans rfl rfl
theorem wN_5 {β : Type} {j : Nat} (K : Nat → Option β) (h : j < 6) : wN (nI j) 5 K = K j := by
  unfold wN
  rw [if_pos ⟨nI_pos' (by omega), by rw [nI_clamp (by omega)]; exact h⟩, nI_clamp (by omega)]
theorem wR_6 {β : Type} (K : Nat → Option β) : wR 7 10 K = K 6 := Eq.trans rfl rfl
theorem wN_6 {β : Type} {j : Nat} (K : Nat → Option β) (h : j < 6) : wN (nI j) 6 K = K j := by
  unfold wN
  rw [if_pos ⟨nI_pos' (by omega), by rw [nI_clamp (by omega)]; exact h⟩, nI_clamp (by omega)]
theorem wR_7 {β : Type} (K : Nat → Option β) : wR 8 10 K = K 7 := Eq.trans rfl rfl
theorem wN_7 {β : Type} {j : Nat} (K : Nat → Option β) (h : j < 8) : wN (nI j) 7 K = K j := by
  unfold wN
  rw [if_pos ⟨nI_pos' (by omega), by rw [nI_clamp (by omega)]; exact h⟩, nI_clamp (by omega)]
theorem wR_8 {β : Type} (K : Nat → Option β) : wR 9 10 K = K 8 := Eq.trans rfl rfl
theorem wN_8 {β : Type} {j : Nat} (K : Nat → Option β) (h : j < 8) : wN (nI j) 8 K = K j := by
  unfold wN
  rw [if_pos ⟨nI_pos' (by omega), by rw [nI_clamp (by omega)]; exact h⟩, nI_clamp (by omega)]
theorem wR_9 {β : Type} (K : Nat → Option β) : wR 10 10 K = K 9 := Eq.trans rfl rfl
theorem wN_9 {β : Type} {j : Nat} (K : Nat → Option β) (h : j < 8) : wN (nI j) 9 K = K j := by
  unfold wN
  rw [if_pos ⟨nI_pos' (by omega), by rw [nI_clamp (by omega)]; exact h⟩, nI_clamp (by omega)]
theorem wR_10 {β : Type} (K : Nat → Option β) : wR 11 10 K = K 10 := Eq.trans rfl rfl
theorem wN_10 {β : Type} {j : Nat} (K : Nat → Option β) (h : j < 8) : wN (nI j) 10 K = K j := by
  unfold wN
  rw [if_pos ⟨nI_pos' (by omega), by rw [nI_clamp (by omega)]; exact h⟩, nI_clamp (by omega)]
theorem wR_11 {β : Type} (K : Nat → Option β) : wR 12 10 K = K 11 := Eq.trans rfl rfl
theorem wN_11 {β : Type} {j : Nat} (K : Nat → Option β) (h : j < 8) : wN (nI j) 11 K = K j := by
  unfold wN
  rw [if_pos ⟨nI_pos' (by omega), by rw [nI_clamp (by omega)]; exact h⟩, nI_clamp (by omega)]
theorem wR_12 {β : Type} (K : Nat → Option β) : wR 13 1 K = K 12 := Eq.trans rfl rfl
theorem wR_13 {β : Type} (K : Nat → Option β) : wR 14 12 K = K 13 := Eq.trans rfl rfl
theorem wN_13 {β : Type} {j : Nat} (K : Nat → Option β) (h : j < 3) : wN (nI j) 13 K = K j := by
  unfold wN
  rw [if_pos ⟨nI_pos' (by omega), by rw [nI_clamp (by omega)]; exact h⟩, nI_clamp (by omega)]
theorem wR_14 {β : Type} (K : Nat → Option β) : wR 15 10 K = K 14 := Eq.trans rfl rfl
theorem wN_14 {β : Type} {j : Nat} (K : Nat → Option β) (h : j < 3) : wN (nI j) 14 K = K j := by
  unfold wN
  rw [if_pos ⟨nI_pos' (by omega), by rw [nI_clamp (by omega)]; exact h⟩, nI_clamp (by omega)]
theorem wR_15 {β : Type} (K : Nat → Option β) : wR 16 10 K = K 15 := Eq.trans rfl rfl
theorem wN_15 {β : Type} {j : Nat} (K : Nat → Option β) (h : j < 3) : wN (nI j) 15 K = K j := by
  unfold wN
  rw [if_pos ⟨nI_pos' (by omega), by rw [nI_clamp (by omega)]; exact h⟩, nI_clamp (by omega)]
theorem wR_16 {β : Type} (K : Nat → Option β) : wR 17 10 K = K 16 := Eq.trans rfl rfl
theorem wN_16 {β : Type} {j : Nat} (K : Nat → Option β) (h : j < 64) : wN (nI j) 16 K = K j := by
  unfold wN
  rw [if_pos ⟨nI_pos' (by omega), by rw [nI_clamp (by omega)]; exact h⟩, nI_clamp (by omega)]
theorem wR_17 {β : Type} (K : Nat → Option β) : wR 18 10 K = K 17 := Eq.trans rfl rfl
theorem wN_17 {β : Type} {j : Nat} (K : Nat → Option β) (h : j < 64) : wN (nI j) 17 K = K j := by
  unfold wN
  rw [if_pos ⟨nI_pos' (by omega), by rw [nI_clamp (by omega)]; exact h⟩, nI_clamp (by omega)]
theorem wR_18 {β : Type} (K : Nat → Option β) : wR 19 13 K = K 18 := Eq.trans rfl rfl
theorem wN_18 {β : Type} {j : Nat} (K : Nat → Option β) (h : j < 64) : wN (nI j) 18 K = K j := by
  unfold wN
  rw [if_pos ⟨nI_pos' (by omega), by rw [nI_clamp (by omega)]; exact h⟩, nI_clamp (by omega)]
theorem wR_19 {β : Type} (K : Nat → Option β) : wR 20 6 K = K 19 := Eq.trans rfl rfl
theorem wR_20 {β : Type} (K : Nat → Option β) : wR 21 10 K = K 20 := Eq.trans rfl rfl
theorem wN_20 {β : Type} {j : Nat} (K : Nat → Option β) (h : j < 6) : wN (nI j) 20 K = K j := by
  unfold wN
  rw [if_pos ⟨nI_pos' (by omega), by rw [nI_clamp (by omega)]; exact h⟩, nI_clamp (by omega)]
theorem wR_21 {β : Type} (K : Nat → Option β) : wR 22 10 K = K 21 := Eq.trans rfl rfl
theorem wN_21 {β : Type} {j : Nat} (K : Nat → Option β) (h : j < 6) : wN (nI j) 21 K = K j := by
  unfold wN
  rw [if_pos ⟨nI_pos' (by omega), by rw [nI_clamp (by omega)]; exact h⟩, nI_clamp (by omega)]
theorem wR_22 {β : Type} (K : Nat → Option β) : wR 23 10 K = K 22 := Eq.trans rfl rfl
theorem wN_22 {β : Type} {j : Nat} (K : Nat → Option β) (h : j < 6) : wN (nI j) 22 K = K j := by
  unfold wN
  rw [if_pos ⟨nI_pos' (by omega), by rw [nI_clamp (by omega)]; exact h⟩, nI_clamp (by omega)]
theorem wR_23 {β : Type} (K : Nat → Option β) : wR 24 10 K = K 23 := Eq.trans rfl rfl
theorem wN_23 {β : Type} {j : Nat} (K : Nat → Option β) (h : j < 6) : wN (nI j) 23 K = K j := by
  unfold wN
  rw [if_pos ⟨nI_pos' (by omega), by rw [nI_clamp (by omega)]; exact h⟩, nI_clamp (by omega)]
theorem wR_24 {β : Type} (K : Nat → Option β) : wR 25 10 K = K 24 := Eq.trans rfl rfl
theorem wN_24 {β : Type} {j : Nat} (K : Nat → Option β) (h : j < 8) : wN (nI j) 24 K = K j := by
  unfold wN
  rw [if_pos ⟨nI_pos' (by omega), by rw [nI_clamp (by omega)]; exact h⟩, nI_clamp (by omega)]
theorem wR_25 {β : Type} (K : Nat → Option β) : wR 26 10 K = K 25 := Eq.trans rfl rfl
theorem wN_25 {β : Type} {j : Nat} (K : Nat → Option β) (h : j < 8) : wN (nI j) 25 K = K j := by
  unfold wN
  rw [if_pos ⟨nI_pos' (by omega), by rw [nI_clamp (by omega)]; exact h⟩, nI_clamp (by omega)]
theorem wR_26 {β : Type} (K : Nat → Option β) : wR 27 10 K = K 26 := Eq.trans rfl rfl
theorem wN_26 {β : Type} {j : Nat} (K : Nat → Option β) (h : j < 8) : wN (nI j) 26 K = K j := by
  unfold wN
  rw [if_pos ⟨nI_pos' (by omega), by rw [nI_clamp (by omega)]; exact h⟩, nI_clamp (by omega)]
theorem wR_27 {β : Type} (K : Nat → Option β) : wR 28 10 K = K 27 := Eq.trans rfl rfl
theorem wN_27 {β : Type} {j : Nat} (K : Nat → Option β) (h : j < 8) : wN (nI j) 27 K = K j := by
  unfold wN
  rw [if_pos ⟨nI_pos' (by omega), by rw [nI_clamp (by omega)]; exact h⟩, nI_clamp (by omega)]
theorem wR_28 {β : Type} (K : Nat → Option β) : wR 29 10 K = K 28 := Eq.trans rfl rfl
theorem wN_28 {β : Type} {j : Nat} (K : Nat → Option β) (h : j < 8) : wN (nI j) 28 K = K j := by
  unfold wN
  rw [if_pos ⟨nI_pos' (by omega), by rw [nI_clamp (by omega)]; exact h⟩, nI_clamp (by omega)]
theorem wR_29 {β : Type} (K : Nat → Option β) : wR 30 1 K = K 29 := Eq.trans rfl rfl
theorem wR_30 {β : Type} (K : Nat → Option β) : wR 31 12 K = K 30 := Eq.trans rfl rfl
theorem wN_30 {β : Type} {j : Nat} (K : Nat → Option β) (h : j < 3) : wN (nI j) 30 K = K j := by
  unfold wN
  rw [if_pos ⟨nI_pos' (by omega), by rw [nI_clamp (by omega)]; exact h⟩, nI_clamp (by omega)]
theorem wR_31 {β : Type} (K : Nat → Option β) : wR 32 10 K = K 31 := Eq.trans rfl rfl
theorem wN_31 {β : Type} {j : Nat} (K : Nat → Option β) (h : j < 3) : wN (nI j) 31 K = K j := by
  unfold wN
  rw [if_pos ⟨nI_pos' (by omega), by rw [nI_clamp (by omega)]; exact h⟩, nI_clamp (by omega)]
theorem wR_32 {β : Type} (K : Nat → Option β) : wR 33 10 K = K 32 := Eq.trans rfl rfl
theorem wN_32 {β : Type} {j : Nat} (K : Nat → Option β) (h : j < 3) : wN (nI j) 32 K = K j := by
  unfold wN
  rw [if_pos ⟨nI_pos' (by omega), by rw [nI_clamp (by omega)]; exact h⟩, nI_clamp (by omega)]
theorem wR_33 {β : Type} (K : Nat → Option β) : wR 34 10 K = K 33 := Eq.trans rfl rfl
theorem wN_33 {β : Type} {j : Nat} (K : Nat → Option β) (h : j < 64) : wN (nI j) 33 K = K j := by
  unfold wN
  rw [if_pos ⟨nI_pos' (by omega), by rw [nI_clamp (by omega)]; exact h⟩, nI_clamp (by omega)]
theorem wR_34 {β : Type} (K : Nat → Option β) : wR 35 10 K = K 34 := Eq.trans rfl rfl
theorem wN_34 {β : Type} {j : Nat} (K : Nat → Option β) (h : j < 64) : wN (nI j) 34 K = K j := by
  unfold wN
  rw [if_pos ⟨nI_pos' (by omega), by rw [nI_clamp (by omega)]; exact h⟩, nI_clamp (by omega)]
theorem wR_35 {β : Type} (K : Nat → Option β) : wR 36 13 K = K 35 := Eq.trans rfl rfl
theorem wN_35 {β : Type} {j : Nat} (K : Nat → Option β) (h : j < 64) : wN (nI j) 35 K = K j := by
  unfold wN
  rw [if_pos ⟨nI_pos' (by omega), by rw [nI_clamp (by omega)]; exact h⟩, nI_clamp (by omega)]
theorem wR_36 {β : Type} (K : Nat → Option β) : wR 37 2 K = K 36 := Eq.trans rfl rfl
theorem wR_37 {β : Type} (K : Nat → Option β) : wR 38 10 K = K 37 := Eq.trans rfl rfl
theorem wN_37 {β : Type} {j : Nat} (K : Nat → Option β) (h : j < 72) : wN (nI j) 37 K = K j := by
  unfold wN
  rw [if_pos ⟨nI_pos' (by omega), by rw [nI_clamp (by omega)]; exact h⟩, nI_clamp (by omega)]
theorem wR_38 {β : Type} (K : Nat → Option β) : wR 39 5 K = K 38 := Eq.trans rfl rfl
theorem wR_39 {β : Type} (K : Nat → Option β) : wR 40 10 K = K 39 := Eq.trans rfl rfl
theorem wN_39 {β : Type} {j : Nat} (K : Nat → Option β) (h : j < 20) : wN (nI j) 39 K = K j := by
  unfold wN
  rw [if_pos ⟨nI_pos' (by omega), by rw [nI_clamp (by omega)]; exact h⟩, nI_clamp (by omega)]
theorem wR_40 {β : Type} (K : Nat → Option β) : wR 41 10 K = K 40 := Eq.trans rfl rfl
theorem wN_40 {β : Type} {j : Nat} (K : Nat → Option β) (h : j < 701) : wN (nI j) 40 K = K j := by
  unfold wN
  rw [if_pos ⟨nI_pos' (by omega), by rw [nI_clamp (by omega)]; exact h⟩, nI_clamp (by omega)]
theorem wR_41 {β : Type} (K : Nat → Option β) : wR 42 10 K = K 41 := Eq.trans rfl rfl
theorem wN_41 {β : Type} {j : Nat} (K : Nat → Option β) (h : j < 701) : wN (nI j) 41 K = K j := by
  unfold wN
  rw [if_pos ⟨nI_pos' (by omega), by rw [nI_clamp (by omega)]; exact h⟩, nI_clamp (by omega)]
theorem wR_42 {β : Type} (K : Nat → Option β) : wR 43 10 K = K 42 := Eq.trans rfl rfl
theorem wN_42 {β : Type} {j : Nat} (K : Nat → Option β) (h : j < 701) : wN (nI j) 42 K = K j := by
  unfold wN
  rw [if_pos ⟨nI_pos' (by omega), by rw [nI_clamp (by omega)]; exact h⟩, nI_clamp (by omega)]
theorem wR_43 {β : Type} (K : Nat → Option β) : wR 44 3 K = K 43 := Eq.trans rfl rfl
theorem wR_44 {β : Type} (K : Nat → Option β) : wR 45 10 K = K 44 := Eq.trans rfl rfl
theorem wN_44 {β : Type} {j : Nat} (K : Nat → Option β) (h : j < 6) : wN (nI j) 44 K = K j := by
  unfold wN
  rw [if_pos ⟨nI_pos' (by omega), by rw [nI_clamp (by omega)]; exact h⟩, nI_clamp (by omega)]
theorem wR_45 {β : Type} (K : Nat → Option β) : wR 46 10 K = K 45 := Eq.trans rfl rfl
theorem wN_45 {β : Type} {j : Nat} (K : Nat → Option β) (h : j < 6) : wN (nI j) 45 K = K j := by
  unfold wN
  rw [if_pos ⟨nI_pos' (by omega), by rw [nI_clamp (by omega)]; exact h⟩, nI_clamp (by omega)]
theorem wR_46 {β : Type} (K : Nat → Option β) : wR 47 10 K = K 46 := Eq.trans rfl rfl
theorem wN_46 {β : Type} {j : Nat} (K : Nat → Option β) (h : j < 6) : wN (nI j) 46 K = K j := by
  unfold wN
  rw [if_pos ⟨nI_pos' (by omega), by rw [nI_clamp (by omega)]; exact h⟩, nI_clamp (by omega)]
theorem wR_47 {β : Type} (K : Nat → Option β) : wR 48 10 K = K 47 := Eq.trans rfl rfl
theorem wN_47 {β : Type} {j : Nat} (K : Nat → Option β) (h : j < 6) : wN (nI j) 47 K = K j := by
  unfold wN
  rw [if_pos ⟨nI_pos' (by omega), by rw [nI_clamp (by omega)]; exact h⟩, nI_clamp (by omega)]
theorem wR_48 {β : Type} (K : Nat → Option β) : wR 49 10 K = K 48 := Eq.trans rfl rfl
theorem wN_48 {β : Type} {j : Nat} (K : Nat → Option β) (h : j < 8) : wN (nI j) 48 K = K j := by
  unfold wN
  rw [if_pos ⟨nI_pos' (by omega), by rw [nI_clamp (by omega)]; exact h⟩, nI_clamp (by omega)]
theorem wR_49 {β : Type} (K : Nat → Option β) : wR 50 10 K = K 49 := Eq.trans rfl rfl
theorem wN_49 {β : Type} {j : Nat} (K : Nat → Option β) (h : j < 8) : wN (nI j) 49 K = K j := by
  unfold wN
  rw [if_pos ⟨nI_pos' (by omega), by rw [nI_clamp (by omega)]; exact h⟩, nI_clamp (by omega)]
theorem wR_50 {β : Type} (K : Nat → Option β) : wR 51 3 K = K 50 := Eq.trans rfl rfl
theorem wR_51 {β : Type} (K : Nat → Option β) : wR 52 10 K = K 51 := Eq.trans rfl rfl
theorem wN_51 {β : Type} {j : Nat} (K : Nat → Option β) (h : j < 6) : wN (nI j) 51 K = K j := by
  unfold wN
  rw [if_pos ⟨nI_pos' (by omega), by rw [nI_clamp (by omega)]; exact h⟩, nI_clamp (by omega)]
theorem wR_52 {β : Type} (K : Nat → Option β) : wR 53 10 K = K 52 := Eq.trans rfl rfl
theorem wN_52 {β : Type} {j : Nat} (K : Nat → Option β) (h : j < 6) : wN (nI j) 52 K = K j := by
  unfold wN
  rw [if_pos ⟨nI_pos' (by omega), by rw [nI_clamp (by omega)]; exact h⟩, nI_clamp (by omega)]
theorem wR_53 {β : Type} (K : Nat → Option β) : wR 54 10 K = K 53 := Eq.trans rfl rfl
theorem wN_53 {β : Type} {j : Nat} (K : Nat → Option β) (h : j < 6) : wN (nI j) 53 K = K j := by
  unfold wN
  rw [if_pos ⟨nI_pos' (by omega), by rw [nI_clamp (by omega)]; exact h⟩, nI_clamp (by omega)]
theorem wR_54 {β : Type} (K : Nat → Option β) : wR 55 10 K = K 54 := Eq.trans rfl rfl
theorem wN_54 {β : Type} {j : Nat} (K : Nat → Option β) (h : j < 6) : wN (nI j) 54 K = K j := by
  unfold wN
  rw [if_pos ⟨nI_pos' (by omega), by rw [nI_clamp (by omega)]; exact h⟩, nI_clamp (by omega)]
theorem wR_55 {β : Type} (K : Nat → Option β) : wR 56 10 K = K 55 := Eq.trans rfl rfl
theorem wN_55 {β : Type} {j : Nat} (K : Nat → Option β) (h : j < 8) : wN (nI j) 55 K = K j := by
  unfold wN
  rw [if_pos ⟨nI_pos' (by omega), by rw [nI_clamp (by omega)]; exact h⟩, nI_clamp (by omega)]
theorem wR_56 {β : Type} (K : Nat → Option β) : wR 57 10 K = K 56 := Eq.trans rfl rfl
theorem wN_56 {β : Type} {j : Nat} (K : Nat → Option β) (h : j < 8) : wN (nI j) 56 K = K j := by
  unfold wN
  rw [if_pos ⟨nI_pos' (by omega), by rw [nI_clamp (by omega)]; exact h⟩, nI_clamp (by omega)]
theorem wR_57 {β : Type} (K : Nat → Option β) : wR 58 3 K = K 57 := Eq.trans rfl rfl
theorem wR_58 {β : Type} (K : Nat → Option β) : wR 59 10 K = K 58 := Eq.trans rfl rfl
theorem wN_58 {β : Type} {j : Nat} (K : Nat → Option β) (h : j < 6) : wN (nI j) 58 K = K j := by
  unfold wN
  rw [if_pos ⟨nI_pos' (by omega), by rw [nI_clamp (by omega)]; exact h⟩, nI_clamp (by omega)]
theorem wR_59 {β : Type} (K : Nat → Option β) : wR 60 10 K = K 59 := Eq.trans rfl rfl
theorem wN_59 {β : Type} {j : Nat} (K : Nat → Option β) (h : j < 6) : wN (nI j) 59 K = K j := by
  unfold wN
  rw [if_pos ⟨nI_pos' (by omega), by rw [nI_clamp (by omega)]; exact h⟩, nI_clamp (by omega)]
theorem wR_60 {β : Type} (K : Nat → Option β) : wR 61 10 K = K 60 := Eq.trans rfl rfl
theorem wN_60 {β : Type} {j : Nat} (K : Nat → Option β) (h : j < 6) : wN (nI j) 60 K = K j := by
  unfold wN
  rw [if_pos ⟨nI_pos' (by omega), by rw [nI_clamp (by omega)]; exact h⟩, nI_clamp (by omega)]
theorem wR_61 {β : Type} (K : Nat → Option β) : wR 62 10 K = K 61 := Eq.trans rfl rfl
theorem wN_61 {β : Type} {j : Nat} (K : Nat → Option β) (h : j < 6) : wN (nI j) 61 K = K j := by
  unfold wN
  rw [if_pos ⟨nI_pos' (by omega), by rw [nI_clamp (by omega)]; exact h⟩, nI_clamp (by omega)]
theorem wR_62 {β : Type} (K : Nat → Option β) : wR 63 10 K = K 62 := Eq.trans rfl rfl
theorem wN_62 {β : Type} {j : Nat} (K : Nat → Option β) (h : j < 8) : wN (nI j) 62 K = K j := by
  unfold wN
  rw [if_pos ⟨nI_pos' (by omega), by rw [nI_clamp (by omega)]; exact h⟩, nI_clamp (by omega)]
theorem wR_63 {β : Type} (K : Nat → Option β) : wR 64 10 K = K 63 := Eq.trans rfl rfl
theorem wN_63 {β : Type} {j : Nat} (K : Nat → Option β) (h : j < 8) : wN (nI j) 63 K = K j := by
  unfold wN
  rw [if_pos ⟨nI_pos' (by omega), by rw [nI_clamp (by omega)]; exact h⟩, nI_clamp (by omega)]
theorem wR_64 {β : Type} (K : Nat → Option β) : wR 65 0 K = K 64 := Eq.trans rfl rfl
theorem wR_65 {β : Type} (K : Nat → Option β) : wR 66 10 K = K 65 := Eq.trans rfl rfl
theorem wN_65 {β : Type} {j : Nat} (K : Nat → Option β) (h : j < 7) : wN (nI j) 65 K = K j := by
  unfold wN
  rw [if_pos ⟨nI_pos' (by omega), by rw [nI_clamp (by omega)]; exact h⟩, nI_clamp (by omega)]
theorem wR_66 {β : Type} (K : Nat → Option β) : wR 67 7 K = K 66 := Eq.trans rfl rfl
theorem wR_67 {β : Type} (K : Nat → Option β) : wR 68 10 K = K 67 := Eq.trans rfl rfl
theorem wN_67 {β : Type} {j : Nat} (K : Nat → Option β) (h : j < 20) : wN (nI j) 67 K = K j := by
  unfold wN
  rw [if_pos ⟨nI_pos' (by omega), by rw [nI_clamp (by omega)]; exact h⟩, nI_clamp (by omega)]
theorem wR_68 {β : Type} (K : Nat → Option β) : wR 69 10 K = K 68 := Eq.trans rfl rfl
theorem wN_68 {β : Type} {j : Nat} (K : Nat → Option β) (h : j < 20) : wN (nI j) 68 K = K j := by
  unfold wN
  rw [if_pos ⟨nI_pos' (by omega), by rw [nI_clamp (by omega)]; exact h⟩, nI_clamp (by omega)]
theorem wR_69 {β : Type} (K : Nat → Option β) : wR 70 10 K = K 69 := Eq.trans rfl rfl
theorem wN_69 {β : Type} {j : Nat} (K : Nat → Option β) (h : j < 20) : wN (nI j) 69 K = K j := by
  unfold wN
  rw [if_pos ⟨nI_pos' (by omega), by rw [nI_clamp (by omega)]; exact h⟩, nI_clamp (by omega)]
theorem wR_70 {β : Type} (K : Nat → Option β) : wR 71 4 K = K 70 := Eq.trans rfl rfl
theorem wR_71 {β : Type} (K : Nat → Option β) : wR 72 10 K = K 71 := Eq.trans rfl rfl
theorem wN_71 {β : Type} {j : Nat} (K : Nat → Option β) (h : j < 24) : wN (nI j) 71 K = K j := by
  unfold wN
  rw [if_pos ⟨nI_pos' (by omega), by rw [nI_clamp (by omega)]; exact h⟩, nI_clamp (by omega)]
theorem wR_72 {β : Type} (K : Nat → Option β) : wR 73 10 K = K 72 := Eq.trans rfl rfl
theorem wN_72 {β : Type} {j : Nat} (K : Nat → Option β) (h : j < 24) : wN (nI j) 72 K = K j := by
  unfold wN
  rw [if_pos ⟨nI_pos' (by omega), by rw [nI_clamp (by omega)]; exact h⟩, nI_clamp (by omega)]
theorem wR_73 {β : Type} (K : Nat → Option β) : wR 74 10 K = K 73 := Eq.trans rfl rfl
theorem wN_73 {β : Type} {j : Nat} (K : Nat → Option β) (h : j < 24) : wN (nI j) 73 K = K j := by
  unfold wN
  rw [if_pos ⟨nI_pos' (by omega), by rw [nI_clamp (by omega)]; exact h⟩, nI_clamp (by omega)]
theorem wR_74 {β : Type} (K : Nat → Option β) : wR 75 12 K = K 74 := Eq.trans rfl rfl
theorem wN_74 {β : Type} {j : Nat} (K : Nat → Option β) (h : j < 24) : wN (nI j) 74 K = K j := by
  unfold wN
  rw [if_pos ⟨nI_pos' (by omega), by rw [nI_clamp (by omega)]; exact h⟩, nI_clamp (by omega)]
theorem wR_75 {β : Type} (K : Nat → Option β) : wR 76 10 K = K 75 := Eq.trans rfl rfl
theorem wN_75 {β : Type} {j : Nat} (K : Nat → Option β) (h : j < 24) : wN (nI j) 75 K = K j := by
  unfold wN
  rw [if_pos ⟨nI_pos' (by omega), by rw [nI_clamp (by omega)]; exact h⟩, nI_clamp (by omega)]
theorem wR_76 {β : Type} (K : Nat → Option β) : wR 77 12 K = K 76 := Eq.trans rfl rfl
theorem wN_76 {β : Type} {j : Nat} (K : Nat → Option β) (h : j < 24) : wN (nI j) 76 K = K j := by
  unfold wN
  rw [if_pos ⟨nI_pos' (by omega), by rw [nI_clamp (by omega)]; exact h⟩, nI_clamp (by omega)]
theorem wR_77 {β : Type} (K : Nat → Option β) : wR 78 10 K = K 77 := Eq.trans rfl rfl
theorem wN_77 {β : Type} {j : Nat} (K : Nat → Option β) (h : j < 6) : wN (nI j) 77 K = K j := by
  unfold wN
  rw [if_pos ⟨nI_pos' (by omega), by rw [nI_clamp (by omega)]; exact h⟩, nI_clamp (by omega)]
theorem wR_78 {β : Type} (K : Nat → Option β) : wR 79 10 K = K 78 := Eq.trans rfl rfl
theorem wN_78 {β : Type} {j : Nat} (K : Nat → Option β) (h : j < 6) : wN (nI j) 78 K = K j := by
  unfold wN
  rw [if_pos ⟨nI_pos' (by omega), by rw [nI_clamp (by omega)]; exact h⟩, nI_clamp (by omega)]
theorem wR_79 {β : Type} (K : Nat → Option β) : wR 80 9 K = K 79 := Eq.trans rfl rfl
theorem wR_80 {β : Type} (K : Nat → Option β) : wR 81 14 K = K 80 := Eq.trans rfl rfl
theorem wN_80 {β : Type} {j : Nat} (K : Nat → Option β) (h : j < 700) : wN (nI j) 80 K = K j := by
  unfold wN
  rw [if_pos ⟨nI_pos' (by omega), by rw [nI_clamp (by omega)]; exact h⟩, nI_clamp (by omega)]
theorem wR_81 {β : Type} (K : Nat → Option β) : wR 82 14 K = K 81 := Eq.trans rfl rfl
theorem wN_81 {β : Type} {j : Nat} (K : Nat → Option β) (h : j < 106) : wN (nI j) 81 K = K j := by
  unfold wN
  rw [if_pos ⟨nI_pos' (by omega), by rw [nI_clamp (by omega)]; exact h⟩, nI_clamp (by omega)]
theorem wR_82 {β : Type} (K : Nat → Option β) : wR 83 15 K = K 82 := Eq.trans rfl rfl
theorem wN_82 {β : Type} {j : Nat} (K : Nat → Option β) (h : j < 3) : wN (nI j) 82 K = K j := by
  unfold wN
  rw [if_pos ⟨nI_pos' (by omega), by rw [nI_clamp (by omega)]; exact h⟩, nI_clamp (by omega)]
theorem wR_83 {β : Type} (K : Nat → Option β) : wR 84 14 K = K 83 := Eq.trans rfl rfl
theorem wN_83 {β : Type} {j : Nat} (K : Nat → Option β) (h : j < 6) : wN (nI j) 83 K = K j := by
  unfold wN
  rw [if_pos ⟨nI_pos' (by omega), by rw [nI_clamp (by omega)]; exact h⟩, nI_clamp (by omega)]
theorem wR_84 {β : Type} (K : Nat → Option β) : wR 85 14 K = K 84 := Eq.trans rfl rfl
theorem wN_84 {β : Type} {j : Nat} (K : Nat → Option β) (h : j < 12) : wN (nI j) 84 K = K j := by
  unfold wN
  rw [if_pos ⟨nI_pos' (by omega), by rw [nI_clamp (by omega)]; exact h⟩, nI_clamp (by omega)]
theorem wR_85 {β : Type} (K : Nat → Option β) : wR 86 14 K = K 85 := Eq.trans rfl rfl
theorem wN_85 {β : Type} {j : Nat} (K : Nat → Option β) (h : j < 12) : wN (nI j) 85 K = K j := by
  unfold wN
  rw [if_pos ⟨nI_pos' (by omega), by rw [nI_clamp (by omega)]; exact h⟩, nI_clamp (by omega)]
theorem wR_86 {β : Type} (K : Nat → Option β) : wR 87 14 K = K 86 := Eq.trans rfl rfl
theorem wN_86 {β : Type} {j : Nat} (K : Nat → Option β) (h : j < 12) : wN (nI j) 86 K = K j := by
  unfold wN
  rw [if_pos ⟨nI_pos' (by omega), by rw [nI_clamp (by omega)]; exact h⟩, nI_clamp (by omega)]
theorem wR_87 {β : Type} (K : Nat → Option β) : wR 88 14 K = K 87 := Eq.trans rfl rfl
theorem wN_87 {β : Type} {j : Nat} (K : Nat → Option β) (h : j < 12) : wN (nI j) 87 K = K j := by
  unfold wN
  rw [if_pos ⟨nI_pos' (by omega), by rw [nI_clamp (by omega)]; exact h⟩, nI_clamp (by omega)]
theorem wR_88 {β : Type} (K : Nat → Option β) : wR 89 14 K = K 88 := Eq.trans rfl rfl
theorem wN_88 {β : Type} {j : Nat} (K : Nat → Option β) (h : j < 16) : wN (nI j) 88 K = K j := by
  unfold wN
  rw [if_pos ⟨nI_pos' (by omega), by rw [nI_clamp (by omega)]; exact h⟩, nI_clamp (by omega)]
theorem wR_89 {β : Type} (K : Nat → Option β) : wR 90 14 K = K 89 := Eq.trans rfl rfl
theorem wN_89 {β : Type} {j : Nat} (K : Nat → Option β) (h : j < 16) : wN (nI j) 89 K = K j := by
  unfold wN
  rw [if_pos ⟨nI_pos' (by omega), by rw [nI_clamp (by omega)]; exact h⟩, nI_clamp (by omega)]
theorem wR_90 {β : Type} (K : Nat → Option β) : wR 91 14 K = K 90 := Eq.trans rfl rfl
theorem wN_90 {β : Type} {j : Nat} (K : Nat → Option β) (h : j < 16) : wN (nI j) 90 K = K j := by
  unfold wN
  rw [if_pos ⟨nI_pos' (by omega), by rw [nI_clamp (by omega)]; exact h⟩, nI_clamp (by omega)]
theorem wR_91 {β : Type} (K : Nat → Option β) : wR 92 14 K = K 91 := Eq.trans rfl rfl
theorem wN_91 {β : Type} {j : Nat} (K : Nat → Option β) (h : j < 16) : wN (nI j) 91 K = K j := by
  unfold wN
  rw [if_pos ⟨nI_pos' (by omega), by rw [nI_clamp (by omega)]; exact h⟩, nI_clamp (by omega)]
theorem wR_92 {β : Type} (K : Nat → Option β) : wR 93 14 K = K 92 := Eq.trans rfl rfl
theorem wN_92 {β : Type} {j : Nat} (K : Nat → Option β) (h : j < 16) : wN (nI j) 92 K = K j := by
  unfold wN
  rw [if_pos ⟨nI_pos' (by omega), by rw [nI_clamp (by omega)]; exact h⟩, nI_clamp (by omega)]
theorem wR_93 {β : Type} (K : Nat → Option β) : wR 94 15 K = K 93 := Eq.trans rfl rfl
theorem wN_93 {β : Type} {j : Nat} (K : Nat → Option β) (h : j < 6) : wN (nI j) 93 K = K j := by
  unfold wN
  rw [if_pos ⟨nI_pos' (by omega), by rw [nI_clamp (by omega)]; exact h⟩, nI_clamp (by omega)]
theorem wR_94 {β : Type} (K : Nat → Option β) : wR 95 14 K = K 94 := Eq.trans rfl rfl
theorem wN_94 {β : Type} {j : Nat} (K : Nat → Option β) (h : j < 6) : wN (nI j) 94 K = K j := by
  unfold wN
  rw [if_pos ⟨nI_pos' (by omega), by rw [nI_clamp (by omega)]; exact h⟩, nI_clamp (by omega)]
theorem wR_95 {β : Type} (K : Nat → Option β) : wR 96 14 K = K 95 := Eq.trans rfl rfl
theorem wN_95 {β : Type} {j : Nat} (K : Nat → Option β) (h : j < 6) : wN (nI j) 95 K = K j := by
  unfold wN
  rw [if_pos ⟨nI_pos' (by omega), by rw [nI_clamp (by omega)]; exact h⟩, nI_clamp (by omega)]
theorem wR_96 {β : Type} (K : Nat → Option β) : wR 97 14 K = K 96 := Eq.trans rfl rfl
theorem wN_96 {β : Type} {j : Nat} (K : Nat → Option β) (h : j < 128) : wN (nI j) 96 K = K j := by
  unfold wN
  rw [if_pos ⟨nI_pos' (by omega), by rw [nI_clamp (by omega)]; exact h⟩, nI_clamp (by omega)]
theorem wR_97 {β : Type} (K : Nat → Option β) : wR 98 14 K = K 97 := Eq.trans rfl rfl
theorem wN_97 {β : Type} {j : Nat} (K : Nat → Option β) (h : j < 1) : wN (nI j) 97 K = K j := by
  unfold wN
  rw [if_pos ⟨nI_pos' (by omega), by rw [nI_clamp (by omega)]; exact h⟩, nI_clamp (by omega)]
theorem wR_98 {β : Type} (K : Nat → Option β) : wR 99 14 K = K 98 := Eq.trans rfl rfl
theorem wN_98 {β : Type} {j : Nat} (K : Nat → Option β) (h : j < 128) : wN (nI j) 98 K = K j := by
  unfold wN
  rw [if_pos ⟨nI_pos' (by omega), by rw [nI_clamp (by omega)]; exact h⟩, nI_clamp (by omega)]
theorem wR_99 {β : Type} (K : Nat → Option β) : wR 100 14 K = K 99 := Eq.trans rfl rfl
theorem wN_99 {β : Type} {j : Nat} (K : Nat → Option β) (h : j < 128) : wN (nI j) 99 K = K j := by
  unfold wN
  rw [if_pos ⟨nI_pos' (by omega), by rw [nI_clamp (by omega)]; exact h⟩, nI_clamp (by omega)]
theorem wR_100 {β : Type} (K : Nat → Option β) : wR 101 14 K = K 100 := Eq.trans rfl rfl
theorem wN_100 {β : Type} {j : Nat} (K : Nat → Option β) (h : j < 96) : wN (nI j) 100 K = K j := by
  unfold wN
  rw [if_pos ⟨nI_pos' (by omega), by rw [nI_clamp (by omega)]; exact h⟩, nI_clamp (by omega)]
theorem wR_101 {β : Type} (K : Nat → Option β) : wR 102 14 K = K 101 := Eq.trans rfl rfl
theorem wN_101 {β : Type} {j : Nat} (K : Nat → Option β) (h : j < 96) : wN (nI j) 101 K = K j := by
  unfold wN
  rw [if_pos ⟨nI_pos' (by omega), by rw [nI_clamp (by omega)]; exact h⟩, nI_clamp (by omega)]
theorem wR_102 {β : Type} (K : Nat → Option β) : wR 103 16 K = K 102 := Eq.trans rfl rfl
theorem wN_102 {β : Type} {j : Nat} (K : Nat → Option β) (h : j < 7) : wN (nI j) 102 K = K j := by
  unfold wN
  rw [if_pos ⟨nI_pos' (by omega), by rw [nI_clamp (by omega)]; exact h⟩, nI_clamp (by omega)]
theorem wR_103 {β : Type} (K : Nat → Option β) : wR 104 16 K = K 103 := Eq.trans rfl rfl
theorem wN_103 {β : Type} {j : Nat} (K : Nat → Option β) (h : j < 64) : wN (nI j) 103 K = K j := by
  unfold wN
  rw [if_pos ⟨nI_pos' (by omega), by rw [nI_clamp (by omega)]; exact h⟩, nI_clamp (by omega)]
theorem wR_104 {β : Type} (K : Nat → Option β) : wR 105 14 K = K 104 := Eq.trans rfl rfl
theorem wN_104 {β : Type} {j : Nat} (K : Nat → Option β) (h : j < 12) : wN (nI j) 104 K = K j := by
  unfold wN
  rw [if_pos ⟨nI_pos' (by omega), by rw [nI_clamp (by omega)]; exact h⟩, nI_clamp (by omega)]
theorem wR_105 {β : Type} (K : Nat → Option β) : wR 106 14 K = K 105 := Eq.trans rfl rfl
theorem wN_105 {β : Type} {j : Nat} (K : Nat → Option β) (h : j < 12) : wN (nI j) 105 K = K j := by
  unfold wN
  rw [if_pos ⟨nI_pos' (by omega), by rw [nI_clamp (by omega)]; exact h⟩, nI_clamp (by omega)]
theorem wR_106 {β : Type} (K : Nat → Option β) : wR 107 14 K = K 106 := Eq.trans rfl rfl
theorem wN_106 {β : Type} {j : Nat} (K : Nat → Option β) (h : j < 12) : wN (nI j) 106 K = K j := by
  unfold wN
  rw [if_pos ⟨nI_pos' (by omega), by rw [nI_clamp (by omega)]; exact h⟩, nI_clamp (by omega)]
theorem wR_107 {β : Type} (K : Nat → Option β) : wR 108 15 K = K 107 := Eq.trans rfl rfl
theorem wN_107 {β : Type} {j : Nat} (K : Nat → Option β) (h : j < 12) : wN (nI j) 107 K = K j := by
  unfold wN
  rw [if_pos ⟨nI_pos' (by omega), by rw [nI_clamp (by omega)]; exact h⟩, nI_clamp (by omega)]
theorem wR_108 {β : Type} (K : Nat → Option β) : wR 109 14 K = K 108 := Eq.trans rfl rfl
theorem wN_108 {β : Type} {j : Nat} (K : Nat → Option β) (h : j < 12) : wN (nI j) 108 K = K j := by
  unfold wN
  rw [if_pos ⟨nI_pos' (by omega), by rw [nI_clamp (by omega)]; exact h⟩, nI_clamp (by omega)]
theorem wR_109 {β : Type} (K : Nat → Option β) : wR 110 14 K = K 109 := Eq.trans rfl rfl
theorem wN_109 {β : Type} {j : Nat} (K : Nat → Option β) (h : j < 16) : wN (nI j) 109 K = K j := by
  unfold wN
  rw [if_pos ⟨nI_pos' (by omega), by rw [nI_clamp (by omega)]; exact h⟩, nI_clamp (by omega)]
theorem wR_110 {β : Type} (K : Nat → Option β) : wR 111 15 K = K 110 := Eq.trans rfl rfl
theorem wN_110 {β : Type} {j : Nat} (K : Nat → Option β) (h : j < 16) : wN (nI j) 110 K = K j := by
  unfold wN
  rw [if_pos ⟨nI_pos' (by omega), by rw [nI_clamp (by omega)]; exact h⟩, nI_clamp (by omega)]
theorem wR_111 {β : Type} (K : Nat → Option β) : wR 112 14 K = K 111 := Eq.trans rfl rfl
theorem wN_111 {β : Type} {j : Nat} (K : Nat → Option β) (h : j < 16) : wN (nI j) 111 K = K j := by
  unfold wN
  rw [if_pos ⟨nI_pos' (by omega), by rw [nI_clamp (by omega)]; exact h⟩, nI_clamp (by omega)]
theorem wR_112 {β : Type} (K : Nat → Option β) : wR 113 14 K = K 112 := Eq.trans rfl rfl
theorem wN_112 {β : Type} {j : Nat} (K : Nat → Option β) (h : j < 2) : wN (nI j) 112 K = K j := by
  unfold wN
  rw [if_pos ⟨nI_pos' (by omega), by rw [nI_clamp (by omega)]; exact h⟩, nI_clamp (by omega)]
theorem wR_113 {β : Type} (K : Nat → Option β) : wR 114 14 K = K 113 := Eq.trans rfl rfl
theorem wN_113 {β : Type} {j : Nat} (K : Nat → Option β) (h : j < 6) : wN (nI j) 113 K = K j := by
  unfold wN
  rw [if_pos ⟨nI_pos' (by omega), by rw [nI_clamp (by omega)]; exact h⟩, nI_clamp (by omega)]
theorem wR_114 {β : Type} (K : Nat → Option β) : wR 115 14 K = K 114 := Eq.trans rfl rfl
theorem wN_114 {β : Type} {j : Nat} (K : Nat → Option β) (h : j < 96) : wN (nI j) 114 K = K j := by
  unfold wN
  rw [if_pos ⟨nI_pos' (by omega), by rw [nI_clamp (by omega)]; exact h⟩, nI_clamp (by omega)]
theorem wR_115 {β : Type} (K : Nat → Option β) : wR 116 15 K = K 115 := Eq.trans rfl rfl
theorem wN_115 {β : Type} {j : Nat} (K : Nat → Option β) (h : j < 24) : wN (nI j) 115 K = K j := by
  unfold wN
  rw [if_pos ⟨nI_pos' (by omega), by rw [nI_clamp (by omega)]; exact h⟩, nI_clamp (by omega)]
theorem wR_116 {β : Type} (K : Nat → Option β) : wR 117 14 K = K 116 := Eq.trans rfl rfl
theorem wN_116 {β : Type} {j : Nat} (K : Nat → Option β) (h : j < 360) : wN (nI j) 116 K = K j := by
  unfold wN
  rw [if_pos ⟨nI_pos' (by omega), by rw [nI_clamp (by omega)]; exact h⟩, nI_clamp (by omega)]
theorem wR_117 {β : Type} (K : Nat → Option β) : wR 118 14 K = K 117 := Eq.trans rfl rfl
theorem wN_117 {β : Type} {j : Nat} (K : Nat → Option β) (h : j < 18) : wN (nI j) 117 K = K j := by
  unfold wN
  rw [if_pos ⟨nI_pos' (by omega), by rw [nI_clamp (by omega)]; exact h⟩, nI_clamp (by omega)]
theorem wR_118 {β : Type} (K : Nat → Option β) : wR 119 14 K = K 118 := Eq.trans rfl rfl
theorem wN_118 {β : Type} {j : Nat} (K : Nat → Option β) (h : j < 37) : wN (nI j) 118 K = K j := by
  unfold wN
  rw [if_pos ⟨nI_pos' (by omega), by rw [nI_clamp (by omega)]; exact h⟩, nI_clamp (by omega)]
theorem wR_119 {β : Type} (K : Nat → Option β) : wR 120 20 K = K 119 := Eq.trans rfl rfl
theorem wN_119 {β : Type} {j : Nat} (K : Nat → Option β) (h : j < 1) : wN (nI j) 119 K = K j := by
  unfold wN
  rw [if_pos ⟨nI_pos' (by omega), by rw [nI_clamp (by omega)]; exact h⟩, nI_clamp (by omega)]

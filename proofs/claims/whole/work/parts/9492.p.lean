/-! a law under way: signs that wait, values held -/
def kc (x : Nat) : Nat := if x = 0 then 30 else if x = 2 then 12 else kcl x
def okS (x : Nat) : Prop := x = 0 ∨ x = 2 ∨ (3 ≤ x ∧ x < 15)
def rk (x : Nat) : Nat := if 13 ≤ x then 6 else if 11 ≤ x then 5 else if 5 ≤ x then 4 else if x = 2 then 3 else if x = 3 then 2 else if x = 4 then 1 else 0
def Wr : List Nat → (Nat → Nat → Int32) → (Nat → Nat → Int32) → Prop
  | [], _, _ => True
  | x :: r, U, T => okS x ∧ U 37 r.length = nI (kc x) ∧ T 100 r.length = nI x ∧ Wr r U T
def Hr : List Nat → (Nat → Nat → Int32) → Prop
  | [], _ => True
  | x :: r, T => T 101 r.length = nI x ∧ Hr r T
def nOp : List Nat → Nat
  | [] => 0
  | x :: r => (if x = 0 then 0 else 1) + nOp r
def nPa : List Nat → Nat
  | [] => 0
  | x :: r => (if x = 0 then 1 else 0) + nPa r
def nBi : List Nat → Nat
  | [] => 0
  | x :: r => (if 3 ≤ x then 1 else 0) + nBi r
theorem n_len (S : List Nat) : nOp S + nPa S = S.length ∧ nBi S ≤ nOp S := by
  induction S with
  | nil => exact ⟨rfl, Nat.le_refl _⟩
  | cons x r ih =>
    show (if x = 0 then 0 else 1) + nOp r + ((if x = 0 then 1 else 0) + nPa r) = r.length + 1 ∧ (if 3 ≤ x then 1 else 0) + nBi r ≤ (if x = 0 then 0 else 1) + nOp r
    by_cases h : x = 0
    · rw [if_pos h, if_pos h, if_neg (by omega)]
      omega
    · rw [if_neg h, if_neg h]
      by_cases h3 : 3 ≤ x
      · rw [if_pos h3]
        omega
      · rw [if_neg h3]
        omega
theorem Wr_fr {U T U' T' : Nat → Nat → Int32} (S : List Nat) (h : Wr S U T) (hf : ∀ j, j < S.length → U' 37 j = U 37 j ∧ T' 100 j = T 100 j) : Wr S U' T' := by
  induction S with
  | nil => exact trivial
  | cons x r ih =>
    obtain ⟨h1, h2, h3, h4⟩ := h
    have z := hf r.length (Nat.lt_succ_self _)
    exact ⟨h1, by rw [z.1]; exact h2, by rw [z.2]; exact h3, ih h4 (fun j hj => hf j (Nat.lt_succ_of_lt hj))⟩
theorem Hr_fr {T T' : Nat → Nat → Int32} (S : List Nat) (h : Hr S T) (hf : ∀ j, j < S.length → T' 101 j = T 101 j) : Hr S T' := by
  induction S with
  | nil => exact trivial
  | cons x r ih =>
    obtain ⟨h1, h2⟩ := h
    exact ⟨by rw [hf r.length (Nat.lt_succ_self _)]; exact h1, ih h2 (fun j hj => hf j (Nat.lt_succ_of_lt hj))⟩
theorem rk_le (x : Nat) : rk x ≤ 6 := by
  unfold rk
  split
  · omega
  · split
    · omega
    · split
      · omega
      · split
        · omega
        · split
          · omega
          · split <;> omega
def LgP (e p K : Nat) (L : List Nat) (U T : Nat → Nat → Int32) : Prop := p ≤ K ∧ ∃ st : Nat → List Nat, st p = [] ∧ st K = L ∧ ∀ i, p ≤ i → i < K → Nd (U (e + 14) i) (U (e + 15) i) (T 96 (64 + i)) (T 98 (64 + i)) (T 99 (64 + i)) i (st i) (st (i + 1))
theorem LgP_fr {e p K : Nat} {L : List Nat} {U T U' T' : Nat → Nat → Int32} (h : LgP e p K L U T) (hU : ∀ i, i < K → U' (e + 14) i = U (e + 14) i ∧ U' (e + 15) i = U (e + 15) i) (hT : ∀ i, i < K → T' 96 (64 + i) = T 96 (64 + i) ∧ T' 98 (64 + i) = T 98 (64 + i) ∧ T' 99 (64 + i) = T 99 (64 + i)) : LgP e p K L U' T' := by
  obtain ⟨h1, st, h2, h3, h4⟩ := h
  refine ⟨h1, st, h2, h3, fun i hi hK => ?_⟩
  rw [(hU i hK).1, (hU i hK).2, (hT i hK).1, (hT i hK).2.1, (hT i hK).2.2]
  exact h4 i hi hK
theorem LgP_add {e p K : Nat} {L L' : List Nat} {U T U' T' : Nat → Nat → Int32} (h : LgP e p K L U T) (hU : ∀ i, i < K → U' (e + 14) i = U (e + 14) i ∧ U' (e + 15) i = U (e + 15) i) (hT : ∀ i, i < K → T' 96 (64 + i) = T 96 (64 + i) ∧ T' 98 (64 + i) = T 98 (64 + i) ∧ T' 99 (64 + i) = T 99 (64 + i)) (hN : Nd (U' (e + 14) K) (U' (e + 15) K) (T' 96 (64 + K)) (T' 98 (64 + K)) (T' 99 (64 + K)) K L L') : LgP e p (K + 1) L' U' T' := by
  obtain ⟨h1, st, h2, h3, h4⟩ := LgP_fr h hU hT
  refine ⟨by omega, fun i => if i ≤ K then st i else L', ?_, ?_, fun i hi hK => ?_⟩
  · show (if p ≤ K then st p else L') = []
    rw [if_pos h1]
    exact h2
  · show (if K + 1 ≤ K then st (K + 1) else L') = L'
    rw [if_neg (by omega)]
  · show Nd _ _ _ _ _ i (if i ≤ K then st i else L') (if i + 1 ≤ K then st (i + 1) else L')
    by_cases q : i = K
    · rw [q, if_pos (Nat.le_refl K), if_neg (by omega), h3]
      exact hN
    · rw [if_pos (by omega), if_pos (by omega)]
      exact h4 i hi (by omega)
def Lg (e w p c K : Nat) (S L : List Nat) (u t : wSt) : Prop :=
  TrK c K e u.1 t.1 ∧ (w < 3 ∧ u.1 36 5 = nI w) ∧ (u.1 36 8 = nI S.length ∧ t.1 79 40 = nI S.length ∧ Wr S u.1 t.1) ∧
  (t.1 79 41 = nI L.length ∧ Hr L t.1) ∧ (K + nOp S = c ∧ c ≤ 64) ∧ (u.1 36 7 = nI (nPa S) ∧ t.1 79 42 = nI (nPa S) ∧ nPa S ≤ 8) ∧
  LgP e p K L u.1 t.1 ∧ (u.1 (e + 11) w = 1 ∧ t.1 93 (3 + w) = 1 ∧ u.1 (e + 12) w = nI p ∧ u.1 (e + 13) w = nI K ∧ t.1 94 (3 + w) = nI p)
theorem Lg_len {e w p c K : Nat} {S L : List Nat} {u t : wSt} (h : Lg e w p c K S L u t) : S.length ≤ 72 ∧ nBi S ≤ 64 ∧ K ≤ 64 := by
  obtain ⟨-, -, -, -, ⟨h1, h2⟩, ⟨-, -, h3⟩, -⟩ := h
  have := n_len S
  omega
section
variable {e w p c K m : Nat} {S L : List Nat} {u t u' t' : wSt} {x y : Int32}
theorem rank_t {x : Nat} (h : x < 15) : F_X9_rank (nI x) t = some (nI (rk x)) := by
  have : ∀ x : Fin 15, F_X9_rank (nI x.1) r9 = some (nI (rk x.1)) := by decide +kernel
  exact this ⟨x, h⟩
theorem bind_o {x : Nat} (h : okS x) : F_X2_bindingOf (nI (kc x)) u = some (nI (rk x)) := by
  have : ∀ x : Fin 15, (x.1 = 0 ∨ x.1 = 2 ∨ 3 ≤ x.1) → F_X2_bindingOf (nI (kc x.1)) r9 = some (nI (rk x.1)) := by decide +kernel
  unfold okS at h
  exact this ⟨x, by omega⟩ (by dsimp only; omega)
/-- of any sign -/
theorem bind_a : ∃ q : Nat, q ≤ 6 ∧ F_X2_bindingOf x u = some (nI q) := by
  unfold F_X2_bindingOf
  split
  · exact ⟨1, by omega, rfl⟩
  · split
    · exact ⟨2, by omega, rfl⟩
    · split
      · exact ⟨3, by omega, rfl⟩
      · split
        · exact ⟨4, by omega, rfl⟩
        · split
          · exact ⟨5, by omega, rfl⟩
          · split
            · exact ⟨6, by omega, rfl⟩
            · exact ⟨0, by omega, rfl⟩
theorem lw_c {T : Nat → Nat → Int32} (hp : PL u.2.2) (h8 : u.1 36 8 = nI S.length) (hl : S.length ≤ 72) (hW : Wr S u.1 T) : F_X2_lastWaiting 36 u = some (nI (kc (S.headD 0))) := by
  have r9' : u.2.2 36 9 = 38 := by simp only [PL_u hp]
  unfold F_X2_lastWaiting
  rw [h8]
  cases S with
  | nil => exact if_pos (by decide)
  | cons x r =>
    have hl' : r.length + 1 ≤ 72 := hl
    have e0 : (nI (r.length + 1) ≤ (0 : Int32)) = (r.length + 1 ≤ 0) := nI_leE (a := r.length + 1) (b := 0) (by omega) (by omega)
    have eh : (Int32.ofNat (w_sh 37).2 < nI (r.length + 1)) = (72 < r.length + 1) := nI_ltE (a := 72) (b := r.length + 1) (by omega) (by omega)
    have es : nI (r.length + 1) - (1 : Int32) = nI r.length := nI_sub (a := r.length + 1) (b := 1) (by omega)
    rw [List.length_cons, if_neg (fun z => absurd (e0.mp z) (by omega)), r9', wR_37, if_neg (fun z => absurd (eh.mp z) (by omega)), wR_37, es, wN_37 _ (by omega), hW.2.1]
    rfl
/-- any signs that wait -/
theorem lw_a (hp : PL u.2.2) (h8 : u.1 36 8 = nI m) (hl : m ≤ 72) : ∃ x, F_X2_lastWaiting 36 u = some x := by
  have r9' : u.2.2 36 9 = 38 := by simp only [PL_u hp]
  have e0 : (nI m ≤ (0 : Int32)) = (m ≤ 0) := nI_leE (a := m) (b := 0) (by omega) (by omega)
  have eh : (Int32.ofNat (w_sh 37).2 < nI m) = (72 < m) := nI_ltE (a := 72) (b := m) (by omega) (by omega)
  unfold F_X2_lastWaiting
  rw [h8]
  by_cases q : m ≤ 0
  · rw [if_pos (e0.mpr (by exact q))]
    exact ⟨_, rfl⟩
  · have es : nI m - (1 : Int32) = nI (m - 1) := nI_sub (a := m) (b := 1) (by omega)
    rw [if_neg (fun z => absurd (e0.mp z) (by exact q)), r9', wR_37, if_neg (fun z => absurd (eh.mp z) (by omega)), wR_37, es, wN_37 _ (by omega)]
    exact ⟨_, rfl⟩
theorem aw_c (hp : PL u.2.2) (h8 : u.1 36 8 = nI m) (hm : m < 72) : F_X2_await 36 x u = some ((), w_sI (w_sI u 37 m x) 36 8 (nI (m + 1))) := by
  have r9' : u.2.2 36 9 = 38 := by simp only [PL_u hp]
  have eh : (Int32.ofNat (w_sh 37).2 ≤ nI m) = (72 ≤ m) := nI_leE (a := 72) (b := m) (by omega) (by omega)
  unfold F_X2_await
  rw [r9', wR_37, h8, if_neg (fun z => absurd (eh.mp z) (by omega)), wR_37, wSI_eq, wN_37 _ hm, wB_eq, sI_ne _ _ _ _ _ _ (by decide), h8, nI_addL]
theorem aw_a (hp : PL u.2.2) (h8 : u.1 36 8 = nI m) (hm : m ≤ 72) : ∃ u', F_X2_await 36 x u = some ((), u') ∧ u'.2 = u.2 ∧ (∀ c j, ¬ (c = 36 ∧ j = 8) → c ≠ 37 → u'.1 c j = u.1 c j) ∧ ∃ m' : Nat, m' ≤ 72 ∧ u'.1 36 8 = nI m' := by
  have r9' : u.2.2 36 9 = 38 := by simp only [PL_u hp]
  by_cases q : m < 72
  · refine ⟨_, aw_c hp h8 q, rfl, fun c j h1 h2 => ?_, m + 1, by omega, sI_eq _ _ _ _⟩
    rw [show ∀ (v : wSt) (x : Int32), (w_sI v 36 8 x).1 c j = v.1 c j from fun _ _ => if_neg h1]
    exact sI_ne _ _ _ _ _ _ h2
  · have eh : (Int32.ofNat (w_sh 37).2 ≤ nI m) = (72 ≤ m) := nI_leE (a := 72) (b := m) (by omega) (by omega)
    refine ⟨u, ?_, rfl, fun _ _ _ _ => rfl, m, hm, h8⟩
    unfold F_X2_await
    rw [r9', wR_37, h8, if_pos (eh.mpr (by omega))]
theorem cnt_c (h6 : u.1 36 6 = nI c) (hc : c < 64) : F_X2_countKnot 36 u = some ((), w_sI u 36 6 (nI (c + 1))) := by
  have e : (nI c < (64 : Int32)) = (c < 64) := nI_ltE (a := c) (b := 64) (by omega) (by omega)
  unfold F_X2_countKnot
  rw [h6, if_pos (e.mpr (by exact hc)), wB_eq, nI_addL]
theorem cnt_x (hp : PL u.2.2) (h6 : u.1 36 6 = 64) (h0 : u.1 36 0 = 0) : F_X2_countKnot 36 u = some ((), bl u 2) := by
  unfold F_X2_countKnot
  rw [h6, if_neg (by decide), blame_c hp h0, wC_s]
theorem cnt_a (h6 : u.1 36 6 = nI c) (hc : c ≤ 64) (h0 : u.1 36 0 ≠ 0) : ∃ u', F_X2_countKnot 36 u = some ((), u') ∧ u'.2 = u.2 ∧ (∀ c j, ¬ (c = 36 ∧ j = 6) → u'.1 c j = u.1 c j) := by
  by_cases q : c < 64
  · exact ⟨_, cnt_c h6 q, rfl, fun c j h => if_neg h⟩
  · refine ⟨u, ?_, rfl, fun _ _ _ => rfl⟩
    have e : (nI c < (64 : Int32)) = (c < 64) := nI_ltE (a := c) (b := 64) (by omega) (by omega)
    unfold F_X2_countKnot
    rw [h6, if_neg (fun z => absurd (e.mp z) (by exact q)), blame_b h0, wC_s]
theorem isc_t (h43 : t.1 79 43 = nI c) (hc : c < 64) : F_X9_isCounted 79 t = some ((1 : Int32), w_sI t 79 43 (nI (c + 1))) := by
  have e : (nI c = (64 : Int32)) = (c = 64) := nI_eqI (a := c) (b := 64) (by omega) (by omega)
  unfold F_X9_isCounted
  rw [h43, if_neg (fun z => absurd (e.mp z) (by omega)), wB_eq, nI_addL]
theorem isc_x (h43 : t.1 79 43 = 64) : F_X9_isCounted 79 t = some ((0 : Int32), wr t 2) := by
  unfold F_X9_isCounted
  rw [h43, if_pos rfl, wrong_g]
theorem wait_t (hm : PM t.2.2) (h40 : t.1 79 40 = nI m) (h : m < 96) : F_X9_waitsFor 79 x t = some ((), w_sI (w_sI t 100 m x) 79 40 (nI (m + 1))) := by
  have q38 : t.2.2 79 38 = 101 := by simp only [PM_u hm]
  unfold F_X9_waitsFor
  rw [q38, wR_100, h40, wSI_eq, wN_100 _ h, wB_eq, sI_ne _ _ _ _ _ _ (by decide), h40, nI_addL]
theorem drop_t (hm : PM t.2.2) (h41 : t.1 79 41 = nI (m + 1)) (h : m < 96) : F_X9_dropHeld 79 t = some (t.1 101 m, w_sI t 79 41 (nI m)) := by
  have q39 : t.2.2 79 39 = 102 := by simp only [PM_u hm]
  have es : nI (m + 1) - (1 : Int32) = nI m := nI_sub (a := m + 1) (b := 1) (by omega)
  unfold F_X9_dropHeld
  rw [h41, es, wB_eq, sI_r, q39, wR_101, sI_eq, wN_101 _ h, sI_ne _ _ _ _ _ _ (by decide)]
def ad (u : wSt) (e w K : Nat) (X Y : Int32) : wSt := w_sI (w_sI (w_sI (w_sI u (e + 14) K X) (e + 15) K Y) (e + 10) 0 (nI (K + 1))) (e + 13) w (nI (K + 1))
theorem ad_n {X Y : Int32} {a j : Nat} (h : ¬ ((a = e + 14 ∨ a = e + 15) ∧ j = K)) (h2 : ¬ (a = e + 10 ∧ j = 0)) (h3 : ¬ (a = e + 13 ∧ j = w)) : (ad u e w K X Y).1 a j = u.1 a j := by
  unfold ad
  rw [show ∀ (v : wSt) (x : Int32), (w_sI v (e + 13) w x).1 a j = v.1 a j from fun _ _ => if_neg h3, show ∀ (v : wSt) (x : Int32), (w_sI v (e + 10) 0 x).1 a j = v.1 a j from fun _ _ => if_neg h2, show ∀ (v : wSt) (x : Int32), (w_sI v (e + 15) K x).1 a j = v.1 a j from fun _ _ => if_neg (by omega)]
  exact if_neg (by omega)
theorem ad_v {X Y : Int32} : (ad u e w K X Y).1 (e + 14) K = X ∧ (ad u e w K X Y).1 (e + 15) K = Y ∧ (ad u e w K X Y).1 (e + 10) 0 = nI (K + 1) ∧ (ad u e w K X Y).1 (e + 13) w = nI (K + 1) := by
  unfold ad
  refine ⟨?_, ?_, ?_, sI_eq _ _ _ _⟩
  · rw [sI_ne _ _ _ _ _ _ (by omega), sI_ne _ _ _ _ _ _ (by omega), sI_ne _ _ _ _ _ _ (by omega), sI_eq]
  · rw [sI_ne _ _ _ _ _ _ (by omega), sI_ne _ _ _ _ _ _ (by omega), sI_eq]
  · rw [sI_ne _ _ _ _ _ _ (by omega), sI_eq]
theorem add_c {X Y : Int32} (hp : PL u.2.2) (hd : TC e) (h0 : u.1 (e + 10) 0 = nI K) (hK : K < 64) (hw : w < 3) : F_X1_add (e + 10) (nI w) X Y u = some ((), ad u e w K X Y) := by
  obtain ⟨-, -, -, -, -, -, -, -, -, -, -, -, pl3, pl4, pl5, -⟩ := PL_d hp hd
  have e64 : ((64 : Int32) ≤ nI K) = (64 ≤ K) := nI_leE (a := 64) (b := K) (by omega) (by omega)
  unfold F_X1_add ad
  rw [h0, if_neg (fun z => absurd (e64.mp z) (by omega)), pl4, wR_d14 _ hd, wSI_eq, wN_d14 _ hd hK, sI_r, pl5, wR_d15 _ hd, sI_ne _ _ _ _ _ _ (by omega), h0, wSI_eq, wN_d15 _ hd hK, wB_eq, sI_ne _ _ _ _ _ _ (by omega), sI_ne _ _ _ _ _ _ (by omega), h0, nI_addL, sI_r, sI_r, sI_r, pl3, wR_d13 _ hd, sI_eq, wSI_eq, wN_d13 _ hd hw]
theorem add_a {X Y : Int32} (hp : PL u.2.2) (hd : TC e) (h0 : u.1 (e + 10) 0 = nI K) (hK : K ≤ 64) (hw : w < 3) (hq : p ≤ K) : ∃ u', F_X1_add (e + 10) (nI w) X Y u = some ((), u') ∧ u'.2 = u.2 ∧ (∀ c j, ¬ (c = e + 10 ∧ j = 0) → ¬ (c = e + 13 ∧ j = w) → ¬ ((c = e + 14 ∨ c = e + 15) ∧ p ≤ j) → u'.1 c j = u.1 c j) ∧ ∃ K' : Nat, p ≤ K' ∧ K' ≤ 64 ∧ u'.1 (e + 10) 0 = nI K' := by
  by_cases q : K < 64
  · exact ⟨_, add_c hp hd h0 q hw, rfl, fun c j h1 h2 h3 => ad_n (by omega) h1 h2, K + 1, by omega, by omega, ad_v.2.2.1⟩
  · have e64 : ((64 : Int32) ≤ nI K) = (64 ≤ K) := nI_leE (a := 64) (b := K) (by omega) (by omega)
    refine ⟨u, ?_, rfl, fun _ _ _ _ _ => rfl, K, hq, hK, h0⟩
    unfold F_X1_add
    rw [h0, if_pos (e64.mpr (by omega))]
def gw (t : wSt) (K h : Nat) (A B C : Int32) : wSt := w_sI (w_sI (w_sI (w_sI (w_sI (w_sI t 96 (64 + K) A) 98 (64 + K) B) 99 (64 + K) C) 101 h (nI K)) 79 41 (nI (h + 1))) 79 19 (nI (K + 1))
theorem gw_n {A B C : Int32} {a j h : Nat} (h1 : ¬ ((a = 96 ∨ a = 98 ∨ a = 99) ∧ j = 64 + K)) (h2 : ¬ (a = 101 ∧ j = h)) (h3 : ¬ (a = 79 ∧ (j = 19 ∨ j = 41))) : (gw t K h A B C).1 a j = t.1 a j := by
  unfold gw
  rw [show ∀ (v : wSt) (x : Int32), (w_sI v 79 19 x).1 a j = v.1 a j from fun _ _ => if_neg (by omega), show ∀ (v : wSt) (x : Int32), (w_sI v 79 41 x).1 a j = v.1 a j from fun _ _ => if_neg (by omega), show ∀ (v : wSt) (x : Int32), (w_sI v 101 h x).1 a j = v.1 a j from fun _ _ => if_neg h2, show ∀ (v : wSt) (x : Int32), (w_sI v 99 (64 + K) x).1 a j = v.1 a j from fun _ _ => if_neg (by omega), show ∀ (v : wSt) (x : Int32), (w_sI v 98 (64 + K) x).1 a j = v.1 a j from fun _ _ => if_neg (by omega)]
  exact if_neg (by omega)
theorem gw_v {A B C : Int32} {h : Nat} : (gw t K h A B C).1 96 (64 + K) = A ∧ (gw t K h A B C).1 98 (64 + K) = B ∧ (gw t K h A B C).1 99 (64 + K) = C ∧ (gw t K h A B C).1 101 h = nI K ∧ (gw t K h A B C).1 79 41 = nI (h + 1) ∧ (gw t K h A B C).1 79 19 = nI (K + 1) := by
  unfold gw
  refine ⟨?_, ?_, ?_, ?_, ?_, sI_eq _ _ _ _⟩
  · rw [sI_ne _ _ _ _ _ _ (by omega), sI_ne _ _ _ _ _ _ (by omega), sI_ne _ _ _ _ _ _ (by omega), sI_ne _ _ _ _ _ _ (by omega), sI_ne _ _ _ _ _ _ (by omega), sI_eq]
  · rw [sI_ne _ _ _ _ _ _ (by omega), sI_ne _ _ _ _ _ _ (by omega), sI_ne _ _ _ _ _ _ (by omega), sI_ne _ _ _ _ _ _ (by omega), sI_eq]
  · rw [sI_ne _ _ _ _ _ _ (by omega), sI_ne _ _ _ _ _ _ (by omega), sI_ne _ _ _ _ _ _ (by omega), sI_eq]
  · rw [sI_ne _ _ _ _ _ _ (by omega), sI_ne _ _ _ _ _ _ (by omega), sI_eq]
  · rw [sI_ne2 _ _ _ _ _ _ (by omega), sI_eq]
theorem grown_t {A B C : Int32} {h : Nat} (hm : PM t.2.2) (h19 : t.1 79 19 = nI K) (hK : K < 64) (h41 : t.1 79 41 = nI h) (hh : h < 96) : F_X9_grown 79 A B C t = some ((), gw t K h A B C) := by
  have q34 : t.2.2 79 34 = 97 := by simp only [PM_u hm]
  have q36 : t.2.2 79 36 = 99 := by simp only [PM_u hm]
  have q37 : t.2.2 79 37 = 100 := by simp only [PM_u hm]
  have q39 : t.2.2 79 39 = 102 := by simp only [PM_u hm]
  obtain ⟨t1, e1⟩ : ∃ t1, t1 = w_sI t 96 (64 + K) A := ⟨_, rfl⟩
  have z1 : t1.2 = t.2 := by rw [e1]; rfl
  have a1 : t1.1 79 19 = nI K := by rw [e1, sI_ne _ _ _ _ _ _ (by decide)]; exact h19
  have b1 : t1.1 79 41 = nI h := by rw [e1, sI_ne _ _ _ _ _ _ (by decide)]; exact h41
  obtain ⟨t2, e2⟩ : ∃ t2, t2 = w_sI t1 98 (64 + K) B := ⟨_, rfl⟩
  have z2 : t2.2 = t.2 := by rw [e2]; exact z1
  have a2 : t2.1 79 19 = nI K := by rw [e2, sI_ne _ _ _ _ _ _ (by decide)]; exact a1
  have b2 : t2.1 79 41 = nI h := by rw [e2, sI_ne _ _ _ _ _ _ (by decide)]; exact b1
  obtain ⟨t3, e3⟩ : ∃ t3, t3 = w_sI t2 99 (64 + K) C := ⟨_, rfl⟩
  have z3 : t3.2 = t.2 := by rw [e3]; exact z2
  have a3 : t3.1 79 19 = nI K := by rw [e3, sI_ne _ _ _ _ _ _ (by decide)]; exact a2
  have b3 : t3.1 79 41 = nI h := by rw [e3, sI_ne _ _ _ _ _ _ (by decide)]; exact b2
  obtain ⟨t4, e4⟩ : ∃ t4, t4 = w_sI t3 101 h (nI K) := ⟨_, rfl⟩
  have a4 : t4.1 79 19 = nI K := by rw [e4, sI_ne _ _ _ _ _ _ (by decide)]; exact a3
  have b4 : t4.1 79 41 = nI h := by rw [e4, sI_ne _ _ _ _ _ _ (by decide)]; exact b3
  unfold F_X9_grown
  rw [q34, wR_96, h19, nI_Ladd, wSI_eq, wN_96 _ (by omega), ← e1, z1, q36, wR_98, a1, nI_Ladd, wSI_eq, wN_98 _ (by omega), ← e2, z2, q37, wR_99, a2, nI_Ladd, wSI_eq, wN_99 _ (by omega), ← e3, z3, q39, wR_101, b3, a3, wSI_eq, wN_101 _ hh, ← e4, b4, wB_eq, nI_addL, wB_eq, sI_ne2 _ _ _ _ _ _ (by decide), a4, nI_addL, e4, e3, e2, e1]
  rfl
end

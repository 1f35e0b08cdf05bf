/-! the law's loop -/
def MT : Prop := ∀ {n m k d : Nat} {u t : wSt} {x : Int32}, GR n m k d u t → Q1 u t (F_X8_table 0 x u) (F_X9_table 79 x t)
def MX : Prop := ∀ {n m k d : Nat} {u t : wSt} {x : Int32}, GR n m k d u t → QM (F_X8_text 0 x u) (F_X9_text 79 x t)
def LQ (p : Nat) (o : Option ((Int32 × wSt × wSt × Int64) ⊕ Int32)) : Prop := ∃ (u t : wSt) (v : Int64), o = some (.inl (nI p + (6 : Int32), u, t, v)) ∧ ∃ n m k d, GR n m k d u t
theorem lgc_r (x : Int64) : lg_cmp x x = 0 := by
  unfold lg_cmp
  rw [if_neg (Int64.lt_irrefl), if_pos rfl]
theorem wC3_s {β : Type} (e r : Int32) (u : wSt) (K : Int32 → Int32 → wSt → Option β) : wC3 (some (e, r, u)) K = K e r u := rfl
theorem wX_n {β : Type} {L p c : Nat} (hL : L ≤ 3072) (h : p + c < L) (K : Nat → Option β) : wX (nI p + nI c) L K = K (p + c) := by
  unfold wX
  have e : (nI (p + c)).toNatClampNeg = p + c := nI_clamp (by omega)
  rw [nI_add, e, if_pos ⟨by have := nI_leE (a := 0) (b := p + c) (by omega) (by omega); exact this.mpr (by omega), h⟩]
theorem lq0 {n m k d p : Nat} {u t : wSt} {v : Int64} {α : Type} {o : Option α} {o' : Option (α × wSt)} {K : α → α → wSt → Option ((Int32 × wSt × wSt × Int64) ⊕ Int32)} (h : GR n m k d u t) (q : Q0 t o o') (hK : ∀ r t', K r r t' = some (.inl (nI p + (6 : Int32), u, t', v))) : LQ p (wP o (fun r => wC o' (fun r' t' => K r r' t'))) := by
  obtain ⟨r, t', e1, e2, g⟩ := q
  rw [e1, wP_s, e2, wC_s, hK]
  exact ⟨u, t', v, rfl, n, m, k, d, GR_fr h (KC_rf u) g⟩
theorem lq1 {n m k d p : Nat} {u t : wSt} {v : Int64} {α : Type} {o o' : Option (α × wSt)} {K : α → wSt → α → wSt → Option ((Int32 × wSt × wSt × Int64) ⊕ Int32)} (h : GR n m k d u t) (q : Q1 u t o o') (hK : ∀ r u' t', K r u' r t' = some (.inl (nI p + (6 : Int32), u', t', v))) : LQ p (wC o (fun r u' => wC o' (fun r' t' => K r u' r' t'))) := by
  obtain ⟨r, u', t', e1, e2, g1, g2⟩ := q
  rw [e1, wC_s, e2, wC_s, hK]
  exact ⟨u', t', v, rfl, n, m, k, d, GR_fr h g1 g2⟩
theorem lqM {p : Nat} {v : Int64} {α : Type} {o o' : Option (α × wSt)} {K : α → wSt → α → wSt → Option ((Int32 × wSt × wSt × Int64) ⊕ Int32)} (q : QM o o') (hK : ∀ r u' t', K r u' r t' = some (.inl (nI p + (6 : Int32), u', t', v))) : LQ p (wC o (fun r u' => wC o' (fun r' t' => K r u' r' t'))) := by
  obtain ⟨r, u', t', e1, e2, g⟩ := q
  rw [e1, wC_s, e2, wC_s, hK]
  exact ⟨u', t', v, rfl, g⟩
section
variable {n m k d p L : Nat} {u t : wSt} {v : Int64} {xs : Nat → Int32}

theorem lc_0 (h : GR n m k d u t) (hL : L ≤ 3072) (hp : p + 6 ≤ L) : LQ p (F_law_c0 L xs (nI p) u t v) := by
  have x1 : ∀ {β : Type} (K : Nat → Option β), wX (nI p + (1 : Int32)) L K = K (p + 1) := fun {β} K => wX_n (c := 1) hL (by omega) K
  have x2 : ∀ {β : Type} (K : Nat → Option β), wX (nI p + (2 : Int32)) L K = K (p + 2) := fun {β} K => wX_n (c := 2) hL (by omega) K
  have x3 : ∀ {β : Type} (K : Nat → Option β), wX (nI p + (3 : Int32)) L K = K (p + 3) := fun {β} K => wX_n (c := 3) hL (by omega) K
  have x4 : ∀ {β : Type} (K : Nat → Option β), wX (nI p + (4 : Int32)) L K = K (p + 4) := fun {β} K => wX_n (c := 4) hL (by omega) K
  have x5 : ∀ {β : Type} (K : Nat → Option β), wX (nI p + (5 : Int32)) L K = K (p + 5) := fun {β} K => wX_n (c := 5) hL (by omega) K
  unfold F_law_c0
  simp only [x1, x2, x3, x4, x5]
  exact lqM (M_feed h) (fun r u' t' => if_pos rfl)
theorem lc_1 (hX : MX) (h : GR n m k d u t) (hL : L ≤ 3072) (hp : p + 6 ≤ L) : LQ p (F_law_c1 L xs (nI p) u t v) := by
  have x1 : ∀ {β : Type} (K : Nat → Option β), wX (nI p + (1 : Int32)) L K = K (p + 1) := fun {β} K => wX_n (c := 1) hL (by omega) K
  unfold F_law_c1
  simp only [x1]
  exact lqM (hX h) (fun r u' t' => if_pos rfl)
theorem lc_2 (h : GR n m k d u t) (hL : L ≤ 3072) (hp : p + 6 ≤ L) : LQ p (F_law_c2 L xs (nI p) u t v) := by
  have x1 : ∀ {β : Type} (K : Nat → Option β), wX (nI p + (1 : Int32)) L K = K (p + 1) := fun {β} K => wX_n (c := 1) hL (by omega) K
  unfold F_law_c2
  simp only [x1]
  exact lq0 h (M_fault h) (fun r t' => if_pos rfl)
theorem lc_3 (h : GR n m k d u t) (hL : L ≤ 3072) (hp : p + 6 ≤ L) : LQ p (F_law_c3 L xs (nI p) u t v) := by
  have x1 : ∀ {β : Type} (K : Nat → Option β), wX (nI p + (1 : Int32)) L K = K (p + 1) := fun {β} K => wX_n (c := 1) hL (by omega) K
  have x2 : ∀ {β : Type} (K : Nat → Option β), wX (nI p + (2 : Int32)) L K = K (p + 2) := fun {β} K => wX_n (c := 2) hL (by omega) K
  unfold F_law_c3
  simp only [x1, x2]
  exact lq0 h (M_named h) (fun r t' => if_pos rfl)
theorem lc_4 (h : GR n m k d u t) (hL : L ≤ 3072) (hp : p + 6 ≤ L) : LQ p (F_law_c4 L xs (nI p) u t v) := by
  have x1 : ∀ {β : Type} (K : Nat → Option β), wX (nI p + (1 : Int32)) L K = K (p + 1) := fun {β} K => wX_n (c := 1) hL (by omega) K
  have x2 : ∀ {β : Type} (K : Nat → Option β), wX (nI p + (2 : Int32)) L K = K (p + 2) := fun {β} K => wX_n (c := 2) hL (by omega) K
  unfold F_law_c4
  simp only [x1, x2]
  obtain ⟨e, r, r', u', t', e1, e2, e3, e4, g1, g2⟩ := M_guest (x := xs (p + 1)) (y := xs (p + 2)) h
  have g : ∃ n m k d, GR n m k d u' t' := ⟨n, m, k, d, GR_fr h g1 g2⟩
  unfold F_X9_thrown
  rw [e1, wC3_s, wB_eq, e2, wC_s, wP_s, e3, if_pos rfl]
  by_cases z : e = 0
  · rw [if_pos z, if_pos z, e4 z, if_pos (lgc_r _)]
    exact ⟨u', t', _, rfl, g⟩
  · rw [if_neg z]
    exact ⟨u', t', _, rfl, g⟩
theorem lc_5 (h : GR n m k d u t) (hL : L ≤ 3072) (hp : p + 6 ≤ L) : LQ p (F_law_c5 L xs (nI p) u t v) := by
  have x1 : ∀ {β : Type} (K : Nat → Option β), wX (nI p + (1 : Int32)) L K = K (p + 1) := fun {β} K => wX_n (c := 1) hL (by omega) K
  have x2 : ∀ {β : Type} (K : Nat → Option β), wX (nI p + (2 : Int32)) L K = K (p + 2) := fun {β} K => wX_n (c := 2) hL (by omega) K
  unfold F_law_c5
  simp only [x1, x2]
  exact lq0 h (M_fruit h) (fun r t' => if_pos rfl)
theorem lc_6 (h : GR n m k d u t) (hL : L ≤ 3072) (hp : p + 6 ≤ L) : LQ p (F_law_c6 L xs (nI p) u t v) := by
  have x1 : ∀ {β : Type} (K : Nat → Option β), wX (nI p + (1 : Int32)) L K = K (p + 1) := fun {β} K => wX_n (c := 1) hL (by omega) K
  have x2 : ∀ {β : Type} (K : Nat → Option β), wX (nI p + (2 : Int32)) L K = K (p + 2) := fun {β} K => wX_n (c := 2) hL (by omega) K
  have x3 : ∀ {β : Type} (K : Nat → Option β), wX (nI p + (3 : Int32)) L K = K (p + 3) := fun {β} K => wX_n (c := 3) hL (by omega) K
  unfold F_law_c6
  simp only [x1, x2, x3]
  exact lq1 h (M_law h) (fun r u' t' => if_pos (lgc_r r))
theorem lc_7 (h : GR n m k d u t) (hL : L ≤ 3072) (hp : p + 6 ≤ L) : LQ p (F_law_c7 L xs (nI p) u t v) := by
  have x1 : ∀ {β : Type} (K : Nat → Option β), wX (nI p + (1 : Int32)) L K = K (p + 1) := fun {β} K => wX_n (c := 1) hL (by omega) K
  have x2 : ∀ {β : Type} (K : Nat → Option β), wX (nI p + (2 : Int32)) L K = K (p + 2) := fun {β} K => wX_n (c := 2) hL (by omega) K
  unfold F_law_c7
  simp only [x1, x2]
  exact lqM (M_seat h) (fun r u' t' => if_pos rfl)
theorem lc_8 (h : GR n m k d u t) (hL : L ≤ 3072) (hp : p + 6 ≤ L) : LQ p (F_law_c8 L xs (nI p) u t v) := by
  have x1 : ∀ {β : Type} (K : Nat → Option β), wX (nI p + (1 : Int32)) L K = K (p + 1) := fun {β} K => wX_n (c := 1) hL (by omega) K
  have x2 : ∀ {β : Type} (K : Nat → Option β), wX (nI p + (2 : Int32)) L K = K (p + 2) := fun {β} K => wX_n (c := 2) hL (by omega) K
  unfold F_law_c8
  simp only [x1, x2]
  exact lqM (M_bread h) (fun r u' t' => if_pos rfl)
theorem lc_9 (h : GR n m k d u t) (hL : L ≤ 3072) (hp : p + 6 ≤ L) : LQ p (F_law_c9 L xs (nI p) u t v) := by
  have x1 : ∀ {β : Type} (K : Nat → Option β), wX (nI p + (1 : Int32)) L K = K (p + 1) := fun {β} K => wX_n (c := 1) hL (by omega) K
  unfold F_law_c9
  simp only [x1]
  exact lqM (M_wake h) (fun r u' t' => if_pos rfl)
theorem lc_10 (h : GR n m k d u t) (hL : L ≤ 3072) (hp : p + 6 ≤ L) : LQ p (F_law_c10 L xs (nI p) u t v) := by
  have x1 : ∀ {β : Type} (K : Nat → Option β), wX (nI p + (1 : Int32)) L K = K (p + 1) := fun {β} K => wX_n (c := 1) hL (by omega) K
  unfold F_law_c10
  simp only [x1]
  exact lqM (M_go h) (fun r u' t' => if_pos rfl)
theorem lc_11 (h : GR n m k d u t) (hL : L ≤ 3072) (hp : p + 6 ≤ L) : LQ p (F_law_c11 L xs (nI p) u t v) := by
  have x1 : ∀ {β : Type} (K : Nat → Option β), wX (nI p + (1 : Int32)) L K = K (p + 1) := fun {β} K => wX_n (c := 1) hL (by omega) K
  have x2 : ∀ {β : Type} (K : Nat → Option β), wX (nI p + (2 : Int32)) L K = K (p + 2) := fun {β} K => wX_n (c := 2) hL (by omega) K
  have x3 : ∀ {β : Type} (K : Nat → Option β), wX (nI p + (3 : Int32)) L K = K (p + 3) := fun {β} K => wX_n (c := 3) hL (by omega) K
  unfold F_law_c11
  simp only [x1, x2, x3]
  exact lq1 h (M_ahead h) (fun r u' t' => if_pos rfl)
theorem lc_12 (h : GR n m k d u t) (hL : L ≤ 3072) (hp : p + 6 ≤ L) : LQ p (F_law_c12 L xs (nI p) u t v) := by
  have x1 : ∀ {β : Type} (K : Nat → Option β), wX (nI p + (1 : Int32)) L K = K (p + 1) := fun {β} K => wX_n (c := 1) hL (by omega) K
  unfold F_law_c12
  simp only [x1]
  exact lq1 h (M_swoon h) (fun r u' t' => if_pos rfl)
theorem lc_13 (h : GR n m k d u t) (hL : L ≤ 3072) (hp : p + 6 ≤ L) : LQ p (F_law_c13 L xs (nI p) u t v) := by
  have x1 : ∀ {β : Type} (K : Nat → Option β), wX (nI p + (1 : Int32)) L K = K (p + 1) := fun {β} K => wX_n (c := 1) hL (by omega) K
  unfold F_law_c13
  simp only [x1]
  exact lq1 h (M_nextBite h) (fun r u' t' => if_pos rfl)
theorem lc_14 (hT : MT) (h : GR n m k d u t) (hL : L ≤ 3072) (hp : p + 6 ≤ L) : LQ p (F_law_c14 L xs (nI p) u t v) := by
  have x1 : ∀ {β : Type} (K : Nat → Option β), wX (nI p + (1 : Int32)) L K = K (p + 1) := fun {β} K => wX_n (c := 1) hL (by omega) K
  unfold F_law_c14
  simp only [x1]
  exact lq1 h (hT h) (fun r u' t' => if_pos rfl)
theorem lc_15 (h : GR n m k d u t) (hL : L ≤ 3072) (hp : p + 6 ≤ L) : LQ p (F_law_c15 L xs (nI p) u t v) := by
  unfold F_law_c15
  exact lq1 h (M_hold h) (fun r u' t' => if_pos rfl)
theorem lc_16 (h : GR n m k d u t) (hL : L ≤ 3072) (hp : p + 6 ≤ L) : LQ p (F_law_c16 L xs (nI p) u t v) := by
  unfold F_law_c16
  exact lq1 h (M_calm h) (fun r u' t' => if_pos rfl)
theorem lc_17 (h : GR n m k d u t) (hL : L ≤ 3072) (hp : p + 6 ≤ L) : LQ p (F_law_c17 L xs (nI p) u t v) := by
  have x1 : ∀ {β : Type} (K : Nat → Option β), wX (nI p + (1 : Int32)) L K = K (p + 1) := fun {β} K => wX_n (c := 1) hL (by omega) K
  unfold F_law_c17
  simp only [x1]
  exact lq1 h (M_bestFed h) (fun r u' t' => if_pos rfl)
theorem lc_18 (h : GR n m k d u t) (hL : L ≤ 3072) (hp : p + 6 ≤ L) : LQ p (F_law_c18 L xs (nI p) u t v) := by
  have x1 : ∀ {β : Type} (K : Nat → Option β), wX (nI p + (1 : Int32)) L K = K (p + 1) := fun {β} K => wX_n (c := 1) hL (by omega) K
  have x2 : ∀ {β : Type} (K : Nat → Option β), wX (nI p + (2 : Int32)) L K = K (p + 2) := fun {β} K => wX_n (c := 2) hL (by omega) K
  unfold F_law_c18
  simp only [x1, x2]
  exact lq0 h (M_rests h) (fun r t' => if_pos rfl)
theorem lc_19 (h : GR n m k d u t) (hL : L ≤ 3072) (hp : p + 6 ≤ L) : LQ p (F_law_c19 L xs (nI p) u t v) := by
  have x1 : ∀ {β : Type} (K : Nat → Option β), wX (nI p + (1 : Int32)) L K = K (p + 1) := fun {β} K => wX_n (c := 1) hL (by omega) K
  have x2 : ∀ {β : Type} (K : Nat → Option β), wX (nI p + (2 : Int32)) L K = K (p + 2) := fun {β} K => wX_n (c := 2) hL (by omega) K
  have x3 : ∀ {β : Type} (K : Nat → Option β), wX (nI p + (3 : Int32)) L K = K (p + 3) := fun {β} K => wX_n (c := 3) hL (by omega) K
  unfold F_law_c19
  simp only [x1, x2, x3]
  exact lq0 h (M_rest h) (fun r t' => if_pos rfl)
theorem lc_20 (h : GR n m k d u t) (hL : L ≤ 3072) (hp : p + 6 ≤ L) : LQ p (F_law_c20 L xs (nI p) u t v) := by
  have x1 : ∀ {β : Type} (K : Nat → Option β), wX (nI p + (1 : Int32)) L K = K (p + 1) := fun {β} K => wX_n (c := 1) hL (by omega) K
  have x2 : ∀ {β : Type} (K : Nat → Option β), wX (nI p + (2 : Int32)) L K = K (p + 2) := fun {β} K => wX_n (c := 2) hL (by omega) K
  unfold F_law_c20
  simp only [x1, x2]
  exact lq0 h (M_warm h) (fun r t' => if_pos (lgc_r r))
theorem lc_21 (h : GR n m k d u t) (hL : L ≤ 3072) (hp : p + 6 ≤ L) : LQ p (F_law_c21 L xs (nI p) u t v) := by
  unfold F_law_c21
  exact lq1 h (M_bowl h) (fun r u' t' => if_pos rfl)
theorem lc_22 (h : GR n m k d u t) (hL : L ≤ 3072) (hp : p + 6 ≤ L) : LQ p (F_law_c22 L xs (nI p) u t v) := by
  unfold F_law_c22
  exact lq1 h (M_uppermost h) (fun r u' t' => if_pos rfl)
theorem lc_23 (h : GR n m k d u t) (hL : L ≤ 3072) (hp : p + 6 ≤ L) : LQ p (F_law_c23 L xs (nI p) u t v) := by
  unfold F_law_c23
  exact lq0 h (M_hungriest h) (fun r t' => if_pos rfl)
theorem lc_24 (h : GR n m k d u t) (hL : L ≤ 3072) (hp : p + 6 ≤ L) : LQ p (F_law_c24 L xs (nI p) u t v) := by
  unfold F_law_c24
  exact lq0 h (M_marked h) (fun r t' => if_pos rfl)
theorem lc_25 (h : GR n m k d u t) (hL : L ≤ 3072) (hp : p + 6 ≤ L) : LQ p (F_law_c25 L xs (nI p) u t v) := by
  have x1 : ∀ {β : Type} (K : Nat → Option β), wX (nI p + (1 : Int32)) L K = K (p + 1) := fun {β} K => wX_n (c := 1) hL (by omega) K
  have x2 : ∀ {β : Type} (K : Nat → Option β), wX (nI p + (2 : Int32)) L K = K (p + 2) := fun {β} K => wX_n (c := 2) hL (by omega) K
  unfold F_law_c25
  simp only [x1, x2]
  exact lq1 h (M_apart h) (fun r u' t' => if_pos rfl)
theorem lc_26 (h : GR n m k d u t) (hL : L ≤ 3072) (hp : p + 6 ≤ L) : LQ p (F_law_c26 L xs (nI p) u t v) := by
  have x1 : ∀ {β : Type} (K : Nat → Option β), wX (nI p + (1 : Int32)) L K = K (p + 1) := fun {β} K => wX_n (c := 1) hL (by omega) K
  unfold F_law_c26
  simp only [x1]
  exact lq1 h (M_eatenIn h) (fun r u' t' => if_pos rfl)
theorem lc_27 (h : GR n m k d u t) (hL : L ≤ 3072) (hp : p + 6 ≤ L) : LQ p (F_law_c27 L xs (nI p) u t v) := by
  have x1 : ∀ {β : Type} (K : Nat → Option β), wX (nI p + (1 : Int32)) L K = K (p + 1) := fun {β} K => wX_n (c := 1) hL (by omega) K
  have x2 : ∀ {β : Type} (K : Nat → Option β), wX (nI p + (2 : Int32)) L K = K (p + 2) := fun {β} K => wX_n (c := 2) hL (by omega) K
  unfold F_law_c27
  simp only [x1, x2]
  exact lq1 h (M_loaf h) (fun r u' t' => if_pos rfl)
theorem lc_28 (h : GR n m k d u t) (hL : L ≤ 3072) (hp : p + 6 ≤ L) : LQ p (F_law_c28 L xs (nI p) u t v) := by
  have x1 : ∀ {β : Type} (K : Nat → Option β), wX (nI p + (1 : Int32)) L K = K (p + 1) := fun {β} K => wX_n (c := 1) hL (by omega) K
  have x2 : ∀ {β : Type} (K : Nat → Option β), wX (nI p + (2 : Int32)) L K = K (p + 2) := fun {β} K => wX_n (c := 2) hL (by omega) K
  unfold F_law_c28
  simp only [x1, x2]
  exact lq1 h (M_chain h) (fun r u' t' => if_pos rfl)
theorem lc_29 (h : GR n m k d u t) (hL : L ≤ 3072) (hp : p + 6 ≤ L) : LQ p (F_law_c29 L xs (nI p) u t v) := by
  have x1 : ∀ {β : Type} (K : Nat → Option β), wX (nI p + (1 : Int32)) L K = K (p + 1) := fun {β} K => wX_n (c := 1) hL (by omega) K
  have x2 : ∀ {β : Type} (K : Nat → Option β), wX (nI p + (2 : Int32)) L K = K (p + 2) := fun {β} K => wX_n (c := 2) hL (by omega) K
  unfold F_law_c29
  simp only [x1, x2]
  exact lq1 h (M_part h) (fun r u' t' => if_pos rfl)
theorem lc_30 (h : GR n m k d u t) (hL : L ≤ 3072) (hp : p + 6 ≤ L) : LQ p (F_law_c30 L xs (nI p) u t v) := by
  unfold F_law_c30
  exact lq0 h (M_rudest h) (fun r t' => if_pos rfl)
theorem lc_31 (h : GR n m k d u t) (hL : L ≤ 3072) (hp : p + 6 ≤ L) : LQ p (F_law_c31 L xs (nI p) u t v) := by
  have x1 : ∀ {β : Type} (K : Nat → Option β), wX (nI p + (1 : Int32)) L K = K (p + 1) := fun {β} K => wX_n (c := 1) hL (by omega) K
  unfold F_law_c31
  simp only [x1]
  exact lq1 h (M_grace h) (fun r u' t' => if_pos rfl)
theorem lc_32 (h : GR n m k d u t) (hL : L ≤ 3072) (hp : p + 6 ≤ L) : LQ p (F_law_c32 L xs (nI p) u t v) := by
  unfold F_law_c32
  exact lq0 h (M_untouched h) (fun r t' => if_pos rfl)
theorem lc_33 (h : GR n m k d u t) (hL : L ≤ 3072) (hp : p + 6 ≤ L) : LQ p (F_law_c33 L xs (nI p) u t v) := by
  have x1 : ∀ {β : Type} (K : Nat → Option β), wX (nI p + (1 : Int32)) L K = K (p + 1) := fun {β} K => wX_n (c := 1) hL (by omega) K
  have x2 : ∀ {β : Type} (K : Nat → Option β), wX (nI p + (2 : Int32)) L K = K (p + 2) := fun {β} K => wX_n (c := 2) hL (by omega) K
  have x3 : ∀ {β : Type} (K : Nat → Option β), wX (nI p + (3 : Int32)) L K = K (p + 3) := fun {β} K => wX_n (c := 3) hL (by omega) K
  have x4 : ∀ {β : Type} (K : Nat → Option β), wX (nI p + (4 : Int32)) L K = K (p + 4) := fun {β} K => wX_n (c := 4) hL (by omega) K
  unfold F_law_c33
  simp only [x1, x2, x3, x4]
  exact lqM (M_see h (by unfold w_nz; by_cases z : xs (p + 4) = 0
                         · exact Or.inl (if_pos z)
                         · exact Or.inr (if_neg z))) (fun r u' t' => if_pos rfl)
theorem lc_34 (h : GR n m k d u t) (hL : L ≤ 3072) (hp : p + 6 ≤ L) : LQ p (F_law_c34 L xs (nI p) u t v) := by
  have x1 : ∀ {β : Type} (K : Nat → Option β), wX (nI p + (1 : Int32)) L K = K (p + 1) := fun {β} K => wX_n (c := 1) hL (by omega) K
  unfold F_law_c34
  simp only [x1]
  exact lqM (M_strike h) (fun r u' t' => if_pos rfl)
theorem lc_35 (h : GR n m k d u t) (hL : L ≤ 3072) (hp : p + 6 ≤ L) : LQ p (F_law_c35 L xs (nI p) u t v) := by
  have x1 : ∀ {β : Type} (K : Nat → Option β), wX (nI p + (1 : Int32)) L K = K (p + 1) := fun {β} K => wX_n (c := 1) hL (by omega) K
  unfold F_law_c35
  simp only [x1]
  exact lqM (M_known h) (fun r u' t' => if_pos rfl)
theorem lc_36 (h : GR n m k d u t) (hL : L ≤ 3072) (hp : p + 6 ≤ L) : LQ p (F_law_c36 L xs (nI p) u t v) := by
  have x1 : ∀ {β : Type} (K : Nat → Option β), wX (nI p + (1 : Int32)) L K = K (p + 1) := fun {β} K => wX_n (c := 1) hL (by omega) K
  unfold F_law_c36
  simp only [x1]
  exact lq1 h (M_sweets h) (fun r u' t' => if_pos rfl)
theorem lc_37 (h : GR n m k d u t) (hL : L ≤ 3072) (hp : p + 6 ≤ L) : LQ p (F_law_c37 L xs (nI p) u t v) := by
  have x1 : ∀ {β : Type} (K : Nat → Option β), wX (nI p + (1 : Int32)) L K = K (p + 1) := fun {β} K => wX_n (c := 1) hL (by omega) K
  have x2 : ∀ {β : Type} (K : Nat → Option β), wX (nI p + (2 : Int32)) L K = K (p + 2) := fun {β} K => wX_n (c := 2) hL (by omega) K
  have x3 : ∀ {β : Type} (K : Nat → Option β), wX (nI p + (3 : Int32)) L K = K (p + 3) := fun {β} K => wX_n (c := 3) hL (by omega) K
  unfold F_law_c37
  simp only [x1, x2, x3]
  exact lq1 h (M_chance h) (fun r u' t' => if_pos rfl)
theorem lc_38 (h : GR n m k d u t) (hL : L ≤ 3072) (hp : p + 6 ≤ L) : LQ p (F_law_c38 L xs (nI p) u t v) := by
  have x1 : ∀ {β : Type} (K : Nat → Option β), wX (nI p + (1 : Int32)) L K = K (p + 1) := fun {β} K => wX_n (c := 1) hL (by omega) K
  have x2 : ∀ {β : Type} (K : Nat → Option β), wX (nI p + (2 : Int32)) L K = K (p + 2) := fun {β} K => wX_n (c := 2) hL (by omega) K
  have x3 : ∀ {β : Type} (K : Nat → Option β), wX (nI p + (3 : Int32)) L K = K (p + 3) := fun {β} K => wX_n (c := 3) hL (by omega) K
  unfold F_law_c38
  simp only [x1, x2, x3]
  exact lq1 h (M_tried h) (fun r u' t' => if_pos rfl)
theorem lc_39 (h : GR n m k d u t) (hL : L ≤ 3072) (hp : p + 6 ≤ L) : LQ p (F_law_c39 L xs (nI p) u t v) := by
  unfold F_law_c39
  exact lqM (M_undo h) (fun r u' t' => if_pos rfl)
theorem lc_40 (h : GR n m k d u t) (hL : L ≤ 3072) (hp : p + 6 ≤ L) : LQ p (F_law_c40 L xs (nI p) u t v) := by
  unfold F_law_c40
  exact lqM (M_keep h) (fun r u' t' => if_pos rfl)
theorem lc_41 (h : GR n m k d u t) (hL : L ≤ 3072) (hp : p + 6 ≤ L) : LQ p (F_law_c41 L xs (nI p) u t v) := by
  unfold F_law_c41
  exact lqM (M_back h) (fun r u' t' => if_pos rfl)
theorem lc_42 (h : GR n m k d u t) (hL : L ≤ 3072) (hp : p + 6 ≤ L) : LQ p (F_law_c42 L xs (nI p) u t v) := by
  have x1 : ∀ {β : Type} (K : Nat → Option β), wX (nI p + (1 : Int32)) L K = K (p + 1) := fun {β} K => wX_n (c := 1) hL (by omega) K
  unfold F_law_c42
  simp only [x1]
  exact lq1 h (M_count h) (fun r u' t' => if_pos rfl)
theorem lb_ok (hT : MT) (hX : MX) (h : GR n m k d u t) (hL : L ≤ 3072) (hp : p + 6 ≤ L) : LQ p (F_law_b L xs (nI p) u t v) := by
  have hlt : ¬ (Int32.ofNat L - (6 : Int32)) < nI p := by
    rw [show Int32.ofNat L - (6 : Int32) = nI (L - 6) from nI_sub (a := L) (b := 6) (by omega), nI_ltE (by omega) (by omega)]
    omega
  have x0 : ∀ {β : Type} (K : Nat → Option β), wX (nI p) L K = K p := fun {β} K => by
    have := wX_n (c := 0) hL (by omega) K (p := p)
    rw [nI_add, Nat.add_zero] at this
    exact this
  unfold F_law_b
  rw [if_neg hlt, x0, wB_eq]

  by_cases z0 : xs p &&& 63 = 0
  · rw [if_pos z0]; exact lc_0 h hL hp
  rw [if_neg z0]
  by_cases z1 : xs p &&& 63 = 1
  · rw [if_pos z1]; exact lc_1 hX h hL hp
  rw [if_neg z1]
  by_cases z2 : xs p &&& 63 = 2
  · rw [if_pos z2]; exact lc_2 h hL hp
  rw [if_neg z2]
  by_cases z3 : xs p &&& 63 = 3
  · rw [if_pos z3]; exact lc_3 h hL hp
  rw [if_neg z3]
  by_cases z4 : xs p &&& 63 = 4
  · rw [if_pos z4]; exact lc_4 h hL hp
  rw [if_neg z4]
  by_cases z5 : xs p &&& 63 = 5
  · rw [if_pos z5]; exact lc_5 h hL hp
  rw [if_neg z5]
  by_cases z6 : xs p &&& 63 = 6
  · rw [if_pos z6]; exact lc_6 h hL hp
  rw [if_neg z6]
  by_cases z7 : xs p &&& 63 = 7
  · rw [if_pos z7]; exact lc_7 h hL hp
  rw [if_neg z7]
  by_cases z8 : xs p &&& 63 = 8
  · rw [if_pos z8]; exact lc_8 h hL hp
  rw [if_neg z8]
  by_cases z9 : xs p &&& 63 = 9
  · rw [if_pos z9]; exact lc_9 h hL hp
  rw [if_neg z9]
  by_cases z10 : xs p &&& 63 = 10
  · rw [if_pos z10]; exact lc_10 h hL hp
  rw [if_neg z10]
  by_cases z11 : xs p &&& 63 = 11
  · rw [if_pos z11]; exact lc_11 h hL hp
  rw [if_neg z11]
  by_cases z12 : xs p &&& 63 = 12
  · rw [if_pos z12]; exact lc_12 h hL hp
  rw [if_neg z12]
  by_cases z13 : xs p &&& 63 = 13
  · rw [if_pos z13]; exact lc_13 h hL hp
  rw [if_neg z13]
  by_cases z14 : xs p &&& 63 = 14
  · rw [if_pos z14]; exact lc_14 hT h hL hp
  rw [if_neg z14]
  by_cases z15 : xs p &&& 63 = 15
  · rw [if_pos z15]; exact lc_15 h hL hp
  rw [if_neg z15]
  by_cases z16 : xs p &&& 63 = 16
  · rw [if_pos z16]; exact lc_16 h hL hp
  rw [if_neg z16]
  by_cases z17 : xs p &&& 63 = 17
  · rw [if_pos z17]; exact lc_17 h hL hp
  rw [if_neg z17]
  by_cases z18 : xs p &&& 63 = 18
  · rw [if_pos z18]; exact lc_18 h hL hp
  rw [if_neg z18]
  by_cases z19 : xs p &&& 63 = 19
  · rw [if_pos z19]; exact lc_19 h hL hp
  rw [if_neg z19]
  by_cases z20 : xs p &&& 63 = 20
  · rw [if_pos z20]; exact lc_20 h hL hp
  rw [if_neg z20]
  by_cases z21 : xs p &&& 63 = 21
  · rw [if_pos z21]; exact lc_21 h hL hp
  rw [if_neg z21]
  by_cases z22 : xs p &&& 63 = 22
  · rw [if_pos z22]; exact lc_22 h hL hp
  rw [if_neg z22]
  by_cases z23 : xs p &&& 63 = 23
  · rw [if_pos z23]; exact lc_23 h hL hp
  rw [if_neg z23]
  by_cases z24 : xs p &&& 63 = 24
  · rw [if_pos z24]; exact lc_24 h hL hp
  rw [if_neg z24]
  by_cases z25 : xs p &&& 63 = 25
  · rw [if_pos z25]; exact lc_25 h hL hp
  rw [if_neg z25]
  by_cases z26 : xs p &&& 63 = 26
  · rw [if_pos z26]; exact lc_26 h hL hp
  rw [if_neg z26]
  by_cases z27 : xs p &&& 63 = 27
  · rw [if_pos z27]; exact lc_27 h hL hp
  rw [if_neg z27]
  by_cases z28 : xs p &&& 63 = 28
  · rw [if_pos z28]; exact lc_28 h hL hp
  rw [if_neg z28]
  by_cases z29 : xs p &&& 63 = 29
  · rw [if_pos z29]; exact lc_29 h hL hp
  rw [if_neg z29]
  by_cases z30 : xs p &&& 63 = 30
  · rw [if_pos z30]; exact lc_30 h hL hp
  rw [if_neg z30]
  by_cases z31 : xs p &&& 63 = 31
  · rw [if_pos z31]; exact lc_31 h hL hp
  rw [if_neg z31]
  by_cases z32 : xs p &&& 63 = 32
  · rw [if_pos z32]; exact lc_32 h hL hp
  rw [if_neg z32]
  by_cases z33 : xs p &&& 63 = 33
  · rw [if_pos z33]; exact lc_33 h hL hp
  rw [if_neg z33]
  by_cases z34 : xs p &&& 63 = 34
  · rw [if_pos z34]; exact lc_34 h hL hp
  rw [if_neg z34]
  by_cases z35 : xs p &&& 63 = 35
  · rw [if_pos z35]; exact lc_35 h hL hp
  rw [if_neg z35]
  by_cases z36 : xs p &&& 63 = 36
  · rw [if_pos z36]; exact lc_36 h hL hp
  rw [if_neg z36]
  by_cases z37 : xs p &&& 63 = 37
  · rw [if_pos z37]; exact lc_37 h hL hp
  rw [if_neg z37]
  by_cases z38 : xs p &&& 63 = 38
  · rw [if_pos z38]; exact lc_38 h hL hp
  rw [if_neg z38]
  by_cases z39 : xs p &&& 63 = 39
  · rw [if_pos z39]; exact lc_39 h hL hp
  rw [if_neg z39]
  by_cases z40 : xs p &&& 63 = 40
  · rw [if_pos z40]; exact lc_40 h hL hp
  rw [if_neg z40]
  by_cases z41 : xs p &&& 63 = 41
  · rw [if_pos z41]; exact lc_41 h hL hp
  rw [if_neg z41]
  by_cases z42 : xs p &&& 63 = 42
  · rw [if_pos z42]; exact lc_42 h hL hp
  rw [if_neg z42]
  exact ⟨u, t, v, rfl, n, m, k, d, h⟩
theorem law_ok (hT : MT) (hX : MX) (h : GR n m k d u t) (hL : L ≤ 3072) : F_law L xs u t v = some 1 := by
  have key : Ro (fun y => y = 1) (F_law L xs u t v) := by
    unfold F_law
    refine wL_ro (fun j x => ∃ u t v n m k d, x = (nI (6 * j), u, t, v) ∧ 6 * j ≤ L + 6 ∧ GR n m k d u t) _ 513 (by unfold wFu; omega) ?_ ⟨u, t, v, n, m, k, d, rfl, by omega, h⟩
    rintro j x hj ⟨u, t, v, n, m, k, d, rfl, hjL, h⟩
    by_cases hp : 6 * j + 6 ≤ L
    · left
      obtain ⟨u', t', v', e, n', m', k', d', g⟩ := lb_ok (xs := xs) (v := v) hT hX h hL hp
      exact ⟨_, e, by omega, u', t', v', n', m', k', d', by rw [show nI (6 * j) + (6 : Int32) = nI (6 * j + 6) from nI_addL _ 6]; rfl, by omega, g⟩
    · right
      refine ⟨1, ?_, rfl⟩
      have hlt : (Int32.ofNat L - (6 : Int32)) < nI (6 * j) := by
        by_cases h6 : 6 ≤ L
        · rw [show Int32.ofNat L - (6 : Int32) = nI (L - 6) from nI_sub (a := L) (b := 6) (by omega), nI_ltE (by omega) (by omega)]
          omega
        · have : ∀ L : Fin 6, (Int32.ofNat L.1 - (6 : Int32)) < 0 := by decide
          have hn := this ⟨L, by omega⟩
          have h0 : (0 : Int32) ≤ nI (6 * j) := by
            have := nI_leE (a := 0) (b := 6 * j) (by omega) (by omega)
            exact this.mpr (by omega)
          rw [Int32.lt_iff_toInt_lt] at hn ⊢
          rw [Int32.le_iff_toInt_le] at h0
          exact Int.lt_of_lt_of_le hn h0
      unfold F_law_b
      dsimp only
      rw [if_pos hlt]
  obtain ⟨y, h1, rfl⟩ := key
  exact h1
theorem pure_ok (hT : MT) (hX : MX) : wPURE := fun L xs hL => ⟨sC, sM, iC_e, iM_e, g_119, law_ok hT hX GR_0 hL⟩
end

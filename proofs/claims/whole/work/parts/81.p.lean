/-! seatings: the same on any two stores that agree -/
def Rp {α β : Type} (P : α → β → Prop) (o : Option α) (o' : Option β) : Prop := (o = none ∧ o' = none) ∨ ∃ x y, o = some x ∧ o' = some y ∧ P x y
theorem Rp_s {α β : Type} {P : α → β → Prop} {x : α} {y : β} (h : P x y) : Rp P (some x) (some y) := Or.inr ⟨x, y, rfl, rfl, h⟩
theorem wL_rp {S T Y Z : Type} {b : S → Option (S ⊕ Y)} {d : T → Option (T ⊕ Z)} (I : S → T → Prop) (P : Y → Z → Prop) (hs : ∀ s t, I s t → (∃ s' t', b s = some (.inl s') ∧ d t = some (.inl t') ∧ I s' t') ∨ (∃ y z, b s = some (.inr y) ∧ d t = some (.inr z) ∧ P y z) ∨ (b s = none ∧ d t = none)) : ∀ (f : Nat) (s : S) (t : T), I s t → Rp P (wL b f s) (wL d f t) := by
  intro f
  induction f with
  | zero => intro s t _; exact Or.inl ⟨rfl, rfl⟩
  | succ f ih =>
    intro s t h
    unfold wL
    rcases hs s t h with ⟨s', t', e1, e2, h'⟩ | ⟨y, z, e1, e2, h'⟩ | ⟨e1, e2⟩
    · rw [e1, e2, wJ_inl, wJ_inl]
      exact ih s' t' h'
    · rw [e1, e2, wJ_inr, wJ_inr]
      exact Rp_s h'
    · rw [e1, e2]
      exact Or.inl ⟨rfl, rfl⟩
def AG (u0 : wSt) (d n : Nat) (u v : wSt) : Prop := u.2 = u0.2 ∧ (∀ a j, a ≠ 77 → u.1 a j = u0.1 a j) ∧ v.2.2 0 2 = 3 ∧ v.2.2 0 12 = 78 ∧ v.1 2 1 = nI n ∧ ∀ j, j < n → u.1 77 j = v.1 77 j
def A0 (u0 : wSt) (d n : Nat) : Prop := TC d ∧ u0.2.2 0 2 = d + 1 ∧ u0.2.2 0 12 = 78 ∧ u0.1 d 1 = nI n ∧ n ≤ 6
section
variable {u0 u v : wSt} {d n : Nat}
theorem AG_p (h0 : A0 u0 d n) (h : AG u0 d n u v) : u.2.2 0 2 = d + 1 ∧ u.2.2 0 12 = 78 ∧ u.1 d 1 = nI n := by
  obtain ⟨hd, e1, e2, e3, -⟩ := h0
  have := TC_le hd
  exact ⟨by rw [h.1]; exact e1, by rw [h.1]; exact e2, by rw [h.2.1 d 1 (by omega)]; exact e3⟩
theorem AG_s {j : Nat} {x : Int32} (h : AG u0 d n u v) : AG u0 d n (w_sI u 77 j x) (w_sI v 77 j x) := by
  refine ⟨h.1, fun a i w => ?_, h.2.2.1, h.2.2.2.1, ?_, fun i hi => ?_⟩
  · rw [sI_ne _ _ _ _ _ _ w]
    exact h.2.1 a i w
  · rw [sI_ne _ _ _ _ _ _ (by decide)]
    exact h.2.2.2.2.1
  · rw [sI_row, sI_row, h.2.2.2.2.2 i hi]
theorem ex_rp {i j : Nat} (h0 : A0 u0 d n) (h : AG u0 d n u v) (hi : i < n) (hj : j < n) : ∃ u' v', F_X8_exchange 0 (nI i) (nI j) u = some ((), u') ∧ F_X8_exchange 0 (nI i) (nI j) v = some ((), v') ∧ AG u0 d n u' v' := by
  obtain ⟨p1, p2, p3⟩ := AG_p h0 h
  have n6 := h0.2.2.2.2
  have q := h.2.2.2.1
  unfold F_X8_exchange
  refine ⟨w_sI (w_sI u 77 i (u.1 77 j)) 77 j (u.1 77 i), w_sI (w_sI v 77 i (v.1 77 j)) 77 j (v.1 77 i), ?_, ?_, ?_⟩
  · rw [p2, wR_77, wN_77 _ (by omega), wB_eq, wR_77, wR_77, wN_77 _ (by omega), wSI_eq, wN_77 _ (by omega), sI_r, p2, wR_77, wSI_eq, wN_77 _ (by omega)]
  · rw [q, wR_77, wN_77 _ (by omega), wB_eq, wR_77, wR_77, wN_77 _ (by omega), wSI_eq, wN_77 _ (by omega), sI_r, q, wR_77, wSI_eq, wN_77 _ (by omega)]
  · rw [h.2.2.2.2.2 i hi, h.2.2.2.2.2 j hj]
    exact AG_s (AG_s h)
theorem wR_d2' {β : Type} (K : Nat → Option β) : wR 3 6 K = K 2 := wR_2 K
theorem b10_rp (h0 : A0 u0 d n) (h : AG u0 d n u v) (f : Nat) {x : Int32} (hx : x < 1 ∨ ∃ l : Nat, 1 ≤ l ∧ l + 1 < n ∧ x = nI l) : Rp (fun y z => y = z ∧ ∃ w, y = Sum.inl w ∧ (w < 1 ∨ ∃ l : Nat, 1 ≤ l ∧ l + 1 < n ∧ w = nI l)) (wL (S := Int32) (fun x => F_X8_nextSeating_b10 u 0 x) f x) (wL (S := Int32) (fun x => F_X8_nextSeating_b10 v 0 x) f x) := by
  obtain ⟨p1, p2, p3⟩ := AG_p h0 h
  have n6 := h0.2.2.2.2
  have q := h.2.2.2.1
  refine wL_rp (fun x y => x = y ∧ (x < 1 ∨ ∃ l : Nat, 1 ≤ l ∧ l + 1 < n ∧ x = nI l)) _ ?_ f x x ⟨rfl, hx⟩
  rintro x y ⟨rfl, hx⟩
  unfold F_X8_nextSeating_b10
  by_cases h1 : x < 1
  · right; left
    rw [if_pos h1, if_pos h1]
    exact ⟨_, _, rfl, rfl, rfl, x, rfl, Or.inl h1⟩
  · obtain ⟨l, l1, l2, rfl⟩ := hx.resolve_left h1
    rw [if_neg h1, if_neg h1, p2, q, wR_77, wN_77 _ (by omega), wR_77, nI_addL, wN_77 _ (by omega), wR_77, wN_77 _ (by omega), wR_77, wN_77 _ (by omega), h.2.2.2.2.2 l (by omega), h.2.2.2.2.2 (l + 1) l2]
    by_cases h2 : v.1 77 l ≤ v.1 77 (l + 1)
    · right; left
      rw [if_pos h2]
      exact ⟨_, _, rfl, rfl, rfl, nI l, rfl, Or.inr ⟨l, l1, l2, rfl⟩⟩
    · left
      rw [if_neg h2, wB_eq, nI_m1 l1]
      refine ⟨_, _, rfl, rfl, rfl, ?_⟩
      by_cases h3 : l = 1
      · left
        subst h3
        decide
      · exact Or.inr ⟨l - 1, by omega, by omega, rfl⟩
theorem b55_rp {l : Nat} (h0 : A0 u0 d n) (h : AG u0 d n u v) (f : Nat) (hl : l + 1 < n) {r : Nat} (hr : l ≤ r ∧ r < n) : Rp (fun y z => y = z ∧ ∃ r : Nat, y = Sum.inl (nI r) ∧ l ≤ r ∧ r < n) (wL (S := Int32) (fun x => F_X8_nextSeating_b55 (nI l) u 0 x) f (nI r)) (wL (S := Int32) (fun x => F_X8_nextSeating_b55 (nI l) v 0 x) f (nI r)) := by
  obtain ⟨p1, p2, p3⟩ := AG_p h0 h
  have n6 := h0.2.2.2.2
  have q := h.2.2.2.1
  refine wL_rp (fun x y => x = y ∧ ∃ r : Nat, x = nI r ∧ l ≤ r ∧ r < n) _ ?_ f _ _ ⟨rfl, r, rfl, hr⟩
  rintro x y ⟨rfl, r, rfl, r1, r2⟩
  have e1 : (nI r ≤ nI l) = (r ≤ l) := nI_leE (by omega) (by omega)
  unfold F_X8_nextSeating_b55
  by_cases h1 : r ≤ l
  · right; left
    have h1' : nI r ≤ nI l := by rw [e1]; exact h1
    rw [if_pos h1', if_pos h1']
    exact ⟨_, _, rfl, rfl, rfl, r, rfl, r1, r2⟩
  · have h1' : ¬ nI r ≤ nI l := by rw [e1]; exact h1
    rw [if_neg h1', if_neg h1', p2, q, wR_77, wN_77 _ (by omega), wR_77, wN_77 _ (by omega), wR_77, wN_77 _ (by omega), wR_77, wN_77 _ (by omega), h.2.2.2.2.2 l (by omega), h.2.2.2.2.2 r r2]
    by_cases h2 : v.1 77 l ≤ v.1 77 r
    · right; left
      rw [if_pos h2]
      exact ⟨_, _, rfl, rfl, rfl, r, rfl, r1, r2⟩
    · left
      rw [if_neg h2, wB_eq, nI_m1 (by omega)]
      exact ⟨_, _, rfl, rfl, rfl, r - 1, rfl, by omega, by omega⟩
theorem b102_rp (h0 : A0 u0 d n) (h : AG u0 d n u v) (f : Nat) {a c : Nat} (ha : a < n) (hc : c < n) : Rp (fun x y => x.1 = y.1 ∧ AG u0 d n x.2 y.2) (wL (S := Int32 × Int32 × wSt) (fun x => F_X8_nextSeating_b102 0 x.1 x.2.1 x.2.2) f (nI a, nI c, u)) (wL (S := Int32 × Int32 × wSt) (fun x => F_X8_nextSeating_b102 0 x.1 x.2.1 x.2.2) f (nI a, nI c, v)) := by
  have n6 := h0.2.2.2.2
  refine wL_rp (fun x y => ∃ (a c : Nat) (u v : wSt), x = (nI a, nI c, u) ∧ y = (nI a, nI c, v) ∧ a ≤ n ∧ c < n ∧ AG u0 d n u v) _ ?_ f _ _ ⟨a, c, u, v, rfl, rfl, by omega, hc, h⟩
  rintro x y ⟨a, c, u, v, rfl, rfl, ha, hc, h⟩
  have e1 : (nI c ≤ nI a) = (c ≤ a) := nI_leE (by omega) (by omega)
  unfold F_X8_nextSeating_b102
  dsimp only
  by_cases h1 : c ≤ a
  · right; left
    have h1' : nI c ≤ nI a := by rw [e1]; exact h1
    rw [if_pos h1', if_pos h1']
    exact ⟨_, _, rfl, rfl, rfl, h⟩
  · left
    have h1' : ¬ nI c ≤ nI a := by rw [e1]; exact h1
    obtain ⟨u', v', f1, f2, h'⟩ := ex_rp h0 h (i := a) (j := c) (by omega) hc
    rw [if_neg h1', if_neg h1', f1, f2, wC_s, wC_s, wB_eq, wB_eq, wB_eq, wB_eq, nI_addL, nI_m1 (by omega)]
    exact ⟨_, _, rfl, rfl, a + 1, c - 1, u', v', rfl, rfl, by omega, by omega, h'⟩
theorem next_rp (h0 : A0 u0 d n) (h : AG u0 d n u v) : Rp (fun x y => x.1 = y.1 ∧ AG u0 d n x.2 y.2) (F_X8_nextSeating 0 u) (F_X8_nextSeating 0 v) := by
  obtain ⟨p1, p2, p3⟩ := AG_p h0 h
  have n6 := h0.2.2.2.2
  have q := h.2.2.2.1
  have hd := h0.1
  have hn1 : 1 < n → nI n - (1 : Int32) = nI (n - 1) := fun w => nI_sub (a := n) (b := 1) (by omega)
  unfold F_X8_nextSeating
  rw [p1, wR_d0 _ hd, wB_eq, p3, h.2.2.1, wR_2, wB_eq, h.2.2.2.2.1]
  have hx : nI n - (2 : Int32) < 1 ∨ ∃ l : Nat, 1 ≤ l ∧ l + 1 < n ∧ nI n - (2 : Int32) = nI l := by
    by_cases h3 : n < 3
    · left
      have : ∀ n : Fin 3, nI n.1 - (2 : Int32) < 1 := by decide
      exact this ⟨n, h3⟩
    · exact Or.inr ⟨n - 2, by omega, by omega, nI_sub (a := n) (b := 2) (by omega)⟩
  rcases b10_rp h0 h wFu hx with ⟨e1, e2⟩ | ⟨y, z, e1, e2, rfl, w, rfl, hw⟩
  · rw [e1, e2]
    exact Or.inl ⟨rfl, rfl⟩
  · rw [e1, e2, wJ_inl, wJ_inl]
    unfold F_X8_nextSeating_j38
    by_cases hw1 : (1 : Int32) ≤ w
    · have hw' : ¬ w < 1 := Int32.not_lt.mpr hw1
      obtain ⟨l, l1, l2, rfl⟩ := hw.resolve_left hw'
      rw [if_pos hw1, if_pos hw1, p1, wR_d0 _ hd, wB_eq, p3, h.2.2.1, wR_2, wB_eq, h.2.2.2.2.1, hn1 (by omega)]
      rcases b55_rp h0 h wFu l2 (r := n - 1) ⟨by omega, by omega⟩ with ⟨e1, e2⟩ | ⟨y, z, e1, e2, rfl, r, rfl, r1, r2⟩
      · rw [e1, e2]
        exact Or.inl ⟨rfl, rfl⟩
      · rw [e1, e2, wJ_inl, wJ_inl]
        unfold F_X8_nextSeating_j81
        obtain ⟨u', v', f1, f2, h'⟩ := ex_rp h0 h (i := l) (j := r) (by omega) r2
        obtain ⟨p1', p2', p3'⟩ := AG_p h0 h'
        rw [f1, f2, wC_s, wC_s, wB_eq, wB_eq, p1', wR_d0 _ hd, wB_eq, p3', h'.2.2.1, wR_2, wB_eq, h'.2.2.2.2.1, hn1 (by omega), nI_addL]
        exact b102_rp h0 h' wFu l2 (by omega)
    · rw [if_neg hw1, if_neg hw1]
      exact Rp_s ⟨rfl, h⟩
end

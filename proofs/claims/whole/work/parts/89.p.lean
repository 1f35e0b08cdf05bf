/-! the bytes of a text, and the ends of runs of them -/
def isB (x : Nat) : Bool := decide (x = 32) || decide (x = 10)
def isL (x : Nat) : Bool := decide (97 ≤ x) && decide (x ≤ 122)
def isD (x : Nat) : Bool := decide (48 ≤ x) && decide (x ≤ 57)
def endF (q : Nat → Bool) (b : Nat → Nat) : Nat → Nat → Nat
  | 0, p => p
  | f + 1, p => if q (b p) = true then endF q b f (p + 1) else p
def endR (q : Nat → Bool) (b : Nat → Nat) (n p : Nat) : Nat := endF q b (n - p) p
theorem endR_go {q : Nat → Bool} {b : Nat → Nat} {n p : Nat} (h : p < n) (hq : q (b p) = true) : endR q b n p = endR q b n (p + 1) := by
  unfold endR
  obtain ⟨f, hf⟩ : ∃ f, n - p = f + 1 := ⟨n - p - 1, by omega⟩
  rw [hf, show n - (p + 1) = f from by omega]
  show (if q (b p) = true then endF q b f (p + 1) else p) = _
  rw [if_pos hq]
theorem endR_stop {q : Nat → Bool} {b : Nat → Nat} {n p : Nat} (hq : ¬ q (b p) = true) : endR q b n p = p := by
  unfold endR
  cases n - p with
  | zero => rfl
  | succ f =>
    show (if q (b p) = true then endF q b f (p + 1) else p) = _
    rw [if_neg hq]
theorem endR_end {q : Nat → Bool} {b : Nat → Nat} {n p : Nat} (h : n ≤ p) : endR q b n p = p := by
  unfold endR
  rw [show n - p = 0 from by omega]
  rfl
theorem endF_ge {q : Nat → Bool} {b : Nat → Nat} : ∀ (f p : Nat), p ≤ endF q b f p ∧ endF q b f p ≤ p + f := by
  intro f
  induction f with
  | zero => intro p; exact ⟨Nat.le_refl _, Nat.le_refl _⟩
  | succ f ih =>
    intro p
    show p ≤ (if q (b p) = true then endF q b f (p + 1) else p) ∧ (if q (b p) = true then endF q b f (p + 1) else p) ≤ p + (f + 1)
    by_cases h : q (b p) = true
    · rw [if_pos h]
      have := ih (p + 1)
      omega
    · rw [if_neg h]
      omega
theorem endR_ge {q : Nat → Bool} {b : Nat → Nat} {n p : Nat} (h : p ≤ n) : p ≤ endR q b n p ∧ endR q b n p ≤ n := by
  have := endF_ge (q := q) (b := b) (n - p) p
  unfold endR
  omega
/-- what stands behind a run is not of it -/
theorem endF_not {q : Nat → Bool} {b : Nat → Nat} : ∀ (f p : Nat), endF q b f p < p + f → ¬ q (b (endF q b f p)) = true := by
  intro f
  induction f with
  | zero => intro p h; have := (endF_ge (q := q) (b := b) 0 p).1; omega
  | succ f ih =>
    intro p h
    have e : endF q b (f + 1) p = if q (b p) = true then endF q b f (p + 1) else p := rfl
    by_cases hq : q (b p) = true
    · rw [e, if_pos hq] at h ⊢
      exact ih (p + 1) (by omega)
    · rw [e, if_neg hq]
      exact hq
theorem endR_not {q : Nat → Bool} {b : Nat → Nat} {n p : Nat} (hp : p ≤ n) (h : endR q b n p < n) : ¬ q (b (endR q b n p)) = true := by
  unfold endR at h ⊢
  exact endF_not (n - p) p (by omega)
/-- all of a run is of it -/
theorem endF_all {q : Nat → Bool} {b : Nat → Nat} : ∀ (f p i : Nat), p ≤ i → i < endF q b f p → q (b i) = true := by
  intro f
  induction f with
  | zero => intro p i h1 h2; exact absurd h2 (by show ¬ i < p; omega)
  | succ f ih =>
    intro p i h1 h2
    have e : endF q b (f + 1) p = if q (b p) = true then endF q b f (p + 1) else p := rfl
    by_cases hq : q (b p) = true
    · rw [e, if_pos hq] at h2
      by_cases hi : i = p
      · rw [hi]; exact hq
      · exact ih (p + 1) i (by omega) h2
    · rw [e, if_neg hq] at h2
      omega
theorem endR_all {q : Nat → Bool} {b : Nat → Nat} {n p i : Nat} (h1 : p ≤ i) (h2 : i < endR q b n p) : q (b i) = true := endF_all (n - p) p i h1 h2
def Tb (n : Nat) (b : Nat → Nat) (U T : Nat → Nat → Int32) : Prop := n ≤ 700 ∧ ∀ i, i < n → b i < 256 ∧ T 80 i = nI (b i) ∧ U 1 i = (nI (b i)).toInt8.toInt32
theorem Tb_of {U T : Nat → Nat → Int32} {L n : Nat} (hL : L ≤ 700) (hn : n ≤ L) (h : ∀ i, i < L → ∃ b : Nat, b < 256 ∧ T 80 i = nI b ∧ U 1 i = (nI b).toInt8.toInt32) : ∃ b, Tb n b U T := by
  refine ⟨fun i => (T 80 i).toNatClampNeg, by omega, fun i hi => ?_⟩
  obtain ⟨b, h1, h2, h3⟩ := h i (by omega)
  have e : (T 80 i).toNatClampNeg = b := by rw [h2]; exact nI_clamp (by omega)
  show (T 80 i).toNatClampNeg < 256 ∧ T 80 i = nI (T 80 i).toNatClampNeg ∧ U 1 i = (nI (T 80 i).toNatClampNeg).toInt8.toInt32
  rw [e]
  exact ⟨h1, h2, h3⟩
theorem b_255 {b : Nat} (h : b < 256) : (nI b).toInt8.toInt32 &&& 255 = nI b := by
  have : ∀ b : Fin 256, (nI b.1).toInt8.toInt32 &&& 255 = nI b.1 := by decide +kernel
  exact this ⟨b, h⟩
section
variable {n p : Nat} {b : Nat → Nat} {u t : wSt}
theorem sign_c (hp : PL u.2.2) (hT : Tb n b u.1 t.1) (h4 : u.1 38 4 = nI n) (hpn : p ≤ 701) : F_X5_signAt 38 (nI p) u = some (if p < n then nI (b p) else -1) := by
  have r3 : u.2.2 38 3 = 2 := by simp only [PL_u hp]
  have n7 := hT.1
  unfold F_X5_signAt
  rw [if_neg (by rw [nI_nn (by omega)]; exact id), h4]
  by_cases h : p < n
  · obtain ⟨h1, h2, h3⟩ := hT.2 p h
    rw [if_neg (by rw [nI_leE (by omega) (by omega)]; omega), r3, wR_1, wN_1 _ (by omega), h3, b_255 h1, if_pos h]
  · rw [if_pos (by rw [nI_leE (by omega) (by omega)]; omega), if_neg h]
theorem let_c {x : Nat} (hx : x < 256) : F_X5_isLetter (nI x) u = some (bI (isL x = true)) := by
  have : ∀ x : Fin 256, F_X5_isLetter (nI x.1) r9 = some (bI (isL x.1 = true)) := by decide +kernel
  exact this ⟨x, hx⟩
theorem dig_c {x : Nat} (hx : x < 256) : F_X5_isDigit (nI x) u = some (bI (isD x = true)) := by
  have : ∀ x : Fin 256, F_X5_isDigit (nI x.1) r9 = some (bI (isD x.1 = true)) := by decide +kernel
  exact this ⟨x, hx⟩
/-- class: the state with another 'at' -/
theorem blank_c (hp : PL u.2.2) (hT : Tb n b u.1 t.1) (h4 : u.1 38 4 = nI n) (h5 : u.1 38 5 = nI p) (hpn : p ≤ n) : wL (S := wSt) (fun x => F_X5_find_b0 38 x) wFu u = some (.inl (w_sI u 38 5 (nI (endR isB b n p)))) := by
  have n7 := hT.1
  have key : Ro (fun y => y = Sum.inl (w_sI u 38 5 (nI (endR isB b n p)))) (wL (S := wSt) (fun x => F_X5_find_b0 38 x) wFu u) := by
    refine wL_ro (fun j x => p + j ≤ n ∧ x = w_sI u 38 5 (nI (p + j)) ∧ endR isB b n (p + j) = endR isB b n p) _ 700 (by unfold wFu; omega) ?_ ⟨by omega, (sI_self h5).symm, rfl⟩
    rintro j x hj ⟨hjn, rfl, he⟩
    obtain ⟨v, hv⟩ : ∃ v, v = w_sI u 38 5 (nI (p + j)) := ⟨_, rfl⟩
    have v2 : v.2 = u.2 := by rw [hv]; rfl
    have vn : ∀ a i, ¬ (a = 38 ∧ i = 5) → v.1 a i = u.1 a i := fun a i w => by rw [hv]; exact if_neg w
    have v5 : v.1 38 5 = nI (p + j) := by rw [hv]; exact sI_eq _ _ _ _
    have v4 : v.1 38 4 = nI n := by rw [vn _ _ (by omega)]; exact h4
    have hTv : Tb n b v.1 t.1 := ⟨n7, fun i hi => by rw [vn 1 i (by omega)]; exact hT.2 i hi⟩
    have sg := sign_c (p := p + j) (by rw [v2]; exact hp) hTv v4 (by omega)
    rw [← hv]
    unfold F_X5_find_b0 F_X5_find_j37
    have en : (nI n ≤ nI (p + j)) = (n ≤ p + j) := nI_leE (by omega) (by omega)
    rw [v4, v5]
    by_cases hn : n ≤ p + j
    · right
      rw [if_pos (by rw [en]; exact hn)]
      refine ⟨_, rfl, ?_⟩
      rw [hv, ← he, endR_end hn]
    · rw [if_neg (by rw [en]; exact hn), sg, wP_s, if_pos (show p + j < n by omega)]
      have hb := (hT.2 (p + j) (by omega)).1
      have e32 : (nI (b (p + j)) = (32 : Int32)) = (b (p + j) = 32) := nI_eqI (a := b (p + j)) (b := 32) (by omega) (by omega)
      have e10 : (nI (b (p + j)) = (10 : Int32)) = (b (p + j) = 10) := nI_eqI (a := b (p + j)) (b := 10) (by omega) (by omega)
      have stp : isB (b (p + j)) = true → ∃ s', some (Sum.inl (w_sI v 38 5 (nI (p + j + 1)))) = (some (Sum.inl s') : Option (wSt ⊕ (wSt ⊕ (Unit × wSt)))) ∧ j < 700 ∧ p + (j + 1) ≤ n ∧ s' = w_sI u 38 5 (nI (p + (j + 1))) ∧ endR isB b n (p + (j + 1)) = endR isB b n p := fun hB =>
        ⟨_, rfl, by omega, by omega, by rw [hv, sI_sI]; rfl, by rw [← he, endR_go (show p + j < n by omega) hB]; rfl⟩
      by_cases q1 : b (p + j) = 32
      · left
        rw [if_pos (by rw [e32]; exact q1), wJ_inl, wB_eq, nI_addL]
        exact stp (by unfold isB; rw [q1]; rfl)
      · rw [if_neg (by rw [e32]; exact q1), wP_s]
        by_cases q2 : b (p + j) = 10
        · left
          rw [if_pos (by rw [e10]; exact q2), wJ_inl, wB_eq, nI_addL]
          exact stp (by unfold isB; rw [q2]; rfl)
        · right
          rw [if_neg (by rw [e10]; exact q2), wJ_inr]
          refine ⟨_, rfl, ?_⟩
          rw [hv, ← he, endR_stop (by unfold isB; rw [decide_eq_false q1, decide_eq_false q2]; decide)]
  obtain ⟨y, e, rfl⟩ := key
  exact e
end

/-! what a seating is, and who sits on seat 0 -/
theorem pigeon : ∀ (n : Nat) (f : Nat → Nat), (∀ i, i < n + 1 → f i < n) → ∃ i j, i < j ∧ j < n + 1 ∧ f i = f j := by
  intro n
  induction n with
  | zero => intro f h; exact absurd (h 0 (by omega)) (by omega)
  | succ n ih =>
    intro f h
    by_cases e : ∃ i, i < n + 1 ∧ f i = f (n + 1)
    · obtain ⟨i, h1, h2⟩ := e
      exact ⟨i, n + 1, h1, by omega, h2⟩
    · have ne : ∀ i, i < n + 1 → f i ≠ f (n + 1) := fun i hi q => e ⟨i, hi, q⟩
      obtain ⟨i, j, h1, h2, h3⟩ := ih (fun i => if f i = n then f (n + 1) else f i) (fun i hi => by
        have a1 := h i (by omega)
        have a2 := h (n + 1) (by omega)
        have a3 := ne i hi
        show (if f i = n then f (n + 1) else f i) < n
        by_cases q : f i = n
        · rw [if_pos q]; omega
        · rw [if_neg q]; omega)
      have b1 := ne i (by omega)
      have b2 := ne j h2
      refine ⟨i, j, h1, by omega, ?_⟩
      have h3 : (if f i = n then f (n + 1) else f i) = (if f j = n then f (n + 1) else f j) := h3
      by_cases q1 : f i = n
      · by_cases q2 : f j = n
        · rw [q1, q2]
        · rw [if_pos q1, if_neg q2] at h3
          exact absurd h3.symm b2
      · by_cases q2 : f j = n
        · rw [if_neg q1, if_pos q2] at h3
          exact absurd h3 b1
        · rw [if_neg q1, if_neg q2] at h3
          exact h3
theorem stays_ex {n : Nat} {U : Nat → Nat → Int32} (hP : SP n 43 U) (n6 : n ≤ 6) (hn : 0 < n) : ∃ st, st < n ∧ ∀ g, g < n → (U 44 g = 0 ↔ g = st) := by
  by_cases h : ∃ g, g < n ∧ U 44 g = 0
  · obtain ⟨st, h1, h2⟩ := h
    exact ⟨st, h1, fun g hg => ⟨fun e => hP.2 g st hg h1 (by show U 44 g = U 44 st; rw [e, h2]), fun e => by rw [e]; exact h2⟩⟩
  · exfalso
    have ne : ∀ g, g < n → ∃ s : Nat, s < n ∧ 0 < s ∧ U 44 g = nI s := fun g hg => by
      obtain ⟨s, s1, s2⟩ := hP.1 g hg
      refine ⟨s, s1, ?_, s2⟩
      rcases Nat.eq_zero_or_pos s with e | e
      · subst e
        exact absurd ⟨g, hg, s2⟩ h
      · exact e
    obtain ⟨q, rfl⟩ : ∃ q, n = q + 1 := ⟨n - 1, by omega⟩
    obtain ⟨i, j, h1, h2, h3⟩ := pigeon q (fun g => (U 44 g).toNatClampNeg - 1) (fun i hi => by
      obtain ⟨s, s1, s2, s3⟩ := ne i hi
      show (U 44 i).toNatClampNeg - 1 < q
      rw [s3, nI_clamp (by omega)]
      omega)
    obtain ⟨s, s1, s2, s3⟩ := ne i (by omega)
    obtain ⟨r, r1, r2, r3⟩ := ne j h2
    have h3 : (U 44 i).toNatClampNeg - 1 = (U 44 j).toNatClampNeg - 1 := h3
    rw [s3, r3, nI_clamp (by omega), nI_clamp (by omega)] at h3
    have : s = r := by omega
    have := hP.2 i j (by omega) h2 (by show U 44 i = U 44 j; rw [s3, r3, this])
    omega
def SQ (n st c : Nat) (u : wSt) : Prop := u.1 77 0 = nI st ∧ ∀ j, j + 1 < n → u.1 77 (j + 1) = nI (rwN n st c j)
theorem A0_of {n m k d : Nat} {u t : wSt} (h : GR n m k d u t) : A0 u d n := ⟨h.2.2.1, h.2.2.2.1, by simp only [PL_u h.1], h.2.2.2.2.2.1.2.1.1, h.2.2.2.2.2.1.1.1⟩
theorem nI_m1n {x : Nat} (h : x < 2147483648) : nI x ≠ -1 := by
  intro e
  rw [nI_neg h] at e
  exact e
section
variable {n m k d st c : Nat} {u t : wSt}
theorem rw_lt {j : Nat} (n6 : n ≤ 6) (hst : st < n) (hc : c < fct (n - 1)) (hj : j + 1 < n) : rwN n st c j < n := by
  have := all_of (all_of (all_of (all_of rw_all (show n < 7 by omega)) hst) hc) (show j < n - 1 by omega)
  exact of_decide_eq_true this
theorem first_e (h : GR n m k d u t) (hst : st < n) (hs : ∀ g, g < n → (u.1 44 g = 0 ↔ g = st)) : ∃ u', F_X8_firstSeating 0 u = some ((), u') ∧ u'.2 = u.2 ∧ (∀ a j, a ≠ 77 → u'.1 a j = u.1 a j) ∧ SQ n st 0 u' := by
  have n6 := h.2.2.2.2.2.1.1.1
  have hk := all_of (all_of okF_all (show n < 7 by omega)) hst
  unfold okF at hk
  rcases first_rp (st := st) (A0_of h) (by simp only [PL_u h.1]) (by simp only [PL_u h.1]) hs with ⟨e1, e2⟩ | ⟨⟨⟨⟩, x⟩, ⟨⟨⟩, y⟩, e1, e2, hW⟩
  · rw [e2] at hk
    cases hk
  · rw [e2] at hk
    have hk : (decide (y.1 77 0 = nI st) && (List.range (n - 1)).all (fun j => decide (y.1 77 (j + 1) = nI (rwN n st 0 j)))) = true := hk
    rw [Bool.and_eq_true] at hk
    have k1 : y.1 77 0 = nI st := of_decide_eq_true hk.1
    have k2 : ∀ j, j + 1 < n → y.1 77 (j + 1) = nI (rwN n st 0 j) := fun j hj => of_decide_eq_true (all_of hk.2 (show j < n - 1 by omega))
    have f0 : 0 < fct (n - 1) := by
      have : ∀ i : Fin 6, 0 < fct i.1 := by decide
      exact this ⟨n - 1, by omega⟩
    refine ⟨x, e1, hW.1, hW.2.1, ?_, fun j hj => ?_⟩
    · rw [← k1]
      exact hW.2.2 0 (by show y.1 77 0 ≠ -1; rw [k1]; exact nI_m1n (by omega))
    · rw [← k2 j hj]
      have := rw_lt n6 hst f0 hj
      exact hW.2.2 (j + 1) (by show y.1 77 (j + 1) ≠ -1; rw [k2 j hj]; exact nI_m1n (by omega))
theorem next_e (h : GR n m k d u t) (hst : st < n) (hc : c < fct (n - 1)) (hS : SQ n st c u) : ∃ r u', F_X8_nextSeating 0 u = some (r, u') ∧ u'.2 = u.2 ∧ (∀ a j, a ≠ 77 → u'.1 a j = u.1 a j) ∧ (c + 1 < fct (n - 1) → r = 1 ∧ SQ n st (c + 1) u') ∧ (¬ c + 1 < fct (n - 1) → r = 0) := by
  have n6 := h.2.2.2.2.2.1.1.1
  have hk := all_of (all_of (all_of okN_all (show n < 7 by omega)) hst) hc
  unfold okN at hk
  have ag : AG u d n u (cT n st c) := ⟨rfl, fun _ _ _ => rfl, rfl, rfl, rfl, fun j hj => by
    rcases j with _ | j
    · exact hS.1
    · exact hS.2 j hj⟩
  rcases next_rp (A0_of h) ag with ⟨e1, e2⟩ | ⟨⟨r, x⟩, ⟨r', y⟩, e1, e2, er, hA⟩
  · rw [e2] at hk
    cases hk
  · have er : r = r' := er
    subst er
    rw [e2] at hk
    have hk : (if c + 1 < fct (n - 1) then decide (r = 1) && decide (y.1 77 0 = nI st) && (List.range (n - 1)).all (fun j => decide (y.1 77 (j + 1) = nI (rwN n st (c + 1) j))) else decide (r = 0)) = true := hk
    refine ⟨r, x, e1, hA.1, hA.2.1, fun hc1 => ?_, fun hc1 => ?_⟩
    · rw [if_pos hc1, Bool.and_eq_true, Bool.and_eq_true] at hk
      have k1 : y.1 77 0 = nI st := of_decide_eq_true hk.1.2
      have k2 : ∀ j, j + 1 < n → y.1 77 (j + 1) = nI (rwN n st (c + 1) j) := fun j hj => of_decide_eq_true (all_of hk.2 (show j < n - 1 by omega))
      exact ⟨of_decide_eq_true hk.1.1, (hA.2.2.2.2.2 0 (by omega)).trans k1, fun j hj => (hA.2.2.2.2.2 (j + 1) hj).trans (k2 j hj)⟩
    · rw [if_neg hc1] at hk
      exact of_decide_eq_true hk
theorem row_e (h69 : t.2.2 79 69 = 114) (n6 : n ≤ 6) (hst : st < n) (hc : c < fct (n - 1)) : ∃ t', F_X9_layRow 79 (nI c) (nI (n - 1)) ((1 : Int32) <<< (nI st &&& 31)) t = some ((), t') ∧ t'.2 = t.2 ∧ (∀ a j, a ≠ 113 → t'.1 a j = t.1 a j) ∧ ∀ j, j + 1 < n → t'.1 113 j = nI (rwN n st c j) := by
  have hk := all_of (all_of (all_of okR_all (show n < 7 by omega)) hst) hc
  unfold okR at hk
  rcases row_rp (a := nI c) (b := nI (n - 1)) (c := (1 : Int32) <<< (nI st &&& 31)) h69 with ⟨e1, e2⟩ | ⟨⟨⟨⟩, x⟩, ⟨⟨⟩, y⟩, e1, e2, hW⟩
  · rw [e2] at hk
    cases hk
  · rw [e2] at hk
    have k2 : ∀ j, j + 1 < n → y.1 113 j = nI (rwN n st c j) := fun j hj => of_decide_eq_true (all_of hk (show j < n - 1 by omega))
    refine ⟨x, e1, hW.1, hW.2.1, fun j hj => ?_⟩
    rw [← k2 j hj]
    have := rw_lt n6 hst hc hj
    exact hW.2.2 j (by show y.1 113 j ≠ -1; rw [k2 j hj]; exact nI_m1n (by omega))
theorem rows_e {j : Nat} (hj : j ≤ 5) : F_X9_rowsOf (nI j) t = some (nI (fct j)) ∧ 0 < fct j ∧ fct j ≤ 120 := by
  have : ∀ j : Fin 6, F_X9_rowsOf (nI j.1) r9 = some (nI (fct j.1)) ∧ 0 < fct j.1 ∧ fct j.1 ≤ 120 := by decide +kernel
  exact this ⟨j, by omega⟩
theorem sI_self {a j : Nat} {x : Int32} (h : u.1 a j = x) : w_sI u a j x = u := by
  have : (w_sI u a j x).1 = u.1 := by
    funext a' j'
    by_cases e : a' = a ∧ j' = j
    · obtain ⟨rfl, rfl⟩ := e
      rw [sI_eq, h]
    · exact if_neg e
  exact Prod.ext this rfl
end

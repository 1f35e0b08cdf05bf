/-! a law worked out -/
def lb (x : Int64) : Prop := -1000000000000 ≤ x.toInt ∧ x.toInt ≤ 1000000000000
def opS (j : Nat) (x y : Int64) : Option Int64 :=
  if j = 3 then some (if x = 0 then 0 else if y = 0 then 0 else 1)
  else if j = 4 then some (if x = 0 then (if y = 0 then 0 else 1) else 1)
  else if j = 5 then some (if y ≤ x then 0 else 1)
  else if j = 6 then some (if y < x then 0 else 1)
  else if j = 7 then some (if x = y then 1 else 0)
  else if j = 8 then some (if x = y then 0 else 1)
  else if j = 9 then some (if x < y then 0 else 1)
  else if j = 10 then some (if x ≤ y then 0 else 1)
  else if j = 11 then (if 1000000000000 < x + y ∨ x + y < -1000000000000 then none else some (x + y))
  else if j = 12 then (if 1000000000000 < x - y ∨ x - y < -1000000000000 then none else some (x - y))
  else if j = 13 then (if x = 0 then some 0 else if y = 0 then some 0 else if (1000000000000 : Int64) / (if 0 ≤ x then x else -x) < (if 0 ≤ y then y else -y) then none else some (x * y))
  else (if y = 0 then none else some (x / y))
theorem l_lt {x y : Int64} : (x < y) = (x.toInt < y.toInt) := propext Int64.lt_iff_toInt_lt
theorem l_le {x y : Int64} : (x ≤ y) = (x.toInt ≤ y.toInt) := propext Int64.le_iff_toInt_le
theorem l_eq {x y : Int64} : (x = y) = (x.toInt = y.toInt) := propext Int64.toInt_inj.symm
theorem l_b : (1000000000000 : Int64).toInt = 1000000000000 := by decide
theorem l_nb : (-1000000000000 : Int64).toInt = -1000000000000 := by decide
theorem l_z : (0 : Int64).toInt = 0 := by decide
theorem l_o : (1 : Int64).toInt = 1 := by decide
theorem l_m : (-9223372036854775808 : Int64).toInt = -9223372036854775808 := by decide
theorem l_add {x y : Int64} (hx : lb x) (hy : lb y) : (x + y).toInt = x.toInt + y.toInt := by
  obtain ⟨a, b⟩ := hx
  obtain ⟨c, d⟩ := hy
  rw [Int64.toInt_add]
  exact Int.bmod_eq_of_le (by omega) (by omega)
theorem l_sub {x y : Int64} (hx : lb x) (hy : lb y) : (x - y).toInt = x.toInt - y.toInt := by
  obtain ⟨a, b⟩ := hx
  obtain ⟨c, d⟩ := hy
  rw [Int64.toInt_sub]
  exact Int.bmod_eq_of_le (by omega) (by omega)
theorem l_neg {x : Int64} (hx : lb x) : (-x).toInt = -x.toInt := by
  obtain ⟨a, b⟩ := hx
  rw [Int64.toInt_neg]
  exact Int.bmod_eq_of_le (by omega) (by omega)
theorem l_neg_lb {x : Int64} (hx : lb x) : lb (-x) := by
  have := l_neg hx
  obtain ⟨a, b⟩ := hx
  constructor <;> omega
theorem l_div {x y : Int64} (hx : lb x) : (x / y).toInt = x.toInt.tdiv y.toInt := by
  apply Int64.toInt_div_of_ne_left
  intro h
  rw [h] at hx
  obtain ⟨a, b⟩ := hx
  have : Int64.minValue.toInt = -9223372036854775808 := by decide
  omega
theorem tdiv_abs (x y : Int) : (x.tdiv y).natAbs ≤ x.natAbs := by
  rw [Int.natAbs_tdiv]
  exact Nat.div_le_self _ _
theorem l_div_lb {x y : Int64} (hx : lb x) : lb (x / y) := by
  have h1 := l_div (y := y) hx
  have h2 := tdiv_abs x.toInt y.toInt
  obtain ⟨a, b⟩ := hx
  constructor <;> omega
/-- the bound divided by a size -/
theorem l_most {s : Int64} (h0 : 0 < s.toInt) (h1 : s.toInt ≤ 1000000000000) : (1000000000000 / s).toInt = 1000000000000 / s.toInt ∧ lb (1000000000000 / s) ∧ 0 ≤ 1000000000000 / s.toInt := by
  have hb : lb (1000000000000 : Int64) := by unfold lb; rw [l_b]; omega
  have e := l_div (y := s) hb
  rw [l_b] at e
  have e2 : (1000000000000 : Int).tdiv s.toInt = 1000000000000 / s.toInt := Int.tdiv_eq_ediv_of_nonneg (by omega)
  rw [e2] at e
  exact ⟨e, l_div_lb hb, Int.ediv_nonneg (by omega) (by omega)⟩
theorem l_mul {x y : Int64} (h : -1000000000000 ≤ x.toInt * y.toInt ∧ x.toInt * y.toInt ≤ 1000000000000) : (x * y).toInt = x.toInt * y.toInt := by
  rw [Int64.toInt_mul]
  exact Int.bmod_eq_of_le (by omega) (by omega)
/-- |x| |y| within the bound if |y| ≤ bound / |x| -/
theorem mul_bd {x y s t : Int} (hs : s = x ∨ s = -x) (ht : t = y ∨ t = -y) (h0 : 0 < s) (hy : t ≤ 1000000000000 / s) (ht0 : 0 ≤ t) : -1000000000000 ≤ x * y ∧ x * y ≤ 1000000000000 := by
  have h1 : t * s ≤ 1000000000000 := by
    have := Int.mul_le_mul_of_nonneg_right hy (by omega : 0 ≤ s)
    exact Int.le_trans this (Int.ediv_mul_le _ (by omega))
  have h2 : 0 ≤ t * s := Int.mul_nonneg ht0 (by omega)
  have h3 : x * y = t * s ∨ x * y = -(t * s) := by
    rcases hs with rfl | rfl <;> rcases ht with rfl | rfl
    · left; exact Int.mul_comm _ _
    · right; rw [Int.neg_mul, Int.neg_neg]; exact Int.mul_comm _ _
    · right; rw [Int.mul_neg, Int.neg_neg]; exact Int.mul_comm _ _
    · left; rw [Int.neg_mul_neg]; exact Int.mul_comm _ _
  rcases h3 with h3 | h3 <;> rw [h3] <;> omega
/-- what the class's join answers -/
theorem join_c {j : Nat} {x y : Int64} {u : wSt} (hx : lb x) (hy : lb y) (h3 : 3 ≤ j) (h15 : j < 15) : ∃ q, F_X1_join (nI (kcl j)) x y u = some q ∧ (opS j x y = none → ¬ lb q) ∧ (∀ v, opS j x y = some v → q = v ∧ lb v) := by
  have hj : j = 3 ∨ j = 4 ∨ j = 5 ∨ j = 6 ∨ j = 7 ∨ j = 8 ∨ j = 9 ∨ j = 10 ∨ j = 11 ∨ j = 12 ∨ j = 13 ∨ j = 14 := by omega
  have l0 : lb 0 := by unfold lb; rw [l_z]; omega
  have l1 : lb 1 := by unfold lb; rw [l_o]; omega
  have fin : ∀ (o : Option Int64) (v : Int64), o = some v → lb v → ∃ q, o = some q ∧ ((some v : Option Int64) = none → ¬ lb q) ∧ (∀ w, some v = some w → q = w ∧ lb w) := fun o v h h2 => ⟨v, h, (fun h => by cases h), (fun w hw => by cases hw; exact ⟨rfl, h2⟩)⟩
  rcases hj with rfl | rfl | rfl | rfl | rfl | rfl | rfl | rfl | rfl | rfl | rfl | rfl
  · simp (disch := omega) only [kcl, opS, F_X1_join, lg_0, lg_gt, lg_ge, lg_le, lg_lt, wJ_inl, nI_eqL, Nat.reduceEqDiff, Nat.reduceAdd, Nat.reduceLT, ↓reduceIte]
    refine fin _ _ ?_ ?_ <;> split <;> (try split) <;> first | rfl | assumption
  · simp (disch := omega) only [kcl, opS, F_X1_join, lg_0, lg_gt, lg_ge, lg_le, lg_lt, wJ_inl, nI_eqL, Nat.reduceEqDiff, Nat.reduceAdd, Nat.reduceLT, ↓reduceIte]
    refine fin _ _ ?_ ?_ <;> split <;> (try split) <;> first | rfl | assumption
  · simp (disch := omega) only [kcl, opS, F_X1_join, lg_0, lg_gt, lg_ge, lg_le, lg_lt, wJ_inl, nI_eqL, Nat.reduceEqDiff, Nat.reduceAdd, Nat.reduceLT, ↓reduceIte]
    refine fin _ _ ?_ ?_ <;> split <;> (try split) <;> first | rfl | assumption
  · simp (disch := omega) only [kcl, opS, F_X1_join, lg_0, lg_gt, lg_ge, lg_le, lg_lt, wJ_inl, nI_eqL, Nat.reduceEqDiff, Nat.reduceAdd, Nat.reduceLT, ↓reduceIte]
    refine fin _ _ ?_ ?_ <;> split <;> (try split) <;> first | rfl | assumption
  · simp (disch := omega) only [kcl, opS, F_X1_join, lg_0, lg_gt, lg_ge, lg_le, lg_lt, wJ_inl, nI_eqL, Nat.reduceEqDiff, Nat.reduceAdd, Nat.reduceLT, ↓reduceIte]
    refine fin _ _ ?_ ?_ <;> split <;> (try split) <;> first | rfl | assumption
  · simp (disch := omega) only [kcl, opS, F_X1_join, lg_0, lg_gt, lg_ge, lg_le, lg_lt, wJ_inl, nI_eqL, Nat.reduceEqDiff, Nat.reduceAdd, Nat.reduceLT, ↓reduceIte]
    refine fin _ _ ?_ ?_ <;> split <;> (try split) <;> first | rfl | assumption
  · simp (disch := omega) only [kcl, opS, F_X1_join, lg_0, lg_gt, lg_ge, lg_le, lg_lt, wJ_inl, nI_eqL, Nat.reduceEqDiff, Nat.reduceAdd, Nat.reduceLT, ↓reduceIte]
    refine fin _ _ ?_ ?_ <;> split <;> (try split) <;> first | rfl | assumption
  · simp (disch := omega) only [kcl, opS, F_X1_join, lg_0, lg_gt, lg_ge, lg_le, lg_lt, wJ_inl, nI_eqL, Nat.reduceEqDiff, Nat.reduceAdd, Nat.reduceLT, ↓reduceIte]
    refine fin _ _ ?_ ?_ <;> split <;> (try split) <;> first | rfl | assumption
  · simp (disch := omega) only [kcl, opS, F_X1_join, lg_0, lg_gt, lg_ge, lg_le, lg_lt, wJ_inl, nI_eqL, Nat.reduceEqDiff, Nat.reduceAdd, Nat.reduceLT, ↓reduceIte]
    refine ⟨_, rfl, ?_, ?_⟩
    · intro h
      split at h
      · rename_i q
        simp only [l_lt, l_b, l_nb] at q
        unfold lb
        omega
      · cases h
    · intro v h
      split at h
      · cases h
      · rename_i q
        cases h
        simp only [l_lt, l_b, l_nb] at q
        unfold lb
        exact ⟨rfl, by omega⟩
  · simp (disch := omega) only [kcl, opS, F_X1_join, lg_0, lg_gt, lg_ge, lg_le, lg_lt, wJ_inl, nI_eqL, Nat.reduceEqDiff, Nat.reduceAdd, Nat.reduceLT, ↓reduceIte]
    refine ⟨_, rfl, ?_, ?_⟩
    · intro h
      split at h
      · rename_i q
        simp only [l_lt, l_b, l_nb] at q
        unfold lb
        omega
      · cases h
    · intro v h
      split at h
      · cases h
      · rename_i q
        cases h
        simp only [l_lt, l_b, l_nb] at q
        unfold lb
        exact ⟨rfl, by omega⟩
  · simp (disch := omega) only [kcl, opS, F_X1_join, F_X1_join_j116, F_X1_join_j137, F_X1_join_j154, lg_0, lg_gt, lg_ge, lg_le, lg_lt, wJ_inl, nI_eqL, Nat.reduceEqDiff, Nat.reduceAdd, Nat.reduceLT, ↓reduceIte]
    have key : ∀ s : Int64, (0 < s.toInt ∧ (s.toInt = x.toInt ∨ s.toInt = -x.toInt)) → (1000000000000 / s).toInt = 1000000000000 / s.toInt ∧ lb (1000000000000 / s) ∧ 0 ≤ 1000000000000 / s.toInt := fun s h => l_most h.1 (by unfold lb at hx; omega)
    have nx := l_neg hx
    have ny := l_neg hy
    unfold lb at hx hy
    by_cases x0 : x = 0
    · subst x0
      have z : ((0 : Int64) ≤ 0) = True := by decide
      have z1 : ((1000000000000 : Int64) < y) = False := by rw [l_lt, l_b]; exact eq_false (by omega)
      have z2 : (-(1000000000000 : Int64) ≤ y) = True := by rw [l_le, l_nb]; exact eq_true (by omega)
      simp only [z, wJ_inl, z1, z2, ↓reduceIte, wJ_inr, Int64.zero_mul]
      exact fin _ _ rfl l0
    · have x1 : ¬ x.toInt = 0 := by rw [l_eq, l_z] at x0; exact x0
      simp only [x0, ↓reduceIte]
      have hs : ∃ s : Int64, (if 0 ≤ x then x else -x) = s ∧ wJ (X := Int64) (if 0 ≤ x then some (.inl x) else some (.inl (-x))) (fun q5 => wJ (X := Int64) (if q5 = 0 then some (.inl 1000000000000) else wG (¬ q5 = 0) (some (.inl (1000000000000 / q5)))) (fun x_1 => wJ (if x_1 < y then some (.inl ()) else if -x_1 ≤ y then some (.inr (x * y)) else some (.inl ())) fun (_ : Unit) => some (-9223372036854775808))) = wJ (if 1000000000000 / s < y then some (.inl ()) else if -(1000000000000 / s) ≤ y then some (.inr (x * y)) else some (.inl ())) (fun (_ : Unit) => some (-9223372036854775808)) ∧ 0 < s.toInt ∧ (s.toInt = x.toInt ∨ s.toInt = -x.toInt) := by
        by_cases xp : 0 ≤ x
        · have xp' := xp
          rw [l_le, l_z] at xp'
          refine ⟨x, if_pos xp, ?_, by omega, Or.inl rfl⟩
          simp only [xp, ↓reduceIte, wJ_inl, x0, wG_eq, not_false_eq_true]
        · have xp' := xp
          rw [l_le, l_z] at xp'
          have e0 : ¬ (-x) = 0 := by rw [l_eq, l_z, nx]; omega
          refine ⟨-x, if_neg xp, ?_, by omega, Or.inr nx⟩
          simp only [xp, ↓reduceIte, wJ_inl, e0, wG_eq, not_false_eq_true]
      obtain ⟨s, es, e1, h0, hsx⟩ := hs
      obtain ⟨m1, m2, m3⟩ := key s ⟨h0, hsx⟩
      have nm := l_neg m2
      rw [e1, es]
      have hm1 : 1 ≤ 1000000000000 / s.toInt := by
        have := Int.le_ediv_of_mul_le h0 (show 1 * s.toInt ≤ 1000000000000 by omega)
        exact this
      by_cases y0 : y = 0
      · subst y0
        simp only [l_lt, l_le, nm, m1, l_z, ↓reduceIte]
        have z1 : (1000000000000 / s.toInt < 0) = False := eq_false (by omega)
        have z2 : (-(1000000000000 / s.toInt) ≤ 0) = True := eq_true (by omega)
        simp only [z1, z2, ↓reduceIte, wJ_inr, Int64.mul_zero]
        exact fin _ _ rfl l0
      · have y1 : ¬ y.toInt = 0 := by rw [l_eq, l_z] at y0; exact y0
        simp only [y0, ↓reduceIte]
        have ht : (if 0 ≤ y then y else -y).toInt = y.toInt ∧ 0 ≤ y.toInt ∨ (if 0 ≤ y then y else -y).toInt = -y.toInt ∧ y.toInt < 0 := by
          by_cases yp : 0 ≤ y
          · rw [if_pos yp]
            rw [l_le, l_z] at yp
            exact Or.inl ⟨rfl, yp⟩
          · rw [if_neg yp]
            rw [l_le, l_z] at yp
            exact Or.inr ⟨ny, by omega⟩
        generalize (if 0 ≤ y then y else -y) = w at ht
        simp only [l_lt, l_le, nm, m1]
        by_cases q : 1000000000000 / s.toInt < w.toInt
        · simp only [q, ↓reduceIte]
          refine ⟨-9223372036854775808, ?_, fun _ => by unfold lb; rw [l_m]; omega, fun v h => by cases h⟩
          by_cases q1 : 1000000000000 / s.toInt < y.toInt
          · simp only [q1, ↓reduceIte, wJ_inl]
          · have q2 : (-(1000000000000 / s.toInt) ≤ y.toInt) = False := eq_false (by omega)
            simp only [q1, q2, ↓reduceIte, wJ_inl]
        · simp only [q, ↓reduceIte]
          have q1 : (1000000000000 / s.toInt < y.toInt) = False := eq_false (by omega)
          have q2 : (-(1000000000000 / s.toInt) ≤ y.toInt) = True := eq_true (by omega)
          simp only [q1, q2, ↓reduceIte, wJ_inr]
          have bd := mul_bd (x := x.toInt) (y := y.toInt) (s := s.toInt) (t := w.toInt) hsx (by omega) h0 (by omega) (by omega)
          refine fin _ _ rfl ?_
          unfold lb
          rw [l_mul bd]
          exact bd
  · simp (disch := omega) only [kcl, opS, F_X1_join, lg_0, lg_gt, lg_ge, lg_le, lg_lt, wJ_inl, nI_eqL, Nat.reduceEqDiff, Nat.reduceAdd, Nat.reduceLT, ↓reduceIte]
    by_cases y0 : y = 0
    · simp only [y0, ↓reduceIte]
      exact ⟨_, rfl, fun _ => by unfold lb; rw [l_m]; omega, fun v h => by cases h⟩
    · simp only [y0, ↓reduceIte, wG_eq, not_false_eq_true]
      exact fin _ _ rfl (l_div_lb hx)

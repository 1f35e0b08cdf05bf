/-! the reference works a law out -/
def E48 (t t' : wSt) : Prop := t'.2 = t.2 ∧ ∀ a j, ¬ (a = 79 ∧ j = 48) → t'.1 a j = t.1 a j
theorem E48_rf (t : wSt) : E48 t t := ⟨rfl, fun _ _ _ => rfl⟩
theorem E48_s (t : wSt) (x : Int32) : E48 t (w_sI t 79 48 x) := ⟨rfl, fun _ _ h => if_neg h⟩
section
variable {t : wSt} {x y : Int64}
theorem bounded_0 (h : t.1 79 48 = 0) : F_X9_bounded 79 x t = if (1000000000000 : Int64) < x ∨ x < (-1000000000000 : Int64) then some (0, w_sI t 79 48 1) else some (x, w_sI t 79 48 0) := by
  unfold F_X9_bounded F_X9_bounded_j24 F_X9_bounded_j29
  simp only [lg_gt, lg_ge]
  by_cases a : (1000000000000 : Int64) < x
  · simp only [a, true_or, if_true]
    repeat (first | simp (disch := first | assumption | omega) only [↓wB_eq, ↓wC_s, ↓wP_s, ↓wJ_inl, ↓wJ_inr, ↓wG_eq, ↓wSI_eq, ↓wSL_eq, ↓wSZ_eq, ↓wSB_eq, ↓ite_true, ↓ite_false, ↓wR_79, ↓wR_80, ↓wN_80, ↓wR_81, ↓wN_81, ↓wR_82, ↓wN_82, ↓wR_83, ↓wN_83, ↓wR_84, ↓wN_84, ↓wR_85, ↓wN_85, ↓wR_86, ↓wN_86, ↓wR_87, ↓wN_87, ↓wR_88, ↓wN_88, ↓wR_89, ↓wN_89, ↓wR_90, ↓wN_90, ↓wR_91, ↓wN_91, ↓wR_92, ↓wN_92, ↓wR_93, ↓wN_93, ↓wR_94, ↓wN_94, ↓wR_95, ↓wN_95, ↓wR_96, ↓wN_96, ↓wR_97, ↓wN_97, ↓wR_98, ↓wN_98, ↓wR_99, ↓wN_99, ↓wR_100, ↓wN_100, ↓wR_101, ↓wN_101, ↓wR_102, ↓wN_102, ↓wR_103, ↓wN_103, ↓wR_104, ↓wN_104, ↓wR_105, ↓wN_105, ↓wR_106, ↓wN_106, ↓wR_107, ↓wN_107, ↓wR_108, ↓wN_108, ↓wR_109, ↓wN_109, ↓wR_110, ↓wN_110, ↓wR_111, ↓wN_111, ↓wR_112, ↓wN_112, ↓wR_113, ↓wN_113, ↓wR_114, ↓wN_114, ↓wR_115, ↓wN_115, ↓wR_116, ↓wN_116, ↓wR_117, ↓wN_117, ↓wR_118, ↓wN_118, ↓wR_119, ↓wN_119] | simp (disch := first | assumption | omega) only [sI_r, sI_l, sL_r, sL_i, sR_i, sR_l, cp_r, cp_l, nI_add, nI_mul, nI_1, nI_leE, nI_ltE, nI_eqI, nI_neg, nI_neg2, nI_nn, nI_leL, nI_geL, nI_ltL, nI_gtL, nI_eqL, nI_mulL, nI_addL, nI_Ladd, nI_subL, wN_lit, bI_0, bI_1, l10, l01, lm0, lm1, or_true, true_or, or_false, false_or, and_true, true_and, sI_eq, Nat.not_lt_zero, eq_self, ite_true, ite_false, not_true_eq_false, not_false_eq_true, Nat.reduceAdd, Nat.reduceMul, Nat.reduceSub, Nat.reduceLT, Nat.reduceLeDiff, Nat.reduceEqDiff, h])
  · by_cases b : (-1000000000000 : Int64) ≤ x
    · have b' : (x < (-1000000000000 : Int64)) = False := by
        rw [l_lt]
        rw [l_le] at b
        exact eq_false (by omega)
      simp only [a, b, b', false_or, if_true, if_false]
      repeat (first | simp (disch := first | assumption | omega) only [↓wB_eq, ↓wC_s, ↓wP_s, ↓wJ_inl, ↓wJ_inr, ↓wG_eq, ↓wSI_eq, ↓wSL_eq, ↓wSZ_eq, ↓wSB_eq, ↓ite_true, ↓ite_false, ↓wR_79, ↓wR_80, ↓wN_80, ↓wR_81, ↓wN_81, ↓wR_82, ↓wN_82, ↓wR_83, ↓wN_83, ↓wR_84, ↓wN_84, ↓wR_85, ↓wN_85, ↓wR_86, ↓wN_86, ↓wR_87, ↓wN_87, ↓wR_88, ↓wN_88, ↓wR_89, ↓wN_89, ↓wR_90, ↓wN_90, ↓wR_91, ↓wN_91, ↓wR_92, ↓wN_92, ↓wR_93, ↓wN_93, ↓wR_94, ↓wN_94, ↓wR_95, ↓wN_95, ↓wR_96, ↓wN_96, ↓wR_97, ↓wN_97, ↓wR_98, ↓wN_98, ↓wR_99, ↓wN_99, ↓wR_100, ↓wN_100, ↓wR_101, ↓wN_101, ↓wR_102, ↓wN_102, ↓wR_103, ↓wN_103, ↓wR_104, ↓wN_104, ↓wR_105, ↓wN_105, ↓wR_106, ↓wN_106, ↓wR_107, ↓wN_107, ↓wR_108, ↓wN_108, ↓wR_109, ↓wN_109, ↓wR_110, ↓wN_110, ↓wR_111, ↓wN_111, ↓wR_112, ↓wN_112, ↓wR_113, ↓wN_113, ↓wR_114, ↓wN_114, ↓wR_115, ↓wN_115, ↓wR_116, ↓wN_116, ↓wR_117, ↓wN_117, ↓wR_118, ↓wN_118, ↓wR_119, ↓wN_119] | simp (disch := first | assumption | omega) only [sI_r, sI_l, sL_r, sL_i, sR_i, sR_l, cp_r, cp_l, nI_add, nI_mul, nI_1, nI_leE, nI_ltE, nI_eqI, nI_neg, nI_neg2, nI_nn, nI_leL, nI_geL, nI_ltL, nI_gtL, nI_eqL, nI_mulL, nI_addL, nI_Ladd, nI_subL, wN_lit, bI_0, bI_1, l10, l01, lm0, lm1, or_true, true_or, or_false, false_or, and_true, true_and, sI_eq, Nat.not_lt_zero, eq_self, ite_true, ite_false, not_true_eq_false, not_false_eq_true, Nat.reduceAdd, Nat.reduceMul, Nat.reduceSub, Nat.reduceLT, Nat.reduceLeDiff, Nat.reduceEqDiff, h])
    · have b' : (x < (-1000000000000 : Int64)) = True := by
        rw [l_lt]
        rw [l_le] at b
        exact eq_true (by omega)
      simp only [a, b, b', false_or, if_true, if_false]
      repeat (first | simp (disch := first | assumption | omega) only [↓wB_eq, ↓wC_s, ↓wP_s, ↓wJ_inl, ↓wJ_inr, ↓wG_eq, ↓wSI_eq, ↓wSL_eq, ↓wSZ_eq, ↓wSB_eq, ↓ite_true, ↓ite_false, ↓wR_79, ↓wR_80, ↓wN_80, ↓wR_81, ↓wN_81, ↓wR_82, ↓wN_82, ↓wR_83, ↓wN_83, ↓wR_84, ↓wN_84, ↓wR_85, ↓wN_85, ↓wR_86, ↓wN_86, ↓wR_87, ↓wN_87, ↓wR_88, ↓wN_88, ↓wR_89, ↓wN_89, ↓wR_90, ↓wN_90, ↓wR_91, ↓wN_91, ↓wR_92, ↓wN_92, ↓wR_93, ↓wN_93, ↓wR_94, ↓wN_94, ↓wR_95, ↓wN_95, ↓wR_96, ↓wN_96, ↓wR_97, ↓wN_97, ↓wR_98, ↓wN_98, ↓wR_99, ↓wN_99, ↓wR_100, ↓wN_100, ↓wR_101, ↓wN_101, ↓wR_102, ↓wN_102, ↓wR_103, ↓wN_103, ↓wR_104, ↓wN_104, ↓wR_105, ↓wN_105, ↓wR_106, ↓wN_106, ↓wR_107, ↓wN_107, ↓wR_108, ↓wN_108, ↓wR_109, ↓wN_109, ↓wR_110, ↓wN_110, ↓wR_111, ↓wN_111, ↓wR_112, ↓wN_112, ↓wR_113, ↓wN_113, ↓wR_114, ↓wN_114, ↓wR_115, ↓wN_115, ↓wR_116, ↓wN_116, ↓wR_117, ↓wN_117, ↓wR_118, ↓wN_118, ↓wR_119, ↓wN_119] | simp (disch := first | assumption | omega) only [sI_r, sI_l, sL_r, sL_i, sR_i, sR_l, cp_r, cp_l, nI_add, nI_mul, nI_1, nI_leE, nI_ltE, nI_eqI, nI_neg, nI_neg2, nI_nn, nI_leL, nI_geL, nI_ltL, nI_gtL, nI_eqL, nI_mulL, nI_addL, nI_Ladd, nI_subL, wN_lit, bI_0, bI_1, l10, l01, lm0, lm1, or_true, true_or, or_false, false_or, and_true, true_and, sI_eq, Nat.not_lt_zero, eq_self, ite_true, ite_false, not_true_eq_false, not_false_eq_true, Nat.reduceAdd, Nat.reduceMul, Nat.reduceSub, Nat.reduceLT, Nat.reduceLeDiff, Nat.reduceEqDiff, h])
theorem bounded_1 (h : t.1 79 48 = 1) : F_X9_bounded 79 x t = some (0, w_sI t 79 48 1) := by
  unfold F_X9_bounded F_X9_bounded_j24 F_X9_bounded_j29
  repeat (first | simp (disch := first | assumption | omega) only [↓wB_eq, ↓wC_s, ↓wP_s, ↓wJ_inl, ↓wJ_inr, ↓wG_eq, ↓wSI_eq, ↓wSL_eq, ↓wSZ_eq, ↓wSB_eq, ↓ite_true, ↓ite_false, ↓wR_79, ↓wR_80, ↓wN_80, ↓wR_81, ↓wN_81, ↓wR_82, ↓wN_82, ↓wR_83, ↓wN_83, ↓wR_84, ↓wN_84, ↓wR_85, ↓wN_85, ↓wR_86, ↓wN_86, ↓wR_87, ↓wN_87, ↓wR_88, ↓wN_88, ↓wR_89, ↓wN_89, ↓wR_90, ↓wN_90, ↓wR_91, ↓wN_91, ↓wR_92, ↓wN_92, ↓wR_93, ↓wN_93, ↓wR_94, ↓wN_94, ↓wR_95, ↓wN_95, ↓wR_96, ↓wN_96, ↓wR_97, ↓wN_97, ↓wR_98, ↓wN_98, ↓wR_99, ↓wN_99, ↓wR_100, ↓wN_100, ↓wR_101, ↓wN_101, ↓wR_102, ↓wN_102, ↓wR_103, ↓wN_103, ↓wR_104, ↓wN_104, ↓wR_105, ↓wN_105, ↓wR_106, ↓wN_106, ↓wR_107, ↓wN_107, ↓wR_108, ↓wN_108, ↓wR_109, ↓wN_109, ↓wR_110, ↓wN_110, ↓wR_111, ↓wN_111, ↓wR_112, ↓wN_112, ↓wR_113, ↓wN_113, ↓wR_114, ↓wN_114, ↓wR_115, ↓wN_115, ↓wR_116, ↓wN_116, ↓wR_117, ↓wN_117, ↓wR_118, ↓wN_118, ↓wR_119, ↓wN_119] | simp (disch := first | assumption | omega) only [sI_r, sI_l, sL_r, sL_i, sR_i, sR_l, cp_r, cp_l, nI_add, nI_mul, nI_1, nI_leE, nI_ltE, nI_eqI, nI_neg, nI_neg2, nI_nn, nI_leL, nI_geL, nI_ltL, nI_gtL, nI_eqL, nI_mulL, nI_addL, nI_Ladd, nI_subL, wN_lit, bI_0, bI_1, l10, l01, lm0, lm1, or_true, true_or, or_false, false_or, and_true, true_and, sI_eq, Nat.not_lt_zero, eq_self, ite_true, ite_false, not_true_eq_false, not_false_eq_true, Nat.reduceAdd, Nat.reduceMul, Nat.reduceSub, Nat.reduceLT, Nat.reduceLeDiff, Nat.reduceEqDiff, h])
theorem times_m : ∃ e : Int32, (e = 0 ∨ e = 1) ∧ F_X9_times 79 x y t = F_X9_times_j49 t 79 x y e ∧ opS 13 x y = (if e = 0 then some (x * y) else none) := by
  unfold F_X9_times F_X9_times_j24 F_X9_times_j39 F_X9_times_j48
  have ho : opS 13 x y = (if x = 0 then some 0 else if y = 0 then some 0 else if (1000000000000 : Int64) / (if 0 ≤ x then x else -x) < (if 0 ≤ y then y else -y) then none else some (x * y)) := rfl
  rw [ho]
  simp only [lg_0, lg_ge, lg_le]
  by_cases x0 : x = 0
  · exact ⟨0, Or.inl rfl, by simp only [x0, if_true, wJ_inl], by simp only [x0, if_true, Int64.zero_mul]⟩
  · by_cases y0 : y = 0
    · exact ⟨0, Or.inl rfl, by simp only [x0, y0, if_true, if_false, wJ_inl], by simp only [x0, y0, if_true, if_false, Int64.mul_zero]⟩
    · have nx : ¬ (if 0 ≤ x then x else -x) = 0 := by
        split
        · exact x0
        · intro h
          apply x0
          have := congrArg (fun z : Int64 => -z) h
          simpa using this
      simp only [x0, y0, if_false]
      have g1 : ∀ (Y : Type) (k : Int64 → Option Y), wJ (X := Int64) (if 0 ≤ y then some (.inl y) else some (.inl (-y))) k = k (if 0 ≤ y then y else -y) := by
        intro Y k
        split <;> rfl
      have g2 : ∀ (Y : Type) (k : Int64 → Option Y), wJ (X := Int64) (if 0 ≤ x then some (.inl x) else some (.inl (-x))) k = k (if 0 ≤ x then x else -x) := by
        intro Y k
        split <;> rfl
      simp only [g1, g2]
      generalize (if 0 ≤ x then x else -x) = a at nx
      generalize (if 0 ≤ y then y else -y) = b
      simp only [wG_eq, nx, not_false_eq_true, if_true]
      by_cases q : b ≤ 1000000000000 / a
      · refine ⟨0, Or.inl rfl, by simp only [q, if_true, wJ_inl], ?_⟩
        have : ¬ (1000000000000 / a < b) := by
          rw [l_le] at q
          rw [l_lt]
          omega
        simp only [this, if_true, if_false]
      · refine ⟨1, Or.inr rfl, by simp only [q, if_false, wJ_inr, wJ_inl], ?_⟩
        have : 1000000000000 / a < b := by
          rw [l_le] at q
          rw [l_lt]
          omega
        simp only [this, if_true, l10, if_false]
/-- a knot's value -/
def VR (t : wSt) (o : Option Int64) (r : Option (Int64 × wSt)) : Prop := ∃ v t', r = some (v, t') ∧ E48 t t' ∧ (t.1 79 48 = 1 → t'.1 79 48 = 1) ∧ (t.1 79 48 = 0 → (o = some v ∧ t'.1 79 48 = 0) ∨ (o = none ∧ t'.1 79 48 = 1))
theorem VR_v {v : Int64} : VR t (some v) (some (v, t)) := ⟨v, t, rfl, E48_rf t, id, fun h => Or.inl ⟨rfl, h⟩⟩
theorem VR_bounded (he : t.1 79 48 = 0 ∨ t.1 79 48 = 1) : VR t (if 1000000000000 < x ∨ x < -1000000000000 then none else some x) (wC (F_X9_bounded 79 x t) (fun q u => some (q, u))) := by
  rcases he with he | he
  · rw [bounded_0 he]
    by_cases q : (1000000000000 : Int64) < x ∨ x < (-1000000000000 : Int64)
    · simp only [if_pos q, wC_s]
      exact ⟨_, _, rfl, E48_s _ _, fun h => absurd (he.symm.trans h) (by decide), fun _ => Or.inr ⟨rfl, sI_eq _ _ _ _⟩⟩
    · simp only [if_neg q, wC_s]
      exact ⟨_, _, rfl, E48_s _ _, fun h => absurd (he.symm.trans h) (by decide), fun _ => Or.inl ⟨rfl, sI_eq _ _ _ _⟩⟩
  · rw [bounded_1 he, wC_s]
    exact ⟨_, _, rfl, E48_s _ _, fun _ => sI_eq _ _ _ _, fun h => absurd (he.symm.trans h) (by decide)⟩
theorem VR_times (he : t.1 79 48 = 0 ∨ t.1 79 48 = 1) : VR t (opS 13 x y) (wC (F_X9_times 79 x y t) (fun q u => some (q, u))) := by
  obtain ⟨e, h1, h2, h3⟩ := times_m (t := t) (x := x) (y := y)
  rw [h2, h3]
  unfold F_X9_times_j49 F_X9_times_j64 F_X9_times_j69
  rcases he with he | he
  · rcases h1 with rfl | rfl
    · repeat (first | simp (disch := first | assumption | omega) only [↓wB_eq, ↓wC_s, ↓wP_s, ↓wJ_inl, ↓wJ_inr, ↓wG_eq, ↓wSI_eq, ↓wSL_eq, ↓wSZ_eq, ↓wSB_eq, ↓ite_true, ↓ite_false, ↓wR_79, ↓wR_80, ↓wN_80, ↓wR_81, ↓wN_81, ↓wR_82, ↓wN_82, ↓wR_83, ↓wN_83, ↓wR_84, ↓wN_84, ↓wR_85, ↓wN_85, ↓wR_86, ↓wN_86, ↓wR_87, ↓wN_87, ↓wR_88, ↓wN_88, ↓wR_89, ↓wN_89, ↓wR_90, ↓wN_90, ↓wR_91, ↓wN_91, ↓wR_92, ↓wN_92, ↓wR_93, ↓wN_93, ↓wR_94, ↓wN_94, ↓wR_95, ↓wN_95, ↓wR_96, ↓wN_96, ↓wR_97, ↓wN_97, ↓wR_98, ↓wN_98, ↓wR_99, ↓wN_99, ↓wR_100, ↓wN_100, ↓wR_101, ↓wN_101, ↓wR_102, ↓wN_102, ↓wR_103, ↓wN_103, ↓wR_104, ↓wN_104, ↓wR_105, ↓wN_105, ↓wR_106, ↓wN_106, ↓wR_107, ↓wN_107, ↓wR_108, ↓wN_108, ↓wR_109, ↓wN_109, ↓wR_110, ↓wN_110, ↓wR_111, ↓wN_111, ↓wR_112, ↓wN_112, ↓wR_113, ↓wN_113, ↓wR_114, ↓wN_114, ↓wR_115, ↓wN_115, ↓wR_116, ↓wN_116, ↓wR_117, ↓wN_117, ↓wR_118, ↓wN_118, ↓wR_119, ↓wN_119] | simp (disch := first | assumption | omega) only [sI_r, sI_l, sL_r, sL_i, sR_i, sR_l, cp_r, cp_l, nI_add, nI_mul, nI_1, nI_leE, nI_ltE, nI_eqI, nI_neg, nI_neg2, nI_nn, nI_leL, nI_geL, nI_ltL, nI_gtL, nI_eqL, nI_mulL, nI_addL, nI_Ladd, nI_subL, wN_lit, bI_0, bI_1, l10, l01, lm0, lm1, or_true, true_or, or_false, false_or, and_true, true_and, sI_eq, Nat.not_lt_zero, eq_self, ite_true, ite_false, not_true_eq_false, not_false_eq_true, Nat.reduceAdd, Nat.reduceMul, Nat.reduceSub, Nat.reduceLT, Nat.reduceLeDiff, Nat.reduceEqDiff, he])
      exact ⟨_, _, rfl, E48_s _ _, fun h => absurd (he.symm.trans h) (by decide), fun _ => Or.inl ⟨rfl, sI_eq _ _ _ _⟩⟩
    · repeat (first | simp (disch := first | assumption | omega) only [↓wB_eq, ↓wC_s, ↓wP_s, ↓wJ_inl, ↓wJ_inr, ↓wG_eq, ↓wSI_eq, ↓wSL_eq, ↓wSZ_eq, ↓wSB_eq, ↓ite_true, ↓ite_false, ↓wR_79, ↓wR_80, ↓wN_80, ↓wR_81, ↓wN_81, ↓wR_82, ↓wN_82, ↓wR_83, ↓wN_83, ↓wR_84, ↓wN_84, ↓wR_85, ↓wN_85, ↓wR_86, ↓wN_86, ↓wR_87, ↓wN_87, ↓wR_88, ↓wN_88, ↓wR_89, ↓wN_89, ↓wR_90, ↓wN_90, ↓wR_91, ↓wN_91, ↓wR_92, ↓wN_92, ↓wR_93, ↓wN_93, ↓wR_94, ↓wN_94, ↓wR_95, ↓wN_95, ↓wR_96, ↓wN_96, ↓wR_97, ↓wN_97, ↓wR_98, ↓wN_98, ↓wR_99, ↓wN_99, ↓wR_100, ↓wN_100, ↓wR_101, ↓wN_101, ↓wR_102, ↓wN_102, ↓wR_103, ↓wN_103, ↓wR_104, ↓wN_104, ↓wR_105, ↓wN_105, ↓wR_106, ↓wN_106, ↓wR_107, ↓wN_107, ↓wR_108, ↓wN_108, ↓wR_109, ↓wN_109, ↓wR_110, ↓wN_110, ↓wR_111, ↓wN_111, ↓wR_112, ↓wN_112, ↓wR_113, ↓wN_113, ↓wR_114, ↓wN_114, ↓wR_115, ↓wN_115, ↓wR_116, ↓wN_116, ↓wR_117, ↓wN_117, ↓wR_118, ↓wN_118, ↓wR_119, ↓wN_119] | simp (disch := first | assumption | omega) only [sI_r, sI_l, sL_r, sL_i, sR_i, sR_l, cp_r, cp_l, nI_add, nI_mul, nI_1, nI_leE, nI_ltE, nI_eqI, nI_neg, nI_neg2, nI_nn, nI_leL, nI_geL, nI_ltL, nI_gtL, nI_eqL, nI_mulL, nI_addL, nI_Ladd, nI_subL, wN_lit, bI_0, bI_1, l10, l01, lm0, lm1, or_true, true_or, or_false, false_or, and_true, true_and, sI_eq, Nat.not_lt_zero, eq_self, ite_true, ite_false, not_true_eq_false, not_false_eq_true, Nat.reduceAdd, Nat.reduceMul, Nat.reduceSub, Nat.reduceLT, Nat.reduceLeDiff, Nat.reduceEqDiff, he])
      exact ⟨_, _, rfl, E48_s _ _, fun h => absurd (he.symm.trans h) (by decide), fun _ => Or.inr ⟨rfl, sI_eq _ _ _ _⟩⟩
  · repeat (first | simp (disch := first | assumption | omega) only [↓wB_eq, ↓wC_s, ↓wP_s, ↓wJ_inl, ↓wJ_inr, ↓wG_eq, ↓wSI_eq, ↓wSL_eq, ↓wSZ_eq, ↓wSB_eq, ↓ite_true, ↓ite_false, ↓wR_79, ↓wR_80, ↓wN_80, ↓wR_81, ↓wN_81, ↓wR_82, ↓wN_82, ↓wR_83, ↓wN_83, ↓wR_84, ↓wN_84, ↓wR_85, ↓wN_85, ↓wR_86, ↓wN_86, ↓wR_87, ↓wN_87, ↓wR_88, ↓wN_88, ↓wR_89, ↓wN_89, ↓wR_90, ↓wN_90, ↓wR_91, ↓wN_91, ↓wR_92, ↓wN_92, ↓wR_93, ↓wN_93, ↓wR_94, ↓wN_94, ↓wR_95, ↓wN_95, ↓wR_96, ↓wN_96, ↓wR_97, ↓wN_97, ↓wR_98, ↓wN_98, ↓wR_99, ↓wN_99, ↓wR_100, ↓wN_100, ↓wR_101, ↓wN_101, ↓wR_102, ↓wN_102, ↓wR_103, ↓wN_103, ↓wR_104, ↓wN_104, ↓wR_105, ↓wN_105, ↓wR_106, ↓wN_106, ↓wR_107, ↓wN_107, ↓wR_108, ↓wN_108, ↓wR_109, ↓wN_109, ↓wR_110, ↓wN_110, ↓wR_111, ↓wN_111, ↓wR_112, ↓wN_112, ↓wR_113, ↓wN_113, ↓wR_114, ↓wN_114, ↓wR_115, ↓wN_115, ↓wR_116, ↓wN_116, ↓wR_117, ↓wN_117, ↓wR_118, ↓wN_118, ↓wR_119, ↓wN_119] | simp (disch := first | assumption | omega) only [sI_r, sI_l, sL_r, sL_i, sR_i, sR_l, cp_r, cp_l, nI_add, nI_mul, nI_1, nI_leE, nI_ltE, nI_eqI, nI_neg, nI_neg2, nI_nn, nI_leL, nI_geL, nI_ltL, nI_gtL, nI_eqL, nI_mulL, nI_addL, nI_Ladd, nI_subL, wN_lit, bI_0, bI_1, l10, l01, lm0, lm1, or_true, true_or, or_false, false_or, and_true, true_and, sI_eq, Nat.not_lt_zero, eq_self, ite_true, ite_false, not_true_eq_false, not_false_eq_true, Nat.reduceAdd, Nat.reduceMul, Nat.reduceSub, Nat.reduceLT, Nat.reduceLeDiff, Nat.reduceEqDiff, he])
    exact ⟨_, _, rfl, E48_s _ _, fun _ => sI_eq _ _ _ _, fun h => absurd (he.symm.trans h) (by decide)⟩
theorem VR_by (he : t.1 79 48 = 0 ∨ t.1 79 48 = 1) : VR t (if y = 0 then none else some (x / y)) (wJ (X := Int32) (wJ (X := Unit) (if t.1 79 48 = 0 then (if lg_cmp y 0 = 0 then some (.inl ()) else some (.inr (.inl (0 : Int32)))) else some (.inl ())) (fun _ => F_X9_valueOf_j235)) (fun z => F_X9_valueOf_j240 t 79 y x z)) := by
  unfold F_X9_valueOf_j235 F_X9_valueOf_j240
  simp only [lg_0]
  rcases he with he | he
  · by_cases y0 : y = 0
    · simp only [y0, if_true]
      repeat (first | simp (disch := first | assumption | omega) only [↓wB_eq, ↓wC_s, ↓wP_s, ↓wJ_inl, ↓wJ_inr, ↓wG_eq, ↓wSI_eq, ↓wSL_eq, ↓wSZ_eq, ↓wSB_eq, ↓ite_true, ↓ite_false, ↓wR_79, ↓wR_80, ↓wN_80, ↓wR_81, ↓wN_81, ↓wR_82, ↓wN_82, ↓wR_83, ↓wN_83, ↓wR_84, ↓wN_84, ↓wR_85, ↓wN_85, ↓wR_86, ↓wN_86, ↓wR_87, ↓wN_87, ↓wR_88, ↓wN_88, ↓wR_89, ↓wN_89, ↓wR_90, ↓wN_90, ↓wR_91, ↓wN_91, ↓wR_92, ↓wN_92, ↓wR_93, ↓wN_93, ↓wR_94, ↓wN_94, ↓wR_95, ↓wN_95, ↓wR_96, ↓wN_96, ↓wR_97, ↓wN_97, ↓wR_98, ↓wN_98, ↓wR_99, ↓wN_99, ↓wR_100, ↓wN_100, ↓wR_101, ↓wN_101, ↓wR_102, ↓wN_102, ↓wR_103, ↓wN_103, ↓wR_104, ↓wN_104, ↓wR_105, ↓wN_105, ↓wR_106, ↓wN_106, ↓wR_107, ↓wN_107, ↓wR_108, ↓wN_108, ↓wR_109, ↓wN_109, ↓wR_110, ↓wN_110, ↓wR_111, ↓wN_111, ↓wR_112, ↓wN_112, ↓wR_113, ↓wN_113, ↓wR_114, ↓wN_114, ↓wR_115, ↓wN_115, ↓wR_116, ↓wN_116, ↓wR_117, ↓wN_117, ↓wR_118, ↓wN_118, ↓wR_119, ↓wN_119] | simp (disch := first | assumption | omega) only [sI_r, sI_l, sL_r, sL_i, sR_i, sR_l, cp_r, cp_l, nI_add, nI_mul, nI_1, nI_leE, nI_ltE, nI_eqI, nI_neg, nI_neg2, nI_nn, nI_leL, nI_geL, nI_ltL, nI_gtL, nI_eqL, nI_mulL, nI_addL, nI_Ladd, nI_subL, wN_lit, bI_0, bI_1, l10, l01, lm0, lm1, or_true, true_or, or_false, false_or, and_true, true_and, sI_eq, Nat.not_lt_zero, eq_self, ite_true, ite_false, not_true_eq_false, not_false_eq_true, Nat.reduceAdd, Nat.reduceMul, Nat.reduceSub, Nat.reduceLT, Nat.reduceLeDiff, Nat.reduceEqDiff, he])
      exact ⟨_, _, rfl, E48_s _ _, fun h => absurd (he.symm.trans h) (by decide), fun _ => Or.inr ⟨rfl, sI_eq _ _ _ _⟩⟩
    · simp only [y0, if_false]
      repeat (first | simp (disch := first | assumption | omega) only [↓wB_eq, ↓wC_s, ↓wP_s, ↓wJ_inl, ↓wJ_inr, ↓wG_eq, ↓wSI_eq, ↓wSL_eq, ↓wSZ_eq, ↓wSB_eq, ↓ite_true, ↓ite_false, ↓wR_79, ↓wR_80, ↓wN_80, ↓wR_81, ↓wN_81, ↓wR_82, ↓wN_82, ↓wR_83, ↓wN_83, ↓wR_84, ↓wN_84, ↓wR_85, ↓wN_85, ↓wR_86, ↓wN_86, ↓wR_87, ↓wN_87, ↓wR_88, ↓wN_88, ↓wR_89, ↓wN_89, ↓wR_90, ↓wN_90, ↓wR_91, ↓wN_91, ↓wR_92, ↓wN_92, ↓wR_93, ↓wN_93, ↓wR_94, ↓wN_94, ↓wR_95, ↓wN_95, ↓wR_96, ↓wN_96, ↓wR_97, ↓wN_97, ↓wR_98, ↓wN_98, ↓wR_99, ↓wN_99, ↓wR_100, ↓wN_100, ↓wR_101, ↓wN_101, ↓wR_102, ↓wN_102, ↓wR_103, ↓wN_103, ↓wR_104, ↓wN_104, ↓wR_105, ↓wN_105, ↓wR_106, ↓wN_106, ↓wR_107, ↓wN_107, ↓wR_108, ↓wN_108, ↓wR_109, ↓wN_109, ↓wR_110, ↓wN_110, ↓wR_111, ↓wN_111, ↓wR_112, ↓wN_112, ↓wR_113, ↓wN_113, ↓wR_114, ↓wN_114, ↓wR_115, ↓wN_115, ↓wR_116, ↓wN_116, ↓wR_117, ↓wN_117, ↓wR_118, ↓wN_118, ↓wR_119, ↓wN_119] | simp (disch := first | assumption | omega) only [sI_r, sI_l, sL_r, sL_i, sR_i, sR_l, cp_r, cp_l, nI_add, nI_mul, nI_1, nI_leE, nI_ltE, nI_eqI, nI_neg, nI_neg2, nI_nn, nI_leL, nI_geL, nI_ltL, nI_gtL, nI_eqL, nI_mulL, nI_addL, nI_Ladd, nI_subL, wN_lit, bI_0, bI_1, l10, l01, lm0, lm1, or_true, true_or, or_false, false_or, and_true, true_and, sI_eq, Nat.not_lt_zero, eq_self, ite_true, ite_false, not_true_eq_false, not_false_eq_true, Nat.reduceAdd, Nat.reduceMul, Nat.reduceSub, Nat.reduceLT, Nat.reduceLeDiff, Nat.reduceEqDiff, he, y0])
      exact ⟨_, _, rfl, E48_s _ _, fun h => absurd (he.symm.trans h) (by decide), fun _ => Or.inl ⟨rfl, sI_eq _ _ _ _⟩⟩
  · repeat (first | simp (disch := first | assumption | omega) only [↓wB_eq, ↓wC_s, ↓wP_s, ↓wJ_inl, ↓wJ_inr, ↓wG_eq, ↓wSI_eq, ↓wSL_eq, ↓wSZ_eq, ↓wSB_eq, ↓ite_true, ↓ite_false, ↓wR_79, ↓wR_80, ↓wN_80, ↓wR_81, ↓wN_81, ↓wR_82, ↓wN_82, ↓wR_83, ↓wN_83, ↓wR_84, ↓wN_84, ↓wR_85, ↓wN_85, ↓wR_86, ↓wN_86, ↓wR_87, ↓wN_87, ↓wR_88, ↓wN_88, ↓wR_89, ↓wN_89, ↓wR_90, ↓wN_90, ↓wR_91, ↓wN_91, ↓wR_92, ↓wN_92, ↓wR_93, ↓wN_93, ↓wR_94, ↓wN_94, ↓wR_95, ↓wN_95, ↓wR_96, ↓wN_96, ↓wR_97, ↓wN_97, ↓wR_98, ↓wN_98, ↓wR_99, ↓wN_99, ↓wR_100, ↓wN_100, ↓wR_101, ↓wN_101, ↓wR_102, ↓wN_102, ↓wR_103, ↓wN_103, ↓wR_104, ↓wN_104, ↓wR_105, ↓wN_105, ↓wR_106, ↓wN_106, ↓wR_107, ↓wN_107, ↓wR_108, ↓wN_108, ↓wR_109, ↓wN_109, ↓wR_110, ↓wN_110, ↓wR_111, ↓wN_111, ↓wR_112, ↓wN_112, ↓wR_113, ↓wN_113, ↓wR_114, ↓wN_114, ↓wR_115, ↓wN_115, ↓wR_116, ↓wN_116, ↓wR_117, ↓wN_117, ↓wR_118, ↓wN_118, ↓wR_119, ↓wN_119] | simp (disch := first | assumption | omega) only [sI_r, sI_l, sL_r, sL_i, sR_i, sR_l, cp_r, cp_l, nI_add, nI_mul, nI_1, nI_leE, nI_ltE, nI_eqI, nI_neg, nI_neg2, nI_nn, nI_leL, nI_geL, nI_ltL, nI_gtL, nI_eqL, nI_mulL, nI_addL, nI_Ladd, nI_subL, wN_lit, bI_0, bI_1, l10, l01, lm0, lm1, or_true, true_or, or_false, false_or, and_true, true_and, sI_eq, Nat.not_lt_zero, eq_self, ite_true, ite_false, not_true_eq_false, not_false_eq_true, Nat.reduceAdd, Nat.reduceMul, Nat.reduceSub, Nat.reduceLT, Nat.reduceLeDiff, Nat.reduceEqDiff, he])
    exact ⟨_, _, rfl, E48_s _ _, fun _ => sI_eq _ _ _ _, fun h => absurd (he.symm.trans h) (by decide)⟩
theorem VR_o {o o' : Option Int64} {r : Option (Int64 × wSt)} (h : VR t o r) (e : o = o') : VR t o' r := e ▸ h
theorem val_r {K N : Int32} {i : Nat} {s s' : List Nat} (hm : PM t.2.2) (he : t.1 79 48 = 0 ∨ t.1 79 48 = 1) (hi : i < 64) (hs : ∀ x, x ∈ s → x < 64) (hN : Nd K N (t.1 96 i) (t.1 98 i) (t.1 99 i) i s s') : VR t (vstep (t.1 96 i) (t.1 98 i) (t.1 99 i) (t.2.1 102) (t.2.1 103)) (F_X9_valueOf 79 (nI i) t) := by
  unfold PM at hm
  have q34 : t.2.2 79 34 = 97 := by simp only [hm]
  have q36 : t.2.2 79 36 = 99 := by simp only [hm]
  have q37 : t.2.2 79 37 = 100 := by simp only [hm]
  have q46 : t.2.2 79 46 = 103 := by simp only [hm]
  have q47 : t.2.2 79 47 = 104 := by simp only [hm]
  have hi2 : i < 128 := by omega
  unfold F_X9_valueOf
  rw [q34, wR_96, wN_96 _ hi2]
  rcases hN with ⟨eK, ek, ep, ⟨x, hx, eN⟩, es⟩ | ⟨j, hj, eK, ek, ep, es⟩ | ⟨a, r, es0, eK, ek, ep, es⟩ | ⟨b, a, r, es0, ⟨j, hj3, hj15, eK, ek⟩, ep, eo, es⟩
  · have hv : vstep (t.1 96 i) (t.1 98 i) (t.1 99 i) (t.2.1 102) (t.2.1 103) = some (t.1 98 i).toInt64 := by rw [ek]; rfl
    rw [hv, if_pos ek, q36, wR_98, wN_98 _ hi2]
    exact VR_v
  · have hv : vstep (t.1 96 i) (t.1 98 i) (t.1 99 i) (t.2.1 102) (t.2.1 103) = some (t.2.1 102 j) := by rw [ek, ep, vs_name (by omega)]
    rw [hv, if_neg (by rw [ek]; decide), wR_96, wN_96 _ hi2, if_pos ek, q46, wR_102, q36, wR_98, wN_98 _ hi2, ep, wN_102 _ hj]
    exact VR_v
  · have ha := hs a (by rw [es0]; simp)
    have hv : vstep (t.1 96 i) (t.1 98 i) (t.1 99 i) (t.2.1 102) (t.2.1 103) = some (if t.2.1 103 a = 0 then 1 else 0) := by rw [ek, ep, vs_not (by omega)]
    have d0 : ¬ t.1 96 i = 0 := by rw [ek]; decide
    have d1 : ¬ t.1 96 i = 1 := by rw [ek]; decide
    rw [hv, if_neg d0, wR_96, wN_96 _ hi2, if_neg d1, q47, wR_103, q36, wR_98, wN_98 _ hi2, ep, wN_103 _ ha, wB_eq, wR_96, wN_96 _ hi2, if_pos ek]
    simp only [lg_0]
    by_cases z : t.2.1 103 a = 0
    · simp only [z, if_true]
      exact VR_v
    · simp only [z, if_false]
      exact VR_v
  · have ha := hs a (by rw [es0]; simp)
    have hb := hs b (by rw [es0]; simp)
    have hv : vstep (t.1 96 i) (t.1 98 i) (t.1 99 i) (t.2.1 102) (t.2.1 103) = opS j (t.2.1 103 a) (t.2.1 103 b) := by rw [ek, ep, eo, vs_op hj3 hj15 (by omega) (by omega)]
    have c0 : ¬ t.1 96 i = 0 := by rw [ek, show (0 : Int32) = nI 0 from rfl, nI_eqI (by omega) (by omega)]; omega
    have c1 : ¬ t.1 96 i = 1 := by rw [ek, show (1 : Int32) = nI 1 from rfl, nI_eqI (by omega) (by omega)]; omega
    have c2 : ¬ t.1 96 i = 2 := by rw [ek, show (2 : Int32) = nI 2 from rfl, nI_eqI (by omega) (by omega)]; omega
    rw [hv, if_neg c0, wR_96, wN_96 _ hi2, if_neg c1, q47, wR_103, q36, wR_98, wN_98 _ hi2, ep, wN_103 _ ha, wB_eq, wR_96, wN_96 _ hi2, if_neg c2, wR_103, q37, wR_99, wN_99 _ hi2, eo, wN_103 _ hb, wB_eq, wR_96, wN_96 _ hi2, wB_eq, ek]
    generalize t.2.1 103 a = x
    generalize t.2.1 103 b = y
    have hj : j = 3 ∨ j = 4 ∨ j = 5 ∨ j = 6 ∨ j = 7 ∨ j = 8 ∨ j = 9 ∨ j = 10 ∨ j = 11 ∨ j = 12 ∨ j = 13 ∨ j = 14 := by omega
    have cm : ∀ (z : Nat) (q : Prop) [Decidable q] (e1 e2 : Int32), (e1 = 0 ∨ e1 = 1) → (e2 = 0 ∨ e2 = 1) → F_X9_compares (nI z) x y t = (if q then some e1 else some e2) → opS z x y = some (if q then e1.toInt64 else e2.toInt64) → VR t (opS z x y) (wP (F_X9_compares (nI z) x y t) (fun (i34 : Int32) => if i34 = 0 then (some ((0 : Int64), t)) else (some ((1 : Int64), t)))) := by
      intro z q _ e1 e2 h1 h2 h3 h4
      rw [h3, h4]
      by_cases hq : q
      · simp only [hq, if_true, wP_s]
        rcases h1 with rfl | rfl
        · exact VR_v
        · exact VR_v
      · simp only [hq, if_false, wP_s]
        rcases h2 with rfl | rfl
        · exact VR_v
        · exact VR_v
    rcases hj with rfl | rfl | rfl | rfl | rfl | rfl | rfl | rfl | rfl | rfl | rfl | rfl
    · rw [if_pos (by decide)]
      simp only [lg_0]
      refine VR_o (o := some (if x = 0 then 0 else if y = 0 then 0 else 1)) ?_ rfl
      by_cases z1 : x = 0
      · simp only [z1, if_true]
        exact VR_v
      · by_cases z2 : y = 0
        · simp only [z1, z2, if_true, if_false]
          exact VR_v
        · simp only [z1, z2, if_false]
          exact VR_v
    · rw [if_neg (by decide), if_pos (by decide)]
      simp only [lg_0]
      refine VR_o (o := some (if x = 0 then (if y = 0 then 0 else 1) else 1)) ?_ rfl
      by_cases z1 : x = 0
      · by_cases z2 : y = 0
        · simp only [z1, z2, if_true]
          exact VR_v
        · simp only [z1, z2, if_true, if_false]
          exact VR_v
      · simp only [z1, if_false]
        exact VR_v
    · rw [if_neg (by decide), if_neg (by decide), if_neg (by decide), if_neg (by decide), if_neg (by decide), if_neg (by decide), wR_96, wN_96 _ hi2, ek]
      refine cm 5 (y ≤ x) 0 1 (by decide) (by decide) ?_ rfl
      unfold F_X9_compares
      simp (disch := omega) only [nI_eqL, Nat.reduceEqDiff, if_true, if_false, lg_ge]
    · rw [if_neg (by decide), if_neg (by decide), if_neg (by decide), if_neg (by decide), if_neg (by decide), if_neg (by decide), wR_96, wN_96 _ hi2, ek]
      refine cm 6 (y < x) 0 1 (by decide) (by decide) ?_ rfl
      unfold F_X9_compares
      simp (disch := omega) only [nI_eqL, Nat.reduceEqDiff, if_true, if_false, lg_gt]
    · rw [if_neg (by decide), if_neg (by decide), if_neg (by decide), if_neg (by decide), if_neg (by decide), if_neg (by decide), wR_96, wN_96 _ hi2, ek]
      refine cm 7 (x = y) 1 0 (by decide) (by decide) ?_ rfl
      unfold F_X9_compares
      simp (disch := omega) only [nI_eqL, Nat.reduceEqDiff, if_true, if_false, lg_0]
    · rw [if_neg (by decide), if_neg (by decide), if_neg (by decide), if_neg (by decide), if_neg (by decide), if_neg (by decide), wR_96, wN_96 _ hi2, ek]
      refine cm 8 (x = y) 0 1 (by decide) (by decide) ?_ rfl
      unfold F_X9_compares
      simp (disch := omega) only [nI_eqL, Nat.reduceEqDiff, if_true, if_false, lg_0]
    · rw [if_neg (by decide), if_neg (by decide), if_neg (by decide), if_neg (by decide), if_neg (by decide), if_neg (by decide), wR_96, wN_96 _ hi2, ek]
      refine cm 9 (x < y) 0 1 (by decide) (by decide) ?_ rfl
      unfold F_X9_compares
      simp (disch := omega) only [nI_eqL, Nat.reduceEqDiff, if_true, if_false, lg_lt]
    · rw [if_neg (by decide), if_neg (by decide), if_neg (by decide), if_neg (by decide), if_neg (by decide), if_neg (by decide), wR_96, wN_96 _ hi2, ek]
      refine cm 10 (x ≤ y) 0 1 (by decide) (by decide) ?_ rfl
      unfold F_X9_compares
      simp (disch := omega) only [nI_eqL, Nat.reduceEqDiff, if_true, if_false, lg_le]
    · rw [if_neg (by decide), if_neg (by decide), if_pos (by decide)]
      exact VR_o (VR_bounded he) rfl
    · rw [if_neg (by decide), if_neg (by decide), if_neg (by decide), if_pos (by decide)]
      exact VR_o (VR_bounded he) rfl
    · rw [if_neg (by decide), if_neg (by decide), if_neg (by decide), if_neg (by decide), if_pos (by decide)]
      exact VR_times he
    · rw [if_neg (by decide), if_neg (by decide), if_neg (by decide), if_neg (by decide), if_neg (by decide), if_pos (by decide)]
      exact VR_o (VR_by he) rfl
end

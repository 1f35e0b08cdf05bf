/-! what the laws say of praise, of biting, of shock -/
theorem l_99 : (99 : Int64).toInt = 99 := by decide
theorem w99_e (q : Int64) : (w_maxl 0 (w_minl 99 q)) = if 0 ≤ q then (if q ≤ 99 then q else 99) else 0 := by
  unfold w_maxl w_minl
  by_cases h1 : 0 ≤ q
  · rw [if_pos h1]
    by_cases h2 : q < 99
    · have h3 : q ≤ 99 := by rw [l_le]; rw [l_lt] at h2; omega
      have h4 : ¬ q < 0 := by rw [l_lt]; rw [l_le] at h1; omega
      rw [if_pos h2, if_pos h3, if_neg h4]
    · rw [if_neg h2]
      have h4 : ¬ (99 : Int64) < 0 := by decide
      rw [if_neg h4]
      by_cases h3 : q ≤ 99
      · rw [if_pos h3]
        rw [l_lt] at h2
        rw [l_le] at h3
        exact Int64.toInt_inj.mp (by omega)
      · rw [if_neg h3]
  · rw [if_neg h1]
    have h2 : q < 99 := by rw [l_lt, l_99]; rw [l_le, l_z] at h1; omega
    have h4 : q < 0 := by rw [l_lt]; rw [l_le] at h1; omega
    rw [if_pos h2, if_pos h4]
theorem w99_nn (q : Int64) : ∃ p : Nat, p ≤ 99 ∧ (w_maxl 0 (w_minl 99 q)).toInt32 = nI p := by
  have h : 0 ≤ (w_maxl 0 (w_minl 99 q)).toInt ∧ (w_maxl 0 (w_minl 99 q)).toInt ≤ 99 := by
    rw [w99_e]
    by_cases h1 : 0 ≤ q
    · rw [if_pos h1]
      by_cases h2 : q ≤ 99
      · rw [if_pos h2]
        rw [l_le, l_z] at h1
        rw [l_le, l_99] at h2
        omega
      · rw [if_neg h2, l_99]
        omega
    · rw [if_neg h1, l_z]
      omega
  generalize w_maxl 0 (w_minl 99 q) = v at h
  refine ⟨v.toInt.toNat, by omega, ?_⟩
  apply Int32.toInt_inj.mp
  rw [Int64.toInt_toInt32, nI_toInt (by omega)]
  have : v.toInt.bmod (2 ^ 32) = v.toInt := Int.bmod_eq_of_le (by omega) (by omega)
  rw [this]
  omega
theorem max0_e (y : Int32) : w_max 0 y = if 0 ≤ y then y else 0 := by
  unfold w_max
  by_cases h1 : 0 ≤ y
  · rw [if_pos h1]
    by_cases h2 : 0 < y
    · rw [if_pos h2]
    · rw [if_neg h2]
      rw [Int32.lt_iff_toInt_lt] at h2
      rw [Int32.le_iff_toInt_le] at h1
      exact Int32.toInt_inj.mp (by omega)
  · rw [if_neg h1]
    have h2 : ¬ 0 < y := by
      rw [Int32.lt_iff_toInt_lt]
      rw [Int32.le_iff_toInt_le] at h1
      omega
    rw [if_neg h2]
theorem max0_nn (y : Int32) : ∃ p : Nat, p < 2147483648 ∧ w_max 0 y = nI p := by
  apply nI_of'
  rw [max0_e]
  split
  · assumption
  · decide
theorem m_lb : ¬ lb (-9223372036854775808) := by
  unfold lb
  rw [l_m]
  omega
section
variable {n m k d c b B : Nat} {u t : wSt}
theorem sweet_e {f : Nat} (hx : Cx n m k d c b B u t) (hf : f < m) : ∃ sw, F_X0_sweetOf 64 (nI f) u = some sw ∧ ∀ u' t', QC u u' → LR t t' → F_X0_sweetOf 64 (nI f) u' = some sw ∧ F_X9_sweetIn 79 (nI f) t' = some sw := by
  obtain ⟨x, y, h1, h2, rfl⟩ := sweet_rl hx hf
  refine ⟨x, h1, fun u' t' hu ht => ?_⟩
  obtain ⟨x2, y2, h3, h4, rfl⟩ := sweet_rl (Cx_q hx (QC_rf u) ht) hf
  obtain ⟨x5, y5, h7, h8, rfl⟩ := sweet_rl (Cx_q hx hu (LR_rf t)) hf
  rw [h1] at h3
  cases h3
  rw [h2] at h8
  cases h8
  exact ⟨h7, h4⟩
theorem Lw_e {w : Nat} (hx : Cx n m k d c b B u t) (hw : w < 3) : t.1 93 w = u.1 (d + 11) w ∧ (u.1 (d + 11) w = 0 ∨ u.1 (d + 11) w = 1) := by
  obtain ⟨-, -, -, -, -, -, ⟨-, -, -, -, -, -, -, -, -, hL, -⟩, -⟩ := hx
  exact ⟨(hL w hw).1, (hL w hw).2.1⟩
theorem LR_1 {t t' : wSt} (h : LR t t') {a j : Nat} (ha : a ≠ 79) : t'.1 a j = t.1 a j := h.2.1 a j (fun e => ha e.1)
theorem bl_rl {g f w : Nat} {sw : Int32} (hx : Cx n m k d c b B u t) (hg : g < n) (hf : f < m) (hw : w < 3) (hsw : F_X0_sweetOf 64 (nI f) u = some sw) : ∃ (q : Int64) (u' : wSt), F_X0_workOut 64 (nI w) c (nI g) (nI f) u = some (q, u') ∧ QC u u' ∧ ∀ (wo : Int32) (t1 : wSt), LR t t1 → (∀ j, j < 7 → t1.2.1 102 j = (nm7 u n c d g f sw j).toInt64) → ∃ t2, F_X9_boundLaw 79 (nI w) wo t1 = some (if q = -9223372036854775808 then wo else (w_maxl 0 (w_minl 99 q)).toInt32, t2) ∧ LR t t2 := by
  obtain ⟨l1, l2⟩ := Lw_e hx hw
  have hm := hx.2.1
  rcases l2 with hA | hA
  · refine ⟨_, u, workOut_0 hx hw hA, QC_rf u, fun wo t1 ht hn => ⟨t1, ?_, ht⟩⟩
    have hm1 : PM t1.2.2 := by rw [ht.1]; exact hm
    have e1 : t1.1 93 w = 0 := by rw [LR_1 ht (by decide), l1, hA]
    unfold F_X9_boundLaw
    repeat (first | simp (disch := first | assumption | omega) only [↓wB_eq, ↓wC_s, ↓wP_s, ↓wJ_inl, ↓wJ_inr, ↓wG_eq, ↓wSI_eq, ↓wSL_eq, ↓wSZ_eq, ↓wSB_eq, ↓ite_true, ↓ite_false, ↓wR_79, ↓wR_80, ↓wN_80, ↓wR_81, ↓wN_81, ↓wR_82, ↓wN_82, ↓wR_83, ↓wN_83, ↓wR_84, ↓wN_84, ↓wR_85, ↓wN_85, ↓wR_86, ↓wN_86, ↓wR_87, ↓wN_87, ↓wR_88, ↓wN_88, ↓wR_89, ↓wN_89, ↓wR_90, ↓wN_90, ↓wR_91, ↓wN_91, ↓wR_92, ↓wN_92, ↓wR_93, ↓wN_93, ↓wR_94, ↓wN_94, ↓wR_95, ↓wN_95, ↓wR_96, ↓wN_96, ↓wR_97, ↓wN_97, ↓wR_98, ↓wN_98, ↓wR_99, ↓wN_99, ↓wR_100, ↓wN_100, ↓wR_101, ↓wN_101, ↓wR_102, ↓wN_102, ↓wR_103, ↓wN_103, ↓wR_104, ↓wN_104, ↓wR_105, ↓wN_105, ↓wR_106, ↓wN_106, ↓wR_107, ↓wN_107, ↓wR_108, ↓wN_108, ↓wR_109, ↓wN_109, ↓wR_110, ↓wN_110, ↓wR_111, ↓wN_111, ↓wR_112, ↓wN_112, ↓wR_113, ↓wN_113, ↓wR_114, ↓wN_114, ↓wR_115, ↓wN_115, ↓wR_116, ↓wN_116, ↓wR_117, ↓wN_117, ↓wR_118, ↓wN_118, ↓wR_119, ↓wN_119] | simp (disch := first | assumption | omega) only [sI_r, sI_l, sL_r, sL_i, sR_i, sR_l, cp_r, cp_l, nI_add, nI_mul, nI_1, nI_leE, nI_ltE, nI_eqI, nI_neg, nI_neg2, nI_nn, nI_leL, nI_geL, nI_ltL, nI_gtL, nI_eqL, nI_mulL, nI_addL, nI_Ladd, nI_subL, wN_lit, bI_0, bI_1, l10, l01, lm0, lm1, or_true, true_or, or_false, false_or, and_true, true_and, sI_eq, Nat.not_lt_zero, eq_self, ite_true, ite_false, not_true_eq_false, not_false_eq_true, Nat.reduceAdd, Nat.reduceMul, Nat.reduceSub, Nat.reduceLT, Nat.reduceLeDiff, Nat.reduceEqDiff, PM_u hm1, e1])
  · obtain ⟨o, hb, ⟨u', f1, f2⟩, hr⟩ := law_rl hx hg hf hw hA hsw
    refine ⟨_, u', f1, f2, fun wo t1 ht hn => ?_⟩
    obtain ⟨t2, g1, g2, g3⟩ := hr t1 ht hn
    have hm1 : PM t1.2.2 := by rw [ht.1]; exact hm
    have e1 : t1.1 93 w = 1 := by rw [LR_1 ht (by decide), l1, hA]
    refine ⟨t2, ?_, g2⟩
    unfold F_X9_boundLaw
    rcases g3 with ⟨rfl, g3⟩ | ⟨v, rfl, g3⟩
    · repeat (first | simp (disch := first | assumption | omega) only [↓wB_eq, ↓wC_s, ↓wP_s, ↓wJ_inl, ↓wJ_inr, ↓wG_eq, ↓wSI_eq, ↓wSL_eq, ↓wSZ_eq, ↓wSB_eq, ↓ite_true, ↓ite_false, ↓wR_79, ↓wR_80, ↓wN_80, ↓wR_81, ↓wN_81, ↓wR_82, ↓wN_82, ↓wR_83, ↓wN_83, ↓wR_84, ↓wN_84, ↓wR_85, ↓wN_85, ↓wR_86, ↓wN_86, ↓wR_87, ↓wN_87, ↓wR_88, ↓wN_88, ↓wR_89, ↓wN_89, ↓wR_90, ↓wN_90, ↓wR_91, ↓wN_91, ↓wR_92, ↓wN_92, ↓wR_93, ↓wN_93, ↓wR_94, ↓wN_94, ↓wR_95, ↓wN_95, ↓wR_96, ↓wN_96, ↓wR_97, ↓wN_97, ↓wR_98, ↓wN_98, ↓wR_99, ↓wN_99, ↓wR_100, ↓wN_100, ↓wR_101, ↓wN_101, ↓wR_102, ↓wN_102, ↓wR_103, ↓wN_103, ↓wR_104, ↓wN_104, ↓wR_105, ↓wN_105, ↓wR_106, ↓wN_106, ↓wR_107, ↓wN_107, ↓wR_108, ↓wN_108, ↓wR_109, ↓wN_109, ↓wR_110, ↓wN_110, ↓wR_111, ↓wN_111, ↓wR_112, ↓wN_112, ↓wR_113, ↓wN_113, ↓wR_114, ↓wN_114, ↓wR_115, ↓wN_115, ↓wR_116, ↓wN_116, ↓wR_117, ↓wN_117, ↓wR_118, ↓wN_118, ↓wR_119, ↓wN_119] | simp (disch := first | assumption | omega) only [sI_r, sI_l, sL_r, sL_i, sR_i, sR_l, cp_r, cp_l, nI_add, nI_mul, nI_1, nI_leE, nI_ltE, nI_eqI, nI_neg, nI_neg2, nI_nn, nI_leL, nI_geL, nI_ltL, nI_gtL, nI_eqL, nI_mulL, nI_addL, nI_Ladd, nI_subL, wN_lit, bI_0, bI_1, l10, l01, lm0, lm1, or_true, true_or, or_false, false_or, and_true, true_and, sI_eq, Nat.not_lt_zero, eq_self, ite_true, ite_false, not_true_eq_false, not_false_eq_true, Nat.reduceAdd, Nat.reduceMul, Nat.reduceSub, Nat.reduceLT, Nat.reduceLeDiff, Nat.reduceEqDiff, PM_u hm1, e1, g1, g3, Option.getD_none])
    · have hv : ¬ v = -9223372036854775808 := fun h => m_lb (h ▸ hb v rfl)
      simp only [Option.getD_some, if_neg hv, w99_e]
      rw [Option.getD_some] at g1
      by_cases q1 : 0 ≤ v
      · by_cases q2 : v ≤ 99
        · repeat (first | simp (disch := first | assumption | omega) only [↓wB_eq, ↓wC_s, ↓wP_s, ↓wJ_inl, ↓wJ_inr, ↓wG_eq, ↓wSI_eq, ↓wSL_eq, ↓wSZ_eq, ↓wSB_eq, ↓ite_true, ↓ite_false, ↓wR_79, ↓wR_80, ↓wN_80, ↓wR_81, ↓wN_81, ↓wR_82, ↓wN_82, ↓wR_83, ↓wN_83, ↓wR_84, ↓wN_84, ↓wR_85, ↓wN_85, ↓wR_86, ↓wN_86, ↓wR_87, ↓wN_87, ↓wR_88, ↓wN_88, ↓wR_89, ↓wN_89, ↓wR_90, ↓wN_90, ↓wR_91, ↓wN_91, ↓wR_92, ↓wN_92, ↓wR_93, ↓wN_93, ↓wR_94, ↓wN_94, ↓wR_95, ↓wN_95, ↓wR_96, ↓wN_96, ↓wR_97, ↓wN_97, ↓wR_98, ↓wN_98, ↓wR_99, ↓wN_99, ↓wR_100, ↓wN_100, ↓wR_101, ↓wN_101, ↓wR_102, ↓wN_102, ↓wR_103, ↓wN_103, ↓wR_104, ↓wN_104, ↓wR_105, ↓wN_105, ↓wR_106, ↓wN_106, ↓wR_107, ↓wN_107, ↓wR_108, ↓wN_108, ↓wR_109, ↓wN_109, ↓wR_110, ↓wN_110, ↓wR_111, ↓wN_111, ↓wR_112, ↓wN_112, ↓wR_113, ↓wN_113, ↓wR_114, ↓wN_114, ↓wR_115, ↓wN_115, ↓wR_116, ↓wN_116, ↓wR_117, ↓wN_117, ↓wR_118, ↓wN_118, ↓wR_119, ↓wN_119] | simp (disch := first | assumption | omega) only [sI_r, sI_l, sL_r, sL_i, sR_i, sR_l, cp_r, cp_l, nI_add, nI_mul, nI_1, nI_leE, nI_ltE, nI_eqI, nI_neg, nI_neg2, nI_nn, nI_leL, nI_geL, nI_ltL, nI_gtL, nI_eqL, nI_mulL, nI_addL, nI_Ladd, nI_subL, wN_lit, bI_0, bI_1, l10, l01, lm0, lm1, or_true, true_or, or_false, false_or, and_true, true_and, sI_eq, Nat.not_lt_zero, eq_self, ite_true, ite_false, not_true_eq_false, not_false_eq_true, Nat.reduceAdd, Nat.reduceMul, Nat.reduceSub, Nat.reduceLT, Nat.reduceLeDiff, Nat.reduceEqDiff, PM_u hm1, e1, g1, g3, lg_ge, lg_le, q1, q2])
        · repeat (first | simp (disch := first | assumption | omega) only [↓wB_eq, ↓wC_s, ↓wP_s, ↓wJ_inl, ↓wJ_inr, ↓wG_eq, ↓wSI_eq, ↓wSL_eq, ↓wSZ_eq, ↓wSB_eq, ↓ite_true, ↓ite_false, ↓wR_79, ↓wR_80, ↓wN_80, ↓wR_81, ↓wN_81, ↓wR_82, ↓wN_82, ↓wR_83, ↓wN_83, ↓wR_84, ↓wN_84, ↓wR_85, ↓wN_85, ↓wR_86, ↓wN_86, ↓wR_87, ↓wN_87, ↓wR_88, ↓wN_88, ↓wR_89, ↓wN_89, ↓wR_90, ↓wN_90, ↓wR_91, ↓wN_91, ↓wR_92, ↓wN_92, ↓wR_93, ↓wN_93, ↓wR_94, ↓wN_94, ↓wR_95, ↓wN_95, ↓wR_96, ↓wN_96, ↓wR_97, ↓wN_97, ↓wR_98, ↓wN_98, ↓wR_99, ↓wN_99, ↓wR_100, ↓wN_100, ↓wR_101, ↓wN_101, ↓wR_102, ↓wN_102, ↓wR_103, ↓wN_103, ↓wR_104, ↓wN_104, ↓wR_105, ↓wN_105, ↓wR_106, ↓wN_106, ↓wR_107, ↓wN_107, ↓wR_108, ↓wN_108, ↓wR_109, ↓wN_109, ↓wR_110, ↓wN_110, ↓wR_111, ↓wN_111, ↓wR_112, ↓wN_112, ↓wR_113, ↓wN_113, ↓wR_114, ↓wN_114, ↓wR_115, ↓wN_115, ↓wR_116, ↓wN_116, ↓wR_117, ↓wN_117, ↓wR_118, ↓wN_118, ↓wR_119, ↓wN_119] | simp (disch := first | assumption | omega) only [sI_r, sI_l, sL_r, sL_i, sR_i, sR_l, cp_r, cp_l, nI_add, nI_mul, nI_1, nI_leE, nI_ltE, nI_eqI, nI_neg, nI_neg2, nI_nn, nI_leL, nI_geL, nI_ltL, nI_gtL, nI_eqL, nI_mulL, nI_addL, nI_Ladd, nI_subL, wN_lit, bI_0, bI_1, l10, l01, lm0, lm1, or_true, true_or, or_false, false_or, and_true, true_and, sI_eq, Nat.not_lt_zero, eq_self, ite_true, ite_false, not_true_eq_false, not_false_eq_true, Nat.reduceAdd, Nat.reduceMul, Nat.reduceSub, Nat.reduceLT, Nat.reduceLeDiff, Nat.reduceEqDiff, PM_u hm1, e1, g1, g3, lg_ge, lg_le, q1, q2])
          rfl
      · repeat (first | simp (disch := first | assumption | omega) only [↓wB_eq, ↓wC_s, ↓wP_s, ↓wJ_inl, ↓wJ_inr, ↓wG_eq, ↓wSI_eq, ↓wSL_eq, ↓wSZ_eq, ↓wSB_eq, ↓ite_true, ↓ite_false, ↓wR_79, ↓wR_80, ↓wN_80, ↓wR_81, ↓wN_81, ↓wR_82, ↓wN_82, ↓wR_83, ↓wN_83, ↓wR_84, ↓wN_84, ↓wR_85, ↓wN_85, ↓wR_86, ↓wN_86, ↓wR_87, ↓wN_87, ↓wR_88, ↓wN_88, ↓wR_89, ↓wN_89, ↓wR_90, ↓wN_90, ↓wR_91, ↓wN_91, ↓wR_92, ↓wN_92, ↓wR_93, ↓wN_93, ↓wR_94, ↓wN_94, ↓wR_95, ↓wN_95, ↓wR_96, ↓wN_96, ↓wR_97, ↓wN_97, ↓wR_98, ↓wN_98, ↓wR_99, ↓wN_99, ↓wR_100, ↓wN_100, ↓wR_101, ↓wN_101, ↓wR_102, ↓wN_102, ↓wR_103, ↓wN_103, ↓wR_104, ↓wN_104, ↓wR_105, ↓wN_105, ↓wR_106, ↓wN_106, ↓wR_107, ↓wN_107, ↓wR_108, ↓wN_108, ↓wR_109, ↓wN_109, ↓wR_110, ↓wN_110, ↓wR_111, ↓wN_111, ↓wR_112, ↓wN_112, ↓wR_113, ↓wN_113, ↓wR_114, ↓wN_114, ↓wR_115, ↓wN_115, ↓wR_116, ↓wN_116, ↓wR_117, ↓wN_117, ↓wR_118, ↓wN_118, ↓wR_119, ↓wN_119] | simp (disch := first | assumption | omega) only [sI_r, sI_l, sL_r, sL_i, sR_i, sR_l, cp_r, cp_l, nI_add, nI_mul, nI_1, nI_leE, nI_ltE, nI_eqI, nI_neg, nI_neg2, nI_nn, nI_leL, nI_geL, nI_ltL, nI_gtL, nI_eqL, nI_mulL, nI_addL, nI_Ladd, nI_subL, wN_lit, bI_0, bI_1, l10, l01, lm0, lm1, or_true, true_or, or_false, false_or, and_true, true_and, sI_eq, Nat.not_lt_zero, eq_self, ite_true, ite_false, not_true_eq_false, not_false_eq_true, Nat.reduceAdd, Nat.reduceMul, Nat.reduceSub, Nat.reduceLT, Nat.reduceLeDiff, Nat.reduceEqDiff, PM_u hm1, e1, g1, g3, lg_ge, lg_le, q1])
        rfl
theorem praiseOf_rl {g f : Nat} (hx : Cx n m k d c b B u t) (hg : g < n) (hf : f < m) : ∃ (p : Nat) (u' t' : wSt), p < 2147483648 ∧ F_X0_praiseOf 64 c (nI g) (nI f) u = some (nI p, u') ∧ F_X9_praiseOf 79 (nI b) (nI g) (nI f) t = some (nI p, t') ∧ QC u u' ∧ LR t t' := by
  obtain ⟨sw, hsw, hsw2⟩ := sweet_e hx hf
  obtain ⟨q, u', f1, f2, f3⟩ := bl_rl (w := 0) hx hg hf (by decide) hsw
  obtain ⟨t1, g1, g2, g3⟩ := lay_r hx hg hf hsw
  obtain ⟨e8, e1, e2, e3, e4⟩ := Cx_e hx
  obtain ⟨n6, m8, b2⟩ := Cx_b hx
  have hx1 := Cx_q hx f2 g2
  obtain ⟨hp, hm, hd, hc, hb, h8, ⟨-, -, -, -, -, -, hG, hF, -⟩, -, ⟨-, hS, hS2, -⟩, -⟩ := hx
  have hp1 := hx1.1
  have hm1 := hx1.2.1
  have h81 := hx1.2.2.2.2.2.1
  have d1 := TC_le hd
  have c1 := SC_le hc
  have w1 : u'.1 (d + 4) g = u.1 (d + 4) g := f2.2 _ _ (by omega)
  have w2 : u'.1 (c + 5) f = u.1 (c + 5) f := f2.2 _ _ (by omega)
  have w3 : t1.1 87 g = u.1 (d + 4) g := by rw [LR_1 g2 (by decide)]; exact (hG g hg).2.2.2.1
  have w4 : t1.1 109 (8 * b + f) = u.1 (c + 5) f := by rw [LR_1 g2 (by decide)]; exact (hS2 f hf).1
  have hg6 : g < 6 := by omega
  have hf8 : f < 8 := by omega
  have hf16 : 8 * b + f < 16 := by omega
  have s1 := (hsw2 u' t1 f2 g2).1
  have s2 := (hsw2 u' t1 f2 g2).2
  obtain ⟨t2, k1, k2⟩ := f3 (w_max 0 (u.1 (d + 4) g + sw - u.1 (c + 5) f)) t1 g2 g3
  have hr : ∃ p : Nat, p < 2147483648 ∧ (if q = -9223372036854775808 then w_max 0 (u.1 (d + 4) g + sw - u.1 (c + 5) f) else (w_maxl 0 (w_minl 99 q)).toInt32) = nI p := by
    split
    · exact max0_nn _
    · obtain ⟨p, h1, h2⟩ := w99_nn q
      exact ⟨p, by omega, h2⟩
  obtain ⟨p, hp0, hpe⟩ := hr
  rw [hpe] at k1
  refine ⟨p, u', t2, hp0, ?_, ?_, f2, k2⟩
  · have f1 : F_X0_workOut 64 (0 : Int32) c (nI g) (nI f) u = some (q, u') := f1
    unfold F_X0_praiseOf F_X0_within99
    rw [f1, wC_s, ← hpe]
    by_cases hq : q = -9223372036854775808
    · repeat (first | simp (disch := first | assumption | omega) only [↓wB_eq, ↓wC_s, ↓wP_s, ↓wJ_inl, ↓wJ_inr, ↓wG_eq, ↓wSI_eq, ↓wSL_eq, ↓wSZ_eq, ↓wSB_eq, ↓ite_true, ↓ite_false, ↓wR_0, ↓wR_1, ↓wN_1, ↓wR_2, ↓wR_3, ↓wN_3, ↓wR_4, ↓wN_4, ↓wR_5, ↓wN_5, ↓wR_6, ↓wN_6, ↓wR_7, ↓wN_7, ↓wR_8, ↓wN_8, ↓wR_9, ↓wN_9, ↓wR_10, ↓wN_10, ↓wR_11, ↓wN_11, ↓wR_12, ↓wR_13, ↓wN_13, ↓wR_14, ↓wN_14, ↓wR_15, ↓wN_15, ↓wR_16, ↓wN_16, ↓wR_17, ↓wN_17, ↓wR_18, ↓wN_18, ↓wR_19, ↓wR_20, ↓wN_20, ↓wR_21, ↓wN_21, ↓wR_22, ↓wN_22, ↓wR_23, ↓wN_23, ↓wR_24, ↓wN_24, ↓wR_25, ↓wN_25, ↓wR_26, ↓wN_26, ↓wR_27, ↓wN_27, ↓wR_28, ↓wN_28, ↓wR_29, ↓wR_30, ↓wN_30, ↓wR_31, ↓wN_31, ↓wR_32, ↓wN_32, ↓wR_33, ↓wN_33, ↓wR_34, ↓wN_34, ↓wR_35, ↓wN_35, ↓wR_36, ↓wR_37, ↓wN_37, ↓wR_38, ↓wR_39, ↓wN_39, ↓wR_40, ↓wN_40, ↓wR_41, ↓wN_41, ↓wR_42, ↓wN_42, ↓wR_43, ↓wR_44, ↓wN_44, ↓wR_45, ↓wN_45, ↓wR_46, ↓wN_46, ↓wR_47, ↓wN_47, ↓wR_48, ↓wN_48, ↓wR_49, ↓wN_49, ↓wR_50, ↓wR_51, ↓wN_51, ↓wR_52, ↓wN_52, ↓wR_53, ↓wN_53, ↓wR_54, ↓wN_54, ↓wR_55, ↓wN_55, ↓wR_56, ↓wN_56, ↓wR_57, ↓wR_58, ↓wN_58, ↓wR_59, ↓wN_59, ↓wR_60, ↓wN_60, ↓wR_61, ↓wN_61, ↓wR_62, ↓wN_62, ↓wR_63, ↓wN_63, ↓wR_64, ↓wR_65, ↓wN_65, ↓wR_66, ↓wR_67, ↓wN_67, ↓wR_68, ↓wN_68, ↓wR_69, ↓wN_69, ↓wR_70, ↓wR_71, ↓wN_71, ↓wR_72, ↓wN_72, ↓wR_73, ↓wN_73, ↓wR_74, ↓wN_74, ↓wR_75, ↓wN_75, ↓wR_76, ↓wN_76, ↓wR_77, ↓wN_77, ↓wR_78, ↓wN_78, ↓wR_d0, ↓wR_d1, ↓wN_d1, ↓wR_d2, ↓wN_d2, ↓wR_d3, ↓wN_d3, ↓wR_d4, ↓wN_d4, ↓wR_d5, ↓wN_d5, ↓wR_d6, ↓wN_d6, ↓wR_d7, ↓wN_d7, ↓wR_d8, ↓wN_d8, ↓wR_d9, ↓wN_d9, ↓wR_d10, ↓wR_d11, ↓wN_d11, ↓wR_d12, ↓wN_d12, ↓wR_d13, ↓wN_d13, ↓wR_d14, ↓wN_d14, ↓wR_d15, ↓wN_d15, ↓wR_d16, ↓wN_d16, ↓wR_c0, ↓wR_c1, ↓wN_c1, ↓wR_c2, ↓wN_c2, ↓wR_c3, ↓wN_c3, ↓wR_c4, ↓wN_c4, ↓wR_c5, ↓wN_c5, ↓wR_c6, ↓wN_c6] | simp (disch := first | assumption | omega) only [sI_r, sI_l, sL_r, sL_i, sR_i, sR_l, cp_r, cp_l, nI_add, nI_mul, nI_1, nI_leE, nI_ltE, nI_eqI, nI_neg, nI_neg2, nI_nn, nI_leL, nI_geL, nI_ltL, nI_gtL, nI_eqL, nI_mulL, nI_addL, nI_Ladd, nI_subL, wN_lit, bI_0, bI_1, l10, l01, lm0, lm1, or_true, true_or, or_false, false_or, and_true, true_and, sI_eq, Nat.not_lt_zero, eq_self, ite_true, ite_false, not_true_eq_false, not_false_eq_true, Nat.reduceAdd, Nat.reduceMul, Nat.reduceSub, Nat.reduceLT, Nat.reduceLeDiff, Nat.reduceEqDiff, hq, lg_0, h81, (PL_d hp1 hd), (PL_c hp1 hc), w1, w2, s1])
    · repeat (first | simp (disch := first | assumption | omega) only [↓wB_eq, ↓wC_s, ↓wP_s, ↓wJ_inl, ↓wJ_inr, ↓wG_eq, ↓wSI_eq, ↓wSL_eq, ↓wSZ_eq, ↓wSB_eq, ↓ite_true, ↓ite_false, ↓wR_0, ↓wR_1, ↓wN_1, ↓wR_2, ↓wR_3, ↓wN_3, ↓wR_4, ↓wN_4, ↓wR_5, ↓wN_5, ↓wR_6, ↓wN_6, ↓wR_7, ↓wN_7, ↓wR_8, ↓wN_8, ↓wR_9, ↓wN_9, ↓wR_10, ↓wN_10, ↓wR_11, ↓wN_11, ↓wR_12, ↓wR_13, ↓wN_13, ↓wR_14, ↓wN_14, ↓wR_15, ↓wN_15, ↓wR_16, ↓wN_16, ↓wR_17, ↓wN_17, ↓wR_18, ↓wN_18, ↓wR_19, ↓wR_20, ↓wN_20, ↓wR_21, ↓wN_21, ↓wR_22, ↓wN_22, ↓wR_23, ↓wN_23, ↓wR_24, ↓wN_24, ↓wR_25, ↓wN_25, ↓wR_26, ↓wN_26, ↓wR_27, ↓wN_27, ↓wR_28, ↓wN_28, ↓wR_29, ↓wR_30, ↓wN_30, ↓wR_31, ↓wN_31, ↓wR_32, ↓wN_32, ↓wR_33, ↓wN_33, ↓wR_34, ↓wN_34, ↓wR_35, ↓wN_35, ↓wR_36, ↓wR_37, ↓wN_37, ↓wR_38, ↓wR_39, ↓wN_39, ↓wR_40, ↓wN_40, ↓wR_41, ↓wN_41, ↓wR_42, ↓wN_42, ↓wR_43, ↓wR_44, ↓wN_44, ↓wR_45, ↓wN_45, ↓wR_46, ↓wN_46, ↓wR_47, ↓wN_47, ↓wR_48, ↓wN_48, ↓wR_49, ↓wN_49, ↓wR_50, ↓wR_51, ↓wN_51, ↓wR_52, ↓wN_52, ↓wR_53, ↓wN_53, ↓wR_54, ↓wN_54, ↓wR_55, ↓wN_55, ↓wR_56, ↓wN_56, ↓wR_57, ↓wR_58, ↓wN_58, ↓wR_59, ↓wN_59, ↓wR_60, ↓wN_60, ↓wR_61, ↓wN_61, ↓wR_62, ↓wN_62, ↓wR_63, ↓wN_63, ↓wR_64, ↓wR_65, ↓wN_65, ↓wR_66, ↓wR_67, ↓wN_67, ↓wR_68, ↓wN_68, ↓wR_69, ↓wN_69, ↓wR_70, ↓wR_71, ↓wN_71, ↓wR_72, ↓wN_72, ↓wR_73, ↓wN_73, ↓wR_74, ↓wN_74, ↓wR_75, ↓wN_75, ↓wR_76, ↓wN_76, ↓wR_77, ↓wN_77, ↓wR_78, ↓wN_78, ↓wR_d0, ↓wR_d1, ↓wN_d1, ↓wR_d2, ↓wN_d2, ↓wR_d3, ↓wN_d3, ↓wR_d4, ↓wN_d4, ↓wR_d5, ↓wN_d5, ↓wR_d6, ↓wN_d6, ↓wR_d7, ↓wN_d7, ↓wR_d8, ↓wN_d8, ↓wR_d9, ↓wN_d9, ↓wR_d10, ↓wR_d11, ↓wN_d11, ↓wR_d12, ↓wN_d12, ↓wR_d13, ↓wN_d13, ↓wR_d14, ↓wN_d14, ↓wR_d15, ↓wN_d15, ↓wR_d16, ↓wN_d16, ↓wR_c0, ↓wR_c1, ↓wN_c1, ↓wR_c2, ↓wN_c2, ↓wR_c3, ↓wN_c3, ↓wR_c4, ↓wN_c4, ↓wR_c5, ↓wN_c5, ↓wR_c6, ↓wN_c6] | simp (disch := first | assumption | omega) only [sI_r, sI_l, sL_r, sL_i, sR_i, sR_l, cp_r, cp_l, nI_add, nI_mul, nI_1, nI_leE, nI_ltE, nI_eqI, nI_neg, nI_neg2, nI_nn, nI_leL, nI_geL, nI_ltL, nI_gtL, nI_eqL, nI_mulL, nI_addL, nI_Ladd, nI_subL, wN_lit, bI_0, bI_1, l10, l01, lm0, lm1, or_true, true_or, or_false, false_or, and_true, true_and, sI_eq, Nat.not_lt_zero, eq_self, ite_true, ite_false, not_true_eq_false, not_false_eq_true, Nat.reduceAdd, Nat.reduceMul, Nat.reduceSub, Nat.reduceLT, Nat.reduceLeDiff, Nat.reduceEqDiff, hq, lg_0])
  · have k1 : F_X9_boundLaw 79 (0 : Int32) (w_max 0 (u.1 (d + 4) g + sw - u.1 (c + 5) f)) t1 = some (nI p, t2) := k1
    rw [max0_e] at k1
    unfold F_X9_praiseOf F_X9_praiseOf_j46
    rw [g1, wC_s]
    by_cases hq : 0 ≤ u.1 (d + 4) g + sw - u.1 (c + 5) f
    · rw [if_pos hq] at k1
      repeat (first | simp (disch := first | assumption | omega) only [↓wB_eq, ↓wC_s, ↓wP_s, ↓wJ_inl, ↓wJ_inr, ↓wG_eq, ↓wSI_eq, ↓wSL_eq, ↓wSZ_eq, ↓wSB_eq, ↓ite_true, ↓ite_false, ↓wR_79, ↓wR_80, ↓wN_80, ↓wR_81, ↓wN_81, ↓wR_82, ↓wN_82, ↓wR_83, ↓wN_83, ↓wR_84, ↓wN_84, ↓wR_85, ↓wN_85, ↓wR_86, ↓wN_86, ↓wR_87, ↓wN_87, ↓wR_88, ↓wN_88, ↓wR_89, ↓wN_89, ↓wR_90, ↓wN_90, ↓wR_91, ↓wN_91, ↓wR_92, ↓wN_92, ↓wR_93, ↓wN_93, ↓wR_94, ↓wN_94, ↓wR_95, ↓wN_95, ↓wR_96, ↓wN_96, ↓wR_97, ↓wN_97, ↓wR_98, ↓wN_98, ↓wR_99, ↓wN_99, ↓wR_100, ↓wN_100, ↓wR_101, ↓wN_101, ↓wR_102, ↓wN_102, ↓wR_103, ↓wN_103, ↓wR_104, ↓wN_104, ↓wR_105, ↓wN_105, ↓wR_106, ↓wN_106, ↓wR_107, ↓wN_107, ↓wR_108, ↓wN_108, ↓wR_109, ↓wN_109, ↓wR_110, ↓wN_110, ↓wR_111, ↓wN_111, ↓wR_112, ↓wN_112, ↓wR_113, ↓wN_113, ↓wR_114, ↓wN_114, ↓wR_115, ↓wN_115, ↓wR_116, ↓wN_116, ↓wR_117, ↓wN_117, ↓wR_118, ↓wN_118, ↓wR_119, ↓wN_119] | simp (disch := first | assumption | omega) only [sI_r, sI_l, sL_r, sL_i, sR_i, sR_l, cp_r, cp_l, nI_add, nI_mul, nI_1, nI_leE, nI_ltE, nI_eqI, nI_neg, nI_neg2, nI_nn, nI_leL, nI_geL, nI_ltL, nI_gtL, nI_eqL, nI_mulL, nI_addL, nI_Ladd, nI_subL, wN_lit, bI_0, bI_1, l10, l01, lm0, lm1, or_true, true_or, or_false, false_or, and_true, true_and, sI_eq, Nat.not_lt_zero, eq_self, ite_true, ite_false, not_true_eq_false, not_false_eq_true, Nat.reduceAdd, Nat.reduceMul, Nat.reduceSub, Nat.reduceLT, Nat.reduceLeDiff, Nat.reduceEqDiff, PM_u hm1, w3, w4, s2, hq, k1])
    · rw [if_neg hq] at k1
      repeat (first | simp (disch := first | assumption | omega) only [↓wB_eq, ↓wC_s, ↓wP_s, ↓wJ_inl, ↓wJ_inr, ↓wG_eq, ↓wSI_eq, ↓wSL_eq, ↓wSZ_eq, ↓wSB_eq, ↓ite_true, ↓ite_false, ↓wR_79, ↓wR_80, ↓wN_80, ↓wR_81, ↓wN_81, ↓wR_82, ↓wN_82, ↓wR_83, ↓wN_83, ↓wR_84, ↓wN_84, ↓wR_85, ↓wN_85, ↓wR_86, ↓wN_86, ↓wR_87, ↓wN_87, ↓wR_88, ↓wN_88, ↓wR_89, ↓wN_89, ↓wR_90, ↓wN_90, ↓wR_91, ↓wN_91, ↓wR_92, ↓wN_92, ↓wR_93, ↓wN_93, ↓wR_94, ↓wN_94, ↓wR_95, ↓wN_95, ↓wR_96, ↓wN_96, ↓wR_97, ↓wN_97, ↓wR_98, ↓wN_98, ↓wR_99, ↓wN_99, ↓wR_100, ↓wN_100, ↓wR_101, ↓wN_101, ↓wR_102, ↓wN_102, ↓wR_103, ↓wN_103, ↓wR_104, ↓wN_104, ↓wR_105, ↓wN_105, ↓wR_106, ↓wN_106, ↓wR_107, ↓wN_107, ↓wR_108, ↓wN_108, ↓wR_109, ↓wN_109, ↓wR_110, ↓wN_110, ↓wR_111, ↓wN_111, ↓wR_112, ↓wN_112, ↓wR_113, ↓wN_113, ↓wR_114, ↓wN_114, ↓wR_115, ↓wN_115, ↓wR_116, ↓wN_116, ↓wR_117, ↓wN_117, ↓wR_118, ↓wN_118, ↓wR_119, ↓wN_119] | simp (disch := first | assumption | omega) only [sI_r, sI_l, sL_r, sL_i, sR_i, sR_l, cp_r, cp_l, nI_add, nI_mul, nI_1, nI_leE, nI_ltE, nI_eqI, nI_neg, nI_neg2, nI_nn, nI_leL, nI_geL, nI_ltL, nI_gtL, nI_eqL, nI_mulL, nI_addL, nI_Ladd, nI_subL, wN_lit, bI_0, bI_1, l10, l01, lm0, lm1, or_true, true_or, or_false, false_or, and_true, true_and, sI_eq, Nat.not_lt_zero, eq_self, ite_true, ite_false, not_true_eq_false, not_false_eq_true, Nat.reduceAdd, Nat.reduceMul, Nat.reduceSub, Nat.reduceLT, Nat.reduceLeDiff, Nat.reduceEqDiff, PM_u hm1, w3, w4, s2, hq, k1])
theorem shock_rl {g f : Nat} (hx : Cx n m k d c b B u t) (hg : g < n) (hf : f < m) : ∃ (r : Int32) (u' t1 t2 : wSt), F_X0_shockOf 64 c (nI g) (nI f) u = some (r, u') ∧ QC u u' ∧ F_X9_layNames 79 (nI b) (nI g) (nI f) t = some ((), t1) ∧ LR t t1 ∧ F_X9_boundLaw 79 (2 : Int32) (10 : Int32) t1 = some (r, t2) ∧ LR t t2 := by
  obtain ⟨sw, hsw, hsw2⟩ := sweet_e hx hf
  obtain ⟨q, u', f1, f2, f3⟩ := bl_rl (w := 2) hx hg hf (by decide) hsw
  obtain ⟨t1, g1, g2, g3⟩ := lay_r hx hg hf hsw
  obtain ⟨t2, k1, k2⟩ := f3 10 t1 g2 g3
  refine ⟨_, u', t1, t2, ?_, f2, g1, g2, k1, k2⟩
  have f1 : F_X0_workOut 64 (2 : Int32) c (nI g) (nI f) u = some (q, u') := f1
  unfold F_X0_shockOf F_X0_within99
  rw [f1, wC_s]
  by_cases hq : q = -9223372036854775808
  · simp only [hq, lg_0, if_true]
  · simp only [hq, lg_0, if_false, wP_s]
theorem dare_rl {g f : Nat} (hx : Cx n m k d c b B u t) (hg : g < n) (hf : f < m) (h1 : u.1 64 1 = 0) (ht : F_X6_tellsBite d (nI g) (u.1 c 0) u = some 0) : ∃ (r : Int32) (u' t' : wSt), (r = 0 ∨ r = 1) ∧ F_X0_bites 64 c (nI g) (nI f) u = some (r, u') ∧ F_X9_isDaring 79 (nI b) (nI g) (nI f) t = some (r, t') ∧ QC u u' ∧ LR t t' := by
  obtain ⟨sw, hsw, hsw2⟩ := sweet_e hx hf
  obtain ⟨l1, l2⟩ := Lw_e (w := 1) hx (by decide)
  obtain ⟨n6, m8, b2⟩ := Cx_b hx
  have hx0 := hx
  obtain ⟨hp, hm, hd, hc, hb, h8, -, -, ⟨-, hS, hS2, -⟩, -⟩ := hx
  have hmm := hm
  have d1 := TC_le hd
  have c1 := SC_le hc
  have hg6 : g < 6 := by omega
  have hg12 : 6 * b + g < 12 := by omega
  have s1 := hS g hg
  generalize hi : (if u.1 (c + 3) g ≤ u.1 (c + 2) g then (0 : Int32) else 1) = i10
  have hi01 : i10 = 0 ∨ i10 = 1 := by
    rw [← hi]
    split
    · exact Or.inl rfl
    · exact Or.inr rfl
  have hdr : F_X9_isDaring 79 (nI b) (nI g) (nI f) t = F_X9_isDaring_j30 t 79 (nI b) (nI g) (nI f) i10 := by
    unfold F_X9_isDaring
    by_cases hq : u.1 (c + 3) g ≤ u.1 (c + 2) g
    · rw [if_pos hq] at hi
      subst hi
      repeat (first | simp (disch := first | assumption | omega) only [↓wB_eq, ↓wC_s, ↓wP_s, ↓wJ_inl, ↓wJ_inr, ↓wG_eq, ↓wSI_eq, ↓wSL_eq, ↓wSZ_eq, ↓wSB_eq, ↓ite_true, ↓ite_false, ↓wR_79, ↓wR_80, ↓wN_80, ↓wR_81, ↓wN_81, ↓wR_82, ↓wN_82, ↓wR_83, ↓wN_83, ↓wR_84, ↓wN_84, ↓wR_85, ↓wN_85, ↓wR_86, ↓wN_86, ↓wR_87, ↓wN_87, ↓wR_88, ↓wN_88, ↓wR_89, ↓wN_89, ↓wR_90, ↓wN_90, ↓wR_91, ↓wN_91, ↓wR_92, ↓wN_92, ↓wR_93, ↓wN_93, ↓wR_94, ↓wN_94, ↓wR_95, ↓wN_95, ↓wR_96, ↓wN_96, ↓wR_97, ↓wN_97, ↓wR_98, ↓wN_98, ↓wR_99, ↓wN_99, ↓wR_100, ↓wN_100, ↓wR_101, ↓wN_101, ↓wR_102, ↓wN_102, ↓wR_103, ↓wN_103, ↓wR_104, ↓wN_104, ↓wR_105, ↓wN_105, ↓wR_106, ↓wN_106, ↓wR_107, ↓wN_107, ↓wR_108, ↓wN_108, ↓wR_109, ↓wN_109, ↓wR_110, ↓wN_110, ↓wR_111, ↓wN_111, ↓wR_112, ↓wN_112, ↓wR_113, ↓wN_113, ↓wR_114, ↓wN_114, ↓wR_115, ↓wN_115, ↓wR_116, ↓wN_116, ↓wR_117, ↓wN_117, ↓wR_118, ↓wN_118, ↓wR_119, ↓wN_119] | simp (disch := first | assumption | omega) only [sI_r, sI_l, sL_r, sL_i, sR_i, sR_l, cp_r, cp_l, nI_add, nI_mul, nI_1, nI_leE, nI_ltE, nI_eqI, nI_neg, nI_neg2, nI_nn, nI_leL, nI_geL, nI_ltL, nI_gtL, nI_eqL, nI_mulL, nI_addL, nI_Ladd, nI_subL, wN_lit, bI_0, bI_1, l10, l01, lm0, lm1, or_true, true_or, or_false, false_or, and_true, true_and, sI_eq, Nat.not_lt_zero, eq_self, ite_true, ite_false, not_true_eq_false, not_false_eq_true, Nat.reduceAdd, Nat.reduceMul, Nat.reduceSub, Nat.reduceLT, Nat.reduceLeDiff, Nat.reduceEqDiff, PM_u hmm, s1, hq])
    · rw [if_neg hq] at hi
      subst hi
      repeat (first | simp (disch := first | assumption | omega) only [↓wB_eq, ↓wC_s, ↓wP_s, ↓wJ_inl, ↓wJ_inr, ↓wG_eq, ↓wSI_eq, ↓wSL_eq, ↓wSZ_eq, ↓wSB_eq, ↓ite_true, ↓ite_false, ↓wR_79, ↓wR_80, ↓wN_80, ↓wR_81, ↓wN_81, ↓wR_82, ↓wN_82, ↓wR_83, ↓wN_83, ↓wR_84, ↓wN_84, ↓wR_85, ↓wN_85, ↓wR_86, ↓wN_86, ↓wR_87, ↓wN_87, ↓wR_88, ↓wN_88, ↓wR_89, ↓wN_89, ↓wR_90, ↓wN_90, ↓wR_91, ↓wN_91, ↓wR_92, ↓wN_92, ↓wR_93, ↓wN_93, ↓wR_94, ↓wN_94, ↓wR_95, ↓wN_95, ↓wR_96, ↓wN_96, ↓wR_97, ↓wN_97, ↓wR_98, ↓wN_98, ↓wR_99, ↓wN_99, ↓wR_100, ↓wN_100, ↓wR_101, ↓wN_101, ↓wR_102, ↓wN_102, ↓wR_103, ↓wN_103, ↓wR_104, ↓wN_104, ↓wR_105, ↓wN_105, ↓wR_106, ↓wN_106, ↓wR_107, ↓wN_107, ↓wR_108, ↓wN_108, ↓wR_109, ↓wN_109, ↓wR_110, ↓wN_110, ↓wR_111, ↓wN_111, ↓wR_112, ↓wN_112, ↓wR_113, ↓wN_113, ↓wR_114, ↓wN_114, ↓wR_115, ↓wN_115, ↓wR_116, ↓wN_116, ↓wR_117, ↓wN_117, ↓wR_118, ↓wN_118, ↓wR_119, ↓wN_119] | simp (disch := first | assumption | omega) only [sI_r, sI_l, sL_r, sL_i, sR_i, sR_l, cp_r, cp_l, nI_add, nI_mul, nI_1, nI_leE, nI_ltE, nI_eqI, nI_neg, nI_neg2, nI_nn, nI_leL, nI_geL, nI_ltL, nI_gtL, nI_eqL, nI_mulL, nI_addL, nI_Ladd, nI_subL, wN_lit, bI_0, bI_1, l10, l01, lm0, lm1, or_true, true_or, or_false, false_or, and_true, true_and, sI_eq, Nat.not_lt_zero, eq_self, ite_true, ite_false, not_true_eq_false, not_false_eq_true, Nat.reduceAdd, Nat.reduceMul, Nat.reduceSub, Nat.reduceLT, Nat.reduceLeDiff, Nat.reduceEqDiff, PM_u hmm, s1, hq])
  have hcl : ∀ (q : Int64) (u' : wSt), F_X0_workOut 64 (1 : Int32) c (nI g) (nI f) u = some (q, u') → QC u u' → F_X0_bites 64 c (nI g) (nI f) u = some (if q = -9223372036854775808 then i10 else if q = 0 then 0 else 1, u') := by
    intro q u' f1 f2
    have hx1 := Cx_q hx0 f2 (LR_rf t)
    have w1 : u'.1 (c + 3) g = u.1 (c + 3) g := f2.2 _ _ (by omega)
    have w2 : u'.1 (c + 2) g = u.1 (c + 2) g := f2.2 _ _ (by omega)
    unfold F_X0_bites
    by_cases hq : q = -9223372036854775808
    · by_cases hh : u.1 (c + 3) g ≤ u.1 (c + 2) g
      · rw [if_pos hh] at hi
        subst hi
        repeat (first | simp (disch := first | assumption | omega) only [↓wB_eq, ↓wC_s, ↓wP_s, ↓wJ_inl, ↓wJ_inr, ↓wG_eq, ↓wSI_eq, ↓wSL_eq, ↓wSZ_eq, ↓wSB_eq, ↓ite_true, ↓ite_false, ↓wR_0, ↓wR_1, ↓wN_1, ↓wR_2, ↓wR_3, ↓wN_3, ↓wR_4, ↓wN_4, ↓wR_5, ↓wN_5, ↓wR_6, ↓wN_6, ↓wR_7, ↓wN_7, ↓wR_8, ↓wN_8, ↓wR_9, ↓wN_9, ↓wR_10, ↓wN_10, ↓wR_11, ↓wN_11, ↓wR_12, ↓wR_13, ↓wN_13, ↓wR_14, ↓wN_14, ↓wR_15, ↓wN_15, ↓wR_16, ↓wN_16, ↓wR_17, ↓wN_17, ↓wR_18, ↓wN_18, ↓wR_19, ↓wR_20, ↓wN_20, ↓wR_21, ↓wN_21, ↓wR_22, ↓wN_22, ↓wR_23, ↓wN_23, ↓wR_24, ↓wN_24, ↓wR_25, ↓wN_25, ↓wR_26, ↓wN_26, ↓wR_27, ↓wN_27, ↓wR_28, ↓wN_28, ↓wR_29, ↓wR_30, ↓wN_30, ↓wR_31, ↓wN_31, ↓wR_32, ↓wN_32, ↓wR_33, ↓wN_33, ↓wR_34, ↓wN_34, ↓wR_35, ↓wN_35, ↓wR_36, ↓wR_37, ↓wN_37, ↓wR_38, ↓wR_39, ↓wN_39, ↓wR_40, ↓wN_40, ↓wR_41, ↓wN_41, ↓wR_42, ↓wN_42, ↓wR_43, ↓wR_44, ↓wN_44, ↓wR_45, ↓wN_45, ↓wR_46, ↓wN_46, ↓wR_47, ↓wN_47, ↓wR_48, ↓wN_48, ↓wR_49, ↓wN_49, ↓wR_50, ↓wR_51, ↓wN_51, ↓wR_52, ↓wN_52, ↓wR_53, ↓wN_53, ↓wR_54, ↓wN_54, ↓wR_55, ↓wN_55, ↓wR_56, ↓wN_56, ↓wR_57, ↓wR_58, ↓wN_58, ↓wR_59, ↓wN_59, ↓wR_60, ↓wN_60, ↓wR_61, ↓wN_61, ↓wR_62, ↓wN_62, ↓wR_63, ↓wN_63, ↓wR_64, ↓wR_65, ↓wN_65, ↓wR_66, ↓wR_67, ↓wN_67, ↓wR_68, ↓wN_68, ↓wR_69, ↓wN_69, ↓wR_70, ↓wR_71, ↓wN_71, ↓wR_72, ↓wN_72, ↓wR_73, ↓wN_73, ↓wR_74, ↓wN_74, ↓wR_75, ↓wN_75, ↓wR_76, ↓wN_76, ↓wR_77, ↓wN_77, ↓wR_78, ↓wN_78, ↓wR_d0, ↓wR_d1, ↓wN_d1, ↓wR_d2, ↓wN_d2, ↓wR_d3, ↓wN_d3, ↓wR_d4, ↓wN_d4, ↓wR_d5, ↓wN_d5, ↓wR_d6, ↓wN_d6, ↓wR_d7, ↓wN_d7, ↓wR_d8, ↓wN_d8, ↓wR_d9, ↓wN_d9, ↓wR_d10, ↓wR_d11, ↓wN_d11, ↓wR_d12, ↓wN_d12, ↓wR_d13, ↓wN_d13, ↓wR_d14, ↓wN_d14, ↓wR_d15, ↓wN_d15, ↓wR_d16, ↓wN_d16, ↓wR_c0, ↓wR_c1, ↓wN_c1, ↓wR_c2, ↓wN_c2, ↓wR_c3, ↓wN_c3, ↓wR_c4, ↓wN_c4, ↓wR_c5, ↓wN_c5, ↓wR_c6, ↓wN_c6] | simp (disch := first | assumption | omega) only [sI_r, sI_l, sL_r, sL_i, sR_i, sR_l, cp_r, cp_l, nI_add, nI_mul, nI_1, nI_leE, nI_ltE, nI_eqI, nI_neg, nI_neg2, nI_nn, nI_leL, nI_geL, nI_ltL, nI_gtL, nI_eqL, nI_mulL, nI_addL, nI_Ladd, nI_subL, wN_lit, bI_0, bI_1, l10, l01, lm0, lm1, or_true, true_or, or_false, false_or, and_true, true_and, sI_eq, Nat.not_lt_zero, eq_self, ite_true, ite_false, not_true_eq_false, not_false_eq_true, Nat.reduceAdd, Nat.reduceMul, Nat.reduceSub, Nat.reduceLT, Nat.reduceLeDiff, Nat.reduceEqDiff, h1, h8, ht, f1, hq, lg_0, (PL_c hx1.1 hc), w1, w2, hh])
      · rw [if_neg hh] at hi
        subst hi
        repeat (first | simp (disch := first | assumption | omega) only [↓wB_eq, ↓wC_s, ↓wP_s, ↓wJ_inl, ↓wJ_inr, ↓wG_eq, ↓wSI_eq, ↓wSL_eq, ↓wSZ_eq, ↓wSB_eq, ↓ite_true, ↓ite_false, ↓wR_0, ↓wR_1, ↓wN_1, ↓wR_2, ↓wR_3, ↓wN_3, ↓wR_4, ↓wN_4, ↓wR_5, ↓wN_5, ↓wR_6, ↓wN_6, ↓wR_7, ↓wN_7, ↓wR_8, ↓wN_8, ↓wR_9, ↓wN_9, ↓wR_10, ↓wN_10, ↓wR_11, ↓wN_11, ↓wR_12, ↓wR_13, ↓wN_13, ↓wR_14, ↓wN_14, ↓wR_15, ↓wN_15, ↓wR_16, ↓wN_16, ↓wR_17, ↓wN_17, ↓wR_18, ↓wN_18, ↓wR_19, ↓wR_20, ↓wN_20, ↓wR_21, ↓wN_21, ↓wR_22, ↓wN_22, ↓wR_23, ↓wN_23, ↓wR_24, ↓wN_24, ↓wR_25, ↓wN_25, ↓wR_26, ↓wN_26, ↓wR_27, ↓wN_27, ↓wR_28, ↓wN_28, ↓wR_29, ↓wR_30, ↓wN_30, ↓wR_31, ↓wN_31, ↓wR_32, ↓wN_32, ↓wR_33, ↓wN_33, ↓wR_34, ↓wN_34, ↓wR_35, ↓wN_35, ↓wR_36, ↓wR_37, ↓wN_37, ↓wR_38, ↓wR_39, ↓wN_39, ↓wR_40, ↓wN_40, ↓wR_41, ↓wN_41, ↓wR_42, ↓wN_42, ↓wR_43, ↓wR_44, ↓wN_44, ↓wR_45, ↓wN_45, ↓wR_46, ↓wN_46, ↓wR_47, ↓wN_47, ↓wR_48, ↓wN_48, ↓wR_49, ↓wN_49, ↓wR_50, ↓wR_51, ↓wN_51, ↓wR_52, ↓wN_52, ↓wR_53, ↓wN_53, ↓wR_54, ↓wN_54, ↓wR_55, ↓wN_55, ↓wR_56, ↓wN_56, ↓wR_57, ↓wR_58, ↓wN_58, ↓wR_59, ↓wN_59, ↓wR_60, ↓wN_60, ↓wR_61, ↓wN_61, ↓wR_62, ↓wN_62, ↓wR_63, ↓wN_63, ↓wR_64, ↓wR_65, ↓wN_65, ↓wR_66, ↓wR_67, ↓wN_67, ↓wR_68, ↓wN_68, ↓wR_69, ↓wN_69, ↓wR_70, ↓wR_71, ↓wN_71, ↓wR_72, ↓wN_72, ↓wR_73, ↓wN_73, ↓wR_74, ↓wN_74, ↓wR_75, ↓wN_75, ↓wR_76, ↓wN_76, ↓wR_77, ↓wN_77, ↓wR_78, ↓wN_78, ↓wR_d0, ↓wR_d1, ↓wN_d1, ↓wR_d2, ↓wN_d2, ↓wR_d3, ↓wN_d3, ↓wR_d4, ↓wN_d4, ↓wR_d5, ↓wN_d5, ↓wR_d6, ↓wN_d6, ↓wR_d7, ↓wN_d7, ↓wR_d8, ↓wN_d8, ↓wR_d9, ↓wN_d9, ↓wR_d10, ↓wR_d11, ↓wN_d11, ↓wR_d12, ↓wN_d12, ↓wR_d13, ↓wN_d13, ↓wR_d14, ↓wN_d14, ↓wR_d15, ↓wN_d15, ↓wR_d16, ↓wN_d16, ↓wR_c0, ↓wR_c1, ↓wN_c1, ↓wR_c2, ↓wN_c2, ↓wR_c3, ↓wN_c3, ↓wR_c4, ↓wN_c4, ↓wR_c5, ↓wN_c5, ↓wR_c6, ↓wN_c6] | simp (disch := first | assumption | omega) only [sI_r, sI_l, sL_r, sL_i, sR_i, sR_l, cp_r, cp_l, nI_add, nI_mul, nI_1, nI_leE, nI_ltE, nI_eqI, nI_neg, nI_neg2, nI_nn, nI_leL, nI_geL, nI_ltL, nI_gtL, nI_eqL, nI_mulL, nI_addL, nI_Ladd, nI_subL, wN_lit, bI_0, bI_1, l10, l01, lm0, lm1, or_true, true_or, or_false, false_or, and_true, true_and, sI_eq, Nat.not_lt_zero, eq_self, ite_true, ite_false, not_true_eq_false, not_false_eq_true, Nat.reduceAdd, Nat.reduceMul, Nat.reduceSub, Nat.reduceLT, Nat.reduceLeDiff, Nat.reduceEqDiff, h1, h8, ht, f1, hq, lg_0, (PL_c hx1.1 hc), w1, w2, hh])
    · by_cases hz : q = 0
      · subst hz
        have : ((0 : Int64) = -9223372036854775808) = False := by decide
        repeat (first | simp (disch := first | assumption | omega) only [↓wB_eq, ↓wC_s, ↓wP_s, ↓wJ_inl, ↓wJ_inr, ↓wG_eq, ↓wSI_eq, ↓wSL_eq, ↓wSZ_eq, ↓wSB_eq, ↓ite_true, ↓ite_false, ↓wR_0, ↓wR_1, ↓wN_1, ↓wR_2, ↓wR_3, ↓wN_3, ↓wR_4, ↓wN_4, ↓wR_5, ↓wN_5, ↓wR_6, ↓wN_6, ↓wR_7, ↓wN_7, ↓wR_8, ↓wN_8, ↓wR_9, ↓wN_9, ↓wR_10, ↓wN_10, ↓wR_11, ↓wN_11, ↓wR_12, ↓wR_13, ↓wN_13, ↓wR_14, ↓wN_14, ↓wR_15, ↓wN_15, ↓wR_16, ↓wN_16, ↓wR_17, ↓wN_17, ↓wR_18, ↓wN_18, ↓wR_19, ↓wR_20, ↓wN_20, ↓wR_21, ↓wN_21, ↓wR_22, ↓wN_22, ↓wR_23, ↓wN_23, ↓wR_24, ↓wN_24, ↓wR_25, ↓wN_25, ↓wR_26, ↓wN_26, ↓wR_27, ↓wN_27, ↓wR_28, ↓wN_28, ↓wR_29, ↓wR_30, ↓wN_30, ↓wR_31, ↓wN_31, ↓wR_32, ↓wN_32, ↓wR_33, ↓wN_33, ↓wR_34, ↓wN_34, ↓wR_35, ↓wN_35, ↓wR_36, ↓wR_37, ↓wN_37, ↓wR_38, ↓wR_39, ↓wN_39, ↓wR_40, ↓wN_40, ↓wR_41, ↓wN_41, ↓wR_42, ↓wN_42, ↓wR_43, ↓wR_44, ↓wN_44, ↓wR_45, ↓wN_45, ↓wR_46, ↓wN_46, ↓wR_47, ↓wN_47, ↓wR_48, ↓wN_48, ↓wR_49, ↓wN_49, ↓wR_50, ↓wR_51, ↓wN_51, ↓wR_52, ↓wN_52, ↓wR_53, ↓wN_53, ↓wR_54, ↓wN_54, ↓wR_55, ↓wN_55, ↓wR_56, ↓wN_56, ↓wR_57, ↓wR_58, ↓wN_58, ↓wR_59, ↓wN_59, ↓wR_60, ↓wN_60, ↓wR_61, ↓wN_61, ↓wR_62, ↓wN_62, ↓wR_63, ↓wN_63, ↓wR_64, ↓wR_65, ↓wN_65, ↓wR_66, ↓wR_67, ↓wN_67, ↓wR_68, ↓wN_68, ↓wR_69, ↓wN_69, ↓wR_70, ↓wR_71, ↓wN_71, ↓wR_72, ↓wN_72, ↓wR_73, ↓wN_73, ↓wR_74, ↓wN_74, ↓wR_75, ↓wN_75, ↓wR_76, ↓wN_76, ↓wR_77, ↓wN_77, ↓wR_78, ↓wN_78, ↓wR_d0, ↓wR_d1, ↓wN_d1, ↓wR_d2, ↓wN_d2, ↓wR_d3, ↓wN_d3, ↓wR_d4, ↓wN_d4, ↓wR_d5, ↓wN_d5, ↓wR_d6, ↓wN_d6, ↓wR_d7, ↓wN_d7, ↓wR_d8, ↓wN_d8, ↓wR_d9, ↓wN_d9, ↓wR_d10, ↓wR_d11, ↓wN_d11, ↓wR_d12, ↓wN_d12, ↓wR_d13, ↓wN_d13, ↓wR_d14, ↓wN_d14, ↓wR_d15, ↓wN_d15, ↓wR_d16, ↓wN_d16, ↓wR_c0, ↓wR_c1, ↓wN_c1, ↓wR_c2, ↓wN_c2, ↓wR_c3, ↓wN_c3, ↓wR_c4, ↓wN_c4, ↓wR_c5, ↓wN_c5, ↓wR_c6, ↓wN_c6] | simp (disch := first | assumption | omega) only [sI_r, sI_l, sL_r, sL_i, sR_i, sR_l, cp_r, cp_l, nI_add, nI_mul, nI_1, nI_leE, nI_ltE, nI_eqI, nI_neg, nI_neg2, nI_nn, nI_leL, nI_geL, nI_ltL, nI_gtL, nI_eqL, nI_mulL, nI_addL, nI_Ladd, nI_subL, wN_lit, bI_0, bI_1, l10, l01, lm0, lm1, or_true, true_or, or_false, false_or, and_true, true_and, sI_eq, Nat.not_lt_zero, eq_self, ite_true, ite_false, not_true_eq_false, not_false_eq_true, Nat.reduceAdd, Nat.reduceMul, Nat.reduceSub, Nat.reduceLT, Nat.reduceLeDiff, Nat.reduceEqDiff, h1, h8, ht, f1, this, lg_0])
      · repeat (first | simp (disch := first | assumption | omega) only [↓wB_eq, ↓wC_s, ↓wP_s, ↓wJ_inl, ↓wJ_inr, ↓wG_eq, ↓wSI_eq, ↓wSL_eq, ↓wSZ_eq, ↓wSB_eq, ↓ite_true, ↓ite_false, ↓wR_0, ↓wR_1, ↓wN_1, ↓wR_2, ↓wR_3, ↓wN_3, ↓wR_4, ↓wN_4, ↓wR_5, ↓wN_5, ↓wR_6, ↓wN_6, ↓wR_7, ↓wN_7, ↓wR_8, ↓wN_8, ↓wR_9, ↓wN_9, ↓wR_10, ↓wN_10, ↓wR_11, ↓wN_11, ↓wR_12, ↓wR_13, ↓wN_13, ↓wR_14, ↓wN_14, ↓wR_15, ↓wN_15, ↓wR_16, ↓wN_16, ↓wR_17, ↓wN_17, ↓wR_18, ↓wN_18, ↓wR_19, ↓wR_20, ↓wN_20, ↓wR_21, ↓wN_21, ↓wR_22, ↓wN_22, ↓wR_23, ↓wN_23, ↓wR_24, ↓wN_24, ↓wR_25, ↓wN_25, ↓wR_26, ↓wN_26, ↓wR_27, ↓wN_27, ↓wR_28, ↓wN_28, ↓wR_29, ↓wR_30, ↓wN_30, ↓wR_31, ↓wN_31, ↓wR_32, ↓wN_32, ↓wR_33, ↓wN_33, ↓wR_34, ↓wN_34, ↓wR_35, ↓wN_35, ↓wR_36, ↓wR_37, ↓wN_37, ↓wR_38, ↓wR_39, ↓wN_39, ↓wR_40, ↓wN_40, ↓wR_41, ↓wN_41, ↓wR_42, ↓wN_42, ↓wR_43, ↓wR_44, ↓wN_44, ↓wR_45, ↓wN_45, ↓wR_46, ↓wN_46, ↓wR_47, ↓wN_47, ↓wR_48, ↓wN_48, ↓wR_49, ↓wN_49, ↓wR_50, ↓wR_51, ↓wN_51, ↓wR_52, ↓wN_52, ↓wR_53, ↓wN_53, ↓wR_54, ↓wN_54, ↓wR_55, ↓wN_55, ↓wR_56, ↓wN_56, ↓wR_57, ↓wR_58, ↓wN_58, ↓wR_59, ↓wN_59, ↓wR_60, ↓wN_60, ↓wR_61, ↓wN_61, ↓wR_62, ↓wN_62, ↓wR_63, ↓wN_63, ↓wR_64, ↓wR_65, ↓wN_65, ↓wR_66, ↓wR_67, ↓wN_67, ↓wR_68, ↓wN_68, ↓wR_69, ↓wN_69, ↓wR_70, ↓wR_71, ↓wN_71, ↓wR_72, ↓wN_72, ↓wR_73, ↓wN_73, ↓wR_74, ↓wN_74, ↓wR_75, ↓wN_75, ↓wR_76, ↓wN_76, ↓wR_77, ↓wN_77, ↓wR_78, ↓wN_78, ↓wR_d0, ↓wR_d1, ↓wN_d1, ↓wR_d2, ↓wN_d2, ↓wR_d3, ↓wN_d3, ↓wR_d4, ↓wN_d4, ↓wR_d5, ↓wN_d5, ↓wR_d6, ↓wN_d6, ↓wR_d7, ↓wN_d7, ↓wR_d8, ↓wN_d8, ↓wR_d9, ↓wN_d9, ↓wR_d10, ↓wR_d11, ↓wN_d11, ↓wR_d12, ↓wN_d12, ↓wR_d13, ↓wN_d13, ↓wR_d14, ↓wN_d14, ↓wR_d15, ↓wN_d15, ↓wR_d16, ↓wN_d16, ↓wR_c0, ↓wR_c1, ↓wN_c1, ↓wR_c2, ↓wN_c2, ↓wR_c3, ↓wN_c3, ↓wR_c4, ↓wN_c4, ↓wR_c5, ↓wN_c5, ↓wR_c6, ↓wN_c6] | simp (disch := first | assumption | omega) only [sI_r, sI_l, sL_r, sL_i, sR_i, sR_l, cp_r, cp_l, nI_add, nI_mul, nI_1, nI_leE, nI_ltE, nI_eqI, nI_neg, nI_neg2, nI_nn, nI_leL, nI_geL, nI_ltL, nI_gtL, nI_eqL, nI_mulL, nI_addL, nI_Ladd, nI_subL, wN_lit, bI_0, bI_1, l10, l01, lm0, lm1, or_true, true_or, or_false, false_or, and_true, true_and, sI_eq, Nat.not_lt_zero, eq_self, ite_true, ite_false, not_true_eq_false, not_false_eq_true, Nat.reduceAdd, Nat.reduceMul, Nat.reduceSub, Nat.reduceLT, Nat.reduceLeDiff, Nat.reduceEqDiff, h1, h8, ht, f1, hq, hz, lg_0])
  rw [hdr]
  unfold F_X9_isDaring_j30
  rcases l2 with hA | hA
  · have f1 : F_X0_workOut 64 (1 : Int32) c (nI g) (nI f) u = some (-9223372036854775808, u) := workOut_0 (w := 1) hx0 (by decide) hA
    refine ⟨i10, u, t, hi01, ?_, ?_, QC_rf u, LR_rf t⟩
    · rw [hcl _ _ f1 (QC_rf u)]
      rfl
    · rw [hA] at l1
      repeat (first | simp (disch := first | assumption | omega) only [↓wB_eq, ↓wC_s, ↓wP_s, ↓wJ_inl, ↓wJ_inr, ↓wG_eq, ↓wSI_eq, ↓wSL_eq, ↓wSZ_eq, ↓wSB_eq, ↓ite_true, ↓ite_false, ↓wR_79, ↓wR_80, ↓wN_80, ↓wR_81, ↓wN_81, ↓wR_82, ↓wN_82, ↓wR_83, ↓wN_83, ↓wR_84, ↓wN_84, ↓wR_85, ↓wN_85, ↓wR_86, ↓wN_86, ↓wR_87, ↓wN_87, ↓wR_88, ↓wN_88, ↓wR_89, ↓wN_89, ↓wR_90, ↓wN_90, ↓wR_91, ↓wN_91, ↓wR_92, ↓wN_92, ↓wR_93, ↓wN_93, ↓wR_94, ↓wN_94, ↓wR_95, ↓wN_95, ↓wR_96, ↓wN_96, ↓wR_97, ↓wN_97, ↓wR_98, ↓wN_98, ↓wR_99, ↓wN_99, ↓wR_100, ↓wN_100, ↓wR_101, ↓wN_101, ↓wR_102, ↓wN_102, ↓wR_103, ↓wN_103, ↓wR_104, ↓wN_104, ↓wR_105, ↓wN_105, ↓wR_106, ↓wN_106, ↓wR_107, ↓wN_107, ↓wR_108, ↓wN_108, ↓wR_109, ↓wN_109, ↓wR_110, ↓wN_110, ↓wR_111, ↓wN_111, ↓wR_112, ↓wN_112, ↓wR_113, ↓wN_113, ↓wR_114, ↓wN_114, ↓wR_115, ↓wN_115, ↓wR_116, ↓wN_116, ↓wR_117, ↓wN_117, ↓wR_118, ↓wN_118, ↓wR_119, ↓wN_119] | simp (disch := first | assumption | omega) only [sI_r, sI_l, sL_r, sL_i, sR_i, sR_l, cp_r, cp_l, nI_add, nI_mul, nI_1, nI_leE, nI_ltE, nI_eqI, nI_neg, nI_neg2, nI_nn, nI_leL, nI_geL, nI_ltL, nI_gtL, nI_eqL, nI_mulL, nI_addL, nI_Ladd, nI_subL, wN_lit, bI_0, bI_1, l10, l01, lm0, lm1, or_true, true_or, or_false, false_or, and_true, true_and, sI_eq, Nat.not_lt_zero, eq_self, ite_true, ite_false, not_true_eq_false, not_false_eq_true, Nat.reduceAdd, Nat.reduceMul, Nat.reduceSub, Nat.reduceLT, Nat.reduceLeDiff, Nat.reduceEqDiff, PM_u hmm, l1, hi01])
  · obtain ⟨o, hbo, ⟨u', f1, f2⟩, hr⟩ := law_rl (w := 1) hx0 hg hf (by decide) hA hsw
    obtain ⟨t1, g1, g2, g3⟩ := lay_r hx0 hg hf hsw
    obtain ⟨t2, k1, k2, k3⟩ := hr t1 g2 g3
    have f1 : F_X0_workOut 64 (1 : Int32) c (nI g) (nI f) u = some (o.getD (-9223372036854775808), u') := f1
    have k1 : F_X9_lawOf 79 (1 : Int32) t1 = some (o.getD 0, t2) := k1
    have l3 : (t.1 93 1 = 0) = False := by rw [l1, hA]; decide
    rcases k3 with ⟨rfl, k3⟩ | ⟨v, rfl, k3⟩
    · refine ⟨i10, u', t2, hi01, ?_, ?_, f2, k2⟩
      · rw [hcl _ _ f1 f2]
        rfl
      · repeat (first | simp (disch := first | assumption | omega) only [↓wB_eq, ↓wC_s, ↓wP_s, ↓wJ_inl, ↓wJ_inr, ↓wG_eq, ↓wSI_eq, ↓wSL_eq, ↓wSZ_eq, ↓wSB_eq, ↓ite_true, ↓ite_false, ↓wR_79, ↓wR_80, ↓wN_80, ↓wR_81, ↓wN_81, ↓wR_82, ↓wN_82, ↓wR_83, ↓wN_83, ↓wR_84, ↓wN_84, ↓wR_85, ↓wN_85, ↓wR_86, ↓wN_86, ↓wR_87, ↓wN_87, ↓wR_88, ↓wN_88, ↓wR_89, ↓wN_89, ↓wR_90, ↓wN_90, ↓wR_91, ↓wN_91, ↓wR_92, ↓wN_92, ↓wR_93, ↓wN_93, ↓wR_94, ↓wN_94, ↓wR_95, ↓wN_95, ↓wR_96, ↓wN_96, ↓wR_97, ↓wN_97, ↓wR_98, ↓wN_98, ↓wR_99, ↓wN_99, ↓wR_100, ↓wN_100, ↓wR_101, ↓wN_101, ↓wR_102, ↓wN_102, ↓wR_103, ↓wN_103, ↓wR_104, ↓wN_104, ↓wR_105, ↓wN_105, ↓wR_106, ↓wN_106, ↓wR_107, ↓wN_107, ↓wR_108, ↓wN_108, ↓wR_109, ↓wN_109, ↓wR_110, ↓wN_110, ↓wR_111, ↓wN_111, ↓wR_112, ↓wN_112, ↓wR_113, ↓wN_113, ↓wR_114, ↓wN_114, ↓wR_115, ↓wN_115, ↓wR_116, ↓wN_116, ↓wR_117, ↓wN_117, ↓wR_118, ↓wN_118, ↓wR_119, ↓wN_119] | simp (disch := first | assumption | omega) only [sI_r, sI_l, sL_r, sL_i, sR_i, sR_l, cp_r, cp_l, nI_add, nI_mul, nI_1, nI_leE, nI_ltE, nI_eqI, nI_neg, nI_neg2, nI_nn, nI_leL, nI_geL, nI_ltL, nI_gtL, nI_eqL, nI_mulL, nI_addL, nI_Ladd, nI_subL, wN_lit, bI_0, bI_1, l10, l01, lm0, lm1, or_true, true_or, or_false, false_or, and_true, true_and, sI_eq, Nat.not_lt_zero, eq_self, ite_true, ite_false, not_true_eq_false, not_false_eq_true, Nat.reduceAdd, Nat.reduceMul, Nat.reduceSub, Nat.reduceLT, Nat.reduceLeDiff, Nat.reduceEqDiff, PM_u hmm, l3, g1, k1, k3, hi01])
    · have hv : ¬ v = -9223372036854775808 := fun h => m_lb (h ▸ hbo v rfl)
      rw [Option.getD_some] at f1 k1
      refine ⟨if v = 0 then 0 else 1, u', t2, ?_, ?_, ?_, f2, k2⟩
      · split
        · exact Or.inl rfl
        · exact Or.inr rfl
      · rw [hcl _ _ f1 f2, if_neg hv]
      · by_cases hz : v = 0
        · repeat (first | simp (disch := first | assumption | omega) only [↓wB_eq, ↓wC_s, ↓wP_s, ↓wJ_inl, ↓wJ_inr, ↓wG_eq, ↓wSI_eq, ↓wSL_eq, ↓wSZ_eq, ↓wSB_eq, ↓ite_true, ↓ite_false, ↓wR_79, ↓wR_80, ↓wN_80, ↓wR_81, ↓wN_81, ↓wR_82, ↓wN_82, ↓wR_83, ↓wN_83, ↓wR_84, ↓wN_84, ↓wR_85, ↓wN_85, ↓wR_86, ↓wN_86, ↓wR_87, ↓wN_87, ↓wR_88, ↓wN_88, ↓wR_89, ↓wN_89, ↓wR_90, ↓wN_90, ↓wR_91, ↓wN_91, ↓wR_92, ↓wN_92, ↓wR_93, ↓wN_93, ↓wR_94, ↓wN_94, ↓wR_95, ↓wN_95, ↓wR_96, ↓wN_96, ↓wR_97, ↓wN_97, ↓wR_98, ↓wN_98, ↓wR_99, ↓wN_99, ↓wR_100, ↓wN_100, ↓wR_101, ↓wN_101, ↓wR_102, ↓wN_102, ↓wR_103, ↓wN_103, ↓wR_104, ↓wN_104, ↓wR_105, ↓wN_105, ↓wR_106, ↓wN_106, ↓wR_107, ↓wN_107, ↓wR_108, ↓wN_108, ↓wR_109, ↓wN_109, ↓wR_110, ↓wN_110, ↓wR_111, ↓wN_111, ↓wR_112, ↓wN_112, ↓wR_113, ↓wN_113, ↓wR_114, ↓wN_114, ↓wR_115, ↓wN_115, ↓wR_116, ↓wN_116, ↓wR_117, ↓wN_117, ↓wR_118, ↓wN_118, ↓wR_119, ↓wN_119] | simp (disch := first | assumption | omega) only [sI_r, sI_l, sL_r, sL_i, sR_i, sR_l, cp_r, cp_l, nI_add, nI_mul, nI_1, nI_leE, nI_ltE, nI_eqI, nI_neg, nI_neg2, nI_nn, nI_leL, nI_geL, nI_ltL, nI_gtL, nI_eqL, nI_mulL, nI_addL, nI_Ladd, nI_subL, wN_lit, bI_0, bI_1, l10, l01, lm0, lm1, or_true, true_or, or_false, false_or, and_true, true_and, sI_eq, Nat.not_lt_zero, eq_self, ite_true, ite_false, not_true_eq_false, not_false_eq_true, Nat.reduceAdd, Nat.reduceMul, Nat.reduceSub, Nat.reduceLT, Nat.reduceLeDiff, Nat.reduceEqDiff, PM_u hmm, l3, g1, k1, k3, hz, lg_0])
        · repeat (first | simp (disch := first | assumption | omega) only [↓wB_eq, ↓wC_s, ↓wP_s, ↓wJ_inl, ↓wJ_inr, ↓wG_eq, ↓wSI_eq, ↓wSL_eq, ↓wSZ_eq, ↓wSB_eq, ↓ite_true, ↓ite_false, ↓wR_79, ↓wR_80, ↓wN_80, ↓wR_81, ↓wN_81, ↓wR_82, ↓wN_82, ↓wR_83, ↓wN_83, ↓wR_84, ↓wN_84, ↓wR_85, ↓wN_85, ↓wR_86, ↓wN_86, ↓wR_87, ↓wN_87, ↓wR_88, ↓wN_88, ↓wR_89, ↓wN_89, ↓wR_90, ↓wN_90, ↓wR_91, ↓wN_91, ↓wR_92, ↓wN_92, ↓wR_93, ↓wN_93, ↓wR_94, ↓wN_94, ↓wR_95, ↓wN_95, ↓wR_96, ↓wN_96, ↓wR_97, ↓wN_97, ↓wR_98, ↓wN_98, ↓wR_99, ↓wN_99, ↓wR_100, ↓wN_100, ↓wR_101, ↓wN_101, ↓wR_102, ↓wN_102, ↓wR_103, ↓wN_103, ↓wR_104, ↓wN_104, ↓wR_105, ↓wN_105, ↓wR_106, ↓wN_106, ↓wR_107, ↓wN_107, ↓wR_108, ↓wN_108, ↓wR_109, ↓wN_109, ↓wR_110, ↓wN_110, ↓wR_111, ↓wN_111, ↓wR_112, ↓wN_112, ↓wR_113, ↓wN_113, ↓wR_114, ↓wN_114, ↓wR_115, ↓wN_115, ↓wR_116, ↓wN_116, ↓wR_117, ↓wN_117, ↓wR_118, ↓wN_118, ↓wR_119, ↓wN_119] | simp (disch := first | assumption | omega) only [sI_r, sI_l, sL_r, sL_i, sR_i, sR_l, cp_r, cp_l, nI_add, nI_mul, nI_1, nI_leE, nI_ltE, nI_eqI, nI_neg, nI_neg2, nI_nn, nI_leL, nI_geL, nI_ltL, nI_gtL, nI_eqL, nI_mulL, nI_addL, nI_Ladd, nI_subL, wN_lit, bI_0, bI_1, l10, l01, lm0, lm1, or_true, true_or, or_false, false_or, and_true, true_and, sI_eq, Nat.not_lt_zero, eq_self, ite_true, ite_false, not_true_eq_false, not_false_eq_true, Nat.reduceAdd, Nat.reduceMul, Nat.reduceSub, Nat.reduceLT, Nat.reduceLeDiff, Nat.reduceEqDiff, PM_u hmm, l3, g1, k1, k3, hz, lg_0])
end

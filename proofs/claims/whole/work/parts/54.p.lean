/-! a step -/
def FR2 (b : Nat) (t t' : wSt) : Prop := t'.2.2 = t.2.2 ∧ (∀ a j, ¬ rsc b a j → ¬ (a = 79 ∧ j = 59) → t'.1 a j = t.1 a j) ∧ t'.2.1 79 79 = t.2.1 79 79 ∧ (t.1 79 60 = 0 → t'.2.1 79 58 = t.2.1 79 58)
theorem FR2_rf (b : Nat) (t : wSt) : FR2 b t t := ⟨rfl, fun _ _ _ _ => rfl, rfl, fun _ => rfl⟩
theorem FR2_tr {b : Nat} {t t' t'' : wSt} (h : FR2 b t t') (h' : FR2 b t' t'') : FR2 b t t'' :=
  ⟨h'.1.trans h.1, fun a j q r => (h'.2.1 a j q r).trans (h.2.1 a j q r), h'.2.2.1.trans h.2.2.1, fun q => (h'.2.2.2 ((h.2.1 79 60 (n60 b) (by omega)).trans q)).trans (h.2.2.2 q)⟩
theorem FR_2 {b : Nat} {t t' : wSt} {x : Int32} (h : FR b (w_sI t 79 59 x) t') : FR2 b t t' :=
  ⟨h.1, fun a j q r => (h.2.1 a j q).trans (if_neg r), h.2.2.1, fun q => h.2.2.2 ((sI_ne2 t 79 59 x 79 60 (by decide)).trans q)⟩
theorem FR_59 {b : Nat} {t t' : wSt} {x : Int32} (h : FR b t t') : FR b (w_sI t 79 59 x) (w_sI t' 79 59 x) :=
  ⟨h.1, fun a j q => by
    show (if a = 79 ∧ j = 59 then x else t'.1 a j) = (if a = 79 ∧ j = 59 then x else t.1 a j)
    rw [h.2.1 a j q], h.2.2.1, fun q => h.2.2.2 ((sI_ne2 t 79 59 x 79 60 (by decide)).symm.trans q)⟩
def ST (n m k d c b : Nat) (u t u' t' : wSt) : Prop := Cx n m k d c b 98 u' t' ∧ FC c u u' ∧ FR2 b t t' ∧ (∀ g, bt (u.1 c 2) g = true → bt (u'.1 c 2) g = true)
section
variable {n m k d c b B : Nat} {u t : wSt}
theorem ST_rf (h : Cx n m k d c b 98 u t) : ST n m k d c b u t u t := ⟨h, FC_rf c u, FR2_rf b t, fun _ h => h⟩
theorem ST_tr {u' t' u'' t'' : wSt} (h : ST n m k d c b u t u' t') (h' : ST n m k d c b u' t' u'' t'') : ST n m k d c b u t u'' t'' := ⟨h'.1, FC_tr h.2.1 h'.2.1, FR2_tr h.2.2.1 h'.2.2.1, fun g q => h'.2.2.2 g (h.2.2.2 g q)⟩
theorem SS_59 {u' t' : wSt} {x : Int32} (h : SS n m k d c b B u t u' t') : SS n m k d c b B u (w_sI t 79 59 x) u' (w_sI t' 79 59 x) := ⟨Cx_59 h.1, h.2.1, FR_59 h.2.2.1, h.2.2.2⟩
theorem Cx_st {s : Nat} (hx : Cx n m k d c b B u t) (hs : s ≤ 20000) : Cx n m k d c b B (w_sI u c 0 (nI s)) (w_sI t 112 b (nI s)) ∧ FC c u (w_sI u c 0 (nI s)) ∧ FR b t (w_sI t 112 b (nI s)) := by
  have h0 := hx
  obtain ⟨-, -, -, hc, hb, -, ⟨⟨n6, m8, -⟩, -⟩, -, ⟨⟨s', hs', -, -⟩, hG, hF, h4, h5, h6, h7⟩, hN, hBB⟩ := h0
  have c1 := SC_le hc
  have ne : ∀ a j, (a ≠ c ∨ j ≠ 0) → (w_sI u c 0 (nI s)).1 a j = u.1 a j := fun a j h => if_neg (by omega)
  have ne' : ∀ a j, a ≠ 112 → (w_sI t 112 b (nI s)).1 a j = t.1 a j := fun a j h => sI_ne _ _ _ _ _ _ h
  have e2 : (w_sI u c 0 (nI s)).1 c 2 = u.1 c 2 := ne _ _ (by omega)
  have e3 : (w_sI u c 0 (nI s)).1 c 3 = u.1 c 3 := ne _ _ (by omega)
  refine ⟨Cx_fr hx (FC_s (by omega)) (FR_s (by unfold rsc; omega)) ⟨⟨s, hs, sI_eq _ _ _ _, sI_eq _ _ _ _⟩, fun g' q => ?_, fun f q => ?_, fun g' q => ?_, fun g' q => ?_, fun g' q => ?_, fun f q => ?_⟩ (Nm_k hN (ne _ _ (by omega)) (ne _ _ (by omega)) rfl) hBB, FC_s (by omega), FR_s (by unfold rsc; omega)⟩
  · have z := hG g' q
    rw [ne (c + 1) _ (by omega), ne (c + 2) _ (by omega), ne (c + 3) _ (by omega), ne (c + 4) _ (by omega), ne' 104 _ (by omega), ne' 105 _ (by omega), ne' 106 _ (by omega), ne' 107 _ (by omega), ne' 108 _ (by omega), e2]
    exact z
  · have z := hF f q
    rw [ne (c + 5) _ (by omega), ne (c + 6) _ (by omega), ne' 109 _ (by omega), ne' 111 _ (by omega), ne' 110 _ (by omega), e3]
    exact z
  · rw [ne (c + 1) _ (by omega)]
    exact h4 g' q
  · rw [ne (c + 3) _ (by omega), e2]
    exact h5 g' q
  · rw [e2]; exact h6 g' q
  · rw [e3]; exact h7 f q
theorem top_c {s : Nat} (hx : Cx n m k d c b B u t) (hs : u.1 c 0 = nI s) (hs2 : s ≤ 20000) : F_X0_fruitOnTop 64 c u = some (if m = 0 then -1 else nI (s % m)) := by
  obtain ⟨h8, -, e1, -, -⟩ := Cx_e hx
  obtain ⟨n6, m8, b2⟩ := Cx_b hx
  have hd := hx.2.2.1
  unfold F_X0_fruitOnTop
  by_cases q : m = 0
  · subst q
    repeat (first | simp (disch := first | assumption | omega) only [↓wB_eq, ↓wC_s, ↓wP_s, ↓wJ_inl, ↓wJ_inr, ↓wG_eq, ↓wSI_eq, ↓wSL_eq, ↓wSZ_eq, ↓wSB_eq, ↓ite_true, ↓ite_false, ↓wR_0, ↓wR_1, ↓wN_1, ↓wR_2, ↓wR_3, ↓wN_3, ↓wR_4, ↓wN_4, ↓wR_5, ↓wN_5, ↓wR_6, ↓wN_6, ↓wR_7, ↓wN_7, ↓wR_8, ↓wN_8, ↓wR_9, ↓wN_9, ↓wR_10, ↓wN_10, ↓wR_11, ↓wN_11, ↓wR_12, ↓wR_13, ↓wN_13, ↓wR_14, ↓wN_14, ↓wR_15, ↓wN_15, ↓wR_16, ↓wN_16, ↓wR_17, ↓wN_17, ↓wR_18, ↓wN_18, ↓wR_19, ↓wR_20, ↓wN_20, ↓wR_21, ↓wN_21, ↓wR_22, ↓wN_22, ↓wR_23, ↓wN_23, ↓wR_24, ↓wN_24, ↓wR_25, ↓wN_25, ↓wR_26, ↓wN_26, ↓wR_27, ↓wN_27, ↓wR_28, ↓wN_28, ↓wR_29, ↓wR_30, ↓wN_30, ↓wR_31, ↓wN_31, ↓wR_32, ↓wN_32, ↓wR_33, ↓wN_33, ↓wR_34, ↓wN_34, ↓wR_35, ↓wN_35, ↓wR_36, ↓wR_37, ↓wN_37, ↓wR_38, ↓wR_39, ↓wN_39, ↓wR_40, ↓wN_40, ↓wR_41, ↓wN_41, ↓wR_42, ↓wN_42, ↓wR_43, ↓wR_44, ↓wN_44, ↓wR_45, ↓wN_45, ↓wR_46, ↓wN_46, ↓wR_47, ↓wN_47, ↓wR_48, ↓wN_48, ↓wR_49, ↓wN_49, ↓wR_50, ↓wR_51, ↓wN_51, ↓wR_52, ↓wN_52, ↓wR_53, ↓wN_53, ↓wR_54, ↓wN_54, ↓wR_55, ↓wN_55, ↓wR_56, ↓wN_56, ↓wR_57, ↓wR_58, ↓wN_58, ↓wR_59, ↓wN_59, ↓wR_60, ↓wN_60, ↓wR_61, ↓wN_61, ↓wR_62, ↓wN_62, ↓wR_63, ↓wN_63, ↓wR_64, ↓wR_65, ↓wN_65, ↓wR_66, ↓wR_67, ↓wN_67, ↓wR_68, ↓wN_68, ↓wR_69, ↓wN_69, ↓wR_70, ↓wR_71, ↓wN_71, ↓wR_72, ↓wN_72, ↓wR_73, ↓wN_73, ↓wR_74, ↓wN_74, ↓wR_75, ↓wN_75, ↓wR_76, ↓wN_76, ↓wR_77, ↓wN_77, ↓wR_78, ↓wN_78, ↓wR_d0, ↓wR_d1, ↓wN_d1, ↓wR_d2, ↓wN_d2, ↓wR_d3, ↓wN_d3, ↓wR_d4, ↓wN_d4, ↓wR_d5, ↓wN_d5, ↓wR_d6, ↓wN_d6, ↓wR_d7, ↓wN_d7, ↓wR_d8, ↓wN_d8, ↓wR_d9, ↓wN_d9, ↓wR_d10, ↓wR_d11, ↓wN_d11, ↓wR_d12, ↓wN_d12, ↓wR_d13, ↓wN_d13, ↓wR_d14, ↓wN_d14, ↓wR_d15, ↓wN_d15, ↓wR_d16, ↓wN_d16, ↓wR_c0, ↓wR_c1, ↓wN_c1, ↓wR_c2, ↓wN_c2, ↓wR_c3, ↓wN_c3, ↓wR_c4, ↓wN_c4, ↓wR_c5, ↓wN_c5, ↓wR_c6, ↓wN_c6] | simp (disch := first | assumption | omega) only [sI_r, sI_l, sL_r, sL_i, sR_i, sR_l, cp_r, cp_l, nI_add, nI_mul, nI_1, nI_leE, nI_ltE, nI_eqI, nI_neg, nI_neg2, nI_nn, nI_leL, nI_geL, nI_ltL, nI_gtL, nI_eqL, nI_mulL, nI_addL, nI_Ladd, nI_subL, wN_lit, bI_0, bI_1, l10, l01, lm0, lm1, or_true, true_or, or_false, false_or, and_true, true_and, sI_eq, Nat.not_lt_zero, eq_self, ite_true, ite_false, not_true_eq_false, not_false_eq_true, Nat.reduceAdd, Nat.reduceMul, Nat.reduceSub, Nat.reduceLT, Nat.reduceLeDiff, Nat.reduceEqDiff, h8, e1])
  · have q1 : (m ≤ 0) = False := eq_false (by omega)
    repeat (first | simp (disch := first | assumption | omega) only [↓wB_eq, ↓wC_s, ↓wP_s, ↓wJ_inl, ↓wJ_inr, ↓wG_eq, ↓wSI_eq, ↓wSL_eq, ↓wSZ_eq, ↓wSB_eq, ↓ite_true, ↓ite_false, ↓wR_0, ↓wR_1, ↓wN_1, ↓wR_2, ↓wR_3, ↓wN_3, ↓wR_4, ↓wN_4, ↓wR_5, ↓wN_5, ↓wR_6, ↓wN_6, ↓wR_7, ↓wN_7, ↓wR_8, ↓wN_8, ↓wR_9, ↓wN_9, ↓wR_10, ↓wN_10, ↓wR_11, ↓wN_11, ↓wR_12, ↓wR_13, ↓wN_13, ↓wR_14, ↓wN_14, ↓wR_15, ↓wN_15, ↓wR_16, ↓wN_16, ↓wR_17, ↓wN_17, ↓wR_18, ↓wN_18, ↓wR_19, ↓wR_20, ↓wN_20, ↓wR_21, ↓wN_21, ↓wR_22, ↓wN_22, ↓wR_23, ↓wN_23, ↓wR_24, ↓wN_24, ↓wR_25, ↓wN_25, ↓wR_26, ↓wN_26, ↓wR_27, ↓wN_27, ↓wR_28, ↓wN_28, ↓wR_29, ↓wR_30, ↓wN_30, ↓wR_31, ↓wN_31, ↓wR_32, ↓wN_32, ↓wR_33, ↓wN_33, ↓wR_34, ↓wN_34, ↓wR_35, ↓wN_35, ↓wR_36, ↓wR_37, ↓wN_37, ↓wR_38, ↓wR_39, ↓wN_39, ↓wR_40, ↓wN_40, ↓wR_41, ↓wN_41, ↓wR_42, ↓wN_42, ↓wR_43, ↓wR_44, ↓wN_44, ↓wR_45, ↓wN_45, ↓wR_46, ↓wN_46, ↓wR_47, ↓wN_47, ↓wR_48, ↓wN_48, ↓wR_49, ↓wN_49, ↓wR_50, ↓wR_51, ↓wN_51, ↓wR_52, ↓wN_52, ↓wR_53, ↓wN_53, ↓wR_54, ↓wN_54, ↓wR_55, ↓wN_55, ↓wR_56, ↓wN_56, ↓wR_57, ↓wR_58, ↓wN_58, ↓wR_59, ↓wN_59, ↓wR_60, ↓wN_60, ↓wR_61, ↓wN_61, ↓wR_62, ↓wN_62, ↓wR_63, ↓wN_63, ↓wR_64, ↓wR_65, ↓wN_65, ↓wR_66, ↓wR_67, ↓wN_67, ↓wR_68, ↓wN_68, ↓wR_69, ↓wN_69, ↓wR_70, ↓wR_71, ↓wN_71, ↓wR_72, ↓wN_72, ↓wR_73, ↓wN_73, ↓wR_74, ↓wN_74, ↓wR_75, ↓wN_75, ↓wR_76, ↓wN_76, ↓wR_77, ↓wN_77, ↓wR_78, ↓wN_78, ↓wR_d0, ↓wR_d1, ↓wN_d1, ↓wR_d2, ↓wN_d2, ↓wR_d3, ↓wN_d3, ↓wR_d4, ↓wN_d4, ↓wR_d5, ↓wN_d5, ↓wR_d6, ↓wN_d6, ↓wR_d7, ↓wN_d7, ↓wR_d8, ↓wN_d8, ↓wR_d9, ↓wN_d9, ↓wR_d10, ↓wR_d11, ↓wN_d11, ↓wR_d12, ↓wN_d12, ↓wR_d13, ↓wN_d13, ↓wR_d14, ↓wN_d14, ↓wR_d15, ↓wN_d15, ↓wR_d16, ↓wN_d16, ↓wR_c0, ↓wR_c1, ↓wN_c1, ↓wR_c2, ↓wN_c2, ↓wR_c3, ↓wN_c3, ↓wR_c4, ↓wN_c4, ↓wR_c5, ↓wN_c5, ↓wR_c6, ↓wN_c6] | simp (disch := first | assumption | omega) only [sI_r, sI_l, sL_r, sL_i, sR_i, sR_l, cp_r, cp_l, nI_add, nI_mul, nI_1, nI_leE, nI_ltE, nI_eqI, nI_neg, nI_neg2, nI_nn, nI_leL, nI_geL, nI_ltL, nI_gtL, nI_eqL, nI_mulL, nI_addL, nI_Ladd, nI_subL, wN_lit, bI_0, bI_1, l10, l01, lm0, lm1, or_true, true_or, or_false, false_or, and_true, true_and, sI_eq, Nat.not_lt_zero, eq_self, ite_true, ite_false, not_true_eq_false, not_false_eq_true, Nat.reduceAdd, Nat.reduceMul, Nat.reduceSub, Nat.reduceLT, Nat.reduceLeDiff, Nat.reduceEqDiff, h8, e1, hs, q, q1, rem_nI])
theorem mid_rl {s : Nat} (hx : Cx n m k d c b B u t) (hs : u.1 c 0 = nI s) (hs2 : s ≤ 20000) : ∃ (r : Int32) (u' t' : wSt), F_X0_goOn 64 c u = F_X0_goOn_j63 64 c r u' ∧ F_X9_stepGoes 79 (nI b) t = F_X9_stepGoes_j112 79 (nI b) t' ∧ SS n m k d c b B u (w_sI t 79 59 r) u' t' ∧ (r = -1 ∨ ∃ g, g < n ∧ r = nI g) := by
  obtain ⟨n6, m8, b2⟩ := Cx_b hx
  obtain ⟨t0, et⟩ : ∃ t0, t0 = w_sI t 79 59 (-1) := ⟨_, rfl⟩
  have hx0 : Cx n m k d c b B u t0 := by rw [et]; exact Cx_59 hx
  obtain ⟨h8, e1, e3, e2, e4⟩ := Cx_e hx0
  obtain ⟨g, g', a1, a2, rfl, hg⟩ := bowl_rl hx0
  have hx0' := hx0
  obtain ⟨hp, hm, hd, hc, hb, -, -, ⟨-, f62, -⟩, ⟨⟨s', -, es, es'⟩, -⟩, -⟩ := hx0'
  have hss : t0.1 112 b = nI s := by rw [es', ← es]; exact hs
  have hR : F_X9_stepGoes 79 (nI b) t = F_X9_stepGoes_j32 79 (nI b) g t0 := by
    unfold F_X9_stepGoes
    rw [wB_eq, ← et]
    by_cases n0 : n = 0
    · rw [if_pos n0] at a2
      cases a2
      subst n0
      repeat (first | simp (disch := first | assumption | omega) only [↓wB_eq, ↓wC_s, ↓wP_s, ↓wJ_inl, ↓wJ_inr, ↓wG_eq, ↓wSI_eq, ↓wSL_eq, ↓wSZ_eq, ↓wSB_eq, ↓ite_true, ↓ite_false, ↓wR_79, ↓wR_80, ↓wN_80, ↓wR_81, ↓wN_81, ↓wR_82, ↓wN_82, ↓wR_83, ↓wN_83, ↓wR_84, ↓wN_84, ↓wR_85, ↓wN_85, ↓wR_86, ↓wN_86, ↓wR_87, ↓wN_87, ↓wR_88, ↓wN_88, ↓wR_89, ↓wN_89, ↓wR_90, ↓wN_90, ↓wR_91, ↓wN_91, ↓wR_92, ↓wN_92, ↓wR_93, ↓wN_93, ↓wR_94, ↓wN_94, ↓wR_95, ↓wN_95, ↓wR_96, ↓wN_96, ↓wR_97, ↓wN_97, ↓wR_98, ↓wN_98, ↓wR_99, ↓wN_99, ↓wR_100, ↓wN_100, ↓wR_101, ↓wN_101, ↓wR_102, ↓wN_102, ↓wR_103, ↓wN_103, ↓wR_104, ↓wN_104, ↓wR_105, ↓wN_105, ↓wR_106, ↓wN_106, ↓wR_107, ↓wN_107, ↓wR_108, ↓wN_108, ↓wR_109, ↓wN_109, ↓wR_110, ↓wN_110, ↓wR_111, ↓wN_111, ↓wR_112, ↓wN_112, ↓wR_113, ↓wN_113, ↓wR_114, ↓wN_114, ↓wR_115, ↓wN_115, ↓wR_116, ↓wN_116, ↓wR_117, ↓wN_117, ↓wR_118, ↓wN_118, ↓wR_119, ↓wN_119] | simp (disch := first | assumption | omega) only [sI_r, sI_l, sL_r, sL_i, sR_i, sR_l, cp_r, cp_l, nI_add, nI_mul, nI_1, nI_leE, nI_ltE, nI_eqI, nI_neg, nI_neg2, nI_nn, nI_leL, nI_geL, nI_ltL, nI_gtL, nI_eqL, nI_mulL, nI_addL, nI_Ladd, nI_subL, wN_lit, bI_0, bI_1, l10, l01, lm0, lm1, or_true, true_or, or_false, false_or, and_true, true_and, sI_eq, Nat.not_lt_zero, eq_self, ite_true, ite_false, not_true_eq_false, not_false_eq_true, Nat.reduceAdd, Nat.reduceMul, Nat.reduceSub, Nat.reduceLT, Nat.reduceLeDiff, Nat.reduceEqDiff, e2])
    · rw [if_neg n0] at a2
      repeat (first | simp (disch := first | assumption | omega) only [↓wB_eq, ↓wC_s, ↓wP_s, ↓wJ_inl, ↓wJ_inr, ↓wG_eq, ↓wSI_eq, ↓wSL_eq, ↓wSZ_eq, ↓wSB_eq, ↓ite_true, ↓ite_false, ↓wR_79, ↓wR_80, ↓wN_80, ↓wR_81, ↓wN_81, ↓wR_82, ↓wN_82, ↓wR_83, ↓wN_83, ↓wR_84, ↓wN_84, ↓wR_85, ↓wN_85, ↓wR_86, ↓wN_86, ↓wR_87, ↓wN_87, ↓wR_88, ↓wN_88, ↓wR_89, ↓wN_89, ↓wR_90, ↓wN_90, ↓wR_91, ↓wN_91, ↓wR_92, ↓wN_92, ↓wR_93, ↓wN_93, ↓wR_94, ↓wN_94, ↓wR_95, ↓wN_95, ↓wR_96, ↓wN_96, ↓wR_97, ↓wN_97, ↓wR_98, ↓wN_98, ↓wR_99, ↓wN_99, ↓wR_100, ↓wN_100, ↓wR_101, ↓wN_101, ↓wR_102, ↓wN_102, ↓wR_103, ↓wN_103, ↓wR_104, ↓wN_104, ↓wR_105, ↓wN_105, ↓wR_106, ↓wN_106, ↓wR_107, ↓wN_107, ↓wR_108, ↓wN_108, ↓wR_109, ↓wN_109, ↓wR_110, ↓wN_110, ↓wR_111, ↓wN_111, ↓wR_112, ↓wN_112, ↓wR_113, ↓wN_113, ↓wR_114, ↓wN_114, ↓wR_115, ↓wN_115, ↓wR_116, ↓wN_116, ↓wR_117, ↓wN_117, ↓wR_118, ↓wN_118, ↓wR_119, ↓wN_119] | simp (disch := first | assumption | omega) only [sI_r, sI_l, sL_r, sL_i, sR_i, sR_l, cp_r, cp_l, nI_add, nI_mul, nI_1, nI_leE, nI_ltE, nI_eqI, nI_neg, nI_neg2, nI_nn, nI_leL, nI_geL, nI_ltL, nI_gtL, nI_eqL, nI_mulL, nI_addL, nI_Ladd, nI_subL, wN_lit, bI_0, bI_1, l10, l01, lm0, lm1, or_true, true_or, or_false, false_or, and_true, true_and, sI_eq, Nat.not_lt_zero, eq_self, ite_true, ite_false, not_true_eq_false, not_false_eq_true, Nat.reduceAdd, Nat.reduceMul, Nat.reduceSub, Nat.reduceLT, Nat.reduceLeDiff, Nat.reduceEqDiff, PM_u hm, e2, n0, a2])
  have htop := top_c hx hs hs2
  rw [hR]
  unfold F_X0_goOn F_X9_stepGoes_j32
  rw [a1, wP_s, htop, wP_s]
  rcases hg with rfl | ⟨g, hgn, rfl⟩
  · refine ⟨-1, u, t0, ?_, ?_, by rw [et]; exact SS_rf (Cx_59 hx), Or.inl rfl⟩
    · rw [if_pos rfl, wJ_inl]
    · rw [if_pos (by decide), wJ_inl]
  · have g1 : ¬ nI g = (-1 : Int32) := by rw [nI_neg (by omega)]; exact id
    have g2 : ¬ nI g < 0 := by rw [nI_nn (by omega)]; exact id
    rw [if_neg g1, if_neg g2]
    by_cases m0 : m = 0
    · refine ⟨-1, u, t0, ?_, ?_, by rw [et]; exact SS_rf (Cx_59 hx), Or.inl rfl⟩
      · rw [if_pos m0, if_pos rfl, wJ_inl]
      · have : t0.1 79 13 ≤ 0 := by rw [e4, m0]; decide
        rw [if_pos this, wJ_inl]
    · rw [if_neg m0]
      obtain ⟨f, ef⟩ : ∃ f, f = s % m := ⟨_, rfl⟩
      have hf : f < m := by rw [ef]; exact Nat.mod_lt _ (by omega)
      rw [← ef]
      have f1 : ¬ nI f = (-1 : Int32) := by rw [nI_neg (by omega)]; exact id
      have m1 : ¬ t0.1 79 13 ≤ 0 := by rw [e4, show (0 : Int32) = nI 0 from rfl, nI_leE (by omega) (by omega)]; omega
      have m2 : ¬ t0.1 79 13 = 0 := by rw [e4, show (0 : Int32) = nI 0 from rfl, nI_eqI (by omega) (by omega)]; omega
      rw [if_neg f1, if_neg m1]
      have q57 : t0.2.2 79 57 = 113 := by simp only [PM_u hm]
      rw [q57, wR_112, wN_112 _ b2, wG_pos m2, wB_eq, hss, e4, rem_nI (by omega) (by omega), ← ef, wR_112, wN_112 _ b2, hss]
      have tailB : ∀ u1 t1, SS n m k d c b B u t0 u1 t1 → ∃ u' t', wC (F_X0_bite 64 c (nI g) (nI f) u1) (fun _ (u14 : wSt) => some (Sum.inl (β := Int32 × wSt) (nI g, u14))) = some (.inl (nI g, u')) ∧ F_X9_stepGoes_j87 79 (nI b) (nI g) (nI f) t1 = some (.inr (.inl t')) ∧ SS n m k d c b B u (w_sI t 79 59 (nI g)) u' t' := by
        intro u1 t1 h1
        obtain ⟨⟨x1, x⟩, ⟨y1, y⟩, b1, b2, b3⟩ := bite_rl h1.1 hgn hf
        refine ⟨x, y, by rw [b1, wC_s], by unfold F_X9_stepGoes_j87; rw [b2, wC_s], ?_⟩
        have h2 := SS_59 (x := nI g) h1
        rw [et, sI_sI] at h2
        exact SS_tr h2 b3
      have tailP : ∀ u1 t1, SS n m k d c b B u t0 u1 t1 → ∃ u' t', (if nI g = u1.1 64 4 then (some (Sum.inl (β := Int32 × wSt) ((-1 : Int32), u1))) else (wC (F_X0_praise 64 c (nI g) (nI f) u1) (fun _ (u13 : wSt) => some (.inl ((-1 : Int32), u13))))) = some (.inl (-1, u')) ∧ F_X9_stepGoes_j97 (nI g) 79 (nI b) (nI f) t1 = some (.inl t') ∧ SS n m k d c b B u (w_sI t 79 59 (-1)) u' t' := by
        intro u1 t1 h1
        have h65 : t1.1 79 65 = u1.1 64 4 := h1.1.2.2.2.2.2.2.2.1.2.2.2.2.1
        unfold F_X9_stepGoes_j97
        rw [h65, ← et]
        by_cases z : nI g = u1.1 64 4
        · exact ⟨u1, t1, by rw [if_pos z], by rw [if_pos z], h1⟩
        · obtain ⟨⟨x1, x⟩, ⟨y1, y⟩, b1, b2, b3⟩ := praise_rl h1.1 hgn hf
          exact ⟨x, y, by rw [if_neg z, b1, wC_s], by rw [if_neg z, b2, wC_s], SS_tr h1 b3⟩
      by_cases q1 : u.1 64 1 = 0
      · have q2 : t0.1 79 62 = 0 := f62.trans q1
        obtain ⟨r, r', c1, c2, rfl⟩ := told_rl (x := nI g) (y := nI s) hx0
        rw [if_pos q2, c2, wP_s]
        by_cases z : r = 0
        · subst z
          obtain ⟨r, u1, t1, d0, d1, d2, d3, d4⟩ := dare_rl hx0 hgn hf q1 (by rw [hs]; exact c1)
          have h1 := SS_q hx0 d3 d4
          rw [d1, d2, wC_s, if_pos rfl, wC_s]
          rcases d0 with rfl | rfl
          · obtain ⟨u', t', k1, k2, k3⟩ := tailP u1 t1 h1
            refine ⟨-1, u', t', ?_, ?_, k3, Or.inl rfl⟩
            · rw [if_pos rfl, k1, wJ_inl]
            · rw [if_pos rfl, wJ_inr, wJ_inl, k2, wJ_inl]
          · obtain ⟨u', t', k1, k2, k3⟩ := tailB u1 t1 h1
            refine ⟨nI g, u', t', ?_, ?_, k3, Or.inr ⟨g, hgn, rfl⟩⟩
            · rw [if_neg (by decide), k1, wJ_inl]
            · rw [if_neg (by decide), wJ_inl, k2, wJ_inr, wJ_inl]
        · have hb : F_X0_bites 64 c (nI g) (nI f) u = some (1, u) := by
            unfold F_X0_bites
            rw [if_pos q1, h8, wR_d0 _ hd, hs, c1, wP_s, if_neg z]
          rw [hb, wC_s, if_neg (by decide), if_neg z]
          obtain ⟨u', t', k1, k2, k3⟩ := tailB u t0 (SS_rf hx0)
          refine ⟨nI g, u', t', ?_, ?_, k3, Or.inr ⟨g, hgn, rfl⟩⟩
          · rw [k1, wJ_inl]
          · rw [wJ_inl, k2, wJ_inr, wJ_inl]
      · have q2 : ¬ t0.1 79 62 = 0 := by rw [f62]; exact q1
        have hb : F_X0_bites 64 c (nI g) (nI f) u = some (0, u) := by
          unfold F_X0_bites
          rw [if_neg q1]
        rw [hb, wC_s, if_pos rfl, if_neg q2]
        obtain ⟨u', t', k1, k2, k3⟩ := tailP u t0 (SS_rf hx0)
        refine ⟨-1, u', t', ?_, ?_, k3, Or.inl rfl⟩
        · rw [k1, wJ_inl]
        · rw [wJ_inl, k2, wJ_inl]
theorem step_rl {s : Nat} (hx : Cx n m k d c b 98 u t) (hs : u.1 c 0 = nI s) (hs2 : s < 20000) : Rl (fun x y => x.1 = y.2.1 79 59 ∧ (x.1 = -1 ∨ ∃ g, g < n ∧ x.1 = nI g) ∧ x.2.1 c 0 = nI (s + 1) ∧ ST n m k d c b u t x.2 y.2) (F_X0_goOn 64 c u) (F_X9_stepGoes 79 (nI b) t) := by
  obtain ⟨n6, m8, b2⟩ := Cx_b hx
  obtain ⟨r, u1, t1, a1, a2, a3, a4⟩ := mid_rl hx hs (by omega)
  obtain ⟨⟨x1, u2⟩, y, b1, b2', t2, rfl, b3, b4⟩ := grow_rl a3.1
  obtain ⟨⟨x2, u3⟩, y, c1, c2, t3, rfl, c3⟩ := fall_rl b3.1 b4
  have s1 : SS n m k d c b 98 u (w_sI t 79 59 r) u3 t3 := SS_tr a3 (SS_tr b3 c3)
  have s0 : u3.1 c 0 = nI s := s1.2.2.2.1.trans hs
  obtain ⟨d1, d2, d3⟩ := Cx_st (s := s + 1) s1.1 (by omega)
  have hm := s1.1.2.1
  have q57 : t3.2.2 79 57 = 113 := by unfold PM at hm; simp only [hm]
  have q112 : t3.1 112 b = nI s := by
    obtain ⟨s', -, es, es'⟩ := s1.1.2.2.2.2.2.2.2.2.1.1
    rw [es', ← es, s0]
  rw [a1, a2]
  refine ⟨(r, w_sI u3 c 0 (nI (s + 1))), ((), w_sI t3 112 b (nI (s + 1))), ?_, ?_, ?_, a4, sI_eq _ _ _ _, d1, FC_tr s1.2.1 d2, FR_2 (FR_tr s1.2.2.1 d3), fun g q => ?_⟩
  · unfold F_X0_goOn_j63
    rw [b1, wC_s, c1, wC_s, wB_eq, s0, nI_addL]
  · unfold F_X9_stepGoes_j112 F_X9_stepGoes_j163 F_X9_stepGoes_j216
    rw [b2', wJ_inl, c2, wJ_inl, q57, wR_112, wN_112 _ b2, wSI_eq, wN_112 _ b2, q112, nI_addL]
  · show r = (w_sI t3 112 b (nI (s + 1))).1 79 59
    rw [sI_ne _ _ _ _ _ _ (by decide), s1.2.2.1.2.1 79 59 (by unfold rsc; omega), sI_eq]
  · rw [sI_ne2 _ _ _ _ _ _ (by decide)]
    exact s1.2.2.2.2 g q
end

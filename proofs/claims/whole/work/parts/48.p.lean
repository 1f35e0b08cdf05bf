/-- what working a law out changes in the reference -/
def LR (t t' : wSt) : Prop := t'.2.2 = t.2.2 ∧ (∀ a j, ¬ (a = 79 ∧ j = 48) → t'.1 a j = t.1 a j) ∧ (∀ a j, a ≠ 102 → a ≠ 103 → t'.2.1 a j = t.2.1 a j)
theorem LR_rf (t : wSt) : LR t t := ⟨rfl, fun _ _ _ => rfl, fun _ _ _ _ => rfl⟩
theorem LR_tr {t t' t'' : wSt} (h : LR t t') (h' : LR t' t'') : LR t t'' := ⟨h'.1.trans h.1, fun a j q => (h'.2.1 a j q).trans (h.2.1 a j q), fun a j q r => (h'.2.2 a j q r).trans (h.2.2 a j q r)⟩
theorem vs_congr {K N kn pa ot : Int32} {i : Nat} {s s' : List Nat} {nm V V' : Nat → Int64} (hs : ∀ x, x ∈ s → x < 64 ∧ V x = V' x) (hN : Nd K N kn pa ot i s s') : vstep kn pa ot nm V = vstep kn pa ot nm V' := by
  rcases hN with ⟨eK, ek, ep, ⟨x, hx, eN⟩, es⟩ | ⟨j, hj, eK, ek, ep, es⟩ | ⟨a, r, es0, eK, ek, ep, es⟩ | ⟨b, a, r, es0, ⟨j, hj3, hj15, eK, ek⟩, ep, eo, es⟩
  · rw [ek]; rfl
  · rw [ek]; rfl
  · have ha := hs a (by rw [es0]; simp)
    rw [ek, ep, vs_not (by omega), vs_not (by omega), ha.2]
  · have ha := hs a (by rw [es0]; simp)
    have hb := hs b (by rw [es0]; simp)
    rw [ek, ep, eo, vs_op hj3 hj15 (by omega) (by omega), vs_op hj3 hj15 (by omega) (by omega), ha.2, hb.2]
theorem law_r {K N : Nat → Int32} {p q w : Nat} {st : Nat → List Nat} {t : wSt} (hm : PM t.2.2) (hw : w < 3) (hq : t.1 95 w = nI q) (hps : t.1 94 w = nI p) (hpq : p < q) (hq64 : q ≤ 64) (h0 : st p = []) (h1 : st q = [q - 1]) (hN : ∀ i, p ≤ i → i < q → Nd (K i) (N i) (t.1 96 i) (t.1 98 i) (t.1 99 i) i (st i) (st (i + 1))) : ∃ t', F_X9_lawOf 79 (nI w) t = some ((lawV (t.1 96) (t.1 98) (t.1 99) (t.2.1 102) p q).getD 0, t') ∧ LR t t' ∧ ((lawV (t.1 96) (t.1 98) (t.1 99) (t.2.1 102) p q = none ∧ t'.1 79 48 = 1) ∨ (∃ v, lawV (t.1 96) (t.1 98) (t.1 99) (t.2.1 102) p q = some v ∧ t'.1 79 48 = 0)) := by
  have hin := st_in h0 hN
  have hmm := hm
  unfold PM at hmm
  have key : Ro (fun y => ∃ v : wSt, y = Sum.inl v ∧ LR t v ∧ ((v.1 79 48 = 0 ∧ ∃ V, rv (t.1 96) (t.1 98) (t.1 99) (t.2.1 102) p (q - p) = some V ∧ v.2.1 103 (q - 1) = V (q - 1)) ∨ (v.1 79 48 = 1 ∧ rv (t.1 96) (t.1 98) (t.1 99) (t.2.1 102) p (q - p) = none))) (wL (S := Int32 × wSt) (fun x => F_X9_lawOf_b12 79 (nI w) x.1 x.2) wFu (nI p, w_sI t 79 48 0)) := by
    refine wL_ro (fun k x => ∃ v : wSt, x = (nI (p + k), v) ∧ LR t v ∧ v.2.1 102 = t.2.1 102 ∧ ((v.1 79 48 = 0 ∧ ∃ V, rv (t.1 96) (t.1 98) (t.1 99) (t.2.1 102) p k = some V ∧ ∀ x, p ≤ x → x < p + k → v.2.1 103 x = V x) ∨ (v.1 79 48 = 1 ∧ rv (t.1 96) (t.1 98) (t.1 99) (t.2.1 102) p k = none))) _ (q - p) (by unfold wFu; omega) ?_ ⟨_, rfl, ⟨rfl, fun a j h => if_neg h, fun _ _ _ _ => rfl⟩, rfl, Or.inl ⟨sI_eq _ _ _ _, _, rfl, fun x h1 h2 => by omega⟩⟩
    rintro k x hk ⟨v, rfl, hL, hn, hV⟩
    have hmv : PM v.2.2 := by rw [hL.1]; exact hm
    have hmm := hmv
    unfold PM at hmm
    obtain ⟨i1, i2⟩ := hin k (by omega)
    have k0 : ∀ a j, a ≠ 79 → v.1 a j = t.1 a j := fun a j h => hL.2.1 a j (fun q => h q.1)
    have k1 : v.1 95 w = nI q := by rw [k0 _ _ (by decide), hq]
    unfold F_X9_lawOf_b12
    by_cases hkq : k = q - p
    · right
      have hpk : p + k = q := by omega
      refine ⟨.inl v, ?_, v, rfl, hL, ?_⟩
      · have : (q ≤ p + k) = True := eq_true (by omega)
        repeat (first | simp (disch := first | assumption | omega) only [↓wB_eq, ↓wC_s, ↓wP_s, ↓wJ_inl, ↓wJ_inr, ↓wG_eq, ↓wSI_eq, ↓wSL_eq, ↓wSZ_eq, ↓wSB_eq, ↓ite_true, ↓ite_false, ↓wR_0, ↓wR_1, ↓wN_1, ↓wR_2, ↓wR_3, ↓wN_3, ↓wR_4, ↓wN_4, ↓wR_5, ↓wN_5, ↓wR_6, ↓wN_6, ↓wR_7, ↓wN_7, ↓wR_8, ↓wN_8, ↓wR_9, ↓wN_9, ↓wR_10, ↓wN_10, ↓wR_11, ↓wN_11, ↓wR_12, ↓wR_13, ↓wN_13, ↓wR_14, ↓wN_14, ↓wR_15, ↓wN_15, ↓wR_16, ↓wN_16, ↓wR_17, ↓wN_17, ↓wR_18, ↓wN_18, ↓wR_19, ↓wR_20, ↓wN_20, ↓wR_21, ↓wN_21, ↓wR_22, ↓wN_22, ↓wR_23, ↓wN_23, ↓wR_24, ↓wN_24, ↓wR_25, ↓wN_25, ↓wR_26, ↓wN_26, ↓wR_27, ↓wN_27, ↓wR_28, ↓wN_28, ↓wR_29, ↓wR_30, ↓wN_30, ↓wR_31, ↓wN_31, ↓wR_32, ↓wN_32, ↓wR_33, ↓wN_33, ↓wR_34, ↓wN_34, ↓wR_35, ↓wN_35, ↓wR_36, ↓wR_37, ↓wN_37, ↓wR_38, ↓wR_39, ↓wN_39, ↓wR_40, ↓wN_40, ↓wR_41, ↓wN_41, ↓wR_42, ↓wN_42, ↓wR_43, ↓wR_44, ↓wN_44, ↓wR_45, ↓wN_45, ↓wR_46, ↓wN_46, ↓wR_47, ↓wN_47, ↓wR_48, ↓wN_48, ↓wR_49, ↓wN_49, ↓wR_50, ↓wR_51, ↓wN_51, ↓wR_52, ↓wN_52, ↓wR_53, ↓wN_53, ↓wR_54, ↓wN_54, ↓wR_55, ↓wN_55, ↓wR_56, ↓wN_56, ↓wR_57, ↓wR_58, ↓wN_58, ↓wR_59, ↓wN_59, ↓wR_60, ↓wN_60, ↓wR_61, ↓wN_61, ↓wR_62, ↓wN_62, ↓wR_63, ↓wN_63, ↓wR_64, ↓wR_65, ↓wN_65, ↓wR_66, ↓wR_67, ↓wN_67, ↓wR_68, ↓wN_68, ↓wR_69, ↓wN_69, ↓wR_70, ↓wR_71, ↓wN_71, ↓wR_72, ↓wN_72, ↓wR_73, ↓wN_73, ↓wR_74, ↓wN_74, ↓wR_75, ↓wN_75, ↓wR_76, ↓wN_76, ↓wR_77, ↓wN_77, ↓wR_78, ↓wN_78, ↓wR_79, ↓wR_80, ↓wN_80, ↓wR_81, ↓wN_81, ↓wR_82, ↓wN_82, ↓wR_83, ↓wN_83, ↓wR_84, ↓wN_84, ↓wR_85, ↓wN_85, ↓wR_86, ↓wN_86, ↓wR_87, ↓wN_87, ↓wR_88, ↓wN_88, ↓wR_89, ↓wN_89, ↓wR_90, ↓wN_90, ↓wR_91, ↓wN_91, ↓wR_92, ↓wN_92, ↓wR_93, ↓wN_93, ↓wR_94, ↓wN_94, ↓wR_95, ↓wN_95, ↓wR_96, ↓wN_96, ↓wR_97, ↓wN_97, ↓wR_98, ↓wN_98, ↓wR_99, ↓wN_99, ↓wR_100, ↓wN_100, ↓wR_101, ↓wN_101, ↓wR_102, ↓wN_102, ↓wR_103, ↓wN_103, ↓wR_104, ↓wN_104, ↓wR_105, ↓wN_105, ↓wR_106, ↓wN_106, ↓wR_107, ↓wN_107, ↓wR_108, ↓wN_108, ↓wR_109, ↓wN_109, ↓wR_110, ↓wN_110, ↓wR_111, ↓wN_111, ↓wR_112, ↓wN_112, ↓wR_113, ↓wN_113, ↓wR_114, ↓wN_114, ↓wR_115, ↓wN_115, ↓wR_116, ↓wN_116, ↓wR_117, ↓wN_117, ↓wR_118, ↓wN_118, ↓wR_119, ↓wN_119, ↓wR_d0, ↓wR_d1, ↓wN_d1, ↓wR_d2, ↓wN_d2, ↓wR_d3, ↓wN_d3, ↓wR_d4, ↓wN_d4, ↓wR_d5, ↓wN_d5, ↓wR_d6, ↓wN_d6, ↓wR_d7, ↓wN_d7, ↓wR_d8, ↓wN_d8, ↓wR_d9, ↓wN_d9, ↓wR_d10, ↓wR_d11, ↓wN_d11, ↓wR_d12, ↓wN_d12, ↓wR_d13, ↓wN_d13, ↓wR_d14, ↓wN_d14, ↓wR_d15, ↓wN_d15, ↓wR_d16, ↓wN_d16, ↓wR_c0, ↓wR_c1, ↓wN_c1, ↓wR_c2, ↓wN_c2, ↓wR_c3, ↓wN_c3, ↓wR_c4, ↓wN_c4, ↓wR_c5, ↓wN_c5, ↓wR_c6, ↓wN_c6] | simp (disch := first | assumption | omega) only [sI_r, sI_l, sL_r, sL_i, sR_i, sR_l, cp_r, cp_l, nI_add, nI_mul, nI_1, nI_leE, nI_ltE, nI_eqI, nI_neg, nI_neg2, nI_nn, nI_leL, nI_geL, nI_ltL, nI_gtL, nI_eqL, nI_mulL, nI_addL, nI_Ladd, nI_subL, wN_lit, bI_0, bI_1, l10, l01, lm0, lm1, or_true, true_or, or_false, false_or, and_true, true_and, sI_eq, Nat.not_lt_zero, eq_self, ite_true, ite_false, not_true_eq_false, not_false_eq_true, Nat.reduceAdd, Nat.reduceMul, Nat.reduceSub, Nat.reduceLT, Nat.reduceLeDiff, Nat.reduceEqDiff, hmm, k1, this])
      · subst hkq
        rcases hV with ⟨g1, V, g2, g3⟩ | hV
        · exact Or.inl ⟨g1, V, g2, g3 _ (by omega) (by omega)⟩
        · exact Or.inr hV
    · left
      have hlt : p + k < q := by omega
      have hqk : (q ≤ p + k) = False := eq_false (by omega)
      have hNk := hN (p + k) (by omega) hlt
      have hNv : Nd (K (p + k)) (N (p + k)) (v.1 96 (p + k)) (v.1 98 (p + k)) (v.1 99 (p + k)) (p + k) (st (p + k)) (st (p + k + 1)) := by
        rw [k0 _ _ (by decide), k0 _ _ (by decide), k0 _ _ (by decide)]
        exact hNk
      have he : v.1 79 48 = 0 ∨ v.1 79 48 = 1 := by
        rcases hV with hV | hV
        · exact Or.inl hV.1
        · exact Or.inr hV.1
      obtain ⟨x, v', f1, f2, f3, f4⟩ := val_r hmv he (by omega) (fun x hx => by have := (i1 x hx).2; omega) hNv
      rw [k0 96 (p + k) (by decide), k0 98 (p + k) (by decide), k0 99 (p + k) (by decide), hn] at f4
      have hp64 : p + k < 64 := by omega
      have hmv' : v'.2.2 = v.2.2 := by rw [f2.1]
      have rs := rv_s (kn := t.1 96) (pa := t.1 98) (ot := t.1 99) (nm := t.2.1 102) (p := p) k
      refine ⟨(nI (p + k + 1), w_sL v' 103 (p + k) x), ?_, by omega, _, rfl, ?_, ?_, ?_⟩
      · repeat (first | simp (disch := first | assumption | omega) only [↓wB_eq, ↓wC_s, ↓wP_s, ↓wJ_inl, ↓wJ_inr, ↓wG_eq, ↓wSI_eq, ↓wSL_eq, ↓wSZ_eq, ↓wSB_eq, ↓ite_true, ↓ite_false, ↓wR_0, ↓wR_1, ↓wN_1, ↓wR_2, ↓wR_3, ↓wN_3, ↓wR_4, ↓wN_4, ↓wR_5, ↓wN_5, ↓wR_6, ↓wN_6, ↓wR_7, ↓wN_7, ↓wR_8, ↓wN_8, ↓wR_9, ↓wN_9, ↓wR_10, ↓wN_10, ↓wR_11, ↓wN_11, ↓wR_12, ↓wR_13, ↓wN_13, ↓wR_14, ↓wN_14, ↓wR_15, ↓wN_15, ↓wR_16, ↓wN_16, ↓wR_17, ↓wN_17, ↓wR_18, ↓wN_18, ↓wR_19, ↓wR_20, ↓wN_20, ↓wR_21, ↓wN_21, ↓wR_22, ↓wN_22, ↓wR_23, ↓wN_23, ↓wR_24, ↓wN_24, ↓wR_25, ↓wN_25, ↓wR_26, ↓wN_26, ↓wR_27, ↓wN_27, ↓wR_28, ↓wN_28, ↓wR_29, ↓wR_30, ↓wN_30, ↓wR_31, ↓wN_31, ↓wR_32, ↓wN_32, ↓wR_33, ↓wN_33, ↓wR_34, ↓wN_34, ↓wR_35, ↓wN_35, ↓wR_36, ↓wR_37, ↓wN_37, ↓wR_38, ↓wR_39, ↓wN_39, ↓wR_40, ↓wN_40, ↓wR_41, ↓wN_41, ↓wR_42, ↓wN_42, ↓wR_43, ↓wR_44, ↓wN_44, ↓wR_45, ↓wN_45, ↓wR_46, ↓wN_46, ↓wR_47, ↓wN_47, ↓wR_48, ↓wN_48, ↓wR_49, ↓wN_49, ↓wR_50, ↓wR_51, ↓wN_51, ↓wR_52, ↓wN_52, ↓wR_53, ↓wN_53, ↓wR_54, ↓wN_54, ↓wR_55, ↓wN_55, ↓wR_56, ↓wN_56, ↓wR_57, ↓wR_58, ↓wN_58, ↓wR_59, ↓wN_59, ↓wR_60, ↓wN_60, ↓wR_61, ↓wN_61, ↓wR_62, ↓wN_62, ↓wR_63, ↓wN_63, ↓wR_64, ↓wR_65, ↓wN_65, ↓wR_66, ↓wR_67, ↓wN_67, ↓wR_68, ↓wN_68, ↓wR_69, ↓wN_69, ↓wR_70, ↓wR_71, ↓wN_71, ↓wR_72, ↓wN_72, ↓wR_73, ↓wN_73, ↓wR_74, ↓wN_74, ↓wR_75, ↓wN_75, ↓wR_76, ↓wN_76, ↓wR_77, ↓wN_77, ↓wR_78, ↓wN_78, ↓wR_79, ↓wR_80, ↓wN_80, ↓wR_81, ↓wN_81, ↓wR_82, ↓wN_82, ↓wR_83, ↓wN_83, ↓wR_84, ↓wN_84, ↓wR_85, ↓wN_85, ↓wR_86, ↓wN_86, ↓wR_87, ↓wN_87, ↓wR_88, ↓wN_88, ↓wR_89, ↓wN_89, ↓wR_90, ↓wN_90, ↓wR_91, ↓wN_91, ↓wR_92, ↓wN_92, ↓wR_93, ↓wN_93, ↓wR_94, ↓wN_94, ↓wR_95, ↓wN_95, ↓wR_96, ↓wN_96, ↓wR_97, ↓wN_97, ↓wR_98, ↓wN_98, ↓wR_99, ↓wN_99, ↓wR_100, ↓wN_100, ↓wR_101, ↓wN_101, ↓wR_102, ↓wN_102, ↓wR_103, ↓wN_103, ↓wR_104, ↓wN_104, ↓wR_105, ↓wN_105, ↓wR_106, ↓wN_106, ↓wR_107, ↓wN_107, ↓wR_108, ↓wN_108, ↓wR_109, ↓wN_109, ↓wR_110, ↓wN_110, ↓wR_111, ↓wN_111, ↓wR_112, ↓wN_112, ↓wR_113, ↓wN_113, ↓wR_114, ↓wN_114, ↓wR_115, ↓wN_115, ↓wR_116, ↓wN_116, ↓wR_117, ↓wN_117, ↓wR_118, ↓wN_118, ↓wR_119, ↓wN_119, ↓wR_d0, ↓wR_d1, ↓wN_d1, ↓wR_d2, ↓wN_d2, ↓wR_d3, ↓wN_d3, ↓wR_d4, ↓wN_d4, ↓wR_d5, ↓wN_d5, ↓wR_d6, ↓wN_d6, ↓wR_d7, ↓wN_d7, ↓wR_d8, ↓wN_d8, ↓wR_d9, ↓wN_d9, ↓wR_d10, ↓wR_d11, ↓wN_d11, ↓wR_d12, ↓wN_d12, ↓wR_d13, ↓wN_d13, ↓wR_d14, ↓wN_d14, ↓wR_d15, ↓wN_d15, ↓wR_d16, ↓wN_d16, ↓wR_c0, ↓wR_c1, ↓wN_c1, ↓wR_c2, ↓wN_c2, ↓wR_c3, ↓wN_c3, ↓wR_c4, ↓wN_c4, ↓wR_c5, ↓wN_c5, ↓wR_c6, ↓wN_c6] | simp (disch := first | assumption | omega) only [sI_r, sI_l, sL_r, sL_i, sR_i, sR_l, cp_r, cp_l, nI_add, nI_mul, nI_1, nI_leE, nI_ltE, nI_eqI, nI_neg, nI_neg2, nI_nn, nI_leL, nI_geL, nI_ltL, nI_gtL, nI_eqL, nI_mulL, nI_addL, nI_Ladd, nI_subL, wN_lit, bI_0, bI_1, l10, l01, lm0, lm1, or_true, true_or, or_false, false_or, and_true, true_and, sI_eq, Nat.not_lt_zero, eq_self, ite_true, ite_false, not_true_eq_false, not_false_eq_true, Nat.reduceAdd, Nat.reduceMul, Nat.reduceSub, Nat.reduceLT, Nat.reduceLeDiff, Nat.reduceEqDiff, hmm, k1, hqk, f1])
      · refine ⟨?_, fun a j h => ?_, fun a j h h' => ?_⟩
        · show v'.2.2 = t.2.2
          rw [hmv', hL.1]
        · exact (f2.2 a j h).trans (hL.2.1 a j h)
        · rw [sL_ne _ _ _ _ _ _ h', f2.1]
          exact hL.2.2 a j h h'
      · funext j
        rw [sL_ne _ _ _ _ _ _ (by decide), f2.1, hn]
      · rcases hV with ⟨g1, V, g2, g3⟩ | ⟨g1, g2⟩
        · have hcg : vstep (t.1 96 (p + k)) (t.1 98 (p + k)) (t.1 99 (p + k)) (t.2.1 102) (v.2.1 103) = vstep (t.1 96 (p + k)) (t.1 98 (p + k)) (t.1 99 (p + k)) (t.2.1 102) V := vs_congr (fun x hx => ⟨by have := (i1 x hx).2; omega, g3 x (i1 x hx).1 (i1 x hx).2⟩) hNk
          rw [hcg] at f4
          rw [g2] at rs
          have rs : rv (t.1 96) (t.1 98) (t.1 99) (t.2.1 102) p (k + 1) = rvN (p + k) V (vstep (t.1 96 (p + k)) (t.1 98 (p + k)) (t.1 99 (p + k)) (t.2.1 102) V) := rs
          rcases f4 g1 with ⟨h2, h3⟩ | ⟨h2, h3⟩
          · refine Or.inl ⟨h3, _, by rw [rs, h2]; rfl, fun y y1 y2 => ?_⟩
            by_cases hy : y = p + k
            · subst hy
              rw [sL_eq]
              simp only [if_true]
            · rw [sL_ne2 _ _ _ _ _ _ hy, f2.1, g3 y y1 (by omega)]
              simp only [hy, if_false]
          · refine Or.inr ⟨h3, ?_⟩
            rw [rs, h2]
            rfl
        · refine Or.inr ⟨f3 g1, ?_⟩
          rw [rs, g2]
          rfl
  obtain ⟨y, hy, v, rfl, hL, hV⟩ := key
  have hmv : PM v.2.2 := by rw [hL.1]; exact hm
  unfold PM at hmv
  have k0 : ∀ a j, a ≠ 79 → v.1 a j = t.1 a j := fun a j h => hL.2.1 a j (fun q => h q.1)
  have k1 : v.1 95 w = nI q := by rw [k0 _ _ (by decide), hq]
  have hs94 : (w_sI t 79 48 (0 : Int32)).1 94 w = nI p := by rw [sI_ne _ _ _ _ _ _ (by decide), hps]
  have hrun : F_X9_lawOf 79 (nI w) t = F_X9_lawOf_j39 79 (nI w) v := by
    unfold F_X9_lawOf
    have q32 : t.2.2 79 32 = 95 := by simp only [hmm]
    rw [wB_eq, sI_r, q32, wR_94, wN_94 _ (by omega), wB_eq, hs94, hy, wJ_inl]
  rw [hrun]
  unfold F_X9_lawOf_j39
  have hq1 : nI q - (1 : Int32) = nI (q - 1) := nI_subL (k := 1) (show 1 ≤ q by omega)
  rcases hV with ⟨g1, V, g2, g3⟩ | ⟨g1, g2⟩
  · have hl : lawV (t.1 96) (t.1 98) (t.1 99) (t.2.1 102) p q = some (V (q - 1)) := by unfold lawV; rw [g2]; rfl
    rw [hl]
    refine ⟨v, ?_, hL, Or.inr ⟨_, rfl, g1⟩⟩
    have q47 : v.2.2 79 47 = 104 := by simp only [hmv]
    have q33 : v.2.2 79 33 = 96 := by simp only [hmv]
    rw [if_pos g1, q47, wR_103, q33, wR_95, wN_95 _ (by omega), k1, hq1, wN_103 _ (by omega), g3]
    rfl
  · have hl : lawV (t.1 96) (t.1 98) (t.1 99) (t.2.1 102) p q = none := by unfold lawV; rw [g2]; rfl
    rw [hl]
    refine ⟨v, ?_, hL, Or.inl ⟨rfl, g1⟩⟩
    repeat (first | simp (disch := first | assumption | omega) only [↓wB_eq, ↓wC_s, ↓wP_s, ↓wJ_inl, ↓wJ_inr, ↓wG_eq, ↓wSI_eq, ↓wSL_eq, ↓wSZ_eq, ↓wSB_eq, ↓ite_true, ↓ite_false, ↓wR_0, ↓wR_1, ↓wN_1, ↓wR_2, ↓wR_3, ↓wN_3, ↓wR_4, ↓wN_4, ↓wR_5, ↓wN_5, ↓wR_6, ↓wN_6, ↓wR_7, ↓wN_7, ↓wR_8, ↓wN_8, ↓wR_9, ↓wN_9, ↓wR_10, ↓wN_10, ↓wR_11, ↓wN_11, ↓wR_12, ↓wR_13, ↓wN_13, ↓wR_14, ↓wN_14, ↓wR_15, ↓wN_15, ↓wR_16, ↓wN_16, ↓wR_17, ↓wN_17, ↓wR_18, ↓wN_18, ↓wR_19, ↓wR_20, ↓wN_20, ↓wR_21, ↓wN_21, ↓wR_22, ↓wN_22, ↓wR_23, ↓wN_23, ↓wR_24, ↓wN_24, ↓wR_25, ↓wN_25, ↓wR_26, ↓wN_26, ↓wR_27, ↓wN_27, ↓wR_28, ↓wN_28, ↓wR_29, ↓wR_30, ↓wN_30, ↓wR_31, ↓wN_31, ↓wR_32, ↓wN_32, ↓wR_33, ↓wN_33, ↓wR_34, ↓wN_34, ↓wR_35, ↓wN_35, ↓wR_36, ↓wR_37, ↓wN_37, ↓wR_38, ↓wR_39, ↓wN_39, ↓wR_40, ↓wN_40, ↓wR_41, ↓wN_41, ↓wR_42, ↓wN_42, ↓wR_43, ↓wR_44, ↓wN_44, ↓wR_45, ↓wN_45, ↓wR_46, ↓wN_46, ↓wR_47, ↓wN_47, ↓wR_48, ↓wN_48, ↓wR_49, ↓wN_49, ↓wR_50, ↓wR_51, ↓wN_51, ↓wR_52, ↓wN_52, ↓wR_53, ↓wN_53, ↓wR_54, ↓wN_54, ↓wR_55, ↓wN_55, ↓wR_56, ↓wN_56, ↓wR_57, ↓wR_58, ↓wN_58, ↓wR_59, ↓wN_59, ↓wR_60, ↓wN_60, ↓wR_61, ↓wN_61, ↓wR_62, ↓wN_62, ↓wR_63, ↓wN_63, ↓wR_64, ↓wR_65, ↓wN_65, ↓wR_66, ↓wR_67, ↓wN_67, ↓wR_68, ↓wN_68, ↓wR_69, ↓wN_69, ↓wR_70, ↓wR_71, ↓wN_71, ↓wR_72, ↓wN_72, ↓wR_73, ↓wN_73, ↓wR_74, ↓wN_74, ↓wR_75, ↓wN_75, ↓wR_76, ↓wN_76, ↓wR_77, ↓wN_77, ↓wR_78, ↓wN_78, ↓wR_79, ↓wR_80, ↓wN_80, ↓wR_81, ↓wN_81, ↓wR_82, ↓wN_82, ↓wR_83, ↓wN_83, ↓wR_84, ↓wN_84, ↓wR_85, ↓wN_85, ↓wR_86, ↓wN_86, ↓wR_87, ↓wN_87, ↓wR_88, ↓wN_88, ↓wR_89, ↓wN_89, ↓wR_90, ↓wN_90, ↓wR_91, ↓wN_91, ↓wR_92, ↓wN_92, ↓wR_93, ↓wN_93, ↓wR_94, ↓wN_94, ↓wR_95, ↓wN_95, ↓wR_96, ↓wN_96, ↓wR_97, ↓wN_97, ↓wR_98, ↓wN_98, ↓wR_99, ↓wN_99, ↓wR_100, ↓wN_100, ↓wR_101, ↓wN_101, ↓wR_102, ↓wN_102, ↓wR_103, ↓wN_103, ↓wR_104, ↓wN_104, ↓wR_105, ↓wN_105, ↓wR_106, ↓wN_106, ↓wR_107, ↓wN_107, ↓wR_108, ↓wN_108, ↓wR_109, ↓wN_109, ↓wR_110, ↓wN_110, ↓wR_111, ↓wN_111, ↓wR_112, ↓wN_112, ↓wR_113, ↓wN_113, ↓wR_114, ↓wN_114, ↓wR_115, ↓wN_115, ↓wR_116, ↓wN_116, ↓wR_117, ↓wN_117, ↓wR_118, ↓wN_118, ↓wR_119, ↓wN_119, ↓wR_d0, ↓wR_d1, ↓wN_d1, ↓wR_d2, ↓wN_d2, ↓wR_d3, ↓wN_d3, ↓wR_d4, ↓wN_d4, ↓wR_d5, ↓wN_d5, ↓wR_d6, ↓wN_d6, ↓wR_d7, ↓wN_d7, ↓wR_d8, ↓wN_d8, ↓wR_d9, ↓wN_d9, ↓wR_d10, ↓wR_d11, ↓wN_d11, ↓wR_d12, ↓wN_d12, ↓wR_d13, ↓wN_d13, ↓wR_d14, ↓wN_d14, ↓wR_d15, ↓wN_d15, ↓wR_d16, ↓wN_d16, ↓wR_c0, ↓wR_c1, ↓wN_c1, ↓wR_c2, ↓wN_c2, ↓wR_c3, ↓wN_c3, ↓wR_c4, ↓wN_c4, ↓wR_c5, ↓wN_c5, ↓wR_c6, ↓wN_c6] | simp (disch := first | assumption | omega) only [sI_r, sI_l, sL_r, sL_i, sR_i, sR_l, cp_r, cp_l, nI_add, nI_mul, nI_1, nI_leE, nI_ltE, nI_eqI, nI_neg, nI_neg2, nI_nn, nI_leL, nI_geL, nI_ltL, nI_gtL, nI_eqL, nI_mulL, nI_addL, nI_Ladd, nI_subL, wN_lit, bI_0, bI_1, l10, l01, lm0, lm1, or_true, true_or, or_false, false_or, and_true, true_and, sI_eq, Nat.not_lt_zero, eq_self, ite_true, ite_false, not_true_eq_false, not_false_eq_true, Nat.reduceAdd, Nat.reduceMul, Nat.reduceSub, Nat.reduceLT, Nat.reduceLeDiff, Nat.reduceEqDiff, g1])
    rfl

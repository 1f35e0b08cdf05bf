theorem PM_u {R : Nat → Nat → Nat} (h : PM R) : R 79 0 = 81 ∧ R 79 3 = 82 ∧ R 79 20 = 83 ∧ R 79 21 = 84 ∧ R 79 22 = 85 ∧ R 79 23 = 86 ∧ R 79 24 = 87 ∧ R 79 25 = 88 ∧ R 79 26 = 89 ∧ R 79 27 = 90 ∧ R 79 28 = 91 ∧ R 79 29 = 92 ∧ R 79 30 = 93 ∧ R 79 31 = 94 ∧ R 79 32 = 95 ∧ R 79 33 = 96 ∧ R 79 34 = 97 ∧ R 79 35 = 98 ∧ R 79 36 = 99 ∧ R 79 37 = 100 ∧ R 79 38 = 101 ∧ R 79 39 = 102 ∧ R 79 46 = 103 ∧ R 79 47 = 104 ∧ R 79 49 = 105 ∧ R 79 50 = 106 ∧ R 79 51 = 107 ∧ R 79 52 = 108 ∧ R 79 53 = 109 ∧ R 79 54 = 110 ∧ R 79 55 = 111 ∧ R 79 56 = 112 ∧ R 79 57 = 113 ∧ R 79 69 = 114 ∧ R 79 72 = 115 ∧ R 79 73 = 116 ∧ R 79 75 = 117 ∧ R 79 77 = 118 ∧ R 79 78 = 119 := h
/-! what a step changes -/
def FC (c : Nat) (u u' : wSt) : Prop := u'.2.2 = u.2.2 ∧ ∀ a j, ¬ (c ≤ a ∧ a ≤ c + 6 ∧ a ≠ c + 1) → a ≠ 65 → u'.1 a j = u.1 a j
def rsc (b a j : Nat) : Prop := (a = 79 ∧ j = 48) ∨ (104 ≤ a ∧ a ≤ 108 ∧ 6 * b ≤ j ∧ j < 6 * b + 6) ∨ (109 ≤ a ∧ a ≤ 111 ∧ 8 * b ≤ j ∧ j < 8 * b + 8) ∨ (a = 112 ∧ j = b)
def FR (b : Nat) (t t' : wSt) : Prop := t'.2.2 = t.2.2 ∧ (∀ a j, ¬ rsc b a j → t'.1 a j = t.1 a j) ∧ t'.2.1 79 79 = t.2.1 79 79 ∧ (t.1 79 60 = 0 → t'.2.1 79 58 = t.2.1 79 58)
def QC (u u' : wSt) : Prop := u'.2.2 = u.2.2 ∧ ∀ a j, a ≠ 65 → u'.1 a j = u.1 a j
theorem FC_rf (c : Nat) (u : wSt) : FC c u u := ⟨rfl, fun _ _ _ _ => rfl⟩
theorem FC_tr {c : Nat} {u u' u'' : wSt} (h : FC c u u') (h' : FC c u' u'') : FC c u u'' := ⟨h'.1.trans h.1, fun a j q r => (h'.2 a j q r).trans (h.2 a j q r)⟩
theorem FC_s {c a : Nat} {u : wSt} {j : Nat} {x : Int32} (h : c ≤ a ∧ a ≤ c + 6 ∧ a ≠ c + 1) : FC c u (w_sI u a j x) := ⟨rfl, fun a' j' q r => if_neg (fun (e : a' = a ∧ j' = j) => q (by rw [e.1]; exact h))⟩
theorem FR_rf (b : Nat) (t : wSt) : FR b t t := ⟨rfl, fun _ _ _ => rfl, rfl, fun _ => rfl⟩
theorem n60 (b : Nat) : ¬ rsc b 79 60 := by unfold rsc; omega
theorem FR_tr {b : Nat} {t t' t'' : wSt} (h : FR b t t') (h' : FR b t' t'') : FR b t t'' :=
  ⟨h'.1.trans h.1, fun a j q => (h'.2.1 a j q).trans (h.2.1 a j q), h'.2.2.1.trans h.2.2.1, fun q => (h'.2.2.2 ((h.2.1 79 60 (n60 b)).trans q)).trans (h.2.2.2 q)⟩
theorem FR_s {b a j : Nat} {t : wSt} {x : Int32} (h : rsc b a j) : FR b t (w_sI t a j x) := ⟨rfl, fun a' j' q => if_neg (fun e => q (by rw [e.1, e.2]; exact h)), rfl, fun _ => rfl⟩
theorem QC_rf (u : wSt) : QC u u := ⟨rfl, fun _ _ _ => rfl⟩
theorem QC_tr {u u' u'' : wSt} (h : QC u u') (h' : QC u' u'') : QC u u'' := ⟨h'.1.trans h.1, fun a j q => (h'.2 a j q).trans (h.2 a j q)⟩
theorem QC_FC {c : Nat} {u u' : wSt} (h : QC u u') : FC c u u' := ⟨h.1, fun a j _ r => h.2 a j r⟩
theorem LR_FR {b : Nat} {t t' : wSt} (h : LR t t') : FR b t t' := ⟨h.1, fun a j q => h.2.1 a j (fun e => q (Or.inl e)), h.2.2 _ _ (by decide) (by decide), fun _ => h.2.2 _ _ (by decide) (by decide)⟩
theorem Td_fr {n m k d : Nat} {U T U' T' : Nat → Nat → Int32} (h : Td n m k d U T) (hU : ∀ a j, d ≤ a → a ≤ d + 16 → U' a j = U a j) (hT : ∀ j, 12 ≤ j → j ≤ 15 → T' 79 j = T 79 j) (hT2 : ∀ a j, 83 ≤ a → a ≤ 99 → T' a j = T a j) : Td n m k d U' T' := by
  have hU' : ∀ a, d ≤ a → a ≤ d + 16 → U' a = U a := fun a h1 h2 => funext (fun j => hU a j h1 h2)
  have hT' : ∀ a, 83 ≤ a → a ≤ 99 → T' a = T a := fun a h1 h2 => funext (fun j => hT2 a j h1 h2)
  unfold Td at h ⊢
  simp (disch := omega) only [hU', hT, hT']
  exact h
theorem Fl_fr {U T U' T' : Nat → Nat → Int32} (h : Fl U T) (hU : ∀ j, U' 64 j = U 64 j) (hT : ∀ j, 60 ≤ j → j ≤ 68 → T' 79 j = T 79 j) : Fl U' T' := by
  unfold Fl at h ⊢
  simp (disch := omega) only [hU, hT]
  exact h
theorem Sc_fr {n m c b B : Nat} {U T U' T' : Nat → Nat → Int32} (hn : n ≤ 6) (hm : m ≤ 8) (h : Sc n m c b B U T) (hU : ∀ a j, c ≤ a → a ≤ c + 6 → (a = c → j ≠ 1) → U' a j = U a j) (hT : ∀ a j, 104 ≤ a → a ≤ 112 → (a ≤ 108 → 6 * b ≤ j ∧ j < 6 * b + 6) → (109 ≤ a → a ≤ 111 → 8 * b ≤ j ∧ j < 8 * b + 8) → (a = 112 → j = b) → T' a j = T a j) : Sc n m c b B U' T' := by
  obtain ⟨⟨s, hs, e1, e2⟩, hg, hf, h4, h5, h6, h7⟩ := h
  have uc : ∀ j, j ≠ 1 → U' c j = U c j := fun j hj => hU c j (by omega) (by omega) (fun _ => hj)
  refine ⟨⟨s, hs, by rw [uc 0 (by decide)]; exact e1, by rw [hT 112 b (by omega) (by omega) (by omega) (by omega) (by omega)]; exact e2⟩, fun g q => ?_, fun f q => ?_, fun g q => ?_, fun g q => ?_, fun g q => ?_, fun f q => ?_⟩
  · have := hg g q
    rw [uc 2 (by decide), hU (c + 1) g (by omega) (by omega) (by omega), hU (c + 2) g (by omega) (by omega) (by omega), hU (c + 3) g (by omega) (by omega) (by omega), hU (c + 4) g (by omega) (by omega) (by omega), hT 104 _ (by omega) (by omega) (by omega) (by omega) (by omega), hT 105 _ (by omega) (by omega) (by omega) (by omega) (by omega), hT 106 _ (by omega) (by omega) (by omega) (by omega) (by omega), hT 107 _ (by omega) (by omega) (by omega) (by omega) (by omega), hT 108 _ (by omega) (by omega) (by omega) (by omega) (by omega)]
    exact this
  · have := hf f q
    rw [uc 3 (by decide), hU (c + 5) f (by omega) (by omega) (by omega), hU (c + 6) f (by omega) (by omega) (by omega), hT 109 _ (by omega) (by omega) (by omega) (by omega) (by omega), hT 110 _ (by omega) (by omega) (by omega) (by omega) (by omega), hT 111 _ (by omega) (by omega) (by omega) (by omega) (by omega)]
    exact this
  · rw [hU (c + 1) g (by omega) (by omega) (by omega)]; exact h4 g q
  · rw [uc 2 (by decide), hU (c + 3) g (by omega) (by omega) (by omega)]; exact h5 g q
  · rw [uc 2 (by decide)]; exact h6 g q
  · rw [uc 3 (by decide)]; exact h7 f q
theorem Cx_fr {n m k d c b B B' : Nat} {u t u' t' : wSt} (h : Cx n m k d c b B u t) (hu : FC c u u') (ht : FR b t t') (hS : Sc n m c b B' u'.1 t'.1) (hN : Nm c u' t') (hB : B' ≤ 101) : Cx n m k d c b B' u' t' := by
  obtain ⟨hp, hm, hd, hc, hb, h8, hT, hF, -, -, -⟩ := h
  have d1 := TC_le hd
  have c1 := SC_le hc
  have tk : ∀ a j, (a < 104 ∨ 112 < a) → ¬ (a = 79 ∧ (j = 48 ∨ j = 59)) → t'.1 a j = t.1 a j := fun a j h1 h2 => ht.2.1 a j (by unfold rsc; omega)
  refine ⟨by rw [hu.1]; exact hp, by rw [ht.1]; exact hm, hd, hc, hb, by rw [hu.1]; exact h8, ?_, ?_, hS, hN, hB⟩
  · exact Td_fr hT (fun a j h1 h2 => hu.2 a j (by omega) (by omega)) (fun j h1 h2 => tk _ _ (by omega) (by omega)) (fun a j h1 h2 => tk _ _ (by omega) (by omega))
  · exact Fl_fr hF (fun j => hu.2 64 j (by omega) (by decide)) (fun j h1 h2 => tk _ _ (by omega) (by omega))
theorem Nm_k {c : Nat} {u t u' t' : wSt} (h : Nm c u t) (h1 : u'.1 64 0 = u.1 64 0) (h2 : u'.1 c 1 = u.1 c 1) (h3 : t'.2.1 79 58 = t.2.1 79 58) : Nm c u' t' := by
  unfold Nm at h ⊢
  rw [h1, h2, h3]
  exact h
theorem Cx_q {n m k d c b B : Nat} {u t u' t' : wSt} (h : Cx n m k d c b B u t) (hu : QC u u') (ht : LR t t') : Cx n m k d c b B u' t' := by
  have h0 := h
  obtain ⟨hp, hm, hd, hc, hb, h8, ⟨⟨n6, m8, -⟩, -⟩, hF, hS, hN, hB⟩ := h0
  have c1 := SC_le hc
  refine Cx_fr h (QC_FC hu) (LR_FR ht) ?_ ?_ hB
  · exact Sc_fr n6 m8 hS (fun a j _ _ _ => hu.2 a j (by omega)) (fun a j _ _ _ _ _ => ht.2.1 a j (by omega))
  · exact Nm_k hN (hu.2 _ _ (by decide)) (hu.2 _ _ (by omega)) (ht.2.2 _ _ (by decide) (by decide))
/-! the names of a law -/
def nm7 (u : wSt) (n c d g f : Nat) (sw : Int32) (j : Nat) : Int32 :=
  if j = 0 then u.1 (c + 2) g else if j = 1 then u.1 (c + 3) g else if j = 2 then u.1 (d + 4) g else if j = 3 then sw else if j = 4 then u.1 (c + 5) f else if j = 5 then nI (cnt (sitB (u.1 c 2) (u.1 64 5)) n) else u.1 c 0
section
variable {n m k d c b B : Nat} {u t : wSt}
theorem sitting_c (hx : Cx n m k d c b B u t) : F_X0_sitting 64 c u = some ((((1 : Int32) <<< (nI n &&& 31)) - 1) &&& ((u.1 c 2 ||| u.1 64 5) ^^^ (-1 : Int32))) := by
  obtain ⟨hp, hm, hd, hc, hb, h8, ⟨⟨hn, -, -⟩, ⟨e1, -, -⟩, -⟩, -⟩ := hx
  unfold F_X0_sitting
  repeat (first | simp (disch := first | assumption | omega) only [↓wB_eq, ↓wC_s, ↓wP_s, ↓wJ_inl, ↓wJ_inr, ↓wG_eq, ↓wSI_eq, ↓wSL_eq, ↓wSZ_eq, ↓wSB_eq, ↓ite_true, ↓ite_false, ↓wR_0, ↓wR_1, ↓wN_1, ↓wR_2, ↓wR_3, ↓wN_3, ↓wR_4, ↓wN_4, ↓wR_5, ↓wN_5, ↓wR_6, ↓wN_6, ↓wR_7, ↓wN_7, ↓wR_8, ↓wN_8, ↓wR_9, ↓wN_9, ↓wR_10, ↓wN_10, ↓wR_11, ↓wN_11, ↓wR_12, ↓wR_13, ↓wN_13, ↓wR_14, ↓wN_14, ↓wR_15, ↓wN_15, ↓wR_16, ↓wN_16, ↓wR_17, ↓wN_17, ↓wR_18, ↓wN_18, ↓wR_19, ↓wR_20, ↓wN_20, ↓wR_21, ↓wN_21, ↓wR_22, ↓wN_22, ↓wR_23, ↓wN_23, ↓wR_24, ↓wN_24, ↓wR_25, ↓wN_25, ↓wR_26, ↓wN_26, ↓wR_27, ↓wN_27, ↓wR_28, ↓wN_28, ↓wR_29, ↓wR_30, ↓wN_30, ↓wR_31, ↓wN_31, ↓wR_32, ↓wN_32, ↓wR_33, ↓wN_33, ↓wR_34, ↓wN_34, ↓wR_35, ↓wN_35, ↓wR_36, ↓wR_37, ↓wN_37, ↓wR_38, ↓wR_39, ↓wN_39, ↓wR_40, ↓wN_40, ↓wR_41, ↓wN_41, ↓wR_42, ↓wN_42, ↓wR_43, ↓wR_44, ↓wN_44, ↓wR_45, ↓wN_45, ↓wR_46, ↓wN_46, ↓wR_47, ↓wN_47, ↓wR_48, ↓wN_48, ↓wR_49, ↓wN_49, ↓wR_50, ↓wR_51, ↓wN_51, ↓wR_52, ↓wN_52, ↓wR_53, ↓wN_53, ↓wR_54, ↓wN_54, ↓wR_55, ↓wN_55, ↓wR_56, ↓wN_56, ↓wR_57, ↓wR_58, ↓wN_58, ↓wR_59, ↓wN_59, ↓wR_60, ↓wN_60, ↓wR_61, ↓wN_61, ↓wR_62, ↓wN_62, ↓wR_63, ↓wN_63, ↓wR_64, ↓wR_65, ↓wN_65, ↓wR_66, ↓wR_67, ↓wN_67, ↓wR_68, ↓wN_68, ↓wR_69, ↓wN_69, ↓wR_70, ↓wR_71, ↓wN_71, ↓wR_72, ↓wN_72, ↓wR_73, ↓wN_73, ↓wR_74, ↓wN_74, ↓wR_75, ↓wN_75, ↓wR_76, ↓wN_76, ↓wR_77, ↓wN_77, ↓wR_78, ↓wN_78, ↓wR_79, ↓wR_80, ↓wN_80, ↓wR_81, ↓wN_81, ↓wR_82, ↓wN_82, ↓wR_83, ↓wN_83, ↓wR_84, ↓wN_84, ↓wR_85, ↓wN_85, ↓wR_86, ↓wN_86, ↓wR_87, ↓wN_87, ↓wR_88, ↓wN_88, ↓wR_89, ↓wN_89, ↓wR_90, ↓wN_90, ↓wR_91, ↓wN_91, ↓wR_92, ↓wN_92, ↓wR_93, ↓wN_93, ↓wR_94, ↓wN_94, ↓wR_95, ↓wN_95, ↓wR_96, ↓wN_96, ↓wR_97, ↓wN_97, ↓wR_98, ↓wN_98, ↓wR_99, ↓wN_99, ↓wR_100, ↓wN_100, ↓wR_101, ↓wN_101, ↓wR_102, ↓wN_102, ↓wR_103, ↓wN_103, ↓wR_104, ↓wN_104, ↓wR_105, ↓wN_105, ↓wR_106, ↓wN_106, ↓wR_107, ↓wN_107, ↓wR_108, ↓wN_108, ↓wR_109, ↓wN_109, ↓wR_110, ↓wN_110, ↓wR_111, ↓wN_111, ↓wR_112, ↓wN_112, ↓wR_113, ↓wN_113, ↓wR_114, ↓wN_114, ↓wR_115, ↓wN_115, ↓wR_116, ↓wN_116, ↓wR_117, ↓wN_117, ↓wR_118, ↓wN_118, ↓wR_119, ↓wN_119, ↓wR_d0, ↓wR_d1, ↓wN_d1, ↓wR_d2, ↓wN_d2, ↓wR_d3, ↓wN_d3, ↓wR_d4, ↓wN_d4, ↓wR_d5, ↓wN_d5, ↓wR_d6, ↓wN_d6, ↓wR_d7, ↓wN_d7, ↓wR_d8, ↓wN_d8, ↓wR_d9, ↓wN_d9, ↓wR_d10, ↓wR_d11, ↓wN_d11, ↓wR_d12, ↓wN_d12, ↓wR_d13, ↓wN_d13, ↓wR_d14, ↓wN_d14, ↓wR_d15, ↓wN_d15, ↓wR_d16, ↓wN_d16, ↓wR_c0, ↓wR_c1, ↓wN_c1, ↓wR_c2, ↓wN_c2, ↓wR_c3, ↓wN_c3, ↓wR_c4, ↓wN_c4, ↓wR_c5, ↓wN_c5, ↓wR_c6, ↓wN_c6] | simp (disch := first | assumption | omega) only [sI_r, sI_l, sL_r, sL_i, sR_i, sR_l, cp_r, cp_l, nI_add, nI_mul, nI_1, nI_leE, nI_ltE, nI_eqI, nI_neg, nI_neg2, nI_nn, nI_leL, nI_geL, nI_ltL, nI_gtL, nI_eqL, nI_mulL, nI_addL, nI_Ladd, nI_subL, wN_lit, bI_0, bI_1, l10, l01, lm0, lm1, or_true, true_or, or_false, false_or, and_true, true_and, sI_eq, Nat.not_lt_zero, eq_self, ite_true, ite_false, not_true_eq_false, not_false_eq_true, Nat.reduceAdd, Nat.reduceMul, Nat.reduceSub, Nat.reduceLT, Nat.reduceLeDiff, Nat.reduceEqDiff, h8, e1])
theorem LR_n {t t0 : wSt} {j : Nat} {x : Int64} (h : LR t0 t) : LR t0 (w_sL t 102 j x) := LR_tr h ⟨rfl, fun _ _ _ => rfl, fun a j' h _ => sL_ne _ _ _ _ _ _ h⟩
theorem lay_r {g f : Nat} {sw : Int32} (hx : Cx n m k d c b B u t) (hg : g < n) (hf : f < m) (hsw : F_X0_sweetOf 64 (nI f) u = some sw) : ∃ t', F_X9_layNames 79 (nI b) (nI g) (nI f) t = some ((), t') ∧ LR t t' ∧ (∀ j, j < 7 → t'.2.1 102 j = (nm7 u n c d g f sw j).toInt64) := by
  have hx0 := hx
  obtain ⟨hp, hm, hd, hc, hb, h8, ⟨⟨hn, hm8, -⟩, -, -, -, -, -, hG, hF, -⟩, -, ⟨⟨s, hs, e1, e2⟩, hS, hS2, -⟩, -⟩ := hx
  have s1 := hS g hg
  have s2 := hS2 f hf
  have s3 := hG g hg
  have hg6 : 6 * b + g < 12 := by omega
  have hf8 : 8 * b + f < 16 := by omega
  have hsw' : ∀ x y z : Int64, F_X9_sweetIn 79 (nI f) (w_sL (w_sL (w_sL t 102 0 x) 102 1 y) 102 2 z) = some sw := by
    intro x y z
    obtain ⟨p, q, h1, h2, h3⟩ := sweet_rl (Cx_q hx0 (QC_rf u) (LR_n (j := 2) (x := z) (LR_n (j := 1) (x := y) (LR_n (j := 0) (x := x) (LR_rf t))))) hf
    rw [hsw] at h1
    cases h1
    rw [h2, h3]
  have hmany' : ∀ x y z v w : Int64, F_X9_thereMany 79 (nI b) (w_sL (w_sL (w_sL (w_sL (w_sL t 102 0 x) 102 1 y) 102 2 z) 102 3 v) 102 4 w) = some (nI (cnt (sitB (u.1 c 2) (u.1 64 5)) n)) := by
    intro x y z v w
    exact many_r (Cx_q hx0 (QC_rf u) (LR_n (j := 4) (x := w) (LR_n (j := 3) (x := v) (LR_n (j := 2) (x := z) (LR_n (j := 1) (x := y) (LR_n (j := 0) (x := x) (LR_rf t)))))))
  refine ⟨w_sL (w_sL (w_sL (w_sL (w_sL (w_sL (w_sL t 102 0 (u.1 (c + 2) g).toInt64) 102 1 (u.1 (c + 3) g).toInt64) 102 2 (u.1 (d + 4) g).toInt64) 102 3 sw.toInt64) 102 4 (u.1 (c + 5) f).toInt64) 102 5 (nI (cnt (sitB (u.1 c 2) (u.1 64 5)) n)).toInt64) 102 6 (u.1 c 0).toInt64, ?_, LR_n (LR_n (LR_n (LR_n (LR_n (LR_n (LR_n (LR_rf t))))))), ?_⟩
  · unfold F_X9_layNames
    have e3 : t.1 112 b = u.1 c 0 := by rw [e1]; exact e2
    repeat (first | simp (disch := first | assumption | omega) only [↓wB_eq, ↓wC_s, ↓wP_s, ↓wJ_inl, ↓wJ_inr, ↓wG_eq, ↓wSI_eq, ↓wSL_eq, ↓wSZ_eq, ↓wSB_eq, ↓ite_true, ↓ite_false, ↓wR_0, ↓wR_1, ↓wN_1, ↓wR_2, ↓wR_3, ↓wN_3, ↓wR_4, ↓wN_4, ↓wR_5, ↓wN_5, ↓wR_6, ↓wN_6, ↓wR_7, ↓wN_7, ↓wR_8, ↓wN_8, ↓wR_9, ↓wN_9, ↓wR_10, ↓wN_10, ↓wR_11, ↓wN_11, ↓wR_12, ↓wR_13, ↓wN_13, ↓wR_14, ↓wN_14, ↓wR_15, ↓wN_15, ↓wR_16, ↓wN_16, ↓wR_17, ↓wN_17, ↓wR_18, ↓wN_18, ↓wR_19, ↓wR_20, ↓wN_20, ↓wR_21, ↓wN_21, ↓wR_22, ↓wN_22, ↓wR_23, ↓wN_23, ↓wR_24, ↓wN_24, ↓wR_25, ↓wN_25, ↓wR_26, ↓wN_26, ↓wR_27, ↓wN_27, ↓wR_28, ↓wN_28, ↓wR_29, ↓wR_30, ↓wN_30, ↓wR_31, ↓wN_31, ↓wR_32, ↓wN_32, ↓wR_33, ↓wN_33, ↓wR_34, ↓wN_34, ↓wR_35, ↓wN_35, ↓wR_36, ↓wR_37, ↓wN_37, ↓wR_38, ↓wR_39, ↓wN_39, ↓wR_40, ↓wN_40, ↓wR_41, ↓wN_41, ↓wR_42, ↓wN_42, ↓wR_43, ↓wR_44, ↓wN_44, ↓wR_45, ↓wN_45, ↓wR_46, ↓wN_46, ↓wR_47, ↓wN_47, ↓wR_48, ↓wN_48, ↓wR_49, ↓wN_49, ↓wR_50, ↓wR_51, ↓wN_51, ↓wR_52, ↓wN_52, ↓wR_53, ↓wN_53, ↓wR_54, ↓wN_54, ↓wR_55, ↓wN_55, ↓wR_56, ↓wN_56, ↓wR_57, ↓wR_58, ↓wN_58, ↓wR_59, ↓wN_59, ↓wR_60, ↓wN_60, ↓wR_61, ↓wN_61, ↓wR_62, ↓wN_62, ↓wR_63, ↓wN_63, ↓wR_64, ↓wR_65, ↓wN_65, ↓wR_66, ↓wR_67, ↓wN_67, ↓wR_68, ↓wN_68, ↓wR_69, ↓wN_69, ↓wR_70, ↓wR_71, ↓wN_71, ↓wR_72, ↓wN_72, ↓wR_73, ↓wN_73, ↓wR_74, ↓wN_74, ↓wR_75, ↓wN_75, ↓wR_76, ↓wN_76, ↓wR_77, ↓wN_77, ↓wR_78, ↓wN_78, ↓wR_79, ↓wR_80, ↓wN_80, ↓wR_81, ↓wN_81, ↓wR_82, ↓wN_82, ↓wR_83, ↓wN_83, ↓wR_84, ↓wN_84, ↓wR_85, ↓wN_85, ↓wR_86, ↓wN_86, ↓wR_87, ↓wN_87, ↓wR_88, ↓wN_88, ↓wR_89, ↓wN_89, ↓wR_90, ↓wN_90, ↓wR_91, ↓wN_91, ↓wR_92, ↓wN_92, ↓wR_93, ↓wN_93, ↓wR_94, ↓wN_94, ↓wR_95, ↓wN_95, ↓wR_96, ↓wN_96, ↓wR_97, ↓wN_97, ↓wR_98, ↓wN_98, ↓wR_99, ↓wN_99, ↓wR_100, ↓wN_100, ↓wR_101, ↓wN_101, ↓wR_102, ↓wN_102, ↓wR_103, ↓wN_103, ↓wR_104, ↓wN_104, ↓wR_105, ↓wN_105, ↓wR_106, ↓wN_106, ↓wR_107, ↓wN_107, ↓wR_108, ↓wN_108, ↓wR_109, ↓wN_109, ↓wR_110, ↓wN_110, ↓wR_111, ↓wN_111, ↓wR_112, ↓wN_112, ↓wR_113, ↓wN_113, ↓wR_114, ↓wN_114, ↓wR_115, ↓wN_115, ↓wR_116, ↓wN_116, ↓wR_117, ↓wN_117, ↓wR_118, ↓wN_118, ↓wR_119, ↓wN_119, ↓wR_d0, ↓wR_d1, ↓wN_d1, ↓wR_d2, ↓wN_d2, ↓wR_d3, ↓wN_d3, ↓wR_d4, ↓wN_d4, ↓wR_d5, ↓wN_d5, ↓wR_d6, ↓wN_d6, ↓wR_d7, ↓wN_d7, ↓wR_d8, ↓wN_d8, ↓wR_d9, ↓wN_d9, ↓wR_d10, ↓wR_d11, ↓wN_d11, ↓wR_d12, ↓wN_d12, ↓wR_d13, ↓wN_d13, ↓wR_d14, ↓wN_d14, ↓wR_d15, ↓wN_d15, ↓wR_d16, ↓wN_d16, ↓wR_c0, ↓wR_c1, ↓wN_c1, ↓wR_c2, ↓wN_c2, ↓wR_c3, ↓wN_c3, ↓wR_c4, ↓wN_c4, ↓wR_c5, ↓wN_c5, ↓wR_c6, ↓wN_c6] | simp (disch := first | assumption | omega) only [sI_r, sI_l, sL_r, sL_i, sR_i, sR_l, cp_r, cp_l, nI_add, nI_mul, nI_1, nI_leE, nI_ltE, nI_eqI, nI_neg, nI_neg2, nI_nn, nI_leL, nI_geL, nI_ltL, nI_gtL, nI_eqL, nI_mulL, nI_addL, nI_Ladd, nI_subL, wN_lit, bI_0, bI_1, l10, l01, lm0, lm1, or_true, true_or, or_false, false_or, and_true, true_and, sI_eq, Nat.not_lt_zero, eq_self, ite_true, ite_false, not_true_eq_false, not_false_eq_true, Nat.reduceAdd, Nat.reduceMul, Nat.reduceSub, Nat.reduceLT, Nat.reduceLeDiff, Nat.reduceEqDiff, PM_u hm, s1, s2, s3, hsw', hmany', e3])
  · intro j hj
    have hj' : j = 0 ∨ j = 1 ∨ j = 2 ∨ j = 3 ∨ j = 4 ∨ j = 5 ∨ j = 6 := by omega
    rcases hj' with rfl | rfl | rfl | rfl | rfl | rfl | rfl <;> rfl
theorem QC_n {u u0 : wSt} {j : Nat} {x : Int32} (h : QC u0 u) : QC u0 (w_sI u 65 j x) := QC_tr h ⟨rfl, fun a j' h => sI_ne _ _ _ _ _ _ h⟩
theorem has_c {w : Nat} (hx : Cx n m k d c b B u t) (hw : w < 3) : F_X1_has (d + 10) (nI w) u = some (u.1 (d + 11) w) := by
  obtain ⟨hp, hm, hd, hc, hb, h8, ⟨-, -, -, -, -, -, -, -, -, hL, -⟩, -⟩ := hx
  obtain ⟨-, h2, -⟩ := hL w hw
  unfold F_X1_has
  repeat (first | simp (disch := first | assumption | omega) only [↓wB_eq, ↓wC_s, ↓wP_s, ↓wJ_inl, ↓wJ_inr, ↓wG_eq, ↓wSI_eq, ↓wSL_eq, ↓wSZ_eq, ↓wSB_eq, ↓ite_true, ↓ite_false, ↓wR_0, ↓wR_1, ↓wN_1, ↓wR_2, ↓wR_3, ↓wN_3, ↓wR_4, ↓wN_4, ↓wR_5, ↓wN_5, ↓wR_6, ↓wN_6, ↓wR_7, ↓wN_7, ↓wR_8, ↓wN_8, ↓wR_9, ↓wN_9, ↓wR_10, ↓wN_10, ↓wR_11, ↓wN_11, ↓wR_12, ↓wR_13, ↓wN_13, ↓wR_14, ↓wN_14, ↓wR_15, ↓wN_15, ↓wR_16, ↓wN_16, ↓wR_17, ↓wN_17, ↓wR_18, ↓wN_18, ↓wR_19, ↓wR_20, ↓wN_20, ↓wR_21, ↓wN_21, ↓wR_22, ↓wN_22, ↓wR_23, ↓wN_23, ↓wR_24, ↓wN_24, ↓wR_25, ↓wN_25, ↓wR_26, ↓wN_26, ↓wR_27, ↓wN_27, ↓wR_28, ↓wN_28, ↓wR_29, ↓wR_30, ↓wN_30, ↓wR_31, ↓wN_31, ↓wR_32, ↓wN_32, ↓wR_33, ↓wN_33, ↓wR_34, ↓wN_34, ↓wR_35, ↓wN_35, ↓wR_36, ↓wR_37, ↓wN_37, ↓wR_38, ↓wR_39, ↓wN_39, ↓wR_40, ↓wN_40, ↓wR_41, ↓wN_41, ↓wR_42, ↓wN_42, ↓wR_43, ↓wR_44, ↓wN_44, ↓wR_45, ↓wN_45, ↓wR_46, ↓wN_46, ↓wR_47, ↓wN_47, ↓wR_48, ↓wN_48, ↓wR_49, ↓wN_49, ↓wR_50, ↓wR_51, ↓wN_51, ↓wR_52, ↓wN_52, ↓wR_53, ↓wN_53, ↓wR_54, ↓wN_54, ↓wR_55, ↓wN_55, ↓wR_56, ↓wN_56, ↓wR_57, ↓wR_58, ↓wN_58, ↓wR_59, ↓wN_59, ↓wR_60, ↓wN_60, ↓wR_61, ↓wN_61, ↓wR_62, ↓wN_62, ↓wR_63, ↓wN_63, ↓wR_64, ↓wR_65, ↓wN_65, ↓wR_66, ↓wR_67, ↓wN_67, ↓wR_68, ↓wN_68, ↓wR_69, ↓wN_69, ↓wR_70, ↓wR_71, ↓wN_71, ↓wR_72, ↓wN_72, ↓wR_73, ↓wN_73, ↓wR_74, ↓wN_74, ↓wR_75, ↓wN_75, ↓wR_76, ↓wN_76, ↓wR_77, ↓wN_77, ↓wR_78, ↓wN_78, ↓wR_79, ↓wR_80, ↓wN_80, ↓wR_81, ↓wN_81, ↓wR_82, ↓wN_82, ↓wR_83, ↓wN_83, ↓wR_84, ↓wN_84, ↓wR_85, ↓wN_85, ↓wR_86, ↓wN_86, ↓wR_87, ↓wN_87, ↓wR_88, ↓wN_88, ↓wR_89, ↓wN_89, ↓wR_90, ↓wN_90, ↓wR_91, ↓wN_91, ↓wR_92, ↓wN_92, ↓wR_93, ↓wN_93, ↓wR_94, ↓wN_94, ↓wR_95, ↓wN_95, ↓wR_96, ↓wN_96, ↓wR_97, ↓wN_97, ↓wR_98, ↓wN_98, ↓wR_99, ↓wN_99, ↓wR_100, ↓wN_100, ↓wR_101, ↓wN_101, ↓wR_102, ↓wN_102, ↓wR_103, ↓wN_103, ↓wR_104, ↓wN_104, ↓wR_105, ↓wN_105, ↓wR_106, ↓wN_106, ↓wR_107, ↓wN_107, ↓wR_108, ↓wN_108, ↓wR_109, ↓wN_109, ↓wR_110, ↓wN_110, ↓wR_111, ↓wN_111, ↓wR_112, ↓wN_112, ↓wR_113, ↓wN_113, ↓wR_114, ↓wN_114, ↓wR_115, ↓wN_115, ↓wR_116, ↓wN_116, ↓wR_117, ↓wN_117, ↓wR_118, ↓wN_118, ↓wR_119, ↓wN_119, ↓wR_d0, ↓wR_d1, ↓wN_d1, ↓wR_d2, ↓wN_d2, ↓wR_d3, ↓wN_d3, ↓wR_d4, ↓wN_d4, ↓wR_d5, ↓wN_d5, ↓wR_d6, ↓wN_d6, ↓wR_d7, ↓wN_d7, ↓wR_d8, ↓wN_d8, ↓wR_d9, ↓wN_d9, ↓wR_d10, ↓wR_d11, ↓wN_d11, ↓wR_d12, ↓wN_d12, ↓wR_d13, ↓wN_d13, ↓wR_d14, ↓wN_d14, ↓wR_d15, ↓wN_d15, ↓wR_d16, ↓wN_d16, ↓wR_c0, ↓wR_c1, ↓wN_c1, ↓wR_c2, ↓wN_c2, ↓wR_c3, ↓wN_c3, ↓wR_c4, ↓wN_c4, ↓wR_c5, ↓wN_c5, ↓wR_c6, ↓wN_c6] | simp (disch := first | assumption | omega) only [sI_r, sI_l, sL_r, sL_i, sR_i, sR_l, cp_r, cp_l, nI_add, nI_mul, nI_1, nI_leE, nI_ltE, nI_eqI, nI_neg, nI_neg2, nI_nn, nI_leL, nI_geL, nI_ltL, nI_gtL, nI_eqL, nI_mulL, nI_addL, nI_Ladd, nI_subL, wN_lit, bI_0, bI_1, l10, l01, lm0, lm1, or_true, true_or, or_false, false_or, and_true, true_and, sI_eq, Nat.not_lt_zero, eq_self, ite_true, ite_false, not_true_eq_false, not_false_eq_true, Nat.reduceAdd, Nat.reduceMul, Nat.reduceSub, Nat.reduceLT, Nat.reduceLeDiff, Nat.reduceEqDiff, (PL_d hp hd), h2])
theorem sits_n {x : Int32} {j : Nat} {u0 : wSt} (hx : Cx n m k d c b B u0 t) (h : QC u0 u) : F_X0_sitting 64 c u = F_X0_sitting 64 c u0 := by
  rw [sitting_c hx, sitting_c (Cx_q hx h (LR_rf t)), h.2 64 5 (by decide), h.2 c 2 (by have := SC_le hx.2.2.2.1; omega)]
theorem workOut_0 {g f w : Nat} (hx : Cx n m k d c b B u t) (hw : w < 3) (hA : u.1 (d + 11) w = 0) : F_X0_workOut 64 (nI w) c (nI g) (nI f) u = some (-9223372036854775808, u) := by
  have hh := has_c hx hw
  obtain ⟨hp, hm, hd, hc, hb, h8, -⟩ := hx
  have h16 : u.2.2 d 16 = d + 11 := (PL_d hp hd).2.2.2.2.2.2.2.2.2.1
  unfold F_X0_workOut
  repeat (first | simp (disch := first | assumption | omega) only [↓wB_eq, ↓wC_s, ↓wP_s, ↓wJ_inl, ↓wJ_inr, ↓wG_eq, ↓wSI_eq, ↓wSL_eq, ↓wSZ_eq, ↓wSB_eq, ↓ite_true, ↓ite_false, ↓wR_0, ↓wR_1, ↓wN_1, ↓wR_2, ↓wR_3, ↓wN_3, ↓wR_4, ↓wN_4, ↓wR_5, ↓wN_5, ↓wR_6, ↓wN_6, ↓wR_7, ↓wN_7, ↓wR_8, ↓wN_8, ↓wR_9, ↓wN_9, ↓wR_10, ↓wN_10, ↓wR_11, ↓wN_11, ↓wR_12, ↓wR_13, ↓wN_13, ↓wR_14, ↓wN_14, ↓wR_15, ↓wN_15, ↓wR_16, ↓wN_16, ↓wR_17, ↓wN_17, ↓wR_18, ↓wN_18, ↓wR_19, ↓wR_20, ↓wN_20, ↓wR_21, ↓wN_21, ↓wR_22, ↓wN_22, ↓wR_23, ↓wN_23, ↓wR_24, ↓wN_24, ↓wR_25, ↓wN_25, ↓wR_26, ↓wN_26, ↓wR_27, ↓wN_27, ↓wR_28, ↓wN_28, ↓wR_29, ↓wR_30, ↓wN_30, ↓wR_31, ↓wN_31, ↓wR_32, ↓wN_32, ↓wR_33, ↓wN_33, ↓wR_34, ↓wN_34, ↓wR_35, ↓wN_35, ↓wR_36, ↓wR_37, ↓wN_37, ↓wR_38, ↓wR_39, ↓wN_39, ↓wR_40, ↓wN_40, ↓wR_41, ↓wN_41, ↓wR_42, ↓wN_42, ↓wR_43, ↓wR_44, ↓wN_44, ↓wR_45, ↓wN_45, ↓wR_46, ↓wN_46, ↓wR_47, ↓wN_47, ↓wR_48, ↓wN_48, ↓wR_49, ↓wN_49, ↓wR_50, ↓wR_51, ↓wN_51, ↓wR_52, ↓wN_52, ↓wR_53, ↓wN_53, ↓wR_54, ↓wN_54, ↓wR_55, ↓wN_55, ↓wR_56, ↓wN_56, ↓wR_57, ↓wR_58, ↓wN_58, ↓wR_59, ↓wN_59, ↓wR_60, ↓wN_60, ↓wR_61, ↓wN_61, ↓wR_62, ↓wN_62, ↓wR_63, ↓wN_63, ↓wR_64, ↓wR_65, ↓wN_65, ↓wR_66, ↓wR_67, ↓wN_67, ↓wR_68, ↓wN_68, ↓wR_69, ↓wN_69, ↓wR_70, ↓wR_71, ↓wN_71, ↓wR_72, ↓wN_72, ↓wR_73, ↓wN_73, ↓wR_74, ↓wN_74, ↓wR_75, ↓wN_75, ↓wR_76, ↓wN_76, ↓wR_77, ↓wN_77, ↓wR_78, ↓wN_78, ↓wR_79, ↓wR_80, ↓wN_80, ↓wR_81, ↓wN_81, ↓wR_82, ↓wN_82, ↓wR_83, ↓wN_83, ↓wR_84, ↓wN_84, ↓wR_85, ↓wN_85, ↓wR_86, ↓wN_86, ↓wR_87, ↓wN_87, ↓wR_88, ↓wN_88, ↓wR_89, ↓wN_89, ↓wR_90, ↓wN_90, ↓wR_91, ↓wN_91, ↓wR_92, ↓wN_92, ↓wR_93, ↓wN_93, ↓wR_94, ↓wN_94, ↓wR_95, ↓wN_95, ↓wR_96, ↓wN_96, ↓wR_97, ↓wN_97, ↓wR_98, ↓wN_98, ↓wR_99, ↓wN_99, ↓wR_100, ↓wN_100, ↓wR_101, ↓wN_101, ↓wR_102, ↓wN_102, ↓wR_103, ↓wN_103, ↓wR_104, ↓wN_104, ↓wR_105, ↓wN_105, ↓wR_106, ↓wN_106, ↓wR_107, ↓wN_107, ↓wR_108, ↓wN_108, ↓wR_109, ↓wN_109, ↓wR_110, ↓wN_110, ↓wR_111, ↓wN_111, ↓wR_112, ↓wN_112, ↓wR_113, ↓wN_113, ↓wR_114, ↓wN_114, ↓wR_115, ↓wN_115, ↓wR_116, ↓wN_116, ↓wR_117, ↓wN_117, ↓wR_118, ↓wN_118, ↓wR_119, ↓wN_119, ↓wR_d0, ↓wR_d1, ↓wN_d1, ↓wR_d2, ↓wN_d2, ↓wR_d3, ↓wN_d3, ↓wR_d4, ↓wN_d4, ↓wR_d5, ↓wN_d5, ↓wR_d6, ↓wN_d6, ↓wR_d7, ↓wN_d7, ↓wR_d8, ↓wN_d8, ↓wR_d9, ↓wN_d9, ↓wR_d10, ↓wR_d11, ↓wN_d11, ↓wR_d12, ↓wN_d12, ↓wR_d13, ↓wN_d13, ↓wR_d14, ↓wN_d14, ↓wR_d15, ↓wN_d15, ↓wR_d16, ↓wN_d16, ↓wR_c0, ↓wR_c1, ↓wN_c1, ↓wR_c2, ↓wN_c2, ↓wR_c3, ↓wN_c3, ↓wR_c4, ↓wN_c4, ↓wR_c5, ↓wN_c5, ↓wR_c6, ↓wN_c6] | simp (disch := first | assumption | omega) only [sI_r, sI_l, sL_r, sL_i, sR_i, sR_l, cp_r, cp_l, nI_add, nI_mul, nI_1, nI_leE, nI_ltE, nI_eqI, nI_neg, nI_neg2, nI_nn, nI_leL, nI_geL, nI_ltL, nI_gtL, nI_eqL, nI_mulL, nI_addL, nI_Ladd, nI_subL, wN_lit, bI_0, bI_1, l10, l01, lm0, lm1, or_true, true_or, or_false, false_or, and_true, true_and, sI_eq, Nat.not_lt_zero, eq_self, ite_true, ite_false, not_true_eq_false, not_false_eq_true, Nat.reduceAdd, Nat.reduceMul, Nat.reduceSub, Nat.reduceLT, Nat.reduceLeDiff, Nat.reduceEqDiff, h8, h16, hh, hA])
theorem workOut_1 {g f w : Nat} {sw : Int32} (hx : Cx n m k d c b B u t) (hg : g < n) (hf : f < m) (hw : w < 3) (hA : u.1 (d + 11) w = 1) (hsw : F_X0_sweetOf 64 (nI f) u = some sw) : ∃ u1, F_X0_workOut 64 (nI w) c (nI g) (nI f) u = wC (F_X1_work (d + 10) (nI w) 65 u1) (fun q v => some (q, v)) ∧ QC u u1 ∧ ∀ j, j < 7 → u1.1 65 j = nm7 u n c d g f sw j := by
  have hh := has_c hx hw
  have hx0 := hx
  obtain ⟨hp, hm, hd, hc, hb, h8, ⟨⟨hn, hm8, -⟩, ⟨e1, -, -⟩, -⟩, -, -, -⟩ := hx
  have d1 := TC_le hd
  have c1 := SC_le hc
  have h9 : u.2.2 64 9 = 66 := by unfold PL at hp; simp only [hp]
  have hg6 : g < 6 := by omega
  have hf8 : f < 8 := by omega
  have hsw' : ∀ x y z : Int32, F_X0_sweetOf 64 (nI f) (w_sI (w_sI (w_sI u 65 0 x) 65 1 y) 65 2 z) = some sw := by
    intro x y z
    have hq : QC u (w_sI (w_sI (w_sI u 65 0 x) 65 1 y) 65 2 z) := QC_n (QC_n (QC_n (QC_rf u)))
    obtain ⟨p, q, a1, a2, a3⟩ := sweet_rl (Cx_q hx0 hq (LR_rf t)) hf
    obtain ⟨p', q', b1, b2, b3⟩ := sweet_rl hx0 hf
    rw [a2] at b2
    cases b2
    rw [hsw] at b1
    cases b1
    rw [a1, a3, b3]
  have hsit : ∀ x y z v w : Int32, F_X0_sitting 64 c (w_sI (w_sI (w_sI (w_sI (w_sI u 65 0 x) 65 1 y) 65 2 z) 65 3 v) 65 4 w) = some ((((1 : Int32) <<< (nI n &&& 31)) - 1) &&& ((u.1 c 2 ||| u.1 64 5) ^^^ (-1 : Int32))) := by
    intro x y z v w
    rw [sits_n (x := 0) (j := 0) hx0 (QC_n (QC_n (QC_n (QC_n (QC_n (QC_rf u))))))]
    exact sitting_c hx0
  have ne : ∀ (v : wSt) (i : Nat) (x : Int32) (a j : Nat), a ≠ 65 → (w_sI v 65 i x).1 a j = v.1 a j := fun v i x a j h => sI_ne _ _ _ _ _ _ h
  refine ⟨w_sI (w_sI (w_sI (w_sI (w_sI (w_sI (w_sI u 65 0 (u.1 (c + 2) g)) 65 1 (u.1 (c + 3) g)) 65 2 (u.1 (d + 4) g)) 65 3 sw) 65 4 (u.1 (c + 5) f)) 65 5 (nI (cnt (sitB (u.1 c 2) (u.1 64 5)) n))) 65 6 (u.1 c 0), ?_, QC_n (QC_n (QC_n (QC_n (QC_n (QC_n (QC_n (QC_rf u))))))), ?_⟩
  · have l1 : ((1 : Int32) = 0) = False := by decide
    obtain ⟨pc4, pc5, pc6, pc7, pc8, pc9⟩ := (PL_c hp hc)
    have pd10 : u.2.2 d 10 = d + 5 := (PL_d hp hd).2.2.2.1
    have pd16 : u.2.2 d 16 = d + 11 := (PL_d hp hd).2.2.2.2.2.2.2.2.2.1
    have l10' : ¬ (1 : Int32) = 0 := by decide
    unfold F_X0_workOut
    rw [h8, wR_d0 _ hd, pd16, wR_d10 _ hd, hh, wP_s, hA, if_neg l10', h9, wR_65, pc5, wR_c2 _ hc, wN_c2 _ hc hg6, wSI_eq, wN_lit, wN_65 _ (by omega)]
    rw [sI_r, h9, wR_65, pc6, wR_c3 _ hc, wN_c3 _ hc hg6, wSI_eq, wN_lit, wN_65 _ (by omega), ne _ _ _ _ _ (by omega)]
    rw [sI_r, sI_r, h9, wR_65, h8, wR_d0 _ hd, pd10, wR_d4 _ hd, wN_d4 _ hd hg6, wSI_eq, wN_lit, wN_65 _ (by omega), ne _ _ _ _ _ (by omega), ne _ _ _ _ _ (by omega)]
    rw [sI_r, sI_r, sI_r, h9, wR_65, hsw', wP_s, wSI_eq, wN_lit, wN_65 _ (by omega)]
    rw [sI_r, sI_r, sI_r, sI_r, h9, wR_65, pc8, wR_c5 _ hc, wN_c5 _ hc hf8, wSI_eq, wN_lit, wN_65 _ (by omega), ne _ _ _ _ _ (by omega), ne _ _ _ _ _ (by omega), ne _ _ _ _ _ (by omega), ne _ _ _ _ _ (by omega)]
    rw [sI_r, sI_r, sI_r, sI_r, sI_r, h9, wR_65, hsit, wP_s, sitting_bc (by omega), wP_s, wSI_eq, wN_lit, wN_65 _ (by omega)]
    rw [sI_r, sI_r, sI_r, sI_r, sI_r, sI_r, h9, wR_65, wSI_eq, wN_lit, wN_65 _ (by omega), ne _ _ _ _ _ (by omega), ne _ _ _ _ _ (by omega), ne _ _ _ _ _ (by omega), ne _ _ _ _ _ (by omega), ne _ _ _ _ _ (by omega), ne _ _ _ _ _ (by omega)]
    rw [sI_r, sI_r, sI_r, sI_r, sI_r, sI_r, sI_r, h8, wR_d0 _ hd, pd16, wR_d10 _ hd, h9, wR_65]
  · intro j hj
    have hj' : j = 0 ∨ j = 1 ∨ j = 2 ∨ j = 3 ∨ j = 4 ∨ j = 5 ∨ j = 6 := by omega
    rcases hj' with rfl | rfl | rfl | rfl | rfl | rfl | rfl <;> rfl
/-- a law on both sides -/
theorem law_rl {g f w : Nat} {sw : Int32} (hx : Cx n m k d c b B u t) (hg : g < n) (hf : f < m) (hw : w < 3) (hA : u.1 (d + 11) w = 1) (hsw : F_X0_sweetOf 64 (nI f) u = some sw) : ∃ o : Option Int64, (∀ v, o = some v → lb v) ∧ (∃ u', F_X0_workOut 64 (nI w) c (nI g) (nI f) u = some (o.getD (-9223372036854775808), u') ∧ QC u u') ∧ ∀ t1, LR t t1 → (∀ j, j < 7 → t1.2.1 102 j = (nm7 u n c d g f sw j).toInt64) → ∃ t2, F_X9_lawOf 79 (nI w) t1 = some (o.getD 0, t2) ∧ LR t t2 ∧ ((o = none ∧ t2.1 79 48 = 1) ∨ (∃ v, o = some v ∧ t2.1 79 48 = 0)) := by
  obtain ⟨u1, hw1, hq, hnm⟩ := workOut_1 hx hg hf hw hA hsw
  obtain ⟨hp, hm, hd, hc, hb, h8, ⟨-, -, -, -, -, -, -, -, -, hL, -⟩, -⟩ := hx
  have d1 := TC_le hd
  obtain ⟨-, -, h2⟩ := hL w hw
  obtain ⟨p, q, k1, k2, k3, k4, hpq, hq64, st, st0, st1, hN⟩ := h2 hA
  have q1 : ∀ a j, a < 65 → u1.1 a j = u.1 a j := fun a j h => hq.2 a j (by omega)
  obtain ⟨u', f1, f2, f3, f4⟩ := work_c (u := u1) (w := w) (d := d) (p := p) (q := q) (st := st) (kn := t.1 96) (pa := t.1 98) (ot := t.1 99) (nm := fun j => (nm7 u n c d g f sw j).toInt64) (by rw [hq.1]; exact hp) hd hw (by rw [q1 _ _ (by omega)]; exact k2) (by rw [q1 _ _ (by omega)]; exact k1) hpq hq64 st0 st1 (fun i h1 h2 => by rw [q1 _ _ (by omega), q1 _ _ (by omega)]; exact hN i h1 h2) (fun j hj => by rw [hnm j hj])
  refine ⟨lawV (t.1 96) (t.1 98) (t.1 99) (fun j => (nm7 u n c d g f sw j).toInt64) p q, f4, ⟨u', by rw [hw1, f1]; rfl, QC_tr hq ⟨f3, fun a j _ => by rw [f2]⟩⟩, ?_⟩
  intro t1 ht1 hn1
  have r1 : ∀ a, a ≠ 79 → t1.1 a = t.1 a := fun a h => funext (fun j => ht1.2.1 a j (fun e => h e.1))
  have hlv : lawV (t1.1 96) (t1.1 98) (t1.1 99) (t1.2.1 102) p q = lawV (t.1 96) (t.1 98) (t.1 99) (fun j => (nm7 u n c d g f sw j).toInt64) p q := by
    rw [r1 96 (by decide), r1 98 (by decide), r1 99 (by decide)]
    unfold lawV
    have hin := st_in st0 hN
    have : ∀ i, p + i ≤ q → rv (t.1 96) (t.1 98) (t.1 99) (t1.2.1 102) p i = rv (t.1 96) (t.1 98) (t.1 99) (fun j => (nm7 u n c d g f sw j).toInt64) p i := by
      intro i
      induction i with
      | zero => intro _; rfl
      | succ i ih =>
        intro hi
        rw [rv_s, rv_s, ih (by omega)]
        cases rv (t.1 96) (t.1 98) (t.1 99) (fun j => (nm7 u n c d g f sw j).toInt64) p i with
        | none => rfl
        | some V =>
          show rvN _ _ _ = rvN _ _ _
          congr 1
          rcases hN (p + i) (by omega) (by omega) with ⟨eK, ek, ep, ⟨x, hx, eN⟩, es⟩ | ⟨j, hj, eK, ek, ep, es⟩ | ⟨a, r, es0, eK, ek, ep, es⟩ | ⟨b, a, r, es0, ⟨j, hj3, hj15, eK, ek⟩, ep, eo, es⟩
          · rw [ek]; rfl
          · rw [ek, ep, vs_name (by omega), vs_name (by omega), hn1 j hj]
          · rw [ek]; rfl
          · rw [ek]
            have z0 : ¬ nI j = 0 := by rw [show (0 : Int32) = nI 0 from rfl, nI_eqI (by omega) (by omega)]; omega
            have z1 : ¬ nI j = 1 := by rw [show (1 : Int32) = nI 1 from rfl, nI_eqI (by omega) (by omega)]; omega
            unfold vstep
            simp only [z0, z1, if_false]
    rw [this (q - p) (by omega)]
  obtain ⟨t2, g1, g2, g3⟩ := law_r (t := t1) (K := u.1 (d + 14)) (N := u.1 (d + 15)) (w := w) (p := p) (q := q) (st := st) (by rw [ht1.1]; exact hm) hw (by rw [r1 95 (by decide)]; exact k4) (by rw [r1 94 (by decide)]; exact k3) hpq hq64 st0 st1 (fun i h1 h2 => by rw [r1 96 (by decide), r1 98 (by decide), r1 99 (by decide)]; exact hN i h1 h2)
  rw [hlv] at g1 g3
  exact ⟨t2, g1, LR_tr ht1 g2, g3⟩
end

/-! what both systems hold of a text, of a scene, of what is tried -/
def kcl (j : Nat) : Nat := if j = 3 then 11 else if j = 4 then 10 else 15 + j
def opR (a b : Int32) : Prop := ∃ j : Nat, 3 ≤ j ∧ j < 15 ∧ a = nI (kcl j) ∧ b = nI j
/-- a law's knot i: the class's kind and number, the reference's three rows; the stack ahead and behind -/
def Nd (K N kn pa ot : Int32) (i : Nat) (s s' : List Nat) : Prop :=
  (K = 33 ∧ kn = 0 ∧ pa = N ∧ (∃ q : Nat, q ≤ 9999 ∧ N = nI q) ∧ s' = i :: s) ∨
  (∃ j : Nat, j < 7 ∧ K = nI (13 + j) ∧ kn = 1 ∧ pa = nI j ∧ s' = i :: s) ∨
  (∃ a r, s = a :: r ∧ K = 12 ∧ kn = 2 ∧ pa = nI a ∧ s' = i :: r) ∨
  (∃ b a r, s = b :: a :: r ∧ opR K kn ∧ pa = nI a ∧ ot = nI b ∧ s' = i :: r)
def Pg (K N kn pa ot : Nat → Int32) (p q : Nat) : Prop :=
  p < q ∧ q ≤ 64 ∧ ∃ st : Nat → List Nat, st p = [] ∧ st q = [q - 1] ∧ ∀ i, p ≤ i → i < q → Nd (K i) (N i) (kn i) (pa i) (ot i) i (st i) (st (i + 1))
def Lw (A B C K N a b c kn pa ot : Nat → Int32) (w : Nat) : Prop :=
  (a w = A w) ∧ (A w = 0 ∨ A w = 1) ∧ (A w = 1 → ∃ p q : Nat, B w = nI p ∧ C w = nI q ∧ b w = nI p ∧ c w = nI q ∧ Pg K N kn pa ot p q)
def Td (n m k d : Nat) (U T : Nat → Nat → Int32) : Prop :=
  (n ≤ 6 ∧ m ≤ 8 ∧ k ≤ 8) ∧ (U d 1 = nI n ∧ U d 2 = nI m ∧ U d 3 = nI k) ∧ (T 79 12 = nI n ∧ T 79 13 = nI m ∧ T 79 14 = nI k) ∧
  (T 83 0 = U d 4 ∧ T 83 1 = U d 5 ∧ T 83 2 = U d 6) ∧ (∃ q : Nat, q ≤ 100 ∧ U d 5 = nI q) ∧ (∃ q : Nat, q ≤ 99999 ∧ U d 6 = nI q) ∧
  (∀ g, g < n → T 84 g = U (d + 1) g ∧ T 85 g = U (d + 2) g ∧ T 86 g = U (d + 3) g ∧ T 87 g = U (d + 4) g ∧ ∃ q : Nat, q ≤ 98 ∧ U (d + 3) g = nI q) ∧
  (∀ f, f < m → T 88 f = U (d + 5) f ∧ T 89 f = U (d + 6) f ∧ T 90 f = U (d + 7) f) ∧
  (∀ b, b < k → T 91 b = U (d + 8) b ∧ T 92 b = U (d + 9) b) ∧
  (∀ w, w < 3 → Lw (U (d + 11)) (U (d + 12)) (U (d + 13)) (U (d + 14)) (U (d + 15)) (T 93) (T 94) (T 95) (T 96) (T 98) (T 99) w) ∧
  T 79 15 = U (d + 10) 0
/-- how it is tried: the class's course and the reference's own fields -/
def Fl (U T : Nat → Nat → Int32) : Prop :=
  ((U 64 0 = 0 ∧ T 79 60 = 0 ∧ T 79 61 = 0) ∨ (U 64 0 = 1 ∧ T 79 60 = 1 ∧ T 79 61 = 0) ∨ (U 64 0 = 2 ∧ T 79 61 = 1)) ∧
  T 79 62 = U 64 1 ∧ T 79 63 = U 64 2 ∧ T 79 64 = U 64 3 ∧ T 79 65 = U 64 4 ∧ T 79 66 = U 64 5 ∧ T 79 67 = U 64 6 ∧ (U 64 6 = -1 ∨ T 79 68 = U 64 7)
/-- a scene: the class's at cell c, the reference's bank b; no hunger of one that is there above B -/
def Sc (n m c b B : Nat) (U T : Nat → Nat → Int32) : Prop :=
  (∃ s : Nat, s ≤ 20000 ∧ U c 0 = nI s ∧ T 112 b = nI s) ∧
  (∀ g, g < n → T 106 (6 * b + g) = U (c + 1) g ∧ T 104 (6 * b + g) = U (c + 2) g ∧ T 105 (6 * b + g) = U (c + 3) g ∧ T 108 (6 * b + g) = U (c + 4) g ∧ T 107 (6 * b + g) = bI (bt (U c 2) g = false)) ∧
  (∀ f, f < m → T 109 (8 * b + f) = U (c + 5) f ∧ T 111 (8 * b + f) = U (c + 6) f ∧ T 110 (8 * b + f) = bI (bt (U c 3) f = true)) ∧
  (∀ g, g < n → ∃ s : Nat, s < 6 ∧ U (c + 1) g = nI s) ∧
  (∀ g, g < n → ∃ h : Nat, h ≤ 101 ∧ U (c + 3) g = nI h ∧ (bt (U c 2) g = false → h ≤ B)) ∧
  (∀ g, n ≤ g → bt (U c 2) g = false) ∧ (∀ f, m ≤ f → bt (U c 3) f = false)
/-- the numbers drawn -/
def Nm (c : Nat) (u t : wSt) : Prop := u.1 64 0 = 1 → t.2.1 79 58 = (u.1 c 1).toInt64 ∧ 0 ≤ u.1 c 1
/-- all that a step looks at -/
def Cx (n m k d c b B : Nat) (u t : wSt) : Prop := PL u.2.2 ∧ PM t.2.2 ∧ TC d ∧ SC c ∧ b < 2 ∧ u.2.2 64 8 = d + 1 ∧ Td n m k d u.1 t.1 ∧ Fl u.1 t.1 ∧ Sc n m c b B u.1 t.1 ∧ Nm c u t ∧ B ≤ 101
section
variable {n m k d c b B : Nat} {u t : wSt}
theorem sits_rl {g : Nat} (h : Cx n m k d c b B u t) (hg : g < n) : F_X0_sits 64 c (nI g) u = some (bI (bt (u.1 c 2 ||| u.1 64 5) g = false)) ∧ F_X9_isOn 79 (nI b) (nI g) t = some (bI (bt (u.1 c 2 ||| u.1 64 5) g = false)) := by
  obtain ⟨hp, hm, hd, hc, hb, h8, ⟨⟨hn, -, -⟩, -, ⟨e2, -, -⟩, -⟩, ⟨-, -, -, -, -, e6, -⟩, ⟨-, hS, -, -⟩, -⟩ := h
  have hg6 : g < 6 := by omega
  have hS := hS g hg
  unfold PM at hm
  constructor
  · unfold F_X0_sits
    rw [bt_sh (by omega)]
    by_cases q : bt (u.1 c 2 ||| u.1 64 5) g = true <;> simp [q, bI]
  · unfold F_X9_isOn F_X9_isGuest F_X9_isOf
    have hgn : (n ≤ g) = False := eq_false (by omega)
    repeat (first | simp (disch := first | assumption | omega) only [↓wB_eq, ↓wC_s, ↓wP_s, ↓wJ_inl, ↓wJ_inr, ↓wG_eq, ↓wSI_eq, ↓wSL_eq, ↓wSZ_eq, ↓wSB_eq, ↓ite_true, ↓ite_false, ↓wR_0, ↓wR_1, ↓wN_1, ↓wR_2, ↓wR_3, ↓wN_3, ↓wR_4, ↓wN_4, ↓wR_5, ↓wN_5, ↓wR_6, ↓wN_6, ↓wR_7, ↓wN_7, ↓wR_8, ↓wN_8, ↓wR_9, ↓wN_9, ↓wR_10, ↓wN_10, ↓wR_11, ↓wN_11, ↓wR_12, ↓wR_13, ↓wN_13, ↓wR_14, ↓wN_14, ↓wR_15, ↓wN_15, ↓wR_16, ↓wN_16, ↓wR_17, ↓wN_17, ↓wR_18, ↓wN_18, ↓wR_19, ↓wR_20, ↓wN_20, ↓wR_21, ↓wN_21, ↓wR_22, ↓wN_22, ↓wR_23, ↓wN_23, ↓wR_24, ↓wN_24, ↓wR_25, ↓wN_25, ↓wR_26, ↓wN_26, ↓wR_27, ↓wN_27, ↓wR_28, ↓wN_28, ↓wR_29, ↓wR_30, ↓wN_30, ↓wR_31, ↓wN_31, ↓wR_32, ↓wN_32, ↓wR_33, ↓wN_33, ↓wR_34, ↓wN_34, ↓wR_35, ↓wN_35, ↓wR_36, ↓wR_37, ↓wN_37, ↓wR_38, ↓wR_39, ↓wN_39, ↓wR_40, ↓wN_40, ↓wR_41, ↓wN_41, ↓wR_42, ↓wN_42, ↓wR_43, ↓wR_44, ↓wN_44, ↓wR_45, ↓wN_45, ↓wR_46, ↓wN_46, ↓wR_47, ↓wN_47, ↓wR_48, ↓wN_48, ↓wR_49, ↓wN_49, ↓wR_50, ↓wR_51, ↓wN_51, ↓wR_52, ↓wN_52, ↓wR_53, ↓wN_53, ↓wR_54, ↓wN_54, ↓wR_55, ↓wN_55, ↓wR_56, ↓wN_56, ↓wR_57, ↓wR_58, ↓wN_58, ↓wR_59, ↓wN_59, ↓wR_60, ↓wN_60, ↓wR_61, ↓wN_61, ↓wR_62, ↓wN_62, ↓wR_63, ↓wN_63, ↓wR_64, ↓wR_65, ↓wN_65, ↓wR_66, ↓wR_67, ↓wN_67, ↓wR_68, ↓wN_68, ↓wR_69, ↓wN_69, ↓wR_70, ↓wR_71, ↓wN_71, ↓wR_72, ↓wN_72, ↓wR_73, ↓wN_73, ↓wR_74, ↓wN_74, ↓wR_75, ↓wN_75, ↓wR_76, ↓wN_76, ↓wR_77, ↓wN_77, ↓wR_78, ↓wN_78, ↓wR_79, ↓wR_80, ↓wN_80, ↓wR_81, ↓wN_81, ↓wR_82, ↓wN_82, ↓wR_83, ↓wN_83, ↓wR_84, ↓wN_84, ↓wR_85, ↓wN_85, ↓wR_86, ↓wN_86, ↓wR_87, ↓wN_87, ↓wR_88, ↓wN_88, ↓wR_89, ↓wN_89, ↓wR_90, ↓wN_90, ↓wR_91, ↓wN_91, ↓wR_92, ↓wN_92, ↓wR_93, ↓wN_93, ↓wR_94, ↓wN_94, ↓wR_95, ↓wN_95, ↓wR_96, ↓wN_96, ↓wR_97, ↓wN_97, ↓wR_98, ↓wN_98, ↓wR_99, ↓wN_99, ↓wR_100, ↓wN_100, ↓wR_101, ↓wN_101, ↓wR_102, ↓wN_102, ↓wR_103, ↓wN_103, ↓wR_104, ↓wN_104, ↓wR_105, ↓wN_105, ↓wR_106, ↓wN_106, ↓wR_107, ↓wN_107, ↓wR_108, ↓wN_108, ↓wR_109, ↓wN_109, ↓wR_110, ↓wN_110, ↓wR_111, ↓wN_111, ↓wR_112, ↓wN_112, ↓wR_113, ↓wN_113, ↓wR_114, ↓wN_114, ↓wR_115, ↓wN_115, ↓wR_116, ↓wN_116, ↓wR_117, ↓wN_117, ↓wR_118, ↓wN_118, ↓wR_119, ↓wN_119, ↓wR_d0, ↓wR_d1, ↓wN_d1, ↓wR_d2, ↓wN_d2, ↓wR_d3, ↓wN_d3, ↓wR_d4, ↓wN_d4, ↓wR_d5, ↓wN_d5, ↓wR_d6, ↓wN_d6, ↓wR_d7, ↓wN_d7, ↓wR_d8, ↓wN_d8, ↓wR_d9, ↓wN_d9, ↓wR_d10, ↓wR_d11, ↓wN_d11, ↓wR_d12, ↓wN_d12, ↓wR_d13, ↓wN_d13, ↓wR_d14, ↓wN_d14, ↓wR_d15, ↓wN_d15, ↓wR_d16, ↓wN_d16, ↓wR_c0, ↓wR_c1, ↓wN_c1, ↓wR_c2, ↓wN_c2, ↓wR_c3, ↓wN_c3, ↓wR_c4, ↓wN_c4, ↓wR_c5, ↓wN_c5, ↓wR_c6, ↓wN_c6] | simp (disch := first | assumption | omega) only [sI_r, sI_l, sL_r, sL_i, sR_i, sR_l, cp_r, cp_l, nI_add, nI_mul, nI_1, nI_leE, nI_ltE, nI_eqI, nI_neg, nI_neg2, nI_nn, nI_leL, nI_geL, nI_ltL, nI_gtL, nI_eqL, nI_mulL, nI_addL, nI_Ladd, nI_subL, wN_lit, bI_0, bI_1, l10, l01, lm0, lm1, or_true, true_or, or_false, false_or, and_true, true_and, sI_eq, Nat.not_lt_zero, eq_self, ite_true, ite_false, not_true_eq_false, not_false_eq_true, Nat.reduceAdd, Nat.reduceMul, Nat.reduceSub, Nat.reduceLT, Nat.reduceLeDiff, Nat.reduceEqDiff, hm, e2, e6, hS, bt_sh, hgn, wP_ite])
    rw [bt_or]
    cases bt (u.1 c 2) g <;> cases bt (u.1 64 5) g <;> simp [bI]
end

/-! the constructors -/
set_option maxRecDepth 100000
def iC : Option (Unit × wSt) := F_X8_init_0 wS00
theorem iC_s : iC.isSome = true := by decide +kernel
def sC : wSt := (iC.get iC_s).2
theorem iC_e : F_X8_init_0 wS00 = some ((), sC) := (Option.some_get iC_s).symm
def iM : Option (Unit × wSt) := F_X9_init_79 sC
theorem iM_s : iM.isSome = true := by decide +kernel
def sM : wSt := (iM.get iM_s).2
theorem iM_e : F_X9_init_79 sC = some ((), sM) := (Option.some_get iM_s).symm
theorem bt_zero (g : Nat) : bt 0 g = false := BitVec.getLsbD_zero
theorem g_PL : PL sC.2.2 := by
  unfold PL
  repeat' apply And.intro
  all_goals decide +kernel
theorem g_PM : PM sM.2.2 := by unfold PM; decide +kernel
theorem g_119 : ∀ k, k < 80 → sM.2.2 79 k ≤ 119 := by decide +kernel
theorem g_Wd : Wd sC.1 sM.1 := by unfold Wd; decide +kernel
theorem g_a : sC.2.2 0 2 = 3 ∧ sC.2.2 0 3 = 20 ∧ sC.1 2 1 = 0 ∧ sC.1 2 2 = 0 ∧ sC.1 2 3 = 0 ∧ sM.1 79 12 = 0 ∧ sM.1 79 13 = 0 ∧ sM.1 79 14 = 0 ∧ sM.1 83 0 = sC.1 2 4 ∧ sM.1 83 1 = sC.1 2 5 ∧ sM.1 83 2 = sC.1 2 6 ∧ sC.1 2 5 = 0 ∧ sC.1 2 6 = 0 ∧ sM.1 79 15 = sC.1 12 0 := by decide +kernel
theorem g_l : ∀ w, w < 3 → sM.1 93 w = 0 ∧ sC.1 13 w = 0 := by decide +kernel
theorem g_b : sC.1 43 0 = 0 ∧ sM.1 112 0 = 0 ∧ sC.1 43 1 = 0 ∧ sC.1 43 2 = 0 ∧ sC.1 43 3 = 0 ∧ sM.2.1 79 58 = 0 ∧ sM.1 79 76 = 0 ∧ sC.1 0 8 = 0 ∧ sC.1 66 0 = 0 ∧ sM.1 79 74 = 0 ∧ sC.1 70 0 = 0 ∧ sM.1 79 70 = 0 ∧ sM.1 79 71 = sC.1 70 1 ∧ sC.1 70 1 = -1 ∧ sC.1 0 1 = 0 ∧ sM.1 79 1 = 0 ∧ sM.1 79 4 = sC.1 36 0 ∧ sC.1 36 0 = 0 ∧ sM.1 79 5 = -1 := by decide +kernel
theorem GR_0 : GR 0 0 0 2 sC sM := by
  obtain ⟨a1, a2, a3, a4, a5, a6, a7, a8, a9, a10, a11, a12, a13, a14⟩ := g_a
  obtain ⟨b1, b2, b3, b4, b5, b6, b7, b8, b9, b10, b11, b12, b13, b14, b15, b16, b17, b18, b19⟩ := g_b
  refine ⟨g_PL, g_PM, Or.inl rfl, a1, a2, ⟨⟨by omega, by omega, by omega⟩, ⟨a3, a4, a5⟩, ⟨a6, a7, a8⟩, ⟨a9, a10, a11⟩, ⟨0, by omega, a12⟩, ⟨0, by omega, a13⟩, fun g h => by omega, fun g h => by omega, fun g h => by omega, fun w hw => ⟨?_, Or.inl (g_l w hw).2, fun e => ?_⟩, a14⟩, ⟨⟨0, by omega, b1, b2⟩, fun g h => by omega, fun g h => by omega, fun g h => by omega, fun g h => by omega, fun g h => ?_, fun g h => ?_⟩, ⟨0, by omega, b1⟩, ⟨fun g h => by omega, fun g i h => by omega⟩, ⟨?_, ?_⟩, ⟨?_, Or.inl b8, fun e => ?_⟩, Un_0 b9 b10, ⟨0, by omega, b11, b12, b13, Or.inl b14, fun i h => by omega⟩, ⟨0, by omega, b15, b16, fun i h => by omega⟩, ⟨b17, fun _ => b19, fun e => absurd b18 e⟩, g_Wd⟩
  · rw [(g_l w hw).1]
    exact (g_l w hw).2.symm
  · rw [(g_l w hw).2] at e
    exact absurd e (by decide)
  · rw [b4]
    exact bt_zero g
  · rw [b5]
    exact bt_zero g
  · rw [b6, b3]
    decide
  · rw [b3]
    decide
  · rw [b7, b8]
  · rw [b8] at e
    exact absurd e (by decide)

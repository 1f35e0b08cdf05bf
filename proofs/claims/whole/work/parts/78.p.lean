/-! images -/
def kp1 (v : wSt) (k : Nat) : wSt := w_sI (w_sI v 118 k (v.1 104 k)) 118 (6 + k) (v.1 108 k)
def kp2 (v : wSt) (k : Nat) : wSt := w_sI (w_sI (w_sI v 118 (12 + k) (v.1 109 k)) 118 (20 + k) (if v.1 110 k = 0 then 0 else 1)) 118 (28 + k) (v.1 111 k)
def bk1 (v : wSt) (k : Nat) : wSt := w_sI (w_sI v 104 k (v.1 118 k)) 108 k (v.1 118 (6 + k))
def bk2 (v : wSt) (k : Nat) : wSt := w_sI (w_sI (w_sI v 109 k (v.1 118 (12 + k))) 110 k (if v.1 118 (20 + k) = 1 then 1 else 0)) 111 k (v.1 118 (28 + k))
section
variable {n m k d c b B : Nat} {u t : wSt}
theorem keep9 (hm : PM t.2.2) : ∃ t', F_X9_keep 79 t = some (t.1 112 0, t') ∧ t'.2.2 = t.2.2 ∧ t'.2.1 79 58 = t.2.1 79 58 ∧ t'.2.1 79 79 = t.2.1 79 58 ∧ (∀ x j, ¬ (x = 117 ∨ x = 118 ∨ (x = 79 ∧ (j = 2 ∨ j = 76))) → t'.1 x j = t.1 x j) ∧ t'.1 79 76 = 1 ∧ t'.1 118 36 = t.1 112 0 ∧ (∀ g, g < 6 → t'.1 117 g = t.1 106 g ∧ t'.1 117 (6 + g) = t.1 105 g ∧ t'.1 117 (12 + g) = (if t.1 107 g = 0 then 0 else 1) ∧ t'.1 118 g = t.1 104 g ∧ t'.1 118 (6 + g) = t.1 108 g) ∧ (∀ f, f < 8 → t'.1 118 (12 + f) = t.1 109 f ∧ t'.1 118 (20 + f) = (if t.1 110 f = 0 then 0 else 1) ∧ t'.1 118 (28 + f) = t.1 111 f) := by
  obtain ⟨t0, et0⟩ : ∃ t0, t0 = w_sI (w_sI t 79 2 0) 79 76 1 := ⟨_, rfl⟩
  have t0n : ∀ x j, ¬ (x = 79 ∧ (j = 2 ∨ j = 76)) → t0.1 x j = t.1 x j := fun x j w => by
    rw [et0, show (w_sI (w_sI t 79 2 0) 79 76 1).1 x j = (w_sI t 79 2 0).1 x j from if_neg (by omega)]
    exact if_neg (by omega)
  have t02 : t0.2 = t.2 := by rw [et0]; rfl
  have hm0 : PM t0.2.2 := by rw [t02]; exact hm
  have q77 : t0.2.2 79 77 = 118 := by simp only [PM_u hm0]
  obtain ⟨t1, a1, a2, a3, a4⟩ := put9 (a := 117) (i := 0) hm0 (Or.inr rfl) (by decide)
  have a1 : F_X9_put 79 117 (0 : Int32) t0 = some ((), t1) := a1
  have t12 : t1.2 = t.2 := a2.trans t02
  have k1 : Ro (fun y => ∃ v : wSt, y = Sum.inl v ∧ v.2 = t.2 ∧ (∀ x j, x ≠ 118 → v.1 x j = t1.1 x j) ∧ (∀ g, g < 6 → v.1 118 g = t1.1 104 g ∧ v.1 118 (6 + g) = t1.1 108 g)) (wL (S := Int32 × wSt) (fun x => F_X9_keep_b21 79 x.1 x.2) wFu ((0 : Int32), t1)) := by
    refine wL_ro (fun k x => ∃ v : wSt, x = (nI k, v) ∧ v.2 = t.2 ∧ (∀ x j, x ≠ 118 → v.1 x j = t1.1 x j) ∧ (∀ g, g < k → v.1 118 g = t1.1 104 g ∧ v.1 118 (6 + g) = t1.1 108 g)) _ 6 (by unfold wFu; omega) ?_ ⟨t1, rfl, t12, fun _ _ _ => rfl, fun g h => by omega⟩
    rintro k x hk ⟨v, rfl, hv2, hv0, hR⟩
    have hmv : PM v.2.2 := by rw [hv2]; exact hm
    unfold F_X9_keep_b21
    dsimp only
    have e6 : ((6 : Int32) ≤ nI k) = (6 ≤ k) := nI_leE (a := 6) (b := k) (by omega) (by omega)
    by_cases h6 : k = 6
    · right
      subst h6
      exact ⟨.inl v, if_pos (by decide), v, rfl, hv2, hv0, hR⟩
    · left
      have q78 : v.2.2 79 78 = 119 := by simp only [PM_u hmv]
      have q49 : v.2.2 79 49 = 105 := by simp only [PM_u hmv]
      have q53 : v.2.2 79 53 = 109 := by simp only [PM_u hmv]
      refine ⟨(nI (k + 1), kp1 v k), ?_, by omega, _, rfl, hv2, fun x j w => ?_, fun g hg => ?_⟩
      · unfold kp1
        rw [if_neg (by rw [e6]; omega), q78, wR_118, q49, wR_104, wN_104 _ (by omega), wSI_eq, wN_118 _ (by omega), sI_r, q78, wR_118, q53, wR_108, wN_108 _ (by omega), sI_ne _ _ _ _ _ _ (by decide), nI_Ladd, wSI_eq, wN_118 _ (by omega), wB_eq, nI_addL]
      · unfold kp1
        rw [sI_ne _ _ _ _ _ _ w, sI_ne _ _ _ _ _ _ w]
        exact hv0 x j w
      · unfold kp1
        by_cases hgk : g = k
        · subst hgk
          exact ⟨by rw [sI_ne2 _ _ _ _ _ _ (by omega), sI_eq, hv0 _ _ (by decide)], by rw [sI_eq, hv0 _ _ (by decide)]⟩
        · rw [sI_ne2 _ _ _ _ _ _ (by omega), sI_ne2 _ _ _ _ _ _ (by omega), sI_ne2 _ _ _ _ _ _ (by omega), sI_ne2 _ _ _ _ _ _ (by omega)]
          exact hR g (by omega)
  obtain ⟨y, hy, t3, rfl, b2, b3, b4⟩ := k1
  have k2 : Ro (fun y => ∃ v : wSt, y = Sum.inl v ∧ v.2 = t.2 ∧ (∀ x j, ¬ (x = 118 ∧ 12 ≤ j ∧ j < 36) → v.1 x j = t3.1 x j) ∧ (∀ f, f < 8 → v.1 118 (12 + f) = t3.1 109 f ∧ v.1 118 (20 + f) = (if t3.1 110 f = 0 then 0 else 1) ∧ v.1 118 (28 + f) = t3.1 111 f)) (wL (S := Int32 × wSt) (fun x => F_X9_keep_b62 79 x.1 x.2) wFu ((0 : Int32), t3)) := by
    refine wL_ro (fun k x => ∃ v : wSt, x = (nI k, v) ∧ v.2 = t.2 ∧ (∀ x j, ¬ (x = 118 ∧ 12 ≤ j ∧ j < 36) → v.1 x j = t3.1 x j) ∧ (∀ f, f < k → v.1 118 (12 + f) = t3.1 109 f ∧ v.1 118 (20 + f) = (if t3.1 110 f = 0 then 0 else 1) ∧ v.1 118 (28 + f) = t3.1 111 f)) _ 8 (by unfold wFu; omega) ?_ ⟨t3, rfl, b2, fun _ _ _ => rfl, fun g h => by omega⟩
    rintro k x hk ⟨v, rfl, hv2, hv0, hR⟩
    have hmv : PM v.2.2 := by rw [hv2]; exact hm
    unfold F_X9_keep_b62 F_X9_keep_j105
    dsimp only
    have e8 : ((8 : Int32) ≤ nI k) = (8 ≤ k) := nI_leE (a := 8) (b := k) (by omega) (by omega)
    by_cases h8 : k = 8
    · right
      subst h8
      exact ⟨.inl v, if_pos (by decide), v, rfl, hv2, hv0, hR⟩
    · left
      have q78 : v.2.2 79 78 = 119 := by simp only [PM_u hmv]
      have q54 : v.2.2 79 54 = 110 := by simp only [PM_u hmv]
      have q55 : v.2.2 79 55 = 111 := by simp only [PM_u hmv]
      have q56 : v.2.2 79 56 = 112 := by simp only [PM_u hmv]
      have i12 : (12 : Int32) + nI k = nI (12 + k) := nI_Ladd k 12
      have i20 : (20 : Int32) + nI k = nI (20 + k) := nI_Ladd k 20
      have i28 : (28 : Int32) + nI k = nI (28 + k) := nI_Ladd k 28
      refine ⟨(nI (k + 1), kp2 v k), ?_, by omega, _, rfl, hv2, fun x j w => ?_, fun g hg => ?_⟩
      · unfold kp2
        rw [if_neg (by rw [e8]; omega), q78, wR_118, q54, wR_109, wN_109 _ (by omega), i12, wSI_eq, wN_118 _ (by omega), sI_r, q78, wR_118, q55, wR_110, wN_110 _ (by omega), sI_ne _ _ _ _ _ _ (by decide)]
        by_cases z : v.1 110 k = 0
        · rw [if_pos z, wJ_inl, i20, wSI_eq, wN_118 _ (by omega), sI_r, sI_r, q78, wR_118, q56, wR_111, wN_111 _ (by omega), sI_ne _ _ _ _ _ _ (by decide), sI_ne _ _ _ _ _ _ (by decide), i28, wSI_eq, wN_118 _ (by omega), wB_eq, nI_addL, if_pos z]
        · rw [if_neg z, wJ_inl, i20, wSI_eq, wN_118 _ (by omega), sI_r, sI_r, q78, wR_118, q56, wR_111, wN_111 _ (by omega), sI_ne _ _ _ _ _ _ (by decide), sI_ne _ _ _ _ _ _ (by decide), i28, wSI_eq, wN_118 _ (by omega), wB_eq, nI_addL, if_neg z]
      · have g : ∀ (w : wSt) (j' : Nat) (y : Int32), 12 ≤ j' → j' < 36 → (w_sI w 118 j' y).1 x j = w.1 x j := fun w j' y h1 h2 => if_neg (by omega)
        unfold kp2
        rw [g _ _ _ (by omega) (by omega), g _ _ _ (by omega) (by omega), g _ _ _ (by omega) (by omega)]
        exact hv0 x j w
      · unfold kp2
        by_cases hgk : g = k
        · subst hgk
          refine ⟨?_, ?_, ?_⟩
          · rw [sI_ne2 _ _ _ _ _ _ (by omega), sI_ne2 _ _ _ _ _ _ (by omega), sI_eq, hv0 _ _ (by omega)]
          · rw [sI_ne2 _ _ _ _ _ _ (by omega), sI_eq, hv0 _ _ (by omega)]
          · rw [sI_eq, hv0 _ _ (by omega)]
        · rw [sI_ne2 _ _ _ _ _ _ (by omega), sI_ne2 _ _ _ _ _ _ (by omega), sI_ne2 _ _ _ _ _ _ (by omega), sI_ne2 _ _ _ _ _ _ (by omega), sI_ne2 _ _ _ _ _ _ (by omega), sI_ne2 _ _ _ _ _ _ (by omega), sI_ne2 _ _ _ _ _ _ (by omega), sI_ne2 _ _ _ _ _ _ (by omega), sI_ne2 _ _ _ _ _ _ (by omega)]
          exact hR g (by omega)
  obtain ⟨y, hy2, t5, rfl, d2, d3, d4⟩ := k2
  have hm5 : PM t5.2.2 := by rw [d2]; exact hm
  have q78 : t5.2.2 79 78 = 119 := by simp only [PM_u hm5]
  have q57 : t5.2.2 79 57 = 113 := by simp only [PM_u hm5]
  have e1 : ∀ x j, x ≠ 117 → x ≠ 118 → x ≠ 79 → t5.1 x j = t.1 x j := fun x j w1 w2 w3 => by rw [d3 _ _ (by omega), b3 _ _ w2, a3 _ _ (by omega), t0n _ _ (by omega)]
  have e112 : t5.1 112 0 = t.1 112 0 := e1 _ _ (by decide) (by decide) (by decide)
  refine ⟨w_sL (w_sI t5 118 36 (t.1 112 0)) 79 79 (t.2.1 79 58), ?_, by show t5.2.2 = t.2.2; rw [d2], ?_, sL_eq _ _ _ _, fun x j w => ?_, ?_, ?_, fun g hg => ?_, fun f hf => ?_⟩
  · unfold F_X9_keep F_X9_keep_j60 F_X9_keep_j127
    rw [wB_eq, wB_eq, ← et0, q77, wR_117, a1, wC_s, hy, wJ_inl, hy2, wJ_inl, q78, wR_118, q57, wR_112, wN_lit, wN_112 _ (by omega), e112, wSI_eq, wN_lit, wN_118 _ (by omega), wB_eq]
    have e58 : (w_sI t5 118 36 (t.1 112 0)).2.1 79 58 = t.2.1 79 58 := by show t5.2.1 79 58 = _; rw [d2]
    rw [e58, sL_r, sI_r, q57, wR_112, wN_lit, wN_112 _ (by omega)]
    have : (w_sL (w_sI t5 118 36 (t.1 112 0)) 79 79 (t.2.1 79 58)).1 112 0 = t.1 112 0 := by
      show (w_sI t5 118 36 (t.1 112 0)).1 112 0 = _
      rw [sI_ne _ _ _ _ _ _ (by decide), e112]
    rw [this]
  · rw [sL_ne2 _ _ _ _ _ _ (by decide)]
    show t5.2.1 79 58 = t.2.1 79 58
    rw [d2]
  · show (w_sI t5 118 36 (t.1 112 0)).1 x j = t.1 x j
    rw [sI_ne _ _ _ _ _ _ (by omega), d3 _ _ (by omega), b3 _ _ (by omega), a3 _ _ (by omega), t0n _ _ (by omega)]
  · show (w_sI t5 118 36 (t.1 112 0)).1 79 76 = 1
    rw [sI_ne _ _ _ _ _ _ (by decide), d3 _ _ (by omega), b3 _ _ (by omega), a3 _ _ (by omega), et0]
    exact sI_eq _ _ _ _
  · show (w_sI t5 118 36 (t.1 112 0)).1 118 36 = t.1 112 0
    exact sI_eq _ _ _ _
  · have z := a4 g hg
    have y := b4 g hg
    simp only [Nat.zero_add] at z
    show (w_sI t5 118 36 (t.1 112 0)).1 117 g = _ ∧ (w_sI t5 118 36 (t.1 112 0)).1 117 (6 + g) = _ ∧ (w_sI t5 118 36 (t.1 112 0)).1 117 (12 + g) = _ ∧ (w_sI t5 118 36 (t.1 112 0)).1 118 g = _ ∧ (w_sI t5 118 36 (t.1 112 0)).1 118 (6 + g) = _
    rw [sI_ne _ _ _ _ _ _ (by decide), sI_ne _ _ _ _ _ _ (by decide), sI_ne _ _ _ _ _ _ (by decide), sI_ne2 _ _ _ _ _ _ (by omega), sI_ne2 _ _ _ _ _ _ (by omega), d3 117 g (by omega), d3 117 (6 + g) (by omega), d3 117 (12 + g) (by omega), d3 118 g (by omega), d3 118 (6 + g) (by omega), b3 117 g (by decide), b3 117 (6 + g) (by decide), b3 117 (12 + g) (by decide), y.1, y.2, z.1, z.2.1, z.2.2, a3 104 g (by omega), a3 108 g (by omega), t0n 106 g (by omega), t0n 105 g (by omega), t0n 107 g (by omega), t0n 104 g (by omega), t0n 108 g (by omega)]
    exact ⟨rfl, rfl, rfl, rfl, rfl⟩
  · have z := d4 f hf
    show (w_sI t5 118 36 (t.1 112 0)).1 118 (12 + f) = _ ∧ (w_sI t5 118 36 (t.1 112 0)).1 118 (20 + f) = _ ∧ (w_sI t5 118 36 (t.1 112 0)).1 118 (28 + f) = _
    have e3 : ∀ x j, x ≠ 117 → x ≠ 118 → x ≠ 79 → t3.1 x j = t.1 x j := fun x j w1 w2 w3 => by rw [b3 _ _ w2, a3 _ _ (by omega), t0n _ _ (by omega)]
    rw [sI_ne2 _ _ _ _ _ _ (by omega), sI_ne2 _ _ _ _ _ _ (by omega), sI_ne2 _ _ _ _ _ _ (by omega), z.1, z.2.1, z.2.2, e3 109 f (by decide) (by decide) (by decide), e3 110 f (by decide) (by decide) (by decide), e3 111 f (by decide) (by decide) (by decide)]
    exact ⟨rfl, rfl, rfl⟩
theorem M_keep (h : GR n m k d u t) : QM (F_X8_keep 0 u) (F_X9_keep 79 t) := by
  have hm := h.2.1
  have h' := h
  obtain ⟨hp, -, hd, h2, -, hT, hS, ⟨s, hs, es⟩, hP, hN, hI, hU, hG, -⟩ := h'
  have n6 := hT.1.1
  have m8 := hT.1.2.1
  obtain ⟨o1, o2⟩ := Sc_old hS
  obtain ⟨t', a1, a2, a3, a4, a5, a6, a7, a8, a9⟩ := keep9 hm
  obtain ⟨u1, f1, f2, f3, f4, f5, f6⟩ := take_c (a := 50) (b := 43) hp (Or.inr (Or.inl rfl)) (Or.inl rfl) (by decide)
  have r6 : u.2.2 0 6 = 51 := by simp only [PL_u hp]
  have r5 : u.2.2 0 5 = 44 := by simp only [PL_u hp]
  have hp1 : PL u1.2.2 := by rw [f2]; exact hp
  have r5' : u1.2.2 0 5 = 44 := by simp only [PL_u hp1]
  have est : t.1 112 0 = nI s := by
    obtain ⟨s', -, w1, w2⟩ := hS.1
    rw [w2, ← w1]
    exact es
  have un : ∀ a j, ¬ (a = 0 ∧ j = 8) → (w_sI u1 0 8 1).1 a j = u1.1 a j := fun a j w => if_neg w
  have uo : ∀ a j, ¬ (a = 0 ∧ j = 8) → ¬ (50 ≤ a ∧ a ≤ 56) → (w_sI u1 0 8 1).1 a j = u.1 a j := fun a j w w' => by rw [un a j w]; exact f3 a j (by omega)
  unfold F_X8_keep
  rw [r6, wR_50, r5, wR_43, f1, wC_s, wB_eq, sI_r, r5', wR_43, sI_ne _ _ _ _ _ _ (by decide), f3 43 0 (by omega), es, a1, est]
  refine ⟨_, _, t', rfl, rfl, n, m, k, d, GR_upd h (fun a j _ => by show u1.2.2 a j = _; rw [f2]) a2 (fun a j w w' => uo a j w' (by omega)) (fun j w w' => a5 79 j (by omega)) (fun a j w w' => a5 a j (by omega)) (Sc_fr n6 m8 hS (fun a j w w' _ => uo a j (by omega) (by omega)) (fun a j w w' _ _ _ => a5 a j (by omega))) ⟨s, hs, by rw [uo 43 0 (by omega) (by omega)]; exact es⟩ (SP_fr hP (fun g _ => uo _ _ (by omega) (by omega))) (by rw [uo 43 1 (by omega) (by omega), a3]; exact hN) ⟨?_, Or.inr (sI_eq _ _ _ _), fun _ => ⟨⟨s, hs, ?_, ?_⟩, fun g hg => ?_, fun f hf => ?_, SP_fr (c := 50) (U := fun a j => u.1 (a - 7) j) hP (fun g hg => ?_), fun g hg => ?_, fun g hg => ?_, fun f hf => ?_, ?_, ?_⟩⟩ (Un_fr hU (funext fun j => uo _ _ (by omega) (by omega)) (funext fun j => uo _ _ (by omega) (by omega)) (uo _ _ (by omega) (by omega)) (fun a w w' => funext fun j => uo _ _ (by omega) (by omega)) (a5 _ _ (by omega)) (funext fun j => a5 _ _ (by omega))) (Sg_fr hG (fun a w w' => funext fun j => uo _ _ (by omega) (by omega)) (a5 _ _ (by omega)) (a5 _ _ (by omega)) (funext fun j => a5 _ _ (by omega)))⟩
  · rw [a6, sI_eq]
  · rw [un 50 0 (by omega), f4 0 (by omega)]
    exact es
  · rw [a7]
    exact est
  · have z := a8 g (by omega)
    have y := o1 g hg
    rw [z.1, z.2.1, z.2.2.1, z.2.2.2.1, z.2.2.2.2, un 51 g (by omega), un 52 g (by omega), un 53 g (by omega), un 54 g (by omega), un 50 2 (by omega), f4 2 (by omega), f5 1 g (by omega) (by omega) (by omega), f5 2 g (by omega) (by omega) (by omega), f5 3 g (by omega) (by omega) (by omega), f5 4 g (by omega) (by omega) (by omega)]
    exact ⟨y.1, y.2.2.1, bI_01 y.2.2.2.2, y.2.1, y.2.2.2.1⟩
  · have z := a9 f (by omega)
    have y := o2 f hf
    rw [z.1, z.2.1, z.2.2, un 55 f (by omega), un 56 f (by omega), un 50 3 (by omega), f4 3 (by omega), f6 5 f (by omega) (by omega) (by omega), f6 6 f (by omega) (by omega) (by omega)]
    refine ⟨y.1, ?_, y.2.1⟩
    exact bI_01 y.2.2
  · rw [un 51 g (by omega)]
    exact f5 1 g (by omega) (by omega) (by omega)
  · rw [un 53 g (by omega), un 50 2 (by omega), f4 2 (by omega), f5 3 g (by omega) (by omega) (by omega)]
    exact hS.2.2.2.2.1 g hg
  · rw [un 50 2 (by omega), f4 2 (by omega)]
    exact hS.2.2.2.2.2.1 g hg
  · rw [un 50 3 (by omega), f4 3 (by omega)]
    exact hS.2.2.2.2.2.2 f hf
  · rw [a4, un 50 1 (by omega), f4 1 (by omega)]
    exact hN.1
  · rw [un 50 1 (by omega), f4 1 (by omega)]
    exact hN.2
end

/-! back -/
section
variable {n m k d c b B : Nat} {u t : wSt}
theorem back9 (hm : PM t.2.2) (h76 : t.1 79 76 ≠ 0) : ∃ t', (wR (t.2.2 79 77) 14 (fun o3 => wC (F_X9_take 79 o3 (0 : Int32) t) (fun _ (u4 : wSt) => wJ (X := wSt) (wL (S := Int32 × wSt) (fun x => F_X9_back_b25 79 x.1 x.2) wFu ((0 : Int32), u4)) (fun x => F_X9_back_j64 79 x)))) = some (t.1 118 36, t') ∧ t'.2.2 = t.2.2 ∧ t'.2.1 79 58 = t.2.1 79 79 ∧ t'.2.1 79 79 = t.2.1 79 79 ∧ (∀ x j, ¬ ((104 ≤ x ∧ x ≤ 112) ∨ (x = 79 ∧ j = 74)) → t'.1 x j = t.1 x j) ∧ t'.1 79 74 = 0 ∧ t'.1 112 0 = t.1 118 36 ∧ (∀ g, g < 6 → t'.1 106 g = t.1 117 g ∧ t'.1 105 g = t.1 117 (6 + g) ∧ t'.1 107 g = (if t.1 117 (12 + g) = 1 then 1 else 0) ∧ t'.1 104 g = t.1 118 g ∧ t'.1 108 g = t.1 118 (6 + g)) ∧ (∀ f, f < 8 → t'.1 109 f = t.1 118 (12 + f) ∧ t'.1 110 f = (if t.1 118 (20 + f) = 1 then 1 else 0) ∧ t'.1 111 f = t.1 118 (28 + f)) := by
  have q77 : t.2.2 79 77 = 118 := by simp only [PM_u hm]
  obtain ⟨t1, a1, a2, a3, a4⟩ := take9 (a := 117) (i := 0) hm (Or.inr rfl) (by decide)
  have a1 : F_X9_take 79 117 (0 : Int32) t = some ((), t1) := a1
  have k1 : Ro (fun y => ∃ v : wSt, y = Sum.inl v ∧ v.2 = t.2 ∧ (∀ x j, ¬ ((x = 104 ∨ x = 108) ∧ j < 6) → v.1 x j = t1.1 x j) ∧ (∀ g, g < 6 → v.1 104 g = t1.1 118 g ∧ v.1 108 g = t1.1 118 (6 + g))) (wL (S := Int32 × wSt) (fun x => F_X9_back_b25 79 x.1 x.2) wFu ((0 : Int32), t1)) := by
    refine wL_ro (fun k x => ∃ v : wSt, x = (nI k, v) ∧ v.2 = t.2 ∧ (∀ x j, ¬ ((x = 104 ∨ x = 108) ∧ j < 6) → v.1 x j = t1.1 x j) ∧ (∀ g, g < k → v.1 104 g = t1.1 118 g ∧ v.1 108 g = t1.1 118 (6 + g))) _ 6 (by unfold wFu; omega) ?_ ⟨t1, rfl, a2, fun _ _ _ => rfl, fun g h => by omega⟩
    rintro k x hk ⟨v, rfl, hv2, hv0, hR⟩
    have hmv : PM v.2.2 := by rw [hv2]; exact hm
    unfold F_X9_back_b25
    dsimp only
    have e6 : ((6 : Int32) ≤ nI k) = (6 ≤ k) := nI_leE (a := 6) (b := k) (by omega) (by omega)
    by_cases h6 : k = 6
    · right
      subst h6
      exact ⟨.inl v, if_pos (by decide), v, rfl, hv2, hv0, hR⟩
    · left
      have q78 : v.2.2 79 78 = 119 := by simp only [PM_u hmv]
      have q49 : v.2.2 79 49 = 105 := by simp only [PM_u hmv]
      have q53 : v.2.2 79 53 = 109 := by simp only [PM_u hmv]
      refine ⟨(nI (k + 1), bk1 v k), ?_, by omega, _, rfl, hv2, fun x j w => ?_, fun g hg => ?_⟩
      · unfold bk1
        rw [if_neg (by rw [e6]; omega), q49, wR_104, q78, wR_118, wN_118 _ (by omega), wSI_eq, wN_104 _ (by omega), sI_r, q53, wR_108, q78, wR_118, nI_Ladd, wN_118 _ (by omega), sI_ne _ _ _ _ _ _ (by decide), wSI_eq, wN_108 _ (by omega), wB_eq, nI_addL]
      · unfold bk1
        rw [show ∀ (w : wSt) (y : Int32), (w_sI w 108 k y).1 x j = w.1 x j from fun _ _ => if_neg (by omega), show ∀ (w : wSt) (y : Int32), (w_sI w 104 k y).1 x j = w.1 x j from fun _ _ => if_neg (by omega)]
        exact hv0 x j w
      · unfold bk1
        by_cases hgk : g = k
        · subst hgk
          exact ⟨by rw [sI_ne _ _ _ _ _ _ (by decide), sI_eq, hv0 _ _ (by omega)], by rw [sI_eq, hv0 _ _ (by omega)]⟩
        · rw [sI_ne2 _ _ _ _ _ _ hgk, sI_ne2 _ _ _ _ _ _ hgk, sI_ne2 _ _ _ _ _ _ hgk, sI_ne2 _ _ _ _ _ _ hgk]
          exact hR g (by omega)
  obtain ⟨y, hy, t3, rfl, b2, b3, b4⟩ := k1
  have k2 : Ro (fun y => ∃ v : wSt, y = Sum.inl v ∧ v.2 = t.2 ∧ (∀ x j, ¬ ((109 ≤ x ∧ x ≤ 111) ∧ j < 8) → v.1 x j = t3.1 x j) ∧ (∀ f, f < 8 → v.1 109 f = t3.1 118 (12 + f) ∧ v.1 110 f = (if t3.1 118 (20 + f) = 1 then 1 else 0) ∧ v.1 111 f = t3.1 118 (28 + f))) (wL (S := Int32 × wSt) (fun x => F_X9_back_b66 79 x.1 x.2) wFu ((0 : Int32), t3)) := by
    refine wL_ro (fun k x => ∃ v : wSt, x = (nI k, v) ∧ v.2 = t.2 ∧ (∀ x j, ¬ ((109 ≤ x ∧ x ≤ 111) ∧ j < 8) → v.1 x j = t3.1 x j) ∧ (∀ f, f < k → v.1 109 f = t3.1 118 (12 + f) ∧ v.1 110 f = (if t3.1 118 (20 + f) = 1 then 1 else 0) ∧ v.1 111 f = t3.1 118 (28 + f))) _ 8 (by unfold wFu; omega) ?_ ⟨t3, rfl, b2, fun _ _ _ => rfl, fun g h => by omega⟩
    rintro k x hk ⟨v, rfl, hv2, hv0, hR⟩
    have hmv : PM v.2.2 := by rw [hv2]; exact hm
    unfold F_X9_back_b66 F_X9_back_j110
    dsimp only
    have e8 : ((8 : Int32) ≤ nI k) = (8 ≤ k) := nI_leE (a := 8) (b := k) (by omega) (by omega)
    by_cases h8 : k = 8
    · right
      subst h8
      exact ⟨.inl v, if_pos (by decide), v, rfl, hv2, hv0, hR⟩
    · left
      have q78 : v.2.2 79 78 = 119 := by simp only [PM_u hmv]
      have q54 : v.2.2 79 54 = 110 := by simp only [PM_u hmv]
      have q55 : v.2.2 79 55 = 111 := by simp only [PM_u hmv]
      have q56 : v.2.2 79 56 = 112 := by simp only [PM_u hmv]
      have i12 : (12 : Int32) + nI k = nI (12 + k) := nI_Ladd k 12
      have i20 : (20 : Int32) + nI k = nI (20 + k) := nI_Ladd k 20
      have i28 : (28 : Int32) + nI k = nI (28 + k) := nI_Ladd k 28
      have e1 : ∀ j, v.1 118 j = t3.1 118 j := fun j => hv0 _ _ (by omega)
      refine ⟨(nI (k + 1), bk2 v k), ?_, by omega, _, rfl, hv2, fun x j w => ?_, fun g hg => ?_⟩
      · unfold bk2
        rw [if_neg (by rw [e8]; omega), q54, wR_109, q78, wR_118, i12, wN_118 _ (by omega), wSI_eq, wN_109 _ (by omega), sI_r, q55, wR_110, q78, wR_118, i20, wN_118 _ (by omega), sI_ne _ _ _ _ _ _ (by decide)]
        by_cases z : v.1 118 (20 + k) = 1
        · rw [if_pos z, wJ_inl, wSZ_eq, wN_110 _ (by omega), show (1 : Int32) &&& 1 = 1 from by decide, sI_r, sI_r, q56, wR_111, q78, wR_118, i28, wN_118 _ (by omega), sI_ne _ _ _ _ _ _ (by decide), sI_ne _ _ _ _ _ _ (by decide), wSI_eq, wN_111 _ (by omega), wB_eq, nI_addL, if_pos z]
        · rw [if_neg z, wJ_inl, wSZ_eq, wN_110 _ (by omega), show (0 : Int32) &&& 1 = 0 from by decide, sI_r, sI_r, q56, wR_111, q78, wR_118, i28, wN_118 _ (by omega), sI_ne _ _ _ _ _ _ (by decide), sI_ne _ _ _ _ _ _ (by decide), wSI_eq, wN_111 _ (by omega), wB_eq, nI_addL, if_neg z]
      · have g : ∀ (w : wSt) (x' : Nat) (y : Int32), 109 ≤ x' → x' ≤ 111 → (w_sI w x' k y).1 x j = w.1 x j := fun w x' y h1 h2 => if_neg (by omega)
        unfold bk2
        rw [g _ _ _ (by omega) (by omega), g _ _ _ (by omega) (by omega), g _ _ _ (by omega) (by omega)]
        exact hv0 x j w
      · unfold bk2
        by_cases hgk : g = k
        · subst hgk
          refine ⟨?_, ?_, ?_⟩
          · rw [sI_ne _ _ _ _ _ _ (by decide), sI_ne _ _ _ _ _ _ (by decide), sI_eq, e1]
          · rw [sI_ne _ _ _ _ _ _ (by decide), sI_eq, e1]
          · rw [sI_eq, e1]
        · rw [sI_ne2 _ _ _ _ _ _ hgk, sI_ne2 _ _ _ _ _ _ hgk, sI_ne2 _ _ _ _ _ _ hgk, sI_ne2 _ _ _ _ _ _ hgk, sI_ne2 _ _ _ _ _ _ hgk, sI_ne2 _ _ _ _ _ _ hgk, sI_ne2 _ _ _ _ _ _ hgk, sI_ne2 _ _ _ _ _ _ hgk, sI_ne2 _ _ _ _ _ _ hgk]
          exact hR g (by omega)
  obtain ⟨y, hy2, t5, rfl, d2, d3, d4⟩ := k2
  have hm5 : PM t5.2.2 := by rw [d2]; exact hm
  have q78 : t5.2.2 79 78 = 119 := by simp only [PM_u hm5]
  have q57 : t5.2.2 79 57 = 113 := by simp only [PM_u hm5]
  have e1 : ∀ x j, ¬ (104 ≤ x ∧ x ≤ 112) → t5.1 x j = t.1 x j := fun x j w => by rw [d3 _ _ (by omega), b3 _ _ (by omega), a3 _ _ (by omega)]
  have e118 : t5.1 118 36 = t.1 118 36 := e1 _ _ (by omega)
  obtain ⟨t6, et6⟩ : ∃ t6, t6 = w_sI (w_sL (w_sI t5 112 0 (t.1 118 36)) 79 58 (t.2.1 79 79)) 79 74 0 := ⟨_, rfl⟩
  have t6n : ∀ x j, ¬ (x = 112 ∧ j = 0) → ¬ (x = 79 ∧ j = 74) → t6.1 x j = t5.1 x j := fun x j w w' => by
    rw [et6, show (w_sI (w_sL (w_sI t5 112 0 (t.1 118 36)) 79 58 (t.2.1 79 79)) 79 74 0).1 x j = (w_sI t5 112 0 (t.1 118 36)).1 x j from if_neg w']
    exact if_neg w
  have t62 : t6.2.2 = t.2.2 := by rw [et6]; show t5.2.2 = t.2.2; rw [d2]
  have t6e : t6.1 112 0 = t.1 118 36 := by rw [et6, sI_ne _ _ _ _ _ _ (by decide)]; exact sI_eq t5 112 0 (t.1 118 36)
  refine ⟨t6, ?_, t62, ?_, ?_, fun x j w => ?_, ?_, t6e, fun g hg => ?_, fun f hf => ?_⟩
  · unfold F_X9_back_j64 F_X9_back_j132
    have e58 : (w_sI t5 112 0 (t.1 118 36)).2.1 79 79 = t.2.1 79 79 := by show t5.2.1 79 79 = _; rw [d2]
    have q57' : t6.2.2 79 57 = 113 := by rw [t62]; simp only [PM_u hm]
    rw [q77, wR_117, a1, wC_s, hy, wJ_inl, hy2, wJ_inl, q57, wR_112, q78, wR_118, wN_lit, wN_118 _ (by omega), e118, wSI_eq, wN_lit, wN_112 _ (by omega), wB_eq, wB_eq, e58, ← et6, q57', wR_112, wN_lit, wN_112 _ (by omega), t6e]
  · rw [et6]
    exact sL_eq _ _ _ _
  · rw [et6]
    show (w_sL (w_sI t5 112 0 (t.1 118 36)) 79 58 (t.2.1 79 79)).2.1 79 79 = _
    rw [sL_ne2 _ _ _ _ _ _ (by decide)]
    show t5.2.1 79 79 = _
    rw [d2]
  · rw [t6n _ _ (by omega) (by omega)]
    exact e1 _ _ (by omega)
  · rw [et6]
    exact sI_eq _ _ _ _
  · have z := a4 g hg
    have y := b4 g hg
    simp only [Nat.zero_add] at z
    rw [t6n 106 g (by omega) (by omega), t6n 105 g (by omega) (by omega), t6n 107 g (by omega) (by omega), t6n 104 g (by omega) (by omega), t6n 108 g (by omega) (by omega), d3 106 g (by omega), d3 105 g (by omega), d3 107 g (by omega), d3 104 g (by omega), d3 108 g (by omega), y.1, y.2, b3 106 g (by omega), b3 105 g (by omega), b3 107 g (by omega), z.1, z.2.1, z.2.2, a3 118 g (by omega), a3 118 (6 + g) (by omega)]
    exact ⟨rfl, rfl, rfl, rfl, rfl⟩
  · have z := d4 f hf
    have e3 : ∀ j, t3.1 118 j = t.1 118 j := fun j => by rw [b3 _ _ (by omega), a3 _ _ (by omega)]
    rw [t6n 109 f (by omega) (by omega), t6n 110 f (by omega) (by omega), t6n 111 f (by omega) (by omega), z.1, z.2.1, z.2.2, e3, e3, e3]
    exact ⟨rfl, rfl, rfl⟩
theorem M_back (h : GR n m k d u t) : QM (F_X8_back 0 u) (F_X9_back 79 t) := by
  unfold F_X9_back
  obtain ⟨t0, et⟩ : ∃ t0, t0 = w_sI t 79 2 (0 : Int32) := ⟨_, rfl⟩
  have hK0 : KT t t0 := by rw [et]; exact KT_s (by unfold scr; omega)
  have h := GR_fr h (KC_rf u) hK0
  rw [wB_eq, ← et]
  have hm := h.2.1
  have h' := h
  obtain ⟨hp, -, hd, h2, -, hT, hS, hs, hP, hN, hI, hU, hG, -⟩ := h'
  have n6 := hT.1.1
  have m8 := hT.1.2.1
  obtain ⟨i1, i2, i3⟩ := hI
  unfold F_X8_back
  rw [i1]
  by_cases z0 : u.1 0 8 = 0
  · rw [if_pos z0, if_pos z0]
    exact ⟨_, u, t0, rfl, rfl, n, m, k, d, h⟩
  rw [if_neg z0, if_neg z0]
  have z1 : u.1 0 8 = 1 := i2.resolve_left z0
  obtain ⟨⟨s, j0, j1, j2⟩, j3, j4, j5, j6, j7, j8, j9, j10⟩ := i3 z1
  obtain ⟨t', a1, a2, a3, a3', a4, a5, a6, a7, a8⟩ := back9 hm (by rw [i1]; exact z0)
  obtain ⟨u1, f1, f2, f3, f4, f5, f6⟩ := take_c (a := 43) (b := 50) hp (Or.inl rfl) (Or.inr (Or.inl rfl)) (by decide)
  have r6 : u.2.2 0 6 = 51 := by simp only [PL_u hp]
  have r5 : u.2.2 0 5 = 44 := by simp only [PL_u hp]
  have hp1 : PL u1.2.2 := by rw [f2]; exact hp
  have r5' : u1.2.2 0 5 = 44 := by simp only [PL_u hp1]
  have r10' : u1.2.2 0 10 = 67 := by simp only [PL_u hp1]
  have un : ∀ a j, ¬ (a = 66 ∧ j = 0) → (w_sI u1 66 0 0).1 a j = u1.1 a j := fun a j w => if_neg w
  have uo : ∀ a j, ¬ (a = 66 ∧ j = 0) → ¬ (43 ≤ a ∧ a ≤ 49) → (w_sI u1 66 0 0).1 a j = u.1 a j := fun a j w w' => by rw [un a j w]; exact f3 a j (by omega)
  have c0 : (w_sI u1 66 0 0).1 43 0 = nI s := by rw [un 43 0 (by omega), f4 0 (by omega)]; exact j1
  have c1 : (w_sI u1 66 0 0).1 43 1 = u.1 50 1 := by rw [un 43 1 (by omega), f4 1 (by omega)]
  have c2 : (w_sI u1 66 0 0).1 43 2 = u.1 50 2 := by rw [un 43 2 (by omega), f4 2 (by omega)]
  have c3 : (w_sI u1 66 0 0).1 43 3 = u.1 50 3 := by rw [un 43 3 (by omega), f4 3 (by omega)]
  have cg : ∀ i g, 1 ≤ i → i ≤ 4 → g < n → (w_sI u1 66 0 0).1 (43 + i) g = u.1 (50 + i) g := fun i g w1 w2 w3 => by rw [un (43 + i) g (by omega), f5 i g w1 w2 (by omega)]
  have cf : ∀ i f, 5 ≤ i → i ≤ 6 → f < m → (w_sI u1 66 0 0).1 (43 + i) f = u.1 (50 + i) f := fun i g w1 w2 w3 => by rw [un (43 + i) g (by omega), f6 i g w1 w2 (by omega)]
  rw [r5, wR_43, r6, wR_50, f1, wC_s, r10', wR_66, wB_eq, sI_r, r5', wR_43, c0, a1, j2]
  have hP' : SP n 43 (w_sI u1 66 0 0).1 := SP_fr (c := 43) (U := fun a j => u.1 (a + 7) j) j5 (fun g hg => cg 1 g (by omega) (by omega) hg)
  refine ⟨_, _, t', rfl, rfl, n, m, k, d, GR_upd h (fun a j _ => by show u1.2.2 a j = _; rw [f2]) a2 (fun a j w w' => uo a j (by omega) (by omega)) (fun j w w' => a4 79 j (by omega)) (fun a j w w' => a4 a j (by omega)) ?_ ⟨s, j0, c0⟩ hP' ?_ ?_ (Un_0 (sI_eq _ _ _ _) a5) (Sg_fr hG (fun a w w' => funext fun j => uo _ _ (by omega) (by omega)) (a4 _ _ (by omega)) (a4 _ _ (by omega)) (funext fun j => a4 _ _ (by omega)))⟩
  · refine ⟨⟨s, by omega, c0, a6.trans j2⟩, fun g hg => ?_, fun f hf => ?_, fun g hg => ?_, fun g hg => ?_, fun g hg => ?_, fun f hf => ?_⟩
    · have z := a7 g (by omega)
      have y := j3 g hg
      simp only [Nat.mul_zero, Nat.zero_add]
      rw [c2, cg 1 g (by omega) (by omega) hg, cg 2 g (by omega) (by omega) hg, cg 3 g (by omega) (by omega) hg, cg 4 g (by omega) (by omega) hg, z.1, z.2.1, z.2.2.1, z.2.2.2.1, z.2.2.2.2]
      exact ⟨y.1, y.2.2.2.1, y.2.1, y.2.2.2.2, bI_11 y.2.2.1⟩
    · have z := a8 f (by omega)
      have y := j4 f hf
      simp only [Nat.mul_zero, Nat.zero_add]
      rw [c3, cf 5 f (by omega) (by omega) hf, cf 6 f (by omega) (by omega) hf, z.1, z.2.1, z.2.2]
      exact ⟨y.1, y.2.2, bI_11 y.2.1⟩
    · obtain ⟨s', q1, q2⟩ := hP'.1 g hg
      exact ⟨s', by omega, q2⟩
    · rw [c2, cg 3 g (by omega) (by omega) hg]
      exact j6 g hg
    · rw [c2]
      exact j7 g hg
    · rw [c3]
      exact j8 f hf
  · rw [c1, a3]
    exact ⟨j9, j10⟩
  · refine ⟨?_, ?_, fun _ => ⟨⟨s, j0, ?_, ?_⟩, fun g hg => ?_, fun f hf => ?_, SP_fr j5 (fun g hg => uo _ _ (by omega) (by omega)), fun g hg => ?_, fun g hg => ?_, fun f hf => ?_, ?_, ?_⟩⟩
    · rw [a4 79 76 (by omega), uo 0 8 (by omega) (by omega)]
      exact i1
    · rw [uo 0 8 (by omega) (by omega)]
      exact i2
    · rw [uo 50 0 (by omega) (by omega)]
      exact j1
    · rw [a4 _ _ (by omega)]
      exact j2
    · rw [a4 _ _ (by omega), a4 _ _ (by omega), a4 _ _ (by omega), a4 _ _ (by omega), a4 _ _ (by omega), uo 50 2 (by omega) (by omega), uo 51 g (by omega) (by omega), uo 52 g (by omega) (by omega), uo 53 g (by omega) (by omega), uo 54 g (by omega) (by omega)]
      exact j3 g hg
    · rw [a4 _ _ (by omega), a4 _ _ (by omega), a4 _ _ (by omega), uo 50 3 (by omega) (by omega), uo 55 f (by omega) (by omega), uo 56 f (by omega) (by omega)]
      exact j4 f hf
    · rw [uo 53 g (by omega) (by omega), uo 50 2 (by omega) (by omega)]
      exact j6 g hg
    · rw [uo 50 2 (by omega) (by omega)]
      exact j7 g hg
    · rw [uo 50 3 (by omega) (by omega)]
      exact j8 f hf
    · rw [uo 50 1 (by omega) (by omega), a3']
      exact j9
    · rw [uo 50 1 (by omega) (by omega)]
      exact j10
end

/-! a text: ahead of its lines, behind them -/
theorem p38_3 {R : Nat → Nat → Nat} (h : PL R) : R 38 3 = 2 := by simp only [PL_u h]
theorem qm34 {R : Nat → Nat → Nat} (h : PM R) : R 79 34 = 97 := by simp only [PM_u h]
theorem qm36 {R : Nat → Nat → Nat} (h : PM R) : R 79 36 = 99 := by simp only [PM_u h]
theorem qm37 {R : Nat → Nat → Nat} (h : PM R) : R 79 37 = 100 := by simp only [PM_u h]
section
variable {n e : Nat} {b : Nat → Nat} {u t : wSt}
theorem lclear_c (hp : PL u.2.2) (hd : TC e) : ∃ u', F_X1_clear (e + 10) u = some ((), u') ∧ u'.2 = u.2 ∧ (∀ a j, ¬ (a = e + 10 ∧ j = 0) → a ≠ e + 11 → u'.1 a j = u.1 a j) ∧ u'.1 (e + 10) 0 = 0 ∧ ∀ v, v < 3 → u'.1 (e + 11) v = 0 := by
  have d1 := TC_le hd
  have o0 : (0 : Int32) &&& 1 = 0 := by decide
  obtain ⟨u1, hu1⟩ : ∃ u1, u1 = w_sI u (e + 10) 0 0 := ⟨_, rfl⟩
  have z1 : u1.2 = u.2 := by rw [hu1]; rfl
  have key : Ro (fun y => ∃ v : wSt, y = ((), v) ∧ v.2 = u.2 ∧ (∀ a j, a ≠ e + 11 → v.1 a j = u1.1 a j) ∧ ∀ k, k < 3 → v.1 (e + 11) k = 0) (wL (S := Int32 × wSt) (fun x => F_X1_clear_b7 (e + 10) x.1 x.2) wFu ((0 : Int32), u1)) := by
    refine wL_ro (fun k x => ∃ v : wSt, x = (nI k, v) ∧ v.2 = u.2 ∧ (∀ a j, a ≠ e + 11 → v.1 a j = u1.1 a j) ∧ ∀ i, i < k → v.1 (e + 11) i = 0) _ 3 (by unfold wFu; omega) ?_ ⟨u1, rfl, z1, fun _ _ _ => rfl, fun i h => by omega⟩
    rintro k x hk ⟨v, rfl, v2, vn, vv⟩
    have e3 : ((3 : Int32) ≤ nI k) = (3 ≤ k) := nI_leE (a := 3) (b := k) (by omega) (by omega)
    unfold F_X1_clear_b7
    dsimp only
    by_cases h3 : 3 ≤ k
    · right
      rw [if_pos (e3.mpr h3)]
      exact ⟨_, rfl, v, rfl, v2, vn, fun i hi => vv i (by omega)⟩
    · left
      rw [if_neg (fun z => absurd (e3.mp z) h3), v2, (PL_d hp hd).2.2.2.2.2.2.2.2.2.2.1, wR_d11 _ hd, wSZ_eq, wN_d11 _ hd (by omega), o0, wB_eq, nI_addL]
      refine ⟨_, rfl, by omega, _, rfl, v2, fun a j q => ?_, fun i hi => ?_⟩
      · rw [sI_ne _ _ _ _ _ _ q]
        exact vn a j q
      · rw [sI_row]
        by_cases q : i = k
        · rw [if_pos q]
        · rw [if_neg q]
          exact vv i (by omega)
  obtain ⟨y, h1, v, rfl, h2, h3, h4⟩ := key
  refine ⟨v, ?_, h2, fun a j q q' => ?_, ?_, h4⟩
  · unfold F_X1_clear
    rw [wB_eq, ← hu1]
    exact h1
  · rw [h3 a j q', hu1]
    exact if_neg q
  · rw [h3 _ _ (by omega), hu1]
    exact sI_eq _ _ _ _
theorem clear_c (hp : PL u.2.2) (hd : TC e) : ∃ u', F_X6_clear e u = some ((), u') ∧ u'.2 = u.2 ∧ (∀ a j, ¬ (a = e ∧ j ≤ 6) → ¬ (a = e + 10 ∧ j = 0) → a ≠ e + 11 → u'.1 a j = u.1 a j) ∧ (u'.1 e 0 = 0 ∧ u'.1 e 1 = 0 ∧ u'.1 e 2 = 0 ∧ u'.1 e 3 = 0 ∧ u'.1 e 4 = 1 ∧ u'.1 e 5 = 0 ∧ u'.1 e 6 = 0) ∧ u'.1 (e + 10) 0 = 0 ∧ ∀ v, v < 3 → u'.1 (e + 11) v = 0 := by
  have d1 := TC_le hd
  obtain ⟨u1, hu1⟩ : ∃ u1, u1 = w_sI (w_sI (w_sI (w_sI (w_sI (w_sI (w_sI u e 0 0) e 1 0) e 2 0) e 3 0) e 4 1) e 5 0) e 6 0 := ⟨_, rfl⟩
  have z1 : u1.2 = u.2 := by rw [hu1]; rfl
  have n1 : ∀ a j, ¬ (a = e ∧ j ≤ 6) → u1.1 a j = u.1 a j := fun a j q => by
    have g : ∀ (v : wSt) (i : Nat) (y : Int32), i ≤ 6 → (w_sI v e i y).1 a j = v.1 a j := fun v i y h => if_neg (by omega)
    rw [hu1, g _ _ _ (by omega), g _ _ _ (by omega), g _ _ _ (by omega), g _ _ _ (by omega), g _ _ _ (by omega), g _ _ _ (by omega), g _ _ _ (by omega)]
  obtain ⟨u2, c1, c2, c3, c4, c5⟩ := lclear_c (u := u1) (e := e) (by rw [z1]; exact hp) hd
  refine ⟨u2, ?_, c2.trans z1, fun a j q q' q2 => (c3 a j q' q2).trans (n1 a j q), ⟨?_, ?_, ?_, ?_, ?_, ?_, ?_⟩, c4, c5⟩
  · unfold F_X6_clear
    rw [wB_eq, wB_eq, wB_eq, wB_eq, wB_eq, wB_eq, wB_eq, ← hu1, z1, (PL_d hp hd).2.2.2.2.2.2.2.2.2.1, wR_d10 _ hd, c1, wC_s]
  · rw [c3 _ _ (by omega) (by omega), hu1, sI_ne2 _ _ _ _ _ _ (by decide), sI_ne2 _ _ _ _ _ _ (by decide), sI_ne2 _ _ _ _ _ _ (by decide), sI_ne2 _ _ _ _ _ _ (by decide), sI_ne2 _ _ _ _ _ _ (by decide), sI_ne2 _ _ _ _ _ _ (by decide), sI_eq]
  · rw [c3 _ _ (by omega) (by omega), hu1, sI_ne2 _ _ _ _ _ _ (by decide), sI_ne2 _ _ _ _ _ _ (by decide), sI_ne2 _ _ _ _ _ _ (by decide), sI_ne2 _ _ _ _ _ _ (by decide), sI_ne2 _ _ _ _ _ _ (by decide), sI_eq]
  · rw [c3 _ _ (by omega) (by omega), hu1, sI_ne2 _ _ _ _ _ _ (by decide), sI_ne2 _ _ _ _ _ _ (by decide), sI_ne2 _ _ _ _ _ _ (by decide), sI_ne2 _ _ _ _ _ _ (by decide), sI_eq]
  · rw [c3 _ _ (by omega) (by omega), hu1, sI_ne2 _ _ _ _ _ _ (by decide), sI_ne2 _ _ _ _ _ _ (by decide), sI_ne2 _ _ _ _ _ _ (by decide), sI_eq]
  · rw [c3 _ _ (by omega) (by omega), hu1, sI_ne2 _ _ _ _ _ _ (by decide), sI_ne2 _ _ _ _ _ _ (by decide), sI_eq]
  · rw [c3 _ _ (by omega) (by omega), hu1, sI_ne2 _ _ _ _ _ _ (by decide), sI_eq]
  · rw [c3 _ _ (by omega) (by omega), hu1, sI_eq]
theorem split_p (hp : PL u.2.2) (hT : Tb n b u.1 t.1) (hW : ∀ i, i < 20 → u.1 39 i = wcod.getD i 0) : ∃ (s : Nat) (ps : Nat → Nat) (u1 : wSt), F_X5_split 38 (nI n) u = wC (F_X5_next 38 u1) (fun _ (u2 : wSt) => some ((), u2)) ∧ u1.2 = u.2 ∧ (∀ a j, a ≠ 38 → ¬ (40 ≤ a ∧ a ≤ 42) → u1.1 a j = u.1 a j) ∧ u1.1 38 6 = nI (s + 1) ∧ s ≤ 700 ∧ TA b n ps u1.1 (s + 1) ∧ u1.1 40 s = 35 ∧ (∀ j, j < s → u1.1 40 j ≠ 35) ∧ u1.1 38 7 = -1 := by
  have n7 := hT.1
  obtain ⟨v, hv⟩ : ∃ v, v = w_sI (w_sI (w_sI (w_sI u 38 4 (nI n)) 38 5 0) 38 6 0) 38 0 36 := ⟨_, rfl⟩
  have v2 : v.2 = u.2 := by rw [hv]; rfl
  have vn : ∀ a j, a ≠ 38 → v.1 a j = u.1 a j := fun a j q => by
    rw [hv, sI_ne _ _ _ _ _ _ q, sI_ne _ _ _ _ _ _ q, sI_ne _ _ _ _ _ _ q, sI_ne _ _ _ _ _ _ q]
  have mn : w_min (nI n) (Int32.ofNat (w_sh 1).2) = nI n := by
    have := min_n (x := n) (y := 700) (by omega) (by omega)
    rw [if_pos n7] at this
    exact this
  obtain ⟨s, ps, v', a1, a2, a3, a4, a5, a6, a7, a8⟩ := split_c (u := v) (n := n) (b := b) (t := t) (by rw [v2]; exact hp) ⟨n7, fun i hi => by rw [vn 1 i (by omega)]; exact hT.2 i hi⟩ (fun i hi => by rw [vn 39 i (by omega)]; exact hW i hi) (by rw [hv, sI_ne2 _ _ _ _ _ _ (by decide), sI_ne2 _ _ _ _ _ _ (by decide), sI_ne2 _ _ _ _ _ _ (by decide), sI_eq]) (by rw [hv, sI_ne2 _ _ _ _ _ _ (by decide), sI_ne2 _ _ _ _ _ _ (by decide), sI_eq]) (by rw [hv, sI_ne2 _ _ _ _ _ _ (by decide), sI_eq]) (by rw [hv, sI_eq])
  have tn : ∀ a j, ¬ (a = 38 ∧ j = 7) → (w_sI v' 38 7 (-1)).1 a j = v'.1 a j := fun a j q => if_neg q
  refine ⟨s, ps, w_sI v' 38 7 (-1), ?_, a2.trans v2, fun a j q q' => ?_, ?_, a5, ⟨a6.1, fun j hj => ?_⟩, ?_, fun j hj => ?_, sI_eq _ _ _ _⟩
  · unfold F_X5_split F_X5_split_j97
    rw [p38_3 hp, wR_1, mn, wB_eq, wB_eq, wB_eq, wB_eq, ← hv, a1, wJ_inl, wB_eq]
  · rw [tn _ _ (by omega), a3 _ _ (by omega) q']
    exact vn a j q
  · rw [tn _ _ (by omega)]
    exact a4
  · rw [tn 40 j (by omega), tn 41 j (by omega), tn 42 j (by omega)]
    exact a6.2 j hj
  · rw [tn _ _ (by omega)]
    exact a7
  · rw [tn _ _ (by omega)]
    exact a8 j hj
theorem plain_r (hm : PM t.2.2) : ∃ t', F_X9_plain 79 t = some ((), t') ∧ t'.2 = t.2 ∧ (∀ a j, ¬ (a = 79 ∧ ((16 ≤ j ∧ j ≤ 19) ∨ j = 43)) → a ≠ 82 → ¬ ((a = 83 ∨ a = 93) ∧ 3 ≤ j) → t'.1 a j = t.1 a j) ∧ (t'.1 79 16 = 0 ∧ t'.1 79 17 = 0 ∧ t'.1 79 18 = 0 ∧ t'.1 79 19 = 0 ∧ t'.1 79 43 = 0) ∧ ∀ v, v < 3 → t'.1 82 v = 0 ∧ t'.1 93 (3 + v) = 0 ∧ t'.1 83 (3 + v) = if v = 0 then 1 else 0 := by
  have o0 : (0 : Int32) &&& 1 = 0 := by decide
  obtain ⟨t1, ht1⟩ : ∃ t1, t1 = w_sI (w_sI (w_sI (w_sI (w_sI t 79 16 0) 79 17 0) 79 18 0) 79 19 0) 79 43 0 := ⟨_, rfl⟩
  have z1 : t1.2 = t.2 := by rw [ht1]; rfl
  have n1 : ∀ a j, ¬ (a = 79 ∧ ((16 ≤ j ∧ j ≤ 19) ∨ j = 43)) → t1.1 a j = t.1 a j := fun a j q => by
    have g : ∀ (v : wSt) (i : Nat) (y : Int32), ((16 ≤ i ∧ i ≤ 19) ∨ i = 43) → (w_sI v 79 i y).1 a j = v.1 a j := fun v i y h => if_neg (by omega)
    rw [ht1, g _ _ _ (by omega), g _ _ _ (by omega), g _ _ _ (by omega), g _ _ _ (by omega), g _ _ _ (by omega)]
  have key : Ro (fun y => ∃ v : wSt, y = ((), v) ∧ v.2 = t.2 ∧ (∀ a j, a ≠ 82 → ¬ ((a = 83 ∨ a = 93) ∧ 3 ≤ j) → v.1 a j = t1.1 a j) ∧ ∀ k, k < 3 → v.1 82 k = 0 ∧ v.1 93 (3 + k) = 0 ∧ v.1 83 (3 + k) = if k = 0 then 1 else 0) (wL (S := Int32 × wSt) (fun x => F_X9_plain_b27 79 x.1 x.2) wFu ((0 : Int32), t1)) := by
    refine wL_ro (fun k x => ∃ v : wSt, x = (nI k, v) ∧ v.2 = t.2 ∧ (∀ a j, a ≠ 82 → ¬ ((a = 83 ∨ a = 93) ∧ 3 ≤ j) → v.1 a j = t1.1 a j) ∧ ∀ i, i < k → v.1 82 i = 0 ∧ v.1 93 (3 + i) = 0 ∧ v.1 83 (3 + i) = if i = 0 then 1 else 0) _ 3 (by unfold wFu; omega) ?_ ⟨t1, rfl, z1, fun _ _ _ _ => rfl, fun i h => by omega⟩
    rintro k x hk ⟨v, rfl, v2, vn, vv⟩
    have e3 : ((3 : Int32) ≤ nI k) = (3 ≤ k) := nI_leE (a := 3) (b := k) (by omega) (by omega)
    have e0 : (nI k = (0 : Int32)) = (k = 0) := nI_eqI (a := k) (b := 0) (by omega) (by omega)
    unfold F_X9_plain_b27 F_X9_plain_j64
    dsimp only
    by_cases h3 : 3 ≤ k
    · right
      rw [if_pos (e3.mpr h3)]
      exact ⟨_, rfl, v, rfl, v2, vn, fun i hi => vv i (by omega)⟩
    · left
      obtain ⟨va, hva⟩ : ∃ va, va = w_sI v 82 k 0 := ⟨_, rfl⟩
      have za : va.2 = t.2 := by rw [hva]; exact v2
      obtain ⟨vb, hvb⟩ : ∃ vb, vb = w_sI va 93 (3 + k) 0 := ⟨_, rfl⟩
      have zb : vb.2 = t.2 := by rw [hvb]; exact za
      rw [if_neg (fun z => absurd (e3.mp z) h3), v2, qm20 hm, wR_82, wSZ_eq, wN_82 _ (by omega), o0, ← hva, za, qm31 hm, wR_93, nI_Ladd, wSZ_eq, wN_93 _ (by omega), o0, ← hvb, zb, qm21 hm, wR_83]
      have fin : ∀ y : Int32, y = (if k = 0 then 1 else 0) → ∃ s', (wSI vb 83 (nI (3 + k)) y (fun (u18 : wSt) => wB (nI k + (1 : Int32)) (fun (i19 : Int32) => some (Sum.inl (i19, u18))))) = (some (Sum.inl s') : Option ((Int32 × wSt) ⊕ (Unit × wSt))) ∧ k < 3 ∧ ∃ v : wSt, s' = (nI (k + 1), v) ∧ v.2 = t.2 ∧ (∀ a j, a ≠ 82 → ¬ ((a = 83 ∨ a = 93) ∧ 3 ≤ j) → v.1 a j = t1.1 a j) ∧ ∀ i, i < k + 1 → v.1 82 i = 0 ∧ v.1 93 (3 + i) = 0 ∧ v.1 83 (3 + i) = if i = 0 then 1 else 0 := fun y hy => by
        rw [wSI_eq, wN_83 _ (by omega), wB_eq, nI_addL]
        refine ⟨_, rfl, by omega, _, rfl, zb, fun a j q q' => ?_, fun i hi => ?_⟩
        · rw [show ∀ (w : wSt) (x : Int32), (w_sI w 83 (3 + k) x).1 a j = w.1 a j from fun _ _ => if_neg (by omega), hvb, show ∀ (w : wSt) (x : Int32), (w_sI w 93 (3 + k) x).1 a j = w.1 a j from fun _ _ => if_neg (by omega), hva, sI_ne _ _ _ _ _ _ q]
          exact vn a j q q'
        · rw [sI_ne _ _ _ _ _ _ (by decide), sI_ne _ _ _ _ _ _ (by decide), sI_row, hvb, sI_ne _ _ _ _ _ _ (by decide), sI_row, sI_ne _ _ _ _ _ _ (by decide), hva, sI_row, sI_ne _ _ _ _ _ _ (by decide), sI_ne _ _ _ _ _ _ (by decide)]
          by_cases q : i = k
          · rw [if_pos q, if_pos (by omega), if_pos (by omega), hy, q]
            exact ⟨rfl, rfl, rfl⟩
          · rw [if_neg q, if_neg (by omega), if_neg (by omega)]
            exact vv i (by omega)
      by_cases k0 : k = 0
      · rw [if_pos (e0.mpr k0), wJ_inl]
        exact fin 1 (by rw [if_pos k0])
      · rw [if_neg (fun z => absurd (e0.mp z) k0), wJ_inl]
        exact fin 0 (by rw [if_neg k0])
  obtain ⟨y, h1, v, rfl, h2, h3, h4⟩ := key
  have g : ∀ j, v.1 79 j = t1.1 79 j := fun j => h3 79 j (by omega) (by omega)
  refine ⟨v, ?_, h2, fun a j q q' q2 => (h3 a j q' q2).trans (n1 a j q), ⟨?_, ?_, ?_, ?_, ?_⟩, h4⟩
  · unfold F_X9_plain
    rw [wB_eq, wB_eq, wB_eq, wB_eq, wB_eq, ← ht1]
    exact h1
  · rw [g, ht1, sI_ne2 _ _ _ _ _ _ (by decide), sI_ne2 _ _ _ _ _ _ (by decide), sI_ne2 _ _ _ _ _ _ (by decide), sI_ne2 _ _ _ _ _ _ (by decide), sI_eq]
  · rw [g, ht1, sI_ne2 _ _ _ _ _ _ (by decide), sI_ne2 _ _ _ _ _ _ (by decide), sI_ne2 _ _ _ _ _ _ (by decide), sI_eq]
  · rw [g, ht1, sI_ne2 _ _ _ _ _ _ (by decide), sI_ne2 _ _ _ _ _ _ (by decide), sI_eq]
  · rw [g, ht1, sI_ne2 _ _ _ _ _ _ (by decide), sI_eq]
  · rw [g, ht1, sI_eq]
theorem copies_t {O N : Nat} (hN : N ≤ 64) (hO : ∀ (j : Nat) (K : Nat → Option ((Int32 × wSt) ⊕ (Unit × wSt))), j < N + N → wN (nI j) O K = K j) : ∃ t', F_X9_copies O (nI N) t = some ((), t') ∧ t'.2 = t.2 ∧ (∀ a j, ¬ (a = O ∧ j < N) → t'.1 a j = t.1 a j) ∧ ∀ j, j < N → t'.1 O j = t.1 O (N + j) := by
  have key : Ro (fun y => ∃ v : wSt, y = ((), v) ∧ v.2 = t.2 ∧ (∀ a j, ¬ (a = O ∧ j < N) → v.1 a j = t.1 a j) ∧ ∀ j, j < N → v.1 O j = t.1 O (N + j)) (F_X9_copies O (nI N) t) := by
    unfold F_X9_copies
    refine wL_ro (fun k x => ∃ v : wSt, x = (nI k, v) ∧ v.2 = t.2 ∧ (∀ a j, ¬ (a = O ∧ j < N) → v.1 a j = t.1 a j) ∧ ∀ j, j < k → v.1 O j = t.1 O (N + j)) _ N (by unfold wFu; omega) ?_ ⟨t, rfl, rfl, fun _ _ _ => rfl, fun i h => by omega⟩
    rintro k x hk ⟨v, rfl, v2, vn, vv⟩
    have e3 : (nI N ≤ nI k) = (N ≤ k) := nI_leE (by omega) (by omega)
    unfold F_X9_copies_b2
    dsimp only
    by_cases h3 : N ≤ k
    · right
      rw [if_pos (e3.mpr h3)]
      exact ⟨_, rfl, v, rfl, v2, vn, fun i hi => vv i (by omega)⟩
    · left
      rw [if_neg (fun z => absurd (e3.mp z) h3), nI_add, hO _ _ (by omega), wSI_eq, hO _ _ (by omega), wB_eq, nI_addL]
      refine ⟨_, rfl, by omega, _, rfl, v2, fun a j q => ?_, fun i hi => ?_⟩
      · rw [show ∀ (w : wSt) (x : Int32), (w_sI w O k x).1 a j = w.1 a j from fun _ _ => if_neg (by omega)]
        exact vn a j q
      · rw [sI_row]
        by_cases q : i = k
        · rw [if_pos q, q]
          exact vn O _ (by omega)
        · rw [if_neg q]
          exact vv i (by omega)
  obtain ⟨y, h1, v, rfl, h2⟩ := key
  exact ⟨v, h1, h2⟩
theorem laws_t (hm : PM t.2.2) (h01 : ∀ v, v < 3 → t.1 93 (3 + v) = 0 ∨ t.1 93 (3 + v) = 1) : ∃ t', wL (S := Int32 × wSt) (fun x => F_X9_keepText_b123 79 x.1 x.2) wFu ((0 : Int32), t) = some (.inl t') ∧ t'.2 = t.2 ∧ (∀ a j, ¬ (a = 93 ∧ j < 3) → t'.1 a j = t.1 a j) ∧ ∀ j, j < 3 → t'.1 93 j = t.1 93 (3 + j) := by
  have key : Ro (fun y => ∃ v : wSt, y = Sum.inl v ∧ v.2 = t.2 ∧ (∀ a j, ¬ (a = 93 ∧ j < 3) → v.1 a j = t.1 a j) ∧ ∀ j, j < 3 → v.1 93 j = t.1 93 (3 + j)) (wL (S := Int32 × wSt) (fun x => F_X9_keepText_b123 79 x.1 x.2) wFu ((0 : Int32), t)) := by
    refine wL_ro (fun k x => ∃ v : wSt, x = (nI k, v) ∧ v.2 = t.2 ∧ (∀ a j, ¬ (a = 93 ∧ j < 3) → v.1 a j = t.1 a j) ∧ ∀ j, j < k → v.1 93 j = t.1 93 (3 + j)) _ 3 (by unfold wFu; omega) ?_ ⟨t, rfl, rfl, fun _ _ _ => rfl, fun i h => by omega⟩
    rintro k x hk ⟨v, rfl, v2, vn, vv⟩
    have e3 : ((3 : Int32) ≤ nI k) = (3 ≤ k) := nI_leE (a := 3) (b := k) (by omega) (by omega)
    unfold F_X9_keepText_b123
    dsimp only
    by_cases h3 : 3 ≤ k
    · right
      rw [if_pos (e3.mpr h3)]
      exact ⟨_, rfl, v, rfl, v2, vn, fun i hi => vv i (by omega)⟩
    · left
      have a1 : v.1 93 (3 + k) &&& 1 = t.1 93 (3 + k) := by
        rw [vn 93 _ (by omega)]
        rcases h01 k (by omega) with z | z
        · rw [z]; decide
        · rw [z]; decide
      rw [if_neg (fun z => absurd (e3.mp z) h3), v2, qm31 hm, wR_93, wR_93, nI_Ladd, wN_93 _ (by omega), wSZ_eq, wN_93 _ (by omega), a1, wB_eq, nI_addL]
      refine ⟨_, rfl, by omega, _, rfl, v2, fun a j q => ?_, fun i hi => ?_⟩
      · rw [show ∀ (w : wSt) (x : Int32), (w_sI w 93 k x).1 a j = w.1 a j from fun _ _ => if_neg (by omega)]
        exact vn a j q
      · rw [sI_row]
        by_cases q : i = k
        · rw [if_pos q, q]
        · rw [if_neg q]
          exact vv i (by omega)
  obtain ⟨y, h1, v, rfl, h2⟩ := key
  exact ⟨v, h1, h2⟩
def kT (a j : Nat) : Prop := (a = 79 ∧ 12 ≤ j ∧ j ≤ 15) ∨ (a = 83 ∧ j < 3) ∨ (84 ≤ a ∧ a ≤ 87 ∧ j < 6) ∨ (88 ≤ a ∧ a ≤ 92 ∧ j < 8) ∨ (93 ≤ a ∧ a ≤ 95 ∧ j < 3) ∨ ((a = 96 ∨ a = 98 ∨ a = 99) ∧ j < 64)
def kO (a : Nat) : Nat := if a ≤ 83 then 3 else if a ≤ 87 then 6 else if a ≤ 92 then 8 else if a ≤ 95 then 3 else 64
theorem keep_t (hm : PM t.2.2) (h01 : ∀ v, v < 3 → t.1 93 (3 + v) = 0 ∨ t.1 93 (3 + v) = 1) : ∃ t', F_X9_keepText 79 t = wC (F_X9_begin 79 t') (fun _ (u : wSt) => some ((), u)) ∧ t'.2 = t.2 ∧ (∀ a j, ¬ kT a j → t'.1 a j = t.1 a j) ∧ (t'.1 79 12 = t.1 79 16 ∧ t'.1 79 13 = t.1 79 17 ∧ t'.1 79 14 = t.1 79 18 ∧ t'.1 79 15 = t.1 79 19) ∧ ∀ a j, 83 ≤ a → kT a j → t'.1 a j = t.1 a (kO a + j) := by
  obtain ⟨t0, ht0⟩ : ∃ t0, t0 = w_sI (w_sI (w_sI (w_sI t 79 12 (t.1 79 16)) 79 13 (t.1 79 17)) 79 14 (t.1 79 18)) 79 15 (t.1 79 19) := ⟨_, rfl⟩
  have zt0 : t0.2 = t.2 := by rw [ht0]; rfl
  have D0 : ∀ a j, ¬ (a = 79 ∧ 12 ≤ j ∧ j ≤ 15) → t0.1 a j = t.1 a j := fun a j q => by
    have g : ∀ (v : wSt) (i : Nat) (y : Int32), 12 ≤ i → i ≤ 15 → (w_sI v 79 i y).1 a j = v.1 a j := fun v i y h h' => if_neg (by omega)
    rw [ht0, g _ _ _ (by omega) (by omega), g _ _ _ (by omega) (by omega), g _ _ _ (by omega) (by omega), g _ _ _ (by omega) (by omega)]
  have V0 : t0.1 79 12 = t.1 79 16 ∧ t0.1 79 13 = t.1 79 17 ∧ t0.1 79 14 = t.1 79 18 ∧ t0.1 79 15 = t.1 79 19 := by
    rw [ht0]
    refine ⟨?_, ?_, ?_, sI_eq _ _ _ _⟩
    · rw [sI_ne2 _ _ _ _ _ _ (by decide), sI_ne2 _ _ _ _ _ _ (by decide), sI_ne2 _ _ _ _ _ _ (by decide), sI_eq]
    · rw [sI_ne2 _ _ _ _ _ _ (by decide), sI_ne2 _ _ _ _ _ _ (by decide), sI_eq]
    · rw [sI_ne2 _ _ _ _ _ _ (by decide), sI_eq]
  obtain ⟨t1, c1, y1, D1, V1⟩ := copies_t (t := t0) (O := 83) (N := 3) (by omega) (fun j K h => wN_83 K (by omega))
  have cq1 : F_X9_copies 83 (3 : Int32) t0 = some ((), t1) := c1
  have zt1 : t1.2 = t.2 := y1.trans zt0
  obtain ⟨t2, c2, y2, D2, V2⟩ := copies_t (t := t1) (O := 84) (N := 6) (by omega) (fun j K h => wN_84 K (by omega))
  have cq2 : F_X9_copies 84 (6 : Int32) t1 = some ((), t2) := c2
  have zt2 : t2.2 = t.2 := y2.trans zt1
  obtain ⟨t3, c3, y3, D3, V3⟩ := copies_t (t := t2) (O := 85) (N := 6) (by omega) (fun j K h => wN_85 K (by omega))
  have cq3 : F_X9_copies 85 (6 : Int32) t2 = some ((), t3) := c3
  have zt3 : t3.2 = t.2 := y3.trans zt2
  obtain ⟨t4, c4, y4, D4, V4⟩ := copies_t (t := t3) (O := 86) (N := 6) (by omega) (fun j K h => wN_86 K (by omega))
  have cq4 : F_X9_copies 86 (6 : Int32) t3 = some ((), t4) := c4
  have zt4 : t4.2 = t.2 := y4.trans zt3
  obtain ⟨t5, c5, y5, D5, V5⟩ := copies_t (t := t4) (O := 87) (N := 6) (by omega) (fun j K h => wN_87 K (by omega))
  have cq5 : F_X9_copies 87 (6 : Int32) t4 = some ((), t5) := c5
  have zt5 : t5.2 = t.2 := y5.trans zt4
  obtain ⟨t6, c6, y6, D6, V6⟩ := copies_t (t := t5) (O := 88) (N := 8) (by omega) (fun j K h => wN_88 K (by omega))
  have cq6 : F_X9_copies 88 (8 : Int32) t5 = some ((), t6) := c6
  have zt6 : t6.2 = t.2 := y6.trans zt5
  obtain ⟨t7, c7, y7, D7, V7⟩ := copies_t (t := t6) (O := 89) (N := 8) (by omega) (fun j K h => wN_89 K (by omega))
  have cq7 : F_X9_copies 89 (8 : Int32) t6 = some ((), t7) := c7
  have zt7 : t7.2 = t.2 := y7.trans zt6
  obtain ⟨t8, c8, y8, D8, V8⟩ := copies_t (t := t7) (O := 90) (N := 8) (by omega) (fun j K h => wN_90 K (by omega))
  have cq8 : F_X9_copies 90 (8 : Int32) t7 = some ((), t8) := c8
  have zt8 : t8.2 = t.2 := y8.trans zt7
  obtain ⟨t9, c9, y9, D9, V9⟩ := copies_t (t := t8) (O := 91) (N := 8) (by omega) (fun j K h => wN_91 K (by omega))
  have cq9 : F_X9_copies 91 (8 : Int32) t8 = some ((), t9) := c9
  have zt9 : t9.2 = t.2 := y9.trans zt8
  obtain ⟨t10, c10, y10, D10, V10⟩ := copies_t (t := t9) (O := 92) (N := 8) (by omega) (fun j K h => wN_92 K (by omega))
  have cq10 : F_X9_copies 92 (8 : Int32) t9 = some ((), t10) := c10
  have zt10 : t10.2 = t.2 := y10.trans zt9
  obtain ⟨t11, c11, y11, D11, V11⟩ := laws_t (t := t10) (by rw [zt10]; exact hm) (fun v hv => by rw [D10 _ _ (by omega), D9 _ _ (by omega), D8 _ _ (by omega), D7 _ _ (by omega), D6 _ _ (by omega), D5 _ _ (by omega), D4 _ _ (by omega), D3 _ _ (by omega), D2 _ _ (by omega), D1 _ _ (by omega), D0 _ _ (by omega)]; exact h01 v hv)
  have zt11 : t11.2 = t.2 := y11.trans zt10
  obtain ⟨t12, c12, y12, D12, V12⟩ := copies_t (t := t11) (O := 94) (N := 3) (by omega) (fun j K h => wN_94 K (by omega))
  have cq12 : F_X9_copies 94 (3 : Int32) t11 = some ((), t12) := c12
  have zt12 : t12.2 = t.2 := y12.trans zt11
  obtain ⟨t13, c13, y13, D13, V13⟩ := copies_t (t := t12) (O := 95) (N := 3) (by omega) (fun j K h => wN_95 K (by omega))
  have cq13 : F_X9_copies 95 (3 : Int32) t12 = some ((), t13) := c13
  have zt13 : t13.2 = t.2 := y13.trans zt12
  obtain ⟨t14, c14, y14, D14, V14⟩ := copies_t (t := t13) (O := 96) (N := 64) (by omega) (fun j K h => wN_96 K (by omega))
  have cq14 : F_X9_copies 96 (64 : Int32) t13 = some ((), t14) := c14
  have zt14 : t14.2 = t.2 := y14.trans zt13
  obtain ⟨t15, c15, y15, D15, V15⟩ := copies_t (t := t14) (O := 98) (N := 64) (by omega) (fun j K h => wN_98 K (by omega))
  have cq15 : F_X9_copies 98 (64 : Int32) t14 = some ((), t15) := c15
  have zt15 : t15.2 = t.2 := y15.trans zt14
  obtain ⟨t16, c16, y16, D16, V16⟩ := copies_t (t := t15) (O := 99) (N := 64) (by omega) (fun j K h => wN_99 K (by omega))
  have cq16 : F_X9_copies 99 (64 : Int32) t15 = some ((), t16) := c16
  have zt16 : t16.2 = t.2 := y16.trans zt15
  refine ⟨t16, ?_, zt16, fun a j q => ?_, ⟨?_, ?_, ?_, ?_⟩, fun a j h83 q => ?_⟩
  · unfold F_X9_keepText
    rw [wB_eq, sI_ne2 _ _ _ _ _ _ (by decide), wB_eq, sI_ne2 _ _ _ _ _ _ (by decide), sI_ne2 _ _ _ _ _ _ (by decide), wB_eq, sI_ne2 _ _ _ _ _ _ (by decide), sI_ne2 _ _ _ _ _ _ (by decide), sI_ne2 _ _ _ _ _ _ (by decide), wB_eq, ← ht0]
    rw [zt0, qm21 hm, wR_83, cq1, wC_s, zt1, qm22 hm, wR_84, cq2, wC_s, zt2, qm23 hm, wR_85, cq3, wC_s, zt3, qm24 hm, wR_86, cq4, wC_s, zt4, qm25 hm, wR_87, cq5, wC_s, zt5, qm26 hm, wR_88, cq6, wC_s, zt6, qm27 hm, wR_89, cq7, wC_s, zt7, qm28 hm, wR_90, cq8, wC_s, zt8, qm29 hm, wR_91, cq9, wC_s, zt9, qm30 hm, wR_92, cq10, wC_s, c11, wJ_inl]
    unfold F_X9_keepText_j148
    rw [zt11, qm32 hm, wR_94, cq12, wC_s, zt12, qm33 hm, wR_95, cq13, wC_s, zt13, qm34 hm, wR_96, cq14, wC_s, zt14, qm36 hm, wR_98, cq15, wC_s, zt15, qm37 hm, wR_99, cq16, wC_s]
  · unfold kT at q
    rw [D16 a j (by omega), D15 a j (by omega), D14 a j (by omega), D13 a j (by omega), D12 a j (by omega), D11 a j (by omega), D10 a j (by omega), D9 a j (by omega), D8 a j (by omega), D7 a j (by omega), D6 a j (by omega), D5 a j (by omega), D4 a j (by omega), D3 a j (by omega), D2 a j (by omega), D1 a j (by omega), D0 a j (by omega)]
  · rw [D16 _ _ (by omega), D15 _ _ (by omega), D14 _ _ (by omega), D13 _ _ (by omega), D12 _ _ (by omega), D11 _ _ (by omega), D10 _ _ (by omega), D9 _ _ (by omega), D8 _ _ (by omega), D7 _ _ (by omega), D6 _ _ (by omega), D5 _ _ (by omega), D4 _ _ (by omega), D3 _ _ (by omega), D2 _ _ (by omega), D1 _ _ (by omega)]
    exact V0.1
  · rw [D16 _ _ (by omega), D15 _ _ (by omega), D14 _ _ (by omega), D13 _ _ (by omega), D12 _ _ (by omega), D11 _ _ (by omega), D10 _ _ (by omega), D9 _ _ (by omega), D8 _ _ (by omega), D7 _ _ (by omega), D6 _ _ (by omega), D5 _ _ (by omega), D4 _ _ (by omega), D3 _ _ (by omega), D2 _ _ (by omega), D1 _ _ (by omega)]
    exact V0.2.1
  · rw [D16 _ _ (by omega), D15 _ _ (by omega), D14 _ _ (by omega), D13 _ _ (by omega), D12 _ _ (by omega), D11 _ _ (by omega), D10 _ _ (by omega), D9 _ _ (by omega), D8 _ _ (by omega), D7 _ _ (by omega), D6 _ _ (by omega), D5 _ _ (by omega), D4 _ _ (by omega), D3 _ _ (by omega), D2 _ _ (by omega), D1 _ _ (by omega)]
    exact V0.2.2.1
  · rw [D16 _ _ (by omega), D15 _ _ (by omega), D14 _ _ (by omega), D13 _ _ (by omega), D12 _ _ (by omega), D11 _ _ (by omega), D10 _ _ (by omega), D9 _ _ (by omega), D8 _ _ (by omega), D7 _ _ (by omega), D6 _ _ (by omega), D5 _ _ (by omega), D4 _ _ (by omega), D3 _ _ (by omega), D2 _ _ (by omega), D1 _ _ (by omega)]
    exact V0.2.2.2
  · unfold kT at q
    have ha : a = 83 ∨ a = 84 ∨ a = 85 ∨ a = 86 ∨ a = 87 ∨ a = 88 ∨ a = 89 ∨ a = 90 ∨ a = 91 ∨ a = 92 ∨ a = 93 ∨ a = 94 ∨ a = 95 ∨ a = 96 ∨ a = 98 ∨ a = 99 := by omega
    rcases ha with rfl | rfl | rfl | rfl | rfl | rfl | rfl | rfl | rfl | rfl | rfl | rfl | rfl | rfl | rfl | rfl
    · rw [show kO 83 = 3 from rfl, D16 83 _ (by omega), D15 83 _ (by omega), D14 83 _ (by omega), D13 83 _ (by omega), D12 83 _ (by omega), D11 83 _ (by omega), D10 83 _ (by omega), D9 83 _ (by omega), D8 83 _ (by omega), D7 83 _ (by omega), D6 83 _ (by omega), D5 83 _ (by omega), D4 83 _ (by omega), D3 83 _ (by omega), D2 83 _ (by omega), V1 j (by omega), D0 83 _ (by omega)]
    · rw [show kO 84 = 6 from rfl, D16 84 _ (by omega), D15 84 _ (by omega), D14 84 _ (by omega), D13 84 _ (by omega), D12 84 _ (by omega), D11 84 _ (by omega), D10 84 _ (by omega), D9 84 _ (by omega), D8 84 _ (by omega), D7 84 _ (by omega), D6 84 _ (by omega), D5 84 _ (by omega), D4 84 _ (by omega), D3 84 _ (by omega), V2 j (by omega), D1 84 _ (by omega), D0 84 _ (by omega)]
    · rw [show kO 85 = 6 from rfl, D16 85 _ (by omega), D15 85 _ (by omega), D14 85 _ (by omega), D13 85 _ (by omega), D12 85 _ (by omega), D11 85 _ (by omega), D10 85 _ (by omega), D9 85 _ (by omega), D8 85 _ (by omega), D7 85 _ (by omega), D6 85 _ (by omega), D5 85 _ (by omega), D4 85 _ (by omega), V3 j (by omega), D2 85 _ (by omega), D1 85 _ (by omega), D0 85 _ (by omega)]
    · rw [show kO 86 = 6 from rfl, D16 86 _ (by omega), D15 86 _ (by omega), D14 86 _ (by omega), D13 86 _ (by omega), D12 86 _ (by omega), D11 86 _ (by omega), D10 86 _ (by omega), D9 86 _ (by omega), D8 86 _ (by omega), D7 86 _ (by omega), D6 86 _ (by omega), D5 86 _ (by omega), V4 j (by omega), D3 86 _ (by omega), D2 86 _ (by omega), D1 86 _ (by omega), D0 86 _ (by omega)]
    · rw [show kO 87 = 6 from rfl, D16 87 _ (by omega), D15 87 _ (by omega), D14 87 _ (by omega), D13 87 _ (by omega), D12 87 _ (by omega), D11 87 _ (by omega), D10 87 _ (by omega), D9 87 _ (by omega), D8 87 _ (by omega), D7 87 _ (by omega), D6 87 _ (by omega), V5 j (by omega), D4 87 _ (by omega), D3 87 _ (by omega), D2 87 _ (by omega), D1 87 _ (by omega), D0 87 _ (by omega)]
    · rw [show kO 88 = 8 from rfl, D16 88 _ (by omega), D15 88 _ (by omega), D14 88 _ (by omega), D13 88 _ (by omega), D12 88 _ (by omega), D11 88 _ (by omega), D10 88 _ (by omega), D9 88 _ (by omega), D8 88 _ (by omega), D7 88 _ (by omega), V6 j (by omega), D5 88 _ (by omega), D4 88 _ (by omega), D3 88 _ (by omega), D2 88 _ (by omega), D1 88 _ (by omega), D0 88 _ (by omega)]
    · rw [show kO 89 = 8 from rfl, D16 89 _ (by omega), D15 89 _ (by omega), D14 89 _ (by omega), D13 89 _ (by omega), D12 89 _ (by omega), D11 89 _ (by omega), D10 89 _ (by omega), D9 89 _ (by omega), D8 89 _ (by omega), V7 j (by omega), D6 89 _ (by omega), D5 89 _ (by omega), D4 89 _ (by omega), D3 89 _ (by omega), D2 89 _ (by omega), D1 89 _ (by omega), D0 89 _ (by omega)]
    · rw [show kO 90 = 8 from rfl, D16 90 _ (by omega), D15 90 _ (by omega), D14 90 _ (by omega), D13 90 _ (by omega), D12 90 _ (by omega), D11 90 _ (by omega), D10 90 _ (by omega), D9 90 _ (by omega), V8 j (by omega), D7 90 _ (by omega), D6 90 _ (by omega), D5 90 _ (by omega), D4 90 _ (by omega), D3 90 _ (by omega), D2 90 _ (by omega), D1 90 _ (by omega), D0 90 _ (by omega)]
    · rw [show kO 91 = 8 from rfl, D16 91 _ (by omega), D15 91 _ (by omega), D14 91 _ (by omega), D13 91 _ (by omega), D12 91 _ (by omega), D11 91 _ (by omega), D10 91 _ (by omega), V9 j (by omega), D8 91 _ (by omega), D7 91 _ (by omega), D6 91 _ (by omega), D5 91 _ (by omega), D4 91 _ (by omega), D3 91 _ (by omega), D2 91 _ (by omega), D1 91 _ (by omega), D0 91 _ (by omega)]
    · rw [show kO 92 = 8 from rfl, D16 92 _ (by omega), D15 92 _ (by omega), D14 92 _ (by omega), D13 92 _ (by omega), D12 92 _ (by omega), D11 92 _ (by omega), V10 j (by omega), D9 92 _ (by omega), D8 92 _ (by omega), D7 92 _ (by omega), D6 92 _ (by omega), D5 92 _ (by omega), D4 92 _ (by omega), D3 92 _ (by omega), D2 92 _ (by omega), D1 92 _ (by omega), D0 92 _ (by omega)]
    · rw [show kO 93 = 3 from rfl, D16 93 _ (by omega), D15 93 _ (by omega), D14 93 _ (by omega), D13 93 _ (by omega), D12 93 _ (by omega), V11 j (by omega), D10 93 _ (by omega), D9 93 _ (by omega), D8 93 _ (by omega), D7 93 _ (by omega), D6 93 _ (by omega), D5 93 _ (by omega), D4 93 _ (by omega), D3 93 _ (by omega), D2 93 _ (by omega), D1 93 _ (by omega), D0 93 _ (by omega)]
    · rw [show kO 94 = 3 from rfl, D16 94 _ (by omega), D15 94 _ (by omega), D14 94 _ (by omega), D13 94 _ (by omega), V12 j (by omega), D11 94 _ (by omega), D10 94 _ (by omega), D9 94 _ (by omega), D8 94 _ (by omega), D7 94 _ (by omega), D6 94 _ (by omega), D5 94 _ (by omega), D4 94 _ (by omega), D3 94 _ (by omega), D2 94 _ (by omega), D1 94 _ (by omega), D0 94 _ (by omega)]
    · rw [show kO 95 = 3 from rfl, D16 95 _ (by omega), D15 95 _ (by omega), D14 95 _ (by omega), V13 j (by omega), D12 95 _ (by omega), D11 95 _ (by omega), D10 95 _ (by omega), D9 95 _ (by omega), D8 95 _ (by omega), D7 95 _ (by omega), D6 95 _ (by omega), D5 95 _ (by omega), D4 95 _ (by omega), D3 95 _ (by omega), D2 95 _ (by omega), D1 95 _ (by omega), D0 95 _ (by omega)]
    · rw [show kO 96 = 64 from rfl, D16 96 _ (by omega), D15 96 _ (by omega), V14 j (by omega), D13 96 _ (by omega), D12 96 _ (by omega), D11 96 _ (by omega), D10 96 _ (by omega), D9 96 _ (by omega), D8 96 _ (by omega), D7 96 _ (by omega), D6 96 _ (by omega), D5 96 _ (by omega), D4 96 _ (by omega), D3 96 _ (by omega), D2 96 _ (by omega), D1 96 _ (by omega), D0 96 _ (by omega)]
    · rw [show kO 98 = 64 from rfl, D16 98 _ (by omega), V15 j (by omega), D14 98 _ (by omega), D13 98 _ (by omega), D12 98 _ (by omega), D11 98 _ (by omega), D10 98 _ (by omega), D9 98 _ (by omega), D8 98 _ (by omega), D7 98 _ (by omega), D6 98 _ (by omega), D5 98 _ (by omega), D4 98 _ (by omega), D3 98 _ (by omega), D2 98 _ (by omega), D1 98 _ (by omega), D0 98 _ (by omega)]
    · rw [show kO 99 = 64 from rfl, V16 j (by omega), D15 99 _ (by omega), D14 99 _ (by omega), D13 99 _ (by omega), D12 99 _ (by omega), D11 99 _ (by omega), D10 99 _ (by omega), D9 99 _ (by omega), D8 99 _ (by omega), D7 99 _ (by omega), D6 99 _ (by omega), D5 99 _ (by omega), D4 99 _ (by omega), D3 99 _ (by omega), D2 99 _ (by omega), D1 99 _ (by omega), D0 99 _ (by omega)]
end

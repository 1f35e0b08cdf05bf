/-! what can be undone -/
section
variable {n m k d c b B : Nat} {u t : wSt}
theorem put7 {q : Nat} {e a b : Int32} (hp : PL u.2.2) (hq : u.1 66 0 = nI q) (hq2 : q ≤ 20) : ∃ (u' : wSt) (δ : Nat), ((δ = 0 ∧ q < 20) ∨ (δ = 1 ∧ q = 20)) ∧ F_X7_put 66 e a b u = some ((), u') ∧ u'.2 = u.2 ∧ (∀ x j, ¬ (66 ≤ x ∧ x ≤ 69) → u'.1 x j = u.1 x j) ∧ u'.1 66 0 = nI (q - δ + 1) ∧ (∀ x j, 67 ≤ x → x ≤ 69 → j < q - δ → u'.1 x j = u.1 x (j + δ)) ∧ u'.1 67 (q - δ) = e ∧ u'.1 68 (q - δ) = a ∧ u'.1 69 (q - δ) = b := by
  have fin : ∀ (v : wSt) (r : Nat), v.2 = u.2 → v.1 66 0 = nI r → r < 20 → F_X7_put_j13 66 e a b v = some ((), w_sI (w_sI (w_sI (w_sI v 67 r e) 68 r a) 69 r b) 66 0 (nI (r + 1))) := by
    intro v r h2 h0 hr
    have hpv : PL v.2.2 := by rw [h2]; exact hp
    have r1 : v.2.2 66 1 = 68 := by simp only [PL_u hpv]
    have r2 : v.2.2 66 2 = 69 := by simp only [PL_u hpv]
    have r3 : v.2.2 66 3 = 70 := by simp only [PL_u hpv]
    have ne : ∀ (w : wSt) (i j : Nat) (x : Int32), i ≠ 66 → (w_sI w i j x).1 66 0 = w.1 66 0 := fun w i j x h => sI_ne _ _ _ _ _ _ (fun z => h z.symm)
    unfold F_X7_put_j13
    rw [r1, wR_67, h0, wSI_eq, wN_67 _ hr]
    rw [sI_r, r2, wR_68, ne _ _ _ _ (by decide), h0, wSI_eq, wN_68 _ hr]
    rw [sI_r, sI_r, r3, wR_69, ne _ _ _ _ (by decide), ne _ _ _ _ (by decide), h0, wSI_eq, wN_69 _ hr]
    rw [wB_eq, ne _ _ _ _ (by decide), ne _ _ _ _ (by decide), ne _ _ _ _ (by decide), h0, nI_addL]
  have rd : ∀ (v : wSt) (r : Nat), (w_sI (w_sI (w_sI (w_sI v 67 r e) 68 r a) 69 r b) 66 0 (nI (r + 1))).1 67 r = e ∧ (w_sI (w_sI (w_sI (w_sI v 67 r e) 68 r a) 69 r b) 66 0 (nI (r + 1))).1 68 r = a ∧ (w_sI (w_sI (w_sI (w_sI v 67 r e) 68 r a) 69 r b) 66 0 (nI (r + 1))).1 69 r = b := fun v r => ⟨by rw [sI_ne _ _ _ _ _ _ (by decide), sI_ne _ _ _ _ _ _ (by decide), sI_ne _ _ _ _ _ _ (by decide), sI_eq], by rw [sI_ne _ _ _ _ _ _ (by decide), sI_ne _ _ _ _ _ _ (by decide), sI_eq], by rw [sI_ne _ _ _ _ _ _ (by decide), sI_eq]⟩
  have e20 : (nI q < (20 : Int32)) = (q < 20) := nI_ltE (a := q) (b := 20) (by omega) (by omega)
  unfold F_X7_put
  rw [hq]
  by_cases h20 : q < 20
  · refine ⟨w_sI (w_sI (w_sI (w_sI u 67 q e) 68 q a) 69 q b) 66 0 (nI (q + 1)), 0, Or.inl ⟨rfl, h20⟩, ?_, rfl, fun x j w => ?_, sI_eq _ _ _ _, fun x j w1 w2 w3 => ?_, (rd u q).1, (rd u q).2.1, (rd u q).2.2⟩
    · rw [if_pos (by rw [e20]; exact h20), wJ_inl, fin u q rfl hq h20]
    · rw [sI_ne _ _ _ _ _ _ (by omega), sI_ne _ _ _ _ _ _ (by omega), sI_ne _ _ _ _ _ _ (by omega), sI_ne _ _ _ _ _ _ (by omega)]
    · rw [sI_ne _ _ _ _ _ _ (by omega), sI_ne2 _ _ _ _ _ _ (by omega), sI_ne2 _ _ _ _ _ _ (by omega), sI_ne2 _ _ _ _ _ _ (by omega)]
      rfl
  · have hq20 : q = 20 := by omega
    subst hq20
    obtain ⟨v, ev⟩ : ∃ v, v = w_sI (w_cp (w_cp (w_cp u 67 1 67 0 19) 68 1 68 0 19) 69 1 69 0 19) 66 0 (19 : Int32) := ⟨_, rfl⟩
    have hv2 : v.2 = u.2 := by rw [ev]; rfl
    have hv0 : v.1 66 0 = nI 19 := by rw [ev]; exact sI_eq _ _ _ _
    have cpi : ∀ (w : wSt) (x j : Nat), j < 19 → (w_cp w x 1 x 0 19).1 x j = w.1 x (j + 1) := fun w x j hj => by
      rw [cp_eq, if_pos (by omega), Nat.sub_zero, Nat.add_comm 1 j]
    have hcp : ∀ (w : wSt) (x : Nat) (K : wSt → Option (Unit × wSt)), (w_sh x).2 = 20 → wCP w x (1 : Int32) x (0 : Int32) (19 : Int32) K = K (w_cp w x 1 x 0 19) := fun w x K h => by
      unfold wCP
      rw [h]
      exact if_pos (by decide)
    have hdrop : F_X7_dropOldest 66 u = some ((), v) := by
      have r1 : u.2.2 66 1 = 68 := by simp only [PL_u hp]
      have r2 : u.2.2 66 2 = 69 := by simp only [PL_u hp]
      have r3 : u.2.2 66 3 = 70 := by simp only [PL_u hp]
      unfold F_X7_dropOldest
      rw [r1, wR_67, wR_67, hcp _ _ _ (by decide), cp_r, r2, wR_68, wR_68, hcp _ _ _ (by decide), cp_r, cp_r, r3, wR_69, wR_69, hcp _ _ _ (by decide), wB_eq, ← ev]
    refine ⟨w_sI (w_sI (w_sI (w_sI v 67 19 e) 68 19 a) 69 19 b) 66 0 (nI (19 + 1)), 1, Or.inr ⟨rfl, rfl⟩, ?_, hv2, fun x j w => ?_, sI_eq _ _ _ _, fun x j w1 w2 w3 => ?_, (rd v 19).1, (rd v 19).2.1, (rd v 19).2.2⟩
    · rw [if_neg (by rw [e20]; omega), hdrop, wC_s, wJ_inl, fin v 19 hv2 hv0 (by omega)]
    · rw [sI_ne _ _ _ _ _ _ (by omega), sI_ne _ _ _ _ _ _ (by omega), sI_ne _ _ _ _ _ _ (by omega), sI_ne _ _ _ _ _ _ (by omega), ev, sI_ne _ _ _ _ _ _ (by omega), cp_ne _ _ _ _ _ _ _ _ (by omega), cp_ne _ _ _ _ _ _ _ _ (by omega), cp_ne _ _ _ _ _ _ _ _ (by omega)]
    · rw [sI_ne _ _ _ _ _ _ (by omega), sI_ne2 _ _ _ _ _ _ (by omega), sI_ne2 _ _ _ _ _ _ (by omega), sI_ne2 _ _ _ _ _ _ (by omega), ev, sI_ne _ _ _ _ _ _ (by omega)]
      have hx : x = 67 ∨ x = 68 ∨ x = 69 := by omega
      rcases hx with rfl | rfl | rfl
      · rw [cp_ne _ _ _ _ _ _ _ _ (by decide), cp_ne _ _ _ _ _ _ _ _ (by decide), cpi _ _ _ (by omega)]
      · rw [cp_ne _ _ _ _ _ _ _ _ (by decide), cpi _ _ _ (by omega), cp_ne _ _ _ _ _ _ _ _ (by decide)]
      · rw [cpi _ _ _ (by omega), cp_ne _ _ _ _ _ _ _ _ (by decide), cp_ne _ _ _ _ _ _ _ _ (by decide)]
def pt3 (v : wSt) (a i k : Nat) : wSt := w_sI (w_sI (w_sI v a (i + k) (v.1 106 k)) a (i + 6 + k) (v.1 105 k)) a (i + 12 + k) (if v.1 107 k = 0 then 0 else 1)
/-- the reference puts a look down at i of the row a -/
theorem put9 {a i : Nat} (hm : PM t.2.2) (ha : a = 116 ∨ (a = 117)) (hi : i + 18 ≤ (if a = 116 then 360 else 18)) : ∃ t', F_X9_put 79 a (nI i) t = some ((), t') ∧ t'.2 = t.2 ∧ (∀ x j, ¬ (x = a ∧ i ≤ j ∧ j < i + 18) → t'.1 x j = t.1 x j) ∧ (∀ g, g < 6 → t'.1 a (i + g) = t.1 106 g ∧ t'.1 a (i + 6 + g) = t.1 105 g ∧ t'.1 a (i + 12 + g) = if t.1 107 g = 0 then 0 else 1) := by
  have hwN : ∀ {β : Type} (j : Nat) (K : Nat → Option β), j < i + 18 → wN (nI j) a K = K j := fun {β} j K hj => by
    rcases ha with rfl | rfl
    · rw [if_pos rfl] at hi
      exact wN_116 _ (by omega)
    · rw [if_neg (by decide)] at hi
      exact wN_117 _ (by omega)
  have hi3 : i < 360 := by
    rcases ha with rfl | rfl
    · rw [if_pos rfl] at hi
      omega
    · rw [if_neg (by decide)] at hi
      omega
  have key : Ro (fun y => ∃ v : wSt, y = ((), v) ∧ v.2 = t.2 ∧ (∀ x j, ¬ (x = a ∧ i ≤ j ∧ j < i + 18) → v.1 x j = t.1 x j) ∧ (∀ g, g < 6 → v.1 a (i + g) = t.1 106 g ∧ v.1 a (i + 6 + g) = t.1 105 g ∧ v.1 a (i + 12 + g) = if t.1 107 g = 0 then 0 else 1)) (F_X9_put 79 a (nI i) t) := by
    unfold F_X9_put
    refine wL_ro (fun k x => ∃ v : wSt, x = (nI k, v) ∧ v.2 = t.2 ∧ (∀ x j, ¬ (x = a ∧ i ≤ j ∧ j < i + 18) → v.1 x j = t.1 x j) ∧ (∀ g, g < k → v.1 a (i + g) = t.1 106 g ∧ v.1 a (i + 6 + g) = t.1 105 g ∧ v.1 a (i + 12 + g) = if t.1 107 g = 0 then 0 else 1)) _ 6 (by unfold wFu; omega) ?_ ⟨t, rfl, rfl, fun _ _ _ => rfl, fun g h => by omega⟩
    rintro k x hk ⟨v, rfl, hv2, hv0, hR⟩
    have hmv : PM v.2.2 := by rw [hv2]; exact hm
    unfold F_X9_put_b2 F_X9_put_j54
    dsimp only
    have e6 : ((6 : Int32) ≤ nI k) = (6 ≤ k) := nI_leE (a := 6) (b := k) (by omega) (by omega)
    by_cases h6 : k = 6
    · right
      subst h6
      exact ⟨((), v), if_pos (by decide), v, rfl, hv2, hv0, hR⟩
    · left
      have hk6 : k < 6 := by omega
      have q50 : v.2.2 79 50 = 106 := by simp only [PM_u hmv]
      have q51 : v.2.2 79 51 = 107 := by simp only [PM_u hmv]
      have q52 : v.2.2 79 52 = 108 := by simp only [PM_u hmv]
      have i6 : nI i + (6 : Int32) + nI k = nI (i + 6 + k) := by rw [show nI i + (6 : Int32) = nI (i + 6) from nI_addL i 6, nI_add]
      have i12 : nI i + (12 : Int32) + nI k = nI (i + 12 + k) := by rw [show nI i + (12 : Int32) = nI (i + 12) from nI_addL i 12, nI_add]
      have na : ∀ (w : wSt) (x j : Nat) (y : Int32), x ≠ a → (w_sI w a j y).1 x k = w.1 x k := fun w x j y h => sI_ne _ _ _ _ _ _ h
      refine ⟨(nI (k + 1), pt3 v a i k), ?_, hk6, _, rfl, hv2, fun x j w => ?_, fun g hg => ?_⟩
      · unfold pt3
        rw [if_neg (by rw [e6]; omega), q51, wR_106, wN_106 _ (by omega), nI_add, wSI_eq, hwN _ _ (by omega)]
        rw [sI_r, q50, wR_105, wN_105 _ (by omega), na _ _ _ _ (by omega), i6, wSI_eq, hwN _ _ (by omega)]
        rw [sI_r, sI_r, q52, wR_107, wN_107 _ (by omega), na _ _ _ _ (by omega), na _ _ _ _ (by omega)]
        by_cases z : v.1 107 k = 0
        · rw [if_pos z, wJ_inl, i12, wSI_eq, hwN _ _ (by omega), wB_eq, nI_addL, if_pos z]
        · rw [if_neg z, wJ_inl, i12, wSI_eq, hwN _ _ (by omega), wB_eq, nI_addL, if_neg z]
      · have g : ∀ (w : wSt) (j' : Nat) (y : Int32), i ≤ j' → j' < i + 18 → (w_sI w a j' y).1 x j = w.1 x j := fun w j' y h1 h2 => if_neg (by omega)
        unfold pt3
        rw [g _ _ _ (by omega) (by omega), g _ _ _ (by omega) (by omega), g _ _ _ (by omega) (by omega)]
        exact hv0 x j w
      · have e1 : v.1 106 k = t.1 106 k := hv0 _ _ (by omega)
        have e2 : v.1 105 k = t.1 105 k := hv0 _ _ (by omega)
        have e3 : v.1 107 k = t.1 107 k := hv0 _ _ (by omega)
        unfold pt3
        by_cases hgk : g = k
        · subst hgk
          refine ⟨?_, ?_, ?_⟩
          · rw [sI_ne2 _ _ _ _ _ _ (by omega), sI_ne2 _ _ _ _ _ _ (by omega), sI_eq, e1]
          · rw [sI_ne2 _ _ _ _ _ _ (by omega), sI_eq, e2]
          · rw [sI_eq, e3]
        · have g1 := hR g (by omega)
          refine ⟨?_, ?_, ?_⟩
          · rw [sI_ne2 _ _ _ _ _ _ (by omega), sI_ne2 _ _ _ _ _ _ (by omega), sI_ne2 _ _ _ _ _ _ (by omega)]
            exact g1.1
          · rw [sI_ne2 _ _ _ _ _ _ (by omega), sI_ne2 _ _ _ _ _ _ (by omega), sI_ne2 _ _ _ _ _ _ (by omega)]
            exact g1.2.1
          · rw [sI_ne2 _ _ _ _ _ _ (by omega), sI_ne2 _ _ _ _ _ _ (by omega), sI_ne2 _ _ _ _ _ _ (by omega)]
            exact g1.2.2
  obtain ⟨y, h1, v, rfl, h2, h3, h4⟩ := key
  exact ⟨v, h1, h2, h3, h4⟩
theorem rem9 {q : Nat} (hm : PM t.2.2) (hq : t.1 79 74 = nI q) (hq2 : q ≤ 20) : ∃ (t' : wSt) (δ : Nat), ((δ = 0 ∧ q < 20) ∨ (δ = 1 ∧ q = 20)) ∧ F_X9_remember 79 t = some ((), t') ∧ t'.2 = t.2 ∧ (∀ x j, ¬ (x = 116 ∨ (x = 79 ∧ j = 74)) → t'.1 x j = t.1 x j) ∧ t'.1 79 74 = nI (q - δ + 1) ∧ (∀ j, j < 18 * (q - δ) → t'.1 116 j = t.1 116 (j + 18 * δ)) ∧ (∀ g, g < 6 → t'.1 116 (18 * (q - δ) + g) = t.1 106 g ∧ t'.1 116 (18 * (q - δ) + 6 + g) = t.1 105 g ∧ t'.1 116 (18 * (q - δ) + 12 + g) = if t.1 107 g = 0 then 0 else 1) := by
  have fin : ∀ (v : wSt) (r : Nat), v.2 = t.2 → (∀ x j, ¬ (x = 116 ∨ (x = 79 ∧ j = 74)) → v.1 x j = t.1 x j) → v.1 79 74 = nI r → r < 20 → ∃ t', F_X9_remember_j49 79 v = some ((), t') ∧ t'.2 = t.2 ∧ (∀ x j, ¬ (x = 116 ∨ (x = 79 ∧ j = 74)) → t'.1 x j = t.1 x j) ∧ t'.1 79 74 = nI (r + 1) ∧ (∀ j, j < 18 * r → t'.1 116 j = v.1 116 j) ∧ (∀ g, g < 6 → t'.1 116 (18 * r + g) = t.1 106 g ∧ t'.1 116 (18 * r + 6 + g) = t.1 105 g ∧ t'.1 116 (18 * r + 12 + g) = if t.1 107 g = 0 then 0 else 1) := by
    intro v r h2 h0 h74 hr
    have hmv : PM v.2.2 := by rw [h2]; exact hm
    have q75 : v.2.2 79 75 = 117 := by simp only [PM_u hmv]
    obtain ⟨w, k1, k2, k3, k4⟩ := put9 (a := 116) (i := 18 * r) hmv (Or.inl rfl) (by rw [if_pos rfl]; omega)
    refine ⟨w_sI w 79 74 (nI (r + 1)), ?_, k2.trans h2, fun x j z => ?_, sI_eq _ _ _ _, fun j hj => ?_, fun g hg => ?_⟩
    · unfold F_X9_remember_j49
      rw [q75, wR_116, h74, nI_mulL, k1, wC_s, wB_eq, k3 79 74 (by omega), h74, nI_addL]
    · rw [show (w_sI w 79 74 (nI (r + 1))).1 x j = w.1 x j from if_neg (by omega), k3 _ _ (by omega)]
      exact h0 x j z
    · rw [sI_ne _ _ _ _ _ _ (by decide), k3 _ _ (by omega)]
    · have := k4 g hg
      rw [h0 106 g (by omega), h0 105 g (by omega), h0 107 g (by omega)] at this
      rw [sI_ne _ _ _ _ _ _ (by decide), sI_ne _ _ _ _ _ _ (by decide), sI_ne _ _ _ _ _ _ (by decide)]
      exact this
  have e20 : (nI q = (20 : Int32)) = (q = 20) := nI_eqI (a := q) (b := 20) (by omega) (by omega)
  unfold F_X9_remember
  rw [hq]
  by_cases h20 : q < 20
  · obtain ⟨t', a1, a2, a3, a4, a5, a6⟩ := fin t q rfl (fun _ _ _ => rfl) hq h20
    refine ⟨t', 0, Or.inl ⟨rfl, h20⟩, ?_, a2, a3, a4, a5, a6⟩
    rw [if_neg (by rw [e20]; omega), wJ_inl, a1]
  · have hq20 : q = 20 := by omega
    subst hq20
    have q75 : t.2.2 79 75 = 117 := by simp only [PM_u hm]
    have key : Ro (fun y => ∃ v : wSt, y = Sum.inl v ∧ v.2 = t.2 ∧ (∀ x j, x ≠ 116 → v.1 x j = t.1 x j) ∧ (∀ j, j < 342 → v.1 116 j = t.1 116 (j + 18))) (wL (S := Int32 × wSt) (fun x => F_X9_remember_b11 79 x.1 x.2) wFu ((0 : Int32), t)) := by
      refine wL_ro (fun k x => ∃ v : wSt, x = (nI k, v) ∧ v.2 = t.2 ∧ (∀ x j, x ≠ 116 → v.1 x j = t.1 x j) ∧ (∀ j, j < k → v.1 116 j = t.1 116 (j + 18)) ∧ (∀ j, k ≤ j → v.1 116 j = t.1 116 j)) _ 342 (by unfold wFu; omega) ?_ ⟨t, rfl, rfl, fun _ _ _ => rfl, fun g h => by omega, fun _ _ => rfl⟩
      rintro k x hk ⟨v, rfl, hv2, hv0, hR, hR2⟩
      unfold F_X9_remember_b11
      dsimp only
      have e3 : ((342 : Int32) ≤ nI k) = (342 ≤ k) := nI_leE (a := 342) (b := k) (by omega) (by omega)
      by_cases h3 : k = 342
      · right
        subst h3
        exact ⟨.inl v, if_pos (by decide), v, rfl, hv2, hv0, hR⟩
      · left
        refine ⟨(nI (k + 1), w_sI v 116 k (v.1 116 (k + 18))), ?_, by omega, _, rfl, hv2, fun x j w => ?_, fun j hj => ?_, fun j hj => ?_⟩
        · have i18 : nI k + (18 : Int32) = nI (k + 18) := nI_addL k 18
          rw [if_neg (by rw [e3]; omega), hv2, q75, wR_116, wR_116, i18, wN_116 _ (by omega), wSI_eq, wN_116 _ (by omega), wB_eq, nI_addL]
        · rw [sI_ne _ _ _ _ _ _ w]
          exact hv0 x j w
        · by_cases hjk : j = k
          · subst hjk
            rw [sI_eq, hR2 _ (by omega)]
          · rw [sI_ne2 _ _ _ _ _ _ hjk]
            exact hR j (by omega)
        · rw [sI_ne2 _ _ _ _ _ _ (by omega)]
          exact hR2 j (by omega)
    obtain ⟨y, hy, v, rfl, hv2, hv0, hR⟩ := key
    obtain ⟨t', a1, a2, a3, a4, a5, a6⟩ := fin (w_sI v 79 74 (nI 19)) 19 hv2 (fun x j w => by rw [show (w_sI v 79 74 (nI 19)).1 x j = v.1 x j from if_neg (by omega)]; exact hv0 x j (by omega)) (sI_eq _ _ _ _) (by omega)
    refine ⟨t', 1, Or.inr ⟨rfl, rfl⟩, ?_, a2, a3, a4, fun j hj => ?_, a6⟩
    · unfold F_X9_remember_j39
      rw [if_pos (by rw [e20]), hy, wJ_inl, wB_eq, hv0 79 74 (by decide), hq, show nI 20 - (1 : Int32) = nI 19 from by decide, wJ_inl, a1]
    · rw [a5 j hj, sI_ne _ _ _ _ _ _ (by decide)]
      exact hR j (by omega)
theorem Ue_congr {e a b A A' B B' : Int32} {S H S' H' R L R' L' : Nat → Int32} (h : Ue n e a b S H A S' H' A') (h1 : ∀ g, g < n → R g = S g) (h2 : ∀ g, g < n → L g = H g) (h3 : B = A) (h4 : ∀ g, g < n → R' g = S' g) (h5 : ∀ g, g < n → L' g = H' g) (h6 : B' = A') : Ue n e a b R L B R' L' B' := by
  subst h3 h6
  rcases h with ⟨i, l, hi, hl, hil, z1, z2, z3, z4, z5, z6⟩ | ⟨i, l, hi, hl, z1, z2, z3, z4, z5, z6⟩ | ⟨i, l, hi, hl, z1, z2, z3, z4, z5, z6⟩
  · exact Or.inl ⟨i, l, hi, hl, hil, z1, z2, z3, fun g hg => by rw [h1 g hg, z4 g hg, h4 l hl, h4 i hi, h4 g hg], fun g hg => by rw [h2 g hg, z5 g hg, h5 g hg], z6⟩
  · exact Or.inr (Or.inl ⟨i, l, hi, hl, z1, z2, z3, fun g hg => by rw [h1 g hg, z4 g hg, h4 g hg], fun g hg => by rw [h2 g hg, z5 g hg, h5 g hg], z6⟩)
  · exact Or.inr (Or.inr ⟨i, l, hi, hl, z1, z2, z3, fun g hg => by rw [h1 g hg, z4 g hg, h4 g hg], fun g hg => by rw [h2 g hg, z5 g hg, h5 g hg], z6⟩)
/-- one more that can be undone -/
theorem Un_put {U T U' T' : Nat → Nat → Int32} {q δ : Nat} (hn : n ≤ 6) (h : Un n U T) (hq : U 66 0 = nI q) (hδ : (δ = 0 ∧ q < 20) ∨ (δ = 1 ∧ q = 20)) (u0 : U' 66 0 = nI (q - δ + 1)) (uR : ∀ x j, 67 ≤ x → x ≤ 69 → j < q - δ → U' x j = U x (j + δ)) (t0 : T' 79 74 = nI (q - δ + 1)) (tR : ∀ j, j < 18 * (q - δ) → T' 116 j = T 116 (j + 18 * δ)) (tN : ∀ g, g < n → T' 116 (18 * (q - δ) + g) = U 44 g ∧ T' 116 (18 * (q - δ) + 6 + g) = U 46 g ∧ T' 116 (18 * (q - δ) + 12 + g) = bI (bt (U 43 2) g = false)) (hE : Ue n (U' 67 (q - δ)) (U' 68 (q - δ)) (U' 69 (q - δ)) (U 44) (U 46) (U 43 2) (U' 44) (U' 46) (U' 43 2)) : Un n U' T' := by
  obtain ⟨q0, hq0, e1, e2, S, H, A, f1, f2, f3, f4⟩ := h
  have hqq : q0 = q := by
    have := e1.symm.trans hq
    rw [nI_eqI (by omega) (by omega)] at this
    exact this
  subst hqq
  have hp : ∃ p, p = q0 - δ := ⟨_, rfl⟩
  obtain ⟨p, hp⟩ := hp
  rw [← hp] at u0 t0 tR tN hE uR
  have hpd : p + δ = q0 := by omega
  refine ⟨p + 1, by omega, u0, t0, fun j g => if j = p + 1 then U' 44 g else if j = p then U 44 g else S (j + δ) g, fun j g => if j = p + 1 then U' 46 g else if j = p then U 46 g else H (j + δ) g, fun j => if j = p + 1 then U' 43 2 else if j = p then U 43 2 else A (j + δ), fun g hg => ⟨if_pos rfl, if_pos rfl⟩, if_pos rfl, fun j hj g hg => ?_, fun j hj => ?_⟩
  · have w1 : ¬ j = p + 1 := by omega
    by_cases w2 : j = p
    · subst w2
      simp only [w1, if_false, if_true]
      exact tN g hg
    · simp only [w1, w2, if_false]
      have := f3 (j + δ) (by omega) g hg
      rw [tR _ (by omega), tR _ (by omega), tR _ (by omega), show 18 * j + g + 18 * δ = 18 * (j + δ) + g by omega, show 18 * j + 6 + g + 18 * δ = 18 * (j + δ) + 6 + g by omega, show 18 * j + 12 + g + 18 * δ = 18 * (j + δ) + 12 + g by omega]
      exact this
  · have w1 : ¬ j = p + 1 := by omega
    have pp : ¬ p = p + 1 := by omega
    by_cases w2 : j = p
    · subst w2
      refine Ue_congr hE (fun g hg => ?_) (fun g hg => ?_) ?_ (fun g hg => ?_) (fun g hg => ?_) ?_
      · simp only [w1, if_false, if_true]
      · simp only [w1, if_false, if_true]
      · simp only [w1, if_false, if_true]
      · simp only [if_true]
      · simp only [if_true]
      · simp only [if_true]
    · have w3 : ¬ j + 1 = p + 1 := by omega
      have := f4 (j + δ) (by omega)
      rw [uR _ _ (by omega) (by omega) (by omega), uR _ _ (by omega) (by omega) (by omega), uR _ _ (by omega) (by omega) (by omega)]
      refine Ue_congr this (fun g hg => ?_) (fun g hg => ?_) ?_ (fun g hg => ?_) (fun g hg => ?_) ?_
      · simp only [w1, w2, if_false]
      · simp only [w1, w2, if_false]
      · simp only [w1, w2, if_false]
      · by_cases w4 : j + 1 = p
        · simp only [w4, pp, if_false, if_true]
          rw [show j + δ + 1 = q0 by omega, (f1 g hg).1]
        · simp only [w3, w4, if_false]
          rw [show j + 1 + δ = j + δ + 1 by omega]
      · by_cases w4 : j + 1 = p
        · simp only [w4, pp, if_false, if_true]
          rw [show j + δ + 1 = q0 by omega, (f1 g hg).2]
        · simp only [w3, w4, if_false]
          rw [show j + 1 + δ = j + δ + 1 by omega]
      · by_cases w4 : j + 1 = p
        · simp only [w4, pp, if_false, if_true]
          rw [show j + δ + 1 = q0 by omega, f2]
        · simp only [w3, w4, if_false]
          rw [show j + 1 + δ = j + δ + 1 by omega]
theorem Sc_new {U T U' T' : Nat → Nat → Int32} (h : Sc n m 43 0 98 U T) (h0 : U' 43 0 = U 43 0) (t0 : T' 112 0 = T 112 0) (hg : ∀ g, g < n → T' 106 g = U' 44 g ∧ T' 104 g = U' 45 g ∧ T' 105 g = U' 46 g ∧ T' 108 g = U' 47 g ∧ T' 107 g = bI (bt (U' 43 2) g = false)) (hf : ∀ f, f < m → T' 109 f = U' 48 f ∧ T' 111 f = U' 49 f ∧ T' 110 f = bI (bt (U' 43 3) f = true)) (hs : ∀ g, g < n → ∃ s : Nat, s < 6 ∧ U' 44 g = nI s) (hh : ∀ g, g < n → ∃ h : Nat, h ≤ 101 ∧ U' 46 g = nI h ∧ (bt (U' 43 2) g = false → h ≤ 98)) (h2 : ∀ g, n ≤ g → bt (U' 43 2) g = false) (h3 : ∀ f, m ≤ f → bt (U' 43 3) f = false) : Sc n m 43 0 98 U' T' := by
  obtain ⟨⟨s, hs0, es, et⟩, -⟩ := h
  refine ⟨⟨s, hs0, h0.trans es, t0.trans et⟩, fun g q => ?_, fun f q => ?_, hs, hh, h2, h3⟩
  · simp only [Nat.mul_zero, Nat.zero_add]
    exact hg g q
  · simp only [Nat.mul_zero, Nat.zero_add]
    exact hf f q
theorem Sc_old {U T : Nat → Nat → Int32} (h : Sc n m 43 0 98 U T) : (∀ g, g < n → T 106 g = U 44 g ∧ T 104 g = U 45 g ∧ T 105 g = U 46 g ∧ T 108 g = U 47 g ∧ T 107 g = bI (bt (U 43 2) g = false)) ∧ (∀ f, f < m → T 109 f = U 48 f ∧ T 111 f = U 49 f ∧ T 110 f = bI (bt (U 43 3) f = true)) := by
  obtain ⟨-, hG, hF, -⟩ := h
  refine ⟨fun g q => ?_, fun f q => ?_⟩
  · have := hG g q
    simp only [Nat.mul_zero, Nat.zero_add] at this
    exact this
  · have := hF f q
    simp only [Nat.mul_zero, Nat.zero_add] at this
    exact this
end

theorem PL_u {R : Nat → Nat → Nat} (h : PL R) : R 0 0 = 2 ∧ R 0 4 = 37 ∧ R 0 5 = 44 ∧ R 0 6 = 51 ∧ R 0 7 = 58 ∧ R 0 9 = 65 ∧ R 0 10 = 67 ∧ R 0 11 = 71 ∧ R 0 12 = 78 ∧ R 0 13 = 79 ∧ R 2 7 = 4 ∧ R 2 8 = 5 ∧ R 2 9 = 6 ∧ R 2 10 = 7 ∧ R 2 11 = 8 ∧ R 2 12 = 9 ∧ R 2 13 = 10 ∧ R 2 14 = 11 ∧ R 2 15 = 12 ∧ R 2 16 = 13 ∧ R 12 1 = 14 ∧ R 12 2 = 15 ∧ R 12 3 = 16 ∧ R 12 4 = 17 ∧ R 12 5 = 18 ∧ R 12 6 = 19 ∧ R 19 7 = 21 ∧ R 19 8 = 22 ∧ R 19 9 = 23 ∧ R 19 10 = 24 ∧ R 19 11 = 25 ∧ R 19 12 = 26 ∧ R 19 13 = 27 ∧ R 19 14 = 28 ∧ R 19 15 = 29 ∧ R 19 16 = 30 ∧ R 29 1 = 31 ∧ R 29 2 = 32 ∧ R 29 3 = 33 ∧ R 29 4 = 34 ∧ R 29 5 = 35 ∧ R 29 6 = 36 ∧ R 36 2 = 39 ∧ R 36 9 = 38 ∧ R 38 3 = 2 ∧ R 38 8 = 40 ∧ R 38 9 = 41 ∧ R 38 10 = 42 ∧ R 38 11 = 43 ∧ R 43 4 = 45 ∧ R 43 5 = 46 ∧ R 43 6 = 47 ∧ R 43 7 = 48 ∧ R 43 8 = 49 ∧ R 43 9 = 50 ∧ R 50 4 = 52 ∧ R 50 5 = 53 ∧ R 50 6 = 54 ∧ R 50 7 = 55 ∧ R 50 8 = 56 ∧ R 50 9 = 57 ∧ R 57 4 = 59 ∧ R 57 5 = 60 ∧ R 57 6 = 61 ∧ R 57 7 = 62 ∧ R 57 8 = 63 ∧ R 57 9 = 64 ∧ R 64 9 = 66 ∧ R 66 1 = 68 ∧ R 66 2 = 69 ∧ R 66 3 = 70 ∧ R 70 2 = 72 ∧ R 70 3 = 73 ∧ R 70 4 = 74 ∧ R 70 5 = 75 ∧ R 70 6 = 76 ∧ R 70 7 = 77 := h
/-! a course begun, a scene taken, what is tried laid -/
def cb (u : wSt) (d : Nat) (x : Int32) : wSt := w_sI (w_sI (w_sI (w_sI (w_sI (w_sI (w_sI (w_sR u 64 8 (d + 1)) 64 0 x) 64 1 0) 64 2 0) 64 3 0) 64 4 (-1)) 64 5 0) 64 6 (-1)
def tb (t : wSt) : wSt := w_sI (w_sI (w_sI (w_sI (w_sI (w_sI (w_sI (w_sI (w_sI t 79 60 0) 79 61 0) 79 62 0) 79 63 0) 79 64 0) 79 65 (-1)) 79 66 0) 79 67 (-1)) 79 68 0
theorem begin_c (u : wSt) (d : Nat) (x : Int32) : F_X0_begin 64 d x u = some ((), cb u d x) := by
  unfold F_X0_begin cb
  simp only [wB_eq]
theorem plain_t (t : wSt) : F_X9_plainTried 79 t = some ((), tb t) := by
  unfold F_X9_plainTried tb
  simp only [wB_eq]
theorem cb_KC (u : wSt) (d : Nat) (x : Int32) : KC u (cb u d x) := by
  unfold cb
  exact KC_tr KC_R (KC_tr (KC_s (by omega)) (KC_tr (KC_s (by omega)) (KC_tr (KC_s (by omega)) (KC_tr (KC_s (by omega)) (KC_tr (KC_s (by omega)) (KC_tr (KC_s (by omega)) (KC_s (by omega))))))))
theorem cb_f (u : wSt) (d : Nat) (x : Int32) : (cb u d x).2.2 64 8 = d + 1 ∧ (cb u d x).1 64 0 = x ∧ (cb u d x).1 64 1 = 0 ∧ (cb u d x).1 64 2 = 0 ∧ (cb u d x).1 64 3 = 0 ∧ (cb u d x).1 64 4 = -1 ∧ (cb u d x).1 64 5 = 0 ∧ (cb u d x).1 64 6 = -1 := ⟨rfl, rfl, rfl, rfl, rfl, rfl, rfl, rfl⟩
theorem tb_f (t : wSt) : (tb t).2.2 = t.2.2 ∧ (tb t).2.1 = t.2.1 ∧ (tb t).1 79 60 = 0 ∧ (tb t).1 79 61 = 0 ∧ (tb t).1 79 62 = 0 ∧ (tb t).1 79 63 = 0 ∧ (tb t).1 79 64 = 0 ∧ (tb t).1 79 65 = -1 ∧ (tb t).1 79 66 = 0 ∧ (tb t).1 79 67 = -1 := ⟨rfl, rfl, rfl, rfl, rfl, rfl, rfl, rfl, rfl, rfl⟩
theorem sc79 {j : Nat} (h : 59 ≤ j ∧ j ≤ 68) : scr 79 j := Or.inl ⟨rfl, Or.inr (Or.inr h)⟩
theorem tb_ne (t : wSt) {a j : Nat} (h : ¬ (a = 79 ∧ 60 ≤ j ∧ j ≤ 68)) : (tb t).1 a j = t.1 a j := by
  have e : ∀ (v : wSt) (i : Nat) (x : Int32), 60 ≤ i → i ≤ 68 → (w_sI v 79 i x).1 a j = v.1 a j := fun v i x h1 h2 => if_neg (by omega)
  unfold tb
  rw [e _ _ _ (by omega) (by omega), e _ _ _ (by omega) (by omega), e _ _ _ (by omega) (by omega), e _ _ _ (by omega) (by omega), e _ _ _ (by omega) (by omega), e _ _ _ (by omega) (by omega), e _ _ _ (by omega) (by omega), e _ _ _ (by omega) (by omega), e _ _ _ (by omega) (by omega)]
theorem tb_KT (t : wSt) : KT t (tb t) := ⟨rfl, fun a j q => tb_ne t (fun r => q (by rw [r.1]; exact sc79 (by omega))), rfl, rfl⟩
theorem wCP_6 {β : Type} {u : wSt} {a b : Nat} (K : wSt → Option β) (ha : (w_sh a).2 = 6) (hb : (w_sh b).2 = 6) : wCP u b (0 : Int32) a (0 : Int32) (6 : Int32) K = K (w_cp u b 0 a 0 6) := by
  unfold wCP
  rw [ha, hb]
  exact if_pos (by decide)
theorem wCP_8 {β : Type} {u : wSt} {a b : Nat} (K : wSt → Option β) (ha : (w_sh a).2 = 8) (hb : (w_sh b).2 = 8) : wCP u b (0 : Int32) a (0 : Int32) (8 : Int32) K = K (w_cp u b 0 a 0 8) := by
  unfold wCP
  rw [ha, hb]
  exact if_pos (by decide)
theorem SC_sh {c : Nat} (h : SC c) : (w_sh (c + 1)).2 = 6 ∧ (w_sh (c + 2)).2 = 6 ∧ (w_sh (c + 3)).2 = 6 ∧ (w_sh (c + 4)).2 = 6 ∧ (w_sh (c + 5)).2 = 8 ∧ (w_sh (c + 6)).2 = 8 := by
  rcases h with rfl | rfl | rfl <;> decide
theorem take_c {u : wSt} {a b : Nat} (hp : PL u.2.2) (ha : SC a) (hb : SC b) (hab : a ≠ b) : ∃ u', F_X3_take a b u = some ((), u') ∧ u'.2 = u.2 ∧ (∀ x j, ¬ (a ≤ x ∧ x ≤ a + 6) → u'.1 x j = u.1 x j) ∧ (∀ j, j < 4 → u'.1 a j = u.1 b j) ∧ (∀ i j, 1 ≤ i → i ≤ 4 → j < 6 → u'.1 (a + i) j = u.1 (b + i) j) ∧ (∀ i j, 5 ≤ i → i ≤ 6 → j < 8 → u'.1 (a + i) j = u.1 (b + i) j) := by
  have ha' : a = 43 ∨ a = 50 ∨ a = 57 := ha
  have hb' : b = 43 ∨ b = 50 ∨ b = 57 := hb
  have ne : ∀ (v : wSt) (j i : Nat) (x : Int32), (w_sI v a j x).1 b i = v.1 b i := fun v j i x => sI_ne _ _ _ _ _ _ (by omega)
  obtain ⟨v, hv⟩ : ∃ v, v = w_sI (w_sI (w_sI (w_sI u a 0 (u.1 b 0)) a 1 (u.1 b 1)) a 2 (u.1 b 2)) a 3 (u.1 b 3) := ⟨_, rfl⟩
  have v2 : v.2 = u.2 := by rw [hv]; rfl
  have v0 : ∀ x j, x ≠ a → v.1 x j = u.1 x j := fun x j h => by
    rw [hv, sI_ne _ _ _ _ _ _ h, sI_ne _ _ _ _ _ _ h, sI_ne _ _ _ _ _ _ h, sI_ne _ _ _ _ _ _ h]
  have va : ∀ j, j < 4 → v.1 a j = u.1 b j := fun j h => by
    have hj : j = 0 ∨ j = 1 ∨ j = 2 ∨ j = 3 := by omega
    rw [hv]
    rcases hj with rfl | rfl | rfl | rfl
    · rw [sI_ne2 _ _ _ _ _ _ (by decide), sI_ne2 _ _ _ _ _ _ (by decide), sI_ne2 _ _ _ _ _ _ (by decide), sI_eq]
    · rw [sI_ne2 _ _ _ _ _ _ (by decide), sI_ne2 _ _ _ _ _ _ (by decide), sI_eq]
    · rw [sI_ne2 _ _ _ _ _ _ (by decide), sI_eq]
    · rw [sI_eq]
  obtain ⟨w, hw⟩ : ∃ w, w = w_cp (w_cp (w_cp (w_cp (w_cp (w_cp v (b + 1) 0 (a + 1) 0 6) (b + 2) 0 (a + 2) 0 6) (b + 3) 0 (a + 3) 0 6) (b + 4) 0 (a + 4) 0 6) (b + 5) 0 (a + 5) 0 8) (b + 6) 0 (a + 6) 0 8 := ⟨_, rfl⟩
  have w2 : w.2 = v.2 := by rw [hw]; rfl
  have cpi : ∀ (q : wSt) (x y n z j : Nat), z = y → j < n → (w_cp q x 0 y 0 n).1 z j = q.1 x j := fun q x y n z j hz hj => by
    rw [hz, cp_eq, if_pos (by omega), Nat.zero_add, Nat.sub_zero]
  refine ⟨w, ?_, w2.trans v2, fun x j h => ?_, fun j h => ?_, fun i j h1 h2 h3 => ?_, fun i j h1 h2 h3 => ?_⟩
  · obtain ⟨a1, a2, a3, a4, a5, a6⟩ := SC_sh ha
    obtain ⟨b1, b2, b3, b4, b5, b6⟩ := SC_sh hb
    unfold F_X3_take
    simp only [wB_eq, ne]
    have vr : v.2.2 = u.2.2 := by rw [v2]
    rw [← hv, hw]
    obtain ⟨p4, p5, p6, p7, p8, p9⟩ := PL_c (show PL v.2.2 by rw [vr]; exact hp) ha
    obtain ⟨q4, q5, q6, q7, q8, q9⟩ := PL_c (show PL v.2.2 by rw [vr]; exact hp) hb
    rw [q4, wR_c1 _ hb, p4, wR_c1 _ ha, wCP_6 _ a1 b1]
    rw [cp_r, q5, wR_c2 _ hb, p5, wR_c2 _ ha, wCP_6 _ a2 b2]
    rw [cp_r, cp_r, q6, wR_c3 _ hb, p6, wR_c3 _ ha, wCP_6 _ a3 b3]
    rw [cp_r, cp_r, cp_r, q7, wR_c4 _ hb, p7, wR_c4 _ ha, wCP_6 _ a4 b4]
    rw [cp_r, cp_r, cp_r, cp_r, q8, wR_c5 _ hb, p8, wR_c5 _ ha, wCP_8 _ a5 b5]
    rw [cp_r, cp_r, cp_r, cp_r, cp_r, q9, wR_c6 _ hb, p9, wR_c6 _ ha, wCP_8 _ a6 b6]
  · rw [hw, cp_ne _ _ _ _ _ _ _ _ (by omega), cp_ne _ _ _ _ _ _ _ _ (by omega), cp_ne _ _ _ _ _ _ _ _ (by omega), cp_ne _ _ _ _ _ _ _ _ (by omega), cp_ne _ _ _ _ _ _ _ _ (by omega), cp_ne _ _ _ _ _ _ _ _ (by omega)]
    exact v0 x j (by omega)
  · rw [hw, cp_ne _ _ _ _ _ _ _ _ (by omega), cp_ne _ _ _ _ _ _ _ _ (by omega), cp_ne _ _ _ _ _ _ _ _ (by omega), cp_ne _ _ _ _ _ _ _ _ (by omega), cp_ne _ _ _ _ _ _ _ _ (by omega), cp_ne _ _ _ _ _ _ _ _ (by omega)]
    exact va j h
  · have hi : i = 1 ∨ i = 2 ∨ i = 3 ∨ i = 4 := by omega
    rw [hw, cp_ne _ _ _ _ _ _ _ _ (by omega), cp_ne _ _ _ _ _ _ _ _ (by omega)]
    rcases hi with rfl | rfl | rfl | rfl
    · rw [cp_ne _ _ _ _ _ _ _ _ (by omega), cp_ne _ _ _ _ _ _ _ _ (by omega), cp_ne _ _ _ _ _ _ _ _ (by omega), cpi _ _ _ _ _ _ rfl h3]
      exact v0 _ _ (by omega)
    · rw [cp_ne _ _ _ _ _ _ _ _ (by omega), cp_ne _ _ _ _ _ _ _ _ (by omega), cpi _ _ _ _ _ _ rfl h3, cp_ne _ _ _ _ _ _ _ _ (by omega)]
      exact v0 _ _ (by omega)
    · rw [cp_ne _ _ _ _ _ _ _ _ (by omega), cpi _ _ _ _ _ _ rfl h3, cp_ne _ _ _ _ _ _ _ _ (by omega), cp_ne _ _ _ _ _ _ _ _ (by omega)]
      exact v0 _ _ (by omega)
    · rw [cpi _ _ _ _ _ _ rfl h3, cp_ne _ _ _ _ _ _ _ _ (by omega), cp_ne _ _ _ _ _ _ _ _ (by omega), cp_ne _ _ _ _ _ _ _ _ (by omega)]
      exact v0 _ _ (by omega)
  · have hi : i = 5 ∨ i = 6 := by omega
    rw [hw]
    rcases hi with rfl | rfl
    · rw [cp_ne _ _ _ _ _ _ _ _ (by omega), cpi _ _ _ _ _ _ rfl h3, cp_ne _ _ _ _ _ _ _ _ (by omega), cp_ne _ _ _ _ _ _ _ _ (by omega), cp_ne _ _ _ _ _ _ _ _ (by omega), cp_ne _ _ _ _ _ _ _ _ (by omega)]
      exact v0 _ _ (by omega)
    · rw [cpi _ _ _ _ _ _ rfl h3, cp_ne _ _ _ _ _ _ _ _ (by omega), cp_ne _ _ _ _ _ _ _ _ (by omega), cp_ne _ _ _ _ _ _ _ _ (by omega), cp_ne _ _ _ _ _ _ _ _ (by omega), cp_ne _ _ _ _ _ _ _ _ (by omega)]
      exact v0 _ _ (by omega)
/-! the reference lays what is tried -/
def ly1 (v : wSt) (k : Nat) : wSt := w_sI (w_sI (w_sI (w_sI (w_sI v 104 (6 + k) (v.1 104 k)) 105 (6 + k) (v.1 105 k)) 106 (6 + k) (v.1 106 k)) 107 (6 + k) (v.1 107 k &&& 1)) 108 (6 + k) (v.1 108 k)
def ly2 (v : wSt) (k : Nat) : wSt := w_sI (w_sI (w_sI v 109 (8 + k) (v.1 109 k)) 110 (8 + k) (v.1 110 k &&& 1)) 111 (8 + k) (v.1 111 k)
theorem lay_t {t : wSt} (hm : PM t.2.2) : ∃ t', F_X9_layTried 79 t = some ((), tb t') ∧ KT t t' ∧ (∀ g, g < 6 → t'.1 104 (6 + g) = t.1 104 g ∧ t'.1 105 (6 + g) = t.1 105 g ∧ t'.1 106 (6 + g) = t.1 106 g ∧ t'.1 107 (6 + g) = t.1 107 g &&& 1 ∧ t'.1 108 (6 + g) = t.1 108 g) ∧ (∀ f, f < 8 → t'.1 109 (8 + f) = t.1 109 f ∧ t'.1 110 (8 + f) = t.1 110 f &&& 1 ∧ t'.1 111 (8 + f) = t.1 111 f) ∧ t'.1 112 1 = t.1 112 0 := by
  have k1 : Ro (fun y => ∃ v : wSt, y = Sum.inl v ∧ KT t v ∧ (∀ g, g < 6 → v.1 104 (6 + g) = t.1 104 g ∧ v.1 105 (6 + g) = t.1 105 g ∧ v.1 106 (6 + g) = t.1 106 g ∧ v.1 107 (6 + g) = t.1 107 g &&& 1 ∧ v.1 108 (6 + g) = t.1 108 g)) (wL (S := Int32 × wSt) (fun x => F_X9_layTried_b2 79 x.1 x.2) wFu ((0 : Int32), t)) := by
    refine wL_ro (fun k x => ∃ v : wSt, x = (nI k, v) ∧ KT t v ∧ (∀ g, g < k → v.1 104 (6 + g) = t.1 104 g ∧ v.1 105 (6 + g) = t.1 105 g ∧ v.1 106 (6 + g) = t.1 106 g ∧ v.1 107 (6 + g) = t.1 107 g &&& 1 ∧ v.1 108 (6 + g) = t.1 108 g)) _ 6 (by unfold wFu; omega) ?_ ⟨t, rfl, KT_rf t, fun g h => by omega⟩
    rintro k x hk ⟨v, rfl, hK, hR⟩
    have hmv : PM v.2.2 := by rw [hK.1]; exact hm
    unfold F_X9_layTried_b2
    by_cases h6 : k = 6
    · right
      subst h6
      refine ⟨.inl v, ?_, v, rfl, hK, hR⟩
      simp (disch := omega) only [nI_geL, Nat.le_refl, if_true]
    · left
      have h6' : (6 ≤ k) = False := eq_false (by omega)
      have hk6 : k < 6 := by omega
      have hk12 : 6 + k < 12 := by omega
      have e : ∀ a, a = 104 ∨ a = 105 ∨ a = 106 ∨ a = 107 ∨ a = 108 → v.1 a k = t.1 a k := fun a h => hK.2.1 a k (by unfold scr; omega)
      refine ⟨(nI (k + 1), ly1 v k), ?_, hk6, _, rfl, ?_, fun g hg => ?_⟩
      · unfold ly1
        have q49 : v.2.2 79 49 = 105 := by simp only [PM_u hmv]
        have q50 : v.2.2 79 50 = 106 := by simp only [PM_u hmv]
        have q51 : v.2.2 79 51 = 107 := by simp only [PM_u hmv]
        have q52 : v.2.2 79 52 = 108 := by simp only [PM_u hmv]
        have q53 : v.2.2 79 53 = 109 := by simp only [PM_u hmv]
        have h6n : ¬ (6 : Int32) ≤ nI k := by rw [nI_geL (by omega) (by omega)]; omega
        dsimp only
        rw [if_neg h6n]
        rw [q49, wR_104, wR_104, wN_104 _ (by omega), wSI_eq, nI_Ladd, wN_104 _ (by omega)]
        rw [sI_r, q50, wR_105, wR_105, wN_105 _ (by omega), wSI_eq, wN_105 _ (by omega), sI_ne _ _ _ _ _ _ (by decide)]
        rw [sI_r, sI_r, q51, wR_106, wR_106, wN_106 _ (by omega), wSI_eq, wN_106 _ (by omega), sI_ne _ _ _ _ _ _ (by decide), sI_ne _ _ _ _ _ _ (by decide)]
        rw [sI_r, sI_r, sI_r, q52, wR_107, wR_107, wN_107 _ (by omega), wSZ_eq, wN_107 _ (by omega), sI_ne _ _ _ _ _ _ (by decide), sI_ne _ _ _ _ _ _ (by decide), sI_ne _ _ _ _ _ _ (by decide)]
        rw [sI_r, sI_r, sI_r, sI_r, q53, wR_108, wR_108, wN_108 _ (by omega), wSI_eq, wN_108 _ (by omega), sI_ne _ _ _ _ _ _ (by decide), sI_ne _ _ _ _ _ _ (by decide), sI_ne _ _ _ _ _ _ (by decide), sI_ne _ _ _ _ _ _ (by decide)]
        rw [wB_eq, nI_addL]
      · unfold ly1
        exact KT_tr hK (KT_tr (KT_s (by unfold scr; omega)) (KT_tr (KT_s (by unfold scr; omega)) (KT_tr (KT_s (by unfold scr; omega)) (KT_tr (KT_s (by unfold scr; omega)) (KT_s (by unfold scr; omega))))))
      · unfold ly1
        simp only [sI_i, Nat.reduceEqDiff, false_and, true_and, if_false]
        by_cases hgk : g = k
        · subst hgk
          simp only [if_true]
          rw [e 104 (by omega), e 105 (by omega), e 106 (by omega), e 107 (by omega), e 108 (by omega)]
          exact ⟨rfl, rfl, rfl, rfl, rfl⟩
        · have : ¬ 6 + g = 6 + k := by omega
          simp only [this, if_false]
          exact hR g (by omega)
  obtain ⟨y, hy, t1, rfl, hK1, hR1⟩ := k1
  have hm1 : PM t1.2.2 := by rw [hK1.1]; exact hm
  have k2 : Ro (fun y => ∃ v : wSt, y = Sum.inl v ∧ KT t1 v ∧ (∀ a j, ¬ (109 ≤ a ∧ a ≤ 111) → v.1 a j = t1.1 a j) ∧ (∀ g, g < 8 → v.1 109 (8 + g) = t1.1 109 g ∧ v.1 110 (8 + g) = t1.1 110 g &&& 1 ∧ v.1 111 (8 + g) = t1.1 111 g)) (wL (S := Int32 × wSt) (fun x => F_X9_layTried_b91 79 x.1 x.2) wFu ((0 : Int32), t1)) := by
    refine wL_ro (fun k x => ∃ v : wSt, x = (nI k, v) ∧ KT t1 v ∧ (∀ a j, ¬ (109 ≤ a ∧ a ≤ 111) → v.1 a j = t1.1 a j) ∧ (∀ g, g < k → v.1 109 (8 + g) = t1.1 109 g ∧ v.1 110 (8 + g) = t1.1 110 g &&& 1 ∧ v.1 111 (8 + g) = t1.1 111 g)) _ 8 (by unfold wFu; omega) ?_ ⟨t1, rfl, KT_rf t1, fun _ _ _ => rfl, fun g h => by omega⟩
    rintro k x hk ⟨v, rfl, hK, hO, hR⟩
    have hmv : PM v.2.2 := by rw [hK.1]; exact hm1
    unfold F_X9_layTried_b91
    by_cases h6 : k = 8
    · right
      subst h6
      refine ⟨.inl v, ?_, v, rfl, hK, hO, hR⟩
      simp (disch := omega) only [nI_geL, Nat.le_refl, if_true]
    · left
      have h6' : (8 ≤ k) = False := eq_false (by omega)
      have hk6 : k < 8 := by omega
      have hk12 : 8 + k < 16 := by omega
      have e : ∀ a, a = 109 ∨ a = 110 ∨ a = 111 → v.1 a k = t1.1 a k := fun a h => hK.2.1 a k (by unfold scr; omega)
      refine ⟨(nI (k + 1), ly2 v k), ?_, hk6, _, rfl, ?_, fun a j h => ?_, fun g hg => ?_⟩
      · unfold ly2
        have q54 : v.2.2 79 54 = 110 := by simp only [PM_u hmv]
        have q55 : v.2.2 79 55 = 111 := by simp only [PM_u hmv]
        have q56 : v.2.2 79 56 = 112 := by simp only [PM_u hmv]
        have h6n : ¬ (8 : Int32) ≤ nI k := by rw [nI_geL (by omega) (by omega)]; omega
        dsimp only
        rw [if_neg h6n]
        rw [q54, wR_109, wR_109, wN_109 _ (by omega), wSI_eq, nI_Ladd, wN_109 _ (by omega)]
        rw [sI_r, q55, wR_110, wR_110, wN_110 _ (by omega), wSZ_eq, wN_110 _ (by omega), sI_ne _ _ _ _ _ _ (by decide)]
        rw [sI_r, sI_r, q56, wR_111, wR_111, wN_111 _ (by omega), wSI_eq, wN_111 _ (by omega), sI_ne _ _ _ _ _ _ (by decide), sI_ne _ _ _ _ _ _ (by decide)]
        rw [wB_eq, nI_addL]
      · unfold ly2
        exact KT_tr hK (KT_tr (KT_s (by unfold scr; omega)) (KT_tr (KT_s (by unfold scr; omega)) (KT_s (by unfold scr; omega))))
      · unfold ly2
        rw [sI_ne _ _ _ _ _ _ (by omega), sI_ne _ _ _ _ _ _ (by omega), sI_ne _ _ _ _ _ _ (by omega)]
        exact hO a j h
      · unfold ly2
        simp only [sI_i, Nat.reduceEqDiff, false_and, true_and, if_false]
        by_cases hgk : g = k
        · subst hgk
          simp only [if_true]
          rw [e 109 (by omega), e 110 (by omega), e 111 (by omega)]
          exact ⟨rfl, rfl, rfl⟩
        · have : ¬ 8 + g = 8 + k := by omega
          simp only [this, if_false]
          exact hR g (by omega)
  obtain ⟨y, hy2, t2, rfl, hK2, hO2, hR2⟩ := k2
  have hm2 : PM t2.2.2 := by rw [hK2.1]; exact hm1
  have q57 : t2.2.2 79 57 = 113 := by simp only [PM_u hm2]
  have hKb := KT_tr hK1 hK2
  refine ⟨w_sI t2 112 1 (t2.1 112 0), ?_, KT_tr hKb (KT_s (by unfold scr; omega)), fun g hg => ?_, fun f hf => ?_, ?_⟩
  · unfold F_X9_layTried F_X9_layTried_j89 F_X9_layTried_j148
    rw [hy, wJ_inl, hy2, wJ_inl, q57, wR_112, wR_112, wN_lit, wN_112 _ (by omega), wSI_eq, wN_lit, wN_112 _ (by omega), plain_t, wC_s]
  · rw [sI_ne _ _ _ _ _ _ (by decide), sI_ne _ _ _ _ _ _ (by decide), sI_ne _ _ _ _ _ _ (by decide), sI_ne _ _ _ _ _ _ (by decide), sI_ne _ _ _ _ _ _ (by decide), hO2 _ _ (by omega), hO2 _ _ (by omega), hO2 _ _ (by omega), hO2 _ _ (by omega), hO2 _ _ (by omega)]
    exact hR1 g hg
  · rw [sI_ne _ _ _ _ _ _ (by decide), sI_ne _ _ _ _ _ _ (by decide), sI_ne _ _ _ _ _ _ (by decide)]
    have := hR2 f hf
    rw [hK1.2.1 109 f (by unfold scr; omega), hK1.2.1 110 f (by unfold scr; omega), hK1.2.1 111 f (by unfold scr; omega)] at this
    exact this
  · rw [sI_eq]
    exact hKb.2.1 112 0 (by unfold scr; omega)

/-! calls that look: the first -/
def Q0 {α : Type} (t : wSt) (o : Option α) (o' : Option (α × wSt)) : Prop := ∃ (r : α) (t' : wSt), o = some r ∧ o' = some (r, t') ∧ KT t t'
def Q1 {α : Type} (u t : wSt) (o o' : Option (α × wSt)) : Prop := ∃ (r : α) (u' t' : wSt), o = some (r, u') ∧ o' = some (r, t') ∧ KC u u' ∧ KT t t'
section
variable {n m k d c b B : Nat} {u t : wSt}
theorem M_fault {x : Int32} (h : GR n m k d u t) : Q0 t (F_X8_fault 0 x u) (F_X9_fault 79 x t) := by
  unfold F_X9_fault
  obtain ⟨t0, et⟩ : ∃ t0, t0 = w_sI t 79 2 (0 : Int32) := ⟨_, rfl⟩
  have hK0 : KT t t0 := by rw [et]; exact KT_s (by unfold scr; omega)
  have h := GR_fr h (KC_rf u) hK0
  rw [wB_eq, ← et]
  have r4 : u.2.2 0 4 = 37 := by simp only [PL_u h.1]
  obtain ⟨-, -, -, -, -, -, -, -, -, -, -, -, -, -, ⟨f1, f2, f3⟩, -⟩ := h
  unfold F_X8_fault
  by_cases x0 : x = 0
  · rw [if_pos x0, if_pos x0, r4, wR_36, f1]
    exact ⟨_, t0, rfl, rfl, hK0⟩
  · rw [if_neg x0, if_neg x0]
    by_cases x1 : x = 1
    · rw [if_pos x1, if_pos x1, r4, wR_36]
      by_cases z : u.1 36 0 = 0
      · rw [if_pos z, f2 z]
        exact ⟨_, t0, rfl, rfl, hK0⟩
      · rw [if_neg z, wR_36, f3 z]
        exact ⟨_, t0, rfl, rfl, hK0⟩
    · rw [if_neg x1, if_neg x1]
      exact ⟨_, t0, rfl, rfl, hK0⟩
theorem named_g {x : Int32} (h : GR n m k d u t) : Rl Eq (F_X6_guestNamed d x u) (F_X9_find 84 (0 : Int32) (nI n) x t) := by
  obtain ⟨hp, -, hd, -, -, ⟨⟨n6, m8, -⟩, ⟨e1, -⟩, -, -, -, -, hG, -⟩, -⟩ := h
  have p7 := (PL_d hp hd).1
  unfold F_X6_guestNamed F_X9_find
  refine wL_rl (fun i x y => x = nI i ∧ y = nI i) _ n (by unfold wFu; omega) ?_ ⟨rfl, rfl⟩
  rintro i a b hi ⟨rfl, rfl⟩
  unfold F_X6_guestNamed_b2 F_X9_find_b3
  rw [e1]
  have e := nI_leE (a := n) (b := i) (by omega) (by omega)
  by_cases hin : n ≤ i
  · right
    exact ⟨-1, -1, if_pos (by rw [e]; exact hin), if_pos (by rw [e]; exact hin), rfl⟩
  · rw [if_neg (by rw [e]; exact hin), if_neg (by rw [e]; exact hin), p7, wR_d1 _ hd, wN_d1 _ hd (by omega), nI_Ladd, wN_84 _ (by omega), Nat.zero_add, (hG i (by omega)).1]
    by_cases z : u.1 (d + 1) i = x
    · right
      exact ⟨nI i, nI i, if_pos z, if_pos z, rfl⟩
    · left
      refine ⟨nI (i + 1), nI (i + 1), ?_, ?_, by omega, rfl, rfl⟩
      · rw [if_neg z, wB_eq, nI_addL]
      · rw [if_neg z, wB_eq, nI_addL]
theorem named_f {x : Int32} (h : GR n m k d u t) : Rl Eq (F_X6_fruitNamed d x u) (F_X9_find 88 (0 : Int32) (nI m) x t) := by
  obtain ⟨hp, -, hd, -, -, ⟨⟨n6, m8, -⟩, ⟨-, e1, -⟩, -, -, -, -, -, hF, -⟩, -⟩ := h
  have p11 := (PL_d hp hd).2.2.2.2.1
  unfold F_X6_fruitNamed F_X9_find
  refine wL_rl (fun i x y => x = nI i ∧ y = nI i) _ m (by unfold wFu; omega) ?_ ⟨rfl, rfl⟩
  rintro i a b hi ⟨rfl, rfl⟩
  unfold F_X6_fruitNamed_b2 F_X9_find_b3
  rw [e1]
  have e := nI_leE (a := m) (b := i) (by omega) (by omega)
  by_cases hin : m ≤ i
  · right
    exact ⟨-1, -1, if_pos (by rw [e]; exact hin), if_pos (by rw [e]; exact hin), rfl⟩
  · rw [if_neg (by rw [e]; exact hin), if_neg (by rw [e]; exact hin), p11, wR_d5 _ hd, wN_d5 _ hd (by omega), nI_Ladd, wN_88 _ (by omega), Nat.zero_add, (hF i (by omega)).1]
    by_cases z : u.1 (d + 5) i = x
    · right
      exact ⟨nI i, nI i, if_pos z, if_pos z, rfl⟩
    · left
      refine ⟨nI (i + 1), nI (i + 1), ?_, ?_, by omega, rfl, rfl⟩
      · rw [if_neg z, wB_eq, nI_addL]
      · rw [if_neg z, wB_eq, nI_addL]
theorem M_named {x y : Int32} (h : GR n m k d u t) : Q0 t (F_X8_named 0 x y u) (F_X9_named 79 x y t) := by
  unfold F_X9_named
  obtain ⟨t0, et⟩ : ∃ t0, t0 = w_sI t 79 2 (0 : Int32) := ⟨_, rfl⟩
  have hK0 : KT t t0 := by rw [et]; exact KT_s (by unfold scr; omega)
  have h := GR_fr h (KC_rf u) hK0
  rw [wB_eq, ← et]
  obtain ⟨a, b, a1, a2, rfl⟩ := named_g (x := y) h
  obtain ⟨a', b', b1, b2, rfl⟩ := named_f (x := y) h
  have q22 : t0.2.2 79 22 = 85 := by simp only [PM_u h.2.1]
  have q26 : t0.2.2 79 26 = 89 := by simp only [PM_u h.2.1]
  obtain ⟨hp, -, hd, h2, -, ⟨-, -, ⟨e1, e2, -⟩, -⟩, -⟩ := h
  unfold F_X8_named
  by_cases x0 : x = 0
  · rw [if_pos x0, if_pos x0, h2, wR_d0 _ hd, a1, wP_s, q22, wR_84, e1, a2, wP_s]
    exact ⟨_, t0, rfl, rfl, hK0⟩
  · rw [if_neg x0, if_neg x0]
    by_cases x1 : x = 1
    · rw [if_pos x1, if_pos x1, h2, wR_d0 _ hd, b1, wP_s, q26, wR_88, e2, b2, wP_s]
      exact ⟨_, t0, rfl, rfl, hK0⟩
    · rw [if_neg x1, if_neg x1]
      exact ⟨_, t0, rfl, rfl, hK0⟩
theorem eaten_c {f : Nat} (hf : f < 32) : F_X3_isEaten c (nI f) u = some (bI (bt (u.1 c 3) f = true)) := by
  unfold F_X3_isEaten
  rw [bt_sh hf]
  by_cases q : bt (u.1 c 3) f = true
  · rw [bI_t q, if_neg (by decide)]
  · rw [bI_f q, if_pos rfl]
theorem M_fruit {x y : Int32} (h : GR n m k d u t) : Q0 t (F_X8_fruit 0 x y u) (F_X9_fruit 79 x y t) := by
  unfold F_X9_fruit
  obtain ⟨t0, et⟩ : ∃ t0, t0 = w_sI t 79 2 (0 : Int32) := ⟨_, rfl⟩
  have hK0 : KT t t0 := by rw [et]; exact KT_s (by unfold scr; omega)
  have h := GR_fr h (KC_rf u) hK0
  rw [wB_eq, ← et]
  obtain ⟨r, a1, a2, a3⟩ := isF (x := x) (GR_Vw h)
  have q27 : t0.2.2 79 27 = 90 := by simp only [PM_u h.2.1]
  have q28 : t0.2.2 79 28 = 91 := by simp only [PM_u h.2.1]
  have q54 : t0.2.2 79 54 = 110 := by simp only [PM_u h.2.1]
  have q55 : t0.2.2 79 55 = 111 := by simp only [PM_u h.2.1]
  have q56 : t0.2.2 79 56 = 112 := by simp only [PM_u h.2.1]
  have r5 : u.2.2 0 5 = 44 := by simp only [PL_u h.1]
  have r48 : u.2.2 43 8 = 49 := by simp only [PL_u h.1]
  have r49 : u.2.2 43 9 = 50 := by simp only [PL_u h.1]
  obtain ⟨hp, -, hd, h2, -, ⟨⟨n6, m8, -⟩, -, -, -, -, -, -, hF, -⟩, ⟨-, -, hS, -⟩, -⟩ := h
  have p12 := (PL_d hp hd).2.2.2.2.2.1
  have p13 := (PL_d hp hd).2.2.2.2.2.2.1
  unfold F_X8_fruit
  rw [a1, wP_s, a2, wP_s]
  rcases a3 with rfl | ⟨rfl, f, hf, rfl⟩
  · rw [if_pos rfl, if_pos rfl]
    exact ⟨_, t0, rfl, rfl, hK0⟩
  · have n10 : ¬ (1 : Int32) = 0 := by decide
    rw [if_neg n10, if_neg n10]
    have z1 := hF f hf
    have z2 := hS f hf
    simp only [Nat.mul_zero, Nat.zero_add] at z2
    by_cases y0 : y = 0
    · rw [if_pos y0, if_pos y0, h2, wR_d0 _ hd, p12, wR_d6 _ hd, wN_d6 _ hd (by omega), q27, wR_89, wN_89 _ (by omega), z1.2.1]
      exact ⟨_, t0, rfl, rfl, hK0⟩
    · rw [if_neg y0, if_neg y0]
      by_cases y1 : y = 1
      · rw [if_pos y1, if_pos y1, h2, wR_d0 _ hd, p13, wR_d7 _ hd, wN_d7 _ hd (by omega), q28, wR_90, wN_90 _ (by omega), z1.2.2]
        exact ⟨_, t0, rfl, rfl, hK0⟩
      · rw [if_neg y1, if_neg y1]
        by_cases y2 : y = 2
        · rw [if_pos y2, if_pos y2, r5, wR_43, eaten_c (by omega), wP_s, q55, wR_110, wN_110 _ (by omega), z2.2.2]
          by_cases z : bt (u.1 43 3) f = true
          · rw [bI_t z, if_neg (by decide), if_neg (by decide)]
            exact ⟨_, t0, rfl, rfl, hK0⟩
          · rw [bI_f z, if_pos rfl, if_pos rfl]
            exact ⟨_, t0, rfl, rfl, hK0⟩
        · rw [if_neg y2, if_neg y2]
          by_cases y3 : y = 3
          · rw [if_pos y3, if_pos y3, r5, wR_43, r48, wR_48, wN_48 _ (by omega), q54, wR_109, wN_109 _ (by omega), z2.1]
            exact ⟨_, t0, rfl, rfl, hK0⟩
          · rw [if_neg y3, if_neg y3]
            by_cases y4 : y = 4
            · rw [if_pos y4, if_pos y4, r5, wR_43, r49, wR_49, wN_49 _ (by omega), q56, wR_111, wN_111 _ (by omega), z2.2.1]
              exact ⟨_, t0, rfl, rfl, hK0⟩
            · rw [if_neg y4, if_neg y4]
              exact ⟨_, t0, rfl, rfl, hK0⟩
theorem M_uppermost (h : GR n m k d u t) : Q1 u t (F_X8_uppermost 0 u) (F_X9_uppermost 79 t) := by
  unfold F_X9_uppermost
  obtain ⟨t0, et⟩ : ∃ t0, t0 = w_sI t 79 2 (0 : Int32) := ⟨_, rfl⟩
  have hK0 : KT t t0 := by rw [et]; exact KT_s (by unfold scr; omega)
  have h := GR_fr h (KC_rf u) hK0
  rw [wB_eq, ← et]
  have hC := Cx_plain h
  have hc := plain_c h
  have hKC := cb_KC u d 0
  have r5 : (cb u d 0).2.2 0 5 = 44 := by simp only [PL_u hC.1]
  have q57 : t0.2.2 79 57 = 113 := by simp only [PM_u h.2.1]
  obtain ⟨-, -, -, -, -, ⟨⟨-, m8, -⟩, -, ⟨-, e2, -⟩, -⟩, ⟨⟨s, hs, es, es'⟩, -⟩, -⟩ := h
  have es1 : (cb u d 0).1 43 0 = nI s := by rw [(cb_KC u d 0).2 43 0 (by omega) (by omega)]; exact es
  unfold F_X8_uppermost
  rw [hc, wC_s, wG_pos (by decide), r5, wR_43, top_c hC es1 hs, wP_s, e2]
  by_cases m0 : m = 0
  · rw [if_pos m0, if_pos rfl, m0, if_pos (by decide)]
    exact ⟨_, _, t0, rfl, rfl, hKC, hK0⟩
  · have z : ¬ nI m = 0 := by rw [show (0 : Int32) = nI 0 from rfl, nI_eqI (by omega) (by omega)]; exact m0
    have hlt := Nat.mod_lt s (show 0 < m by omega)
    rw [if_neg m0, if_neg (by rw [nI_neg (by omega)]; exact id), if_neg z, q57, wR_112, wN_lit, wN_112 _ (by omega), wG_pos z, show t0.1 112 0 = nI s from es', rem_nI (by omega) (by omega)]
    exact ⟨_, _, t0, rfl, rfl, hKC, hK0⟩
theorem M_bowl (h : GR n m k d u t) : Q1 u t (F_X8_bowl 0 u) (F_X9_bowl 79 t) := by
  unfold F_X9_bowl
  obtain ⟨t0, et⟩ : ∃ t0, t0 = w_sI t 79 2 (0 : Int32) := ⟨_, rfl⟩
  have hK0 : KT t t0 := by rw [et]; exact KT_s (by unfold scr; omega)
  have h := GR_fr h (KC_rf u) hK0
  rw [wB_eq, ← et]
  have hC := Cx_plain h
  have hc := plain_c h
  have hKC := cb_KC u d 0
  have r5 : (cb u d 0).2.2 0 5 = 44 := by simp only [PL_u hC.1]
  obtain ⟨g, g', a1, a2, rfl, hg⟩ := bowl_rl hC
  obtain ⟨t1, et1⟩ : ∃ t1, t1 = tb t0 := ⟨_, rfl⟩
  have hK1 : KT t t1 := by rw [et1]; exact KT_tr hK0 (tb_KT t0)
  rw [plain_t, wC_s]
  rw [← et1] at a2 hC ⊢
  obtain ⟨n6, m8, -⟩ := Cx_b hC
  obtain ⟨-, -, -, e2, -⟩ := Cx_e hC
  have q57 : t1.2.2 79 57 = 113 := by simp only [PM_u hC.2.1]
  have hR : wJ (X := Int32 × wSt) (if (t1.1 79 12) = 0 then (some (.inl ((-1 : Int32), t1))) else (wR (t1.2.2 79 57) 14 (fun o7 => wN (0 : Int32) o7 (fun j8 => wG (¬ (t1.1 79 12) = 0) (wP (F_X9_sitsAt 79 (0 : Int32) (w_rem (t1.1 o7 j8) (t1.1 79 12)) t1) (fun (i9 : Int32) => some (.inl (i9, t1)))))))) (fun x => F_X9_bowl_j36 x.1 x.2) = F_X9_bowl_j36 g t1 := by
    rw [e2]
    by_cases n0 : n = 0
    · rw [if_pos n0] at a2
      cases a2
      rw [n0, if_pos (by decide), wJ_inl]
    · rw [if_neg n0] at a2
      have z : ¬ nI n = 0 := by rw [show (0 : Int32) = nI 0 from rfl, nI_eqI (by omega) (by omega)]; exact n0
      have a2 : F_X9_sitsAt 79 (0 : Int32) (w_rem (t1.1 112 0) (nI n)) t1 = some g := a2
      rw [if_neg z, q57, wR_112, wN_lit, wN_112 _ (by omega), wG_pos z, a2, wP_s, wJ_inl]
  rw [hR]
  unfold F_X8_bowl F_X9_bowl_j36
  rw [hc, wC_s, wG_pos (by decide), r5, wR_43, a1, wP_s]
  rcases hg with rfl | ⟨g, hgn, rfl⟩
  · rw [if_pos rfl, if_neg (by decide)]
    exact ⟨_, _, t1, rfl, rfl, hKC, hK1⟩
  · rw [if_neg (by rw [nI_neg (by omega)]; exact id), if_pos (nI_pos' (by omega))]
    exact ⟨_, _, t1, rfl, rfl, hKC, hK1⟩
theorem M_apart {x y : Int32} (h : GR n m k d u t) : Q1 u t (F_X8_apart 0 x y u) (F_X9_apart 79 x y t) := by
  unfold F_X9_apart
  obtain ⟨t0, et⟩ : ∃ t0, t0 = w_sI t 79 2 (0 : Int32) := ⟨_, rfl⟩
  have hK0 : KT t t0 := by rw [et]; exact KT_s (by unfold scr; omega)
  have h := GR_fr h (KC_rf u) hK0
  rw [wB_eq, ← et]
  have hc := plain_c h
  have hKC := cb_KC u d 0
  obtain ⟨r, a1, a2, a3⟩ := isG (x := x) (GR_Vw h)
  obtain ⟨r', b1, b2, b3⟩ := isG (x := y) (GR_Vw h)
  have n6 := h.2.2.2.2.2.1.1.1
  unfold F_X8_apart
  rw [a1, wP_s, a2, wP_s, b1, b2]
  rcases a3 with rfl | ⟨rfl, g, hg, rfl⟩
  · rw [if_pos rfl, if_pos rfl]
    exact ⟨_, u, t0, rfl, rfl, KC_rf u, hK0⟩
  · rw [if_neg (by decide), if_neg (by decide), wP_s, wP_s]
    rcases b3 with rfl | ⟨rfl, i, hi, rfl⟩
    · rw [if_pos rfl, if_pos rfl]
      exact ⟨_, u, t0, rfl, rfl, KC_rf u, hK0⟩
    · have hC := Cx_plain h
      have r5 : (cb u d 0).2.2 0 5 = 44 := by simp only [PL_u hC.1]
      obtain ⟨f, f', f1, f2, rfl⟩ := far_rl hC hg hi
      have f2 : F_X9_far 79 (0 : Int32) (nI g) (nI i) t0 = some f := by
        rw [← f2]
        unfold F_X9_far F_X9_far_j46
        rw [show (tb t0).2.2 = t0.2.2 from rfl]
        have : ∀ o : Nat, o = 106 → ∀ j, (tb t0).1 o j = t0.1 o j := fun o ho j => tb_ne t0 (by omega)
        have e12 : (tb t0).1 79 12 = t0.1 79 12 := tb_ne t0 (by omega)
        have q51 : t0.2.2 79 51 = 107 := by simp only [PM_u h.2.1]
        have i1 : (6 : Int32) * 0 + nI g = nI (6 * 0 + g) := by rw [show (0 : Int32) = nI 0 from rfl, nI_mulL, nI_add]
        have i2 : (6 : Int32) * 0 + nI i = nI (6 * 0 + i) := by rw [show (0 : Int32) = nI 0 from rfl, nI_mulL, nI_add]
        have i3 : (6 : Int32) * nI 0 + nI g = nI (6 * 0 + g) := by rw [nI_mulL, nI_add]
        have i4 : (6 : Int32) * nI 0 + nI i = nI (6 * 0 + i) := by rw [nI_mulL, nI_add]
        rw [q51, wR_106, wR_106, i1, i2, i3, i4, wN_106 _ (by omega), wN_106 _ (by omega), e12]
        simp only [wB_eq, wR_106]
        rw [wN_106 _ (by omega), wN_106 _ (by omega), this 106 rfl, this 106 rfl]
      rw [if_neg (by decide), if_neg (by decide), hc, wC_s, wG_pos (by decide), r5, wR_43, f1, wP_s, f2, wP_s]
      exact ⟨_, _, t0, rfl, rfl, hKC, hK0⟩
end

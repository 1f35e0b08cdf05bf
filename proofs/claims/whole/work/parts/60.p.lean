/-! calls that look: guest, law, rests, rest, warm -/
section
variable {n m k d c b B : Nat} {u t : wSt}
theorem M_guest {x y : Int32} (h : GR n m k d u t) : ∃ (e r r' : Int32) (u' t' : wSt), F_X8_guest 0 x y u = some (e, r, u') ∧ F_X9_guest 79 x y t = some (r', t') ∧ t'.1 79 2 = e ∧ (e = 0 → r = r') ∧ KC u u' ∧ KT t t' := by
  unfold F_X9_guest
  obtain ⟨t0, et⟩ : ∃ t0, t0 = w_sI t 79 2 (0 : Int32) := ⟨_, rfl⟩
  have hK0 : KT t t0 := by rw [et]; exact KT_s (by unfold scr; omega)
  have h := GR_fr h (KC_rf u) hK0
  rw [wB_eq, ← et]
  have t02 : t0.1 79 2 = 0 := by rw [et]; exact sI_eq _ _ _ _
  obtain ⟨r, a1, a2, a3⟩ := isG (x := x) (GR_Vw h)
  unfold F_X8_guest
  rw [a1, wP_s, a2, wP_s]
  have hKs : ∀ (v : wSt) (z : Int32), KT v (w_sI v 79 2 z) := fun v z => KT_s (by unfold scr; omega)
  rcases a3 with rfl | ⟨rfl, g, hg, rfl⟩
  · refine ⟨1, 0, 0, u, w_sI t0 79 2 1, if_pos rfl, ?_, sI_eq _ _ _ _, fun e => absurd e (by decide), KC_rf u, KT_tr hK0 (hKs _ _)⟩
    rw [if_pos rfl]
    unfold F_X9_fails
    repeat (first | rw [wB_eq] | rw [wC_s] | rw [wP_s] | rw [wJ_inl] | rw [wJ_inr])
  · have n10 : ¬ (1 : Int32) = 0 := by decide
    rw [if_neg n10, if_neg n10, plain_t, wC_s]
    have hC := Cx_plain h
    have hc := plain_c h
    have hKC := cb_KC u d 0
    obtain ⟨t1, et1⟩ : ∃ t1, t1 = tb t0 := ⟨_, rfl⟩
    have hK1 : KT t t1 := by rw [et1]; exact KT_tr hK0 (tb_KT t0)
    have t12 : t1.1 79 2 = 0 := by rw [et1, tb_ne t0 (by omega)]; exact t02
    rw [← et1] at hC ⊢
    have h1 := GR_fr h (KC_rf u) (show KT t0 t1 by rw [et1]; exact tb_KT t0)
    have q49 : t1.2.2 79 49 = 105 := by simp only [PM_u h1.2.1]
    have q50 : t1.2.2 79 50 = 106 := by simp only [PM_u h1.2.1]
    have q25 : t1.2.2 79 25 = 88 := by simp only [PM_u h1.2.1]
    have q51 : t1.2.2 79 51 = 107 := by simp only [PM_u h1.2.1]
    have q52 : t1.2.2 79 52 = 108 := by simp only [PM_u h1.2.1]
    have q53 : t1.2.2 79 53 = 109 := by simp only [PM_u h1.2.1]
    have r5 : u.2.2 0 5 = 44 := by simp only [PL_u h.1]
    have r44 : u.2.2 43 4 = 45 := by simp only [PL_u h.1]
    have r45 : u.2.2 43 5 = 46 := by simp only [PL_u h.1]
    have r46 : u.2.2 43 6 = 47 := by simp only [PL_u h.1]
    have r47 : u.2.2 43 7 = 48 := by simp only [PL_u h.1]
    obtain ⟨hp, -, hd, h2, -, ⟨⟨n6, -⟩, -, -, -, -, -, hG, -⟩, ⟨-, hS, -⟩, -⟩ := h1
    have p10 := (PL_d hp hd).2.2.2.1
    have z1 := hG g hg
    have z2 := hS g hg
    simp only [Nat.mul_zero, Nat.zero_add] at z2
    have fin : ∀ r : Int32, ∃ (e r0 r' : Int32) (u' t' : wSt), (some ((0 : Int32), r, u) : Option (Int32 × Int32 × wSt)) = some (e, r0, u') ∧ (some (r, t1) : Option (Int32 × wSt)) = some (r', t') ∧ t'.1 79 2 = e ∧ (e = 0 → r0 = r') ∧ KC u u' ∧ KT t t' := fun r => ⟨0, r, r, u, t1, rfl, rfl, t12, fun _ => rfl, KC_rf u, hK1⟩
    by_cases y0 : y = 0
    · rw [if_pos y0, if_pos y0, r5, wR_43, r45, wR_45, wN_45 _ (by omega), q49, wR_104, wN_104 _ (by omega), z2.2.1]
      exact fin _
    · rw [if_neg y0, if_neg y0]
      by_cases y1 : y = 1
      · rw [if_pos y1, if_pos y1, r5, wR_43, r46, wR_46, wN_46 _ (by omega), q50, wR_105, wN_105 _ (by omega), z2.2.2.1]
        exact fin _
      · rw [if_neg y1, if_neg y1]
        by_cases y2 : y = 2
        · rw [if_pos y2, if_pos y2, h2, wR_d0 _ hd, p10, wR_d4 _ hd, wN_d4 _ hd (by omega), q25, wR_87, wN_87 _ (by omega), z1.2.2.2.1]
          exact fin _
        · rw [if_neg y2, if_neg y2]
          by_cases y3 : y = 3
          · rw [if_pos y3, if_pos y3, r5, wR_43, r44, wR_44, wN_44 _ (by omega), q51, wR_106, wN_106 _ (by omega), z2.1]
            exact fin _
          · rw [if_neg y3, if_neg y3]
            by_cases y4 : y = 4
            · rw [if_pos y4, if_pos y4, r5, wR_43, faint_c (by omega), wP_s, q52, wR_107, wN_107 _ (by omega), z2.2.2.2.2]
              by_cases q : bt (u.1 43 2) g = true
              · have q' : ¬ (bt (u.1 43 2) g = false) := by rw [q]; decide
                rw [bI_t q, bI_f q', if_neg n10, if_pos rfl]
                exact fin _
              · have q' : bt (u.1 43 2) g = false := by
                  cases hq : bt (u.1 43 2) g
                  · rfl
                  · exact absurd hq q
                rw [bI_f q, bI_t q', if_pos rfl, if_neg n10]
                exact fin _
            · rw [if_neg y4, if_neg y4]
              by_cases y5 : y = 5
              · obtain ⟨f, f', f1, f2, rfl⟩ := hear_rl hC hg
                have f2 : F_X9_hearing 79 (0 : Int32) (nI g) t1 = some f := f2
                have r5' : (cb u d 0).2.2 0 5 = 44 := by simp only [PL_u hC.1]
                rw [if_pos y5, if_pos y5, hc, wC_s, wG_pos (by decide), r5', wR_43, f1, wP_s, f2, wP_s]
                exact ⟨0, f, f, _, t1, rfl, rfl, t12, fun _ => rfl, hKC, hK1⟩
              · rw [if_neg y5, if_neg y5]
                by_cases y6 : y = 6
                · rw [if_pos y6, if_pos y6, r5, wR_43, r47, wR_47, wN_47 _ (by omega), q53, wR_108, wN_108 _ (by omega), z2.2.2.2.1]
                  exact fin _
                · rw [if_neg y6, if_neg y6]
                  refine ⟨2, 0, 0, u, w_sI t1 79 2 2, rfl, ?_, sI_eq _ _ _ _, fun e => absurd e (by decide), KC_rf u, KT_tr hK1 (hKs _ _)⟩
                  unfold F_X9_fails
                  repeat (first | rw [wB_eq] | rw [wC_s] | rw [wP_s] | rw [wJ_inl] | rw [wJ_inr])
theorem M_law {w x y : Int32} (h : GR n m k d u t) : Q1 u t (F_X8_law 0 w x y u) (F_X9_law 79 w x y t) := by
  unfold F_X9_law
  obtain ⟨t0, et⟩ : ∃ t0, t0 = w_sI t 79 2 (0 : Int32) := ⟨_, rfl⟩
  have hK0 : KT t t0 := by rw [et]; exact KT_s (by unfold scr; omega)
  have h := GR_fr h (KC_rf u) hK0
  rw [wB_eq, ← et]
  obtain ⟨r, a1, a2, a3⟩ := isG (x := x) (GR_Vw h)
  obtain ⟨r', b1, b2, b3⟩ := isF (x := y) (GR_Vw h)
  have q31 : t0.2.2 79 31 = 94 := by simp only [PM_u h.2.1]
  have hC := Cx_plain h
  have hc := plain_c h
  have hKC := cb_KC u d 0
  have r5' : (cb u d 0).2.2 0 5 = 44 := by simp only [PL_u hC.1]
  unfold F_X8_law F_X8_law_j25 F_X9_law_j39 F_X9_isIn
  have fin : Q1 u t (some ((-9223372036854775808 : Int64), u)) (some ((-9223372036854775808 : Int64), t0)) := ⟨_, u, t0, rfl, rfl, KC_rf u, hK0⟩
  by_cases w0 : w < 0
  · rw [if_pos w0, if_pos w0, wP_s, if_pos rfl, wJ_inl, wJ_inl]
    exact fin
  · rw [if_neg w0, if_neg w0]
    have e3 : (3 : Int32) ≤ w ↔ (2 : Int32) < w := by
      rw [Int32.le_iff_toInt_le, Int32.lt_iff_toInt_lt, show (3 : Int32).toInt = 3 from by decide, show (2 : Int32).toInt = 2 from by decide]
      omega
    by_cases w3 : (3 : Int32) ≤ w
    · rw [if_pos w3, if_pos (e3.mp w3), wP_s, if_pos rfl, wJ_inl, wJ_inl]
      exact fin
    · have w2 : ¬ (2 : Int32) < w := fun q => w3 (e3.mpr q)
      obtain ⟨l, hl, rfl⟩ : ∃ l : Nat, l < 3 ∧ w = nI l := nI_below (by omega) (by rw [← i_nlt]; exact w0) (by rw [← i_nle]; exact w3)
      have hl1 := Lw_e (w := l) hC hl
      have hl2 : t0.1 93 l = u.1 (d + 11) l := by
        have e := hl1.1
        rw [tb_ne t0 (by omega), (cb_KC u d 0).2 _ _ (by have := TC_le h.2.2.1; omega) (by have := TC_le h.2.2.1; omega)] at e
        exact e
      have hcl : (cb u d 0).1 (d + 11) l = u.1 (d + 11) l := (cb_KC u d 0).2 _ _ (by have := TC_le h.2.2.1; omega) (by have := TC_le h.2.2.1; omega)
      rw [if_neg w3, if_neg w2, wP_s, if_neg (by decide), q31, wR_93, wN_93 _ (by omega), a1, wP_s, a2, b1, b2, hl2]
      rcases a3 with rfl | ⟨rfl, g, hg, rfl⟩
      · rw [if_pos rfl, wJ_inl]
        by_cases z : u.1 (d + 11) l = 0
        · rw [if_pos z, wJ_inl]
          exact fin
        · rw [if_neg z, wP_s, if_pos rfl, wJ_inl]
          exact fin
      · have n10 : ¬ (1 : Int32) = 0 := by decide
        rw [if_neg n10, wP_s]
        rcases b3 with rfl | ⟨rfl, f, hf, rfl⟩
        · rw [if_pos rfl, wJ_inl]
          by_cases z : u.1 (d + 11) l = 0
          · rw [if_pos z, wJ_inl]
            exact fin
          · rw [if_neg z, wP_s, if_neg n10, wP_s, if_pos rfl, wJ_inl]
            exact fin
        · rw [if_neg n10, hc, wC_s, wG_pos (by decide), r5', wR_43]
          rcases hl1.2 with z | z
          · have z0 : u.1 (d + 11) l = 0 := by rw [← hcl]; exact z
            rw [workOut_0 hC hl z, wC_s, wJ_inr, if_pos z0, wJ_inl]
            exact ⟨_, _, t0, rfl, rfl, hKC, hK0⟩
          · have z0 : ¬ u.1 (d + 11) l = 0 := by rw [← hcl, z]; decide
            obtain ⟨sw, hsw, hsw2⟩ := sweet_e hC hf
            obtain ⟨o, hbo, ⟨u', f1, f2⟩, hr⟩ := law_rl hC hg hf hl z hsw
            obtain ⟨t1, g1, g2, g3⟩ := lay_r hC hg hf hsw
            obtain ⟨t2, k1, k2, k3⟩ := hr t1 g2 g3
            have g1 : F_X9_layNames 79 (0 : Int32) (nI g) (nI f) (tb t0) = some ((), t1) := g1
            rw [f1, wC_s, wJ_inr, if_neg z0, wP_s, if_neg n10, wP_s, if_neg n10, plain_t, wC_s, g1, wC_s, k1, wC_s]
            rcases k3 with ⟨rfl, k3⟩ | ⟨v, rfl, k3⟩
            · rw [if_neg (by rw [k3]; decide), wJ_inr]
              exact ⟨_, u', t2, rfl, rfl, KC_tr hKC (KC_QC f2), KT_tr hK0 (KT_tr (tb_KT t0) (KT_LR k2))⟩
            · rw [if_pos k3, wJ_inr]
              exact ⟨_, u', t2, rfl, rfl, KC_tr hKC (KC_QC f2), KT_tr hK0 (KT_tr (tb_KT t0) (KT_LR k2))⟩
/-! two who praise or bite -/
theorem duel_rl {g i : Nat} {x y : Int32} (h : GR n m k d u t) (hg : g < n) (hi : i < n) : Rl Eq (F_X8_duelWorth 0 (nI g) (nI i) x y u) (F_X9_hasBy 79 (nI g) (nI i) x y t) := by
  have q49 : t.2.2 79 49 = 105 := by simp only [PM_u h.2.1]
  have q50 : t.2.2 79 50 = 106 := by simp only [PM_u h.2.1]
  have q25 : t.2.2 79 25 = 88 := by simp only [PM_u h.2.1]
  have r5 : u.2.2 0 5 = 44 := by simp only [PL_u h.1]
  have r45 : u.2.2 43 5 = 46 := by simp only [PL_u h.1]
  have r46 : u.2.2 43 6 = 47 := by simp only [PL_u h.1]
  obtain ⟨hp, -, hd, h2, -, ⟨⟨n6, -⟩, -, -, -, -, -, hG, -⟩, ⟨-, hS, -⟩, -⟩ := h
  have p10 := (PL_d hp hd).2.2.2.1
  have z1 := (hG g hg).2.2.2.1
  have z1' := (hG i hi).2.2.2.1
  have z2 := hS g hg
  simp only [Nat.mul_zero, Nat.zero_add] at z2
  unfold F_X8_duelWorth F_X9_hasBy
  by_cases x0 : x = 0
  · rw [if_pos x0, if_pos x0]
    by_cases y0 : y = 0
    · rw [if_pos y0, if_pos y0, h2, wR_d0 _ hd, p10, wR_d4 _ hd, wN_d4 _ hd (by omega), q25, wR_87, wN_87 _ (by omega), z1']
      exact Rl_some rfl
    · rw [if_neg y0, if_neg y0, h2, wR_d0 _ hd, p10, wR_d4 _ hd, wN_d4 _ hd (by omega), q25, wR_87, wN_87 _ (by omega), z1]
      exact Rl_some rfl
  · rw [if_neg x0, if_neg x0]
    by_cases y0 : y = 0
    · rw [if_pos y0, if_pos y0, r5, wR_43, r46, wR_46, wN_46 _ (by omega), q50, wR_105, wN_105 _ (by omega), z2.2.2.1]
      exact Rl_some rfl
    · rw [if_neg y0, if_neg y0, r5, wR_43, r45, wR_45, wN_45 _ (by omega), q49, wR_104, wN_104 _ (by omega), z2.2.1]
      exact Rl_some rfl
/-- one pair of deeds: whether it is a rest; what the reference does with it -/
theorem pair_1 {g i : Nat} {w p q : Int32} (h : GR n m k d u t) (hg : g < n) (hi : i < n) (hq : ¬ (4 : Int32) ≤ q) : ∃ r : Int32, F_X8_isRest 0 (nI g) (nI i) q u = some r ∧ ((r = 0 ∧ F_X9_restAt_b6 79 (nI g) (nI i) t w p q = some (.inl (p, q + 1))) ∨ (r = 1 ∧ F_X9_restAt_b6 79 (nI g) (nI i) t w p q = (if p = w then some (.inr (.inl (q / 2, w_rem q 2))) else some (.inl (p + 1, q + 1))))) := by
  unfold F_X8_isRest F_X9_restAt_b6 F_X9_restAt_j95
  obtain ⟨v1, v1', a1, a2, rfl⟩ := duel_rl (x := q / 2) (y := w_rem q 2) h hg hi
  obtain ⟨v2, v2', b1, b2, rfl⟩ := duel_rl (x := 1 - q / 2) (y := w_rem q 2) h hg hi
  obtain ⟨v3, v3', c1, c2, rfl⟩ := duel_rl (x := w_rem q 2) (y := q / 2) h hi hg
  obtain ⟨v4, v4', d1, d2, rfl⟩ := duel_rl (x := 1 - w_rem q 2) (y := q / 2) h hi hg
  rw [wB_eq, wB_eq, a1, wP_s, b1, wP_s, c1, wP_s, d1, wP_s, if_neg hq, wB_eq, wB_eq, b2, wP_s, a2, wP_s, d2, wP_s, c2, wP_s]
  by_cases z : v1 < v2
  · rw [if_pos z, if_pos z, wJ_inl, wB_eq]
    exact ⟨0, rfl, Or.inl ⟨rfl, rfl⟩⟩
  · rw [if_neg z, if_neg z]
    by_cases z2 : v3 < v4
    · have z3 : ¬ v4 ≤ v3 := by rw [i_nle]; exact z2
      rw [if_pos z2, if_neg z3, wJ_inl, wB_eq]
      exact ⟨0, rfl, Or.inl ⟨rfl, rfl⟩⟩
    · have z3 : v4 ≤ v3 := by rw [← i_nlt]; exact z2
      rw [if_neg z2, if_pos z3]
      refine ⟨1, rfl, Or.inr ⟨rfl, ?_⟩⟩
      by_cases z4 : p = w
      · rw [if_pos z4, if_pos z4, wJ_inr]
      · rw [if_neg z4, if_neg z4, wB_eq, wJ_inl, wB_eq]
theorem M_rests {x y : Int32} (h : GR n m k d u t) : Q0 t (F_X8_rests 0 x y u) (F_X9_rests 79 x y t) := by
  unfold F_X9_rests
  obtain ⟨t0, et⟩ : ∃ t0, t0 = w_sI t 79 2 (0 : Int32) := ⟨_, rfl⟩
  have hK0 : KT t t0 := by rw [et]; exact KT_s (by unfold scr; omega)
  have h := GR_fr h (KC_rf u) hK0
  rw [wB_eq, ← et]
  obtain ⟨r, a1, a2, a3⟩ := two (x := x) (y := y) (GR_Vw h)
  unfold F_X8_rests
  rw [a1, wP_s, a2, wP_s]
  rcases a3 with rfl | ⟨rfl, g, i, hg, hi, -, rfl, rfl⟩
  · rw [if_pos rfl, if_pos rfl]
    exact ⟨_, t0, rfl, rfl, hK0⟩
  · have n10 : ¬ (1 : Int32) = 0 := by decide
    rw [if_neg n10, if_neg n10]
    have key : Rl (fun x y => y = .inr (.inl x)) (wL (S := Int32 × Int32) (fun x => F_X8_rests_b16 0 (nI g) (nI i) u x.1 x.2) wFu ((0 : Int32), (0 : Int32))) (wL (S := Int32 × Int32) (fun x => F_X9_restAt_b6 79 (nI g) (nI i) t0 (-1 : Int32) x.1 x.2) wFu ((0 : Int32), (0 : Int32))) := by
      refine wL_rl (fun j x y => ∃ c : Nat, c ≤ j ∧ x = (nI c, nI j) ∧ y = (nI c, nI j)) _ 4 (by unfold wFu; omega) ?_ ⟨0, by omega, rfl, rfl⟩
      rintro j x y hj ⟨c, hc, rfl, rfl⟩
      have e : ((4 : Int32) ≤ nI j) = (4 ≤ j) := nI_leE (a := 4) (b := j) (by omega) (by omega)
      by_cases h4 : 4 ≤ j
      · right
        have h4' : (4 : Int32) ≤ nI j := by rw [e]; exact h4
        refine ⟨nI c, .inr (.inl (nI c)), ?_, ?_, rfl⟩
        · unfold F_X8_rests_b16
          exact if_pos h4'
        · unfold F_X9_restAt_b6
          exact if_pos h4'
      · left
        have h4' : ¬ (4 : Int32) ≤ nI j := by rw [e]; exact h4
        dsimp only
        obtain ⟨r, k1, k2⟩ := pair_1 (w := (-1 : Int32)) (p := nI c) (q := nI j) h hg hi h4'
        unfold F_X8_rests_b16 F_X8_rests_j36
        rw [if_neg h4', k1, wP_s]
        rcases k2 with ⟨rfl, k2⟩ | ⟨rfl, k2⟩
        · refine ⟨(nI c, nI (j + 1)), (nI c, nI (j + 1)), ?_, ?_, by omega, c, by omega, rfl, rfl⟩
          · rw [if_pos rfl]
            repeat (first | rw [wB_eq] | rw [wC_s] | rw [wP_s] | rw [wJ_inl] | rw [wJ_inr])
            rw [nI_addL]
          · rw [k2, nI_addL]
        · refine ⟨(nI (c + 1), nI (j + 1)), (nI (c + 1), nI (j + 1)), ?_, ?_, by omega, c + 1, by omega, rfl, rfl⟩
          · rw [if_neg n10]
            repeat (first | rw [wB_eq] | rw [wC_s] | rw [wP_s] | rw [wJ_inl] | rw [wJ_inr])
            rw [nI_addL, nI_addL]
          · rw [k2, if_neg (by rw [nI_neg (by omega)]; exact id), nI_addL, nI_addL]
    obtain ⟨x, y, k1, k2, rfl⟩ := key
    unfold F_X9_restAt F_X9_restAt_j101
    rw [k1, k2, wJ_inr, wJ_inl, if_neg (by decide), wP_s]
    exact ⟨x, t0, rfl, rfl, hK0⟩
theorem M_rest {x y z : Int32} (h : GR n m k d u t) : Q0 t (F_X8_rest 0 x y z u) (F_X9_rest 79 x y z t) := by
  unfold F_X9_rest
  obtain ⟨t0, et⟩ : ∃ t0, t0 = w_sI t 79 2 (0 : Int32) := ⟨_, rfl⟩
  have hK0 : KT t t0 := by rw [et]; exact KT_s (by unfold scr; omega)
  have h := GR_fr h (KC_rf u) hK0
  rw [wB_eq, ← et]
  obtain ⟨r, a1, a2, a3⟩ := two (x := x) (y := y) (GR_Vw h)
  unfold F_X8_rest
  rw [a1, wP_s, a2, wP_s]
  rcases a3 with rfl | ⟨rfl, g, i, hg, hi, -, rfl, rfl⟩
  · rw [if_pos rfl, if_pos rfl]
    exact ⟨_, t0, rfl, rfl, hK0⟩
  · have n10 : ¬ (1 : Int32) = 0 := by decide
    rw [if_neg n10, if_neg n10]
    by_cases z0 : z < 0
    · have z1 : ¬ 0 ≤ z := by rw [i_nle]; exact z0
      rw [if_pos z0, if_neg z1]
      exact ⟨_, t0, rfl, rfl, hK0⟩
    · have z1 : 0 ≤ z := by rw [← i_nlt]; exact z0
      rw [if_neg z0, if_pos z1]
      have key : Rl (fun x y => (x = .inr (-2) ∧ ∃ c : Int32, y = .inr (.inl c)) ∨ (∃ q : Int32, x = .inl q ∧ y = .inl (q / 2, w_rem q 2))) (wL (S := Int32 × Int32) (fun x => F_X8_rest_b21 0 (nI g) (nI i) u z x.1 x.2) wFu ((0 : Int32), (0 : Int32))) (wL (S := Int32 × Int32) (fun x => F_X9_restAt_b6 79 (nI g) (nI i) t0 z x.1 x.2) wFu ((0 : Int32), (0 : Int32))) := by
        refine wL_rl (fun j x y => ∃ c : Int32, x = (c, nI j) ∧ y = (c, nI j)) _ 4 (by unfold wFu; omega) ?_ ⟨0, rfl, rfl⟩
        rintro j x y hj ⟨c, rfl, rfl⟩
        have e : ((4 : Int32) ≤ nI j) = (4 ≤ j) := nI_leE (a := 4) (b := j) (by omega) (by omega)
        by_cases h4 : 4 ≤ j
        · right
          have h4' : (4 : Int32) ≤ nI j := by rw [e]; exact h4
          refine ⟨.inr (-2), .inr (.inl c), ?_, ?_, Or.inl ⟨rfl, c, rfl⟩⟩
          · unfold F_X8_rest_b21
            exact if_pos h4'
          · unfold F_X9_restAt_b6
            exact if_pos h4'
        · have h4' : ¬ (4 : Int32) ≤ nI j := by rw [e]; exact h4
          dsimp only
          obtain ⟨r, k1, k2⟩ := pair_1 (w := z) (p := c) (q := nI j) h hg hi h4'
          unfold F_X8_rest_b21 F_X8_rest_j60
          rw [if_neg h4', k1, wP_s]
          rcases k2 with ⟨rfl, k2⟩ | ⟨rfl, k2⟩
          · left
            refine ⟨(c, nI (j + 1)), (c, nI (j + 1)), ?_, ?_, by omega, c, rfl, rfl⟩
            · rw [if_pos rfl]
              repeat (first | rw [wB_eq] | rw [wC_s] | rw [wP_s] | rw [wJ_inl] | rw [wJ_inr])
              rw [nI_addL]
            · rw [k2, nI_addL]
          · by_cases hcz : c = z
            · right
              refine ⟨.inl (nI j), .inl (nI j / 2, w_rem (nI j) 2), ?_, ?_, Or.inr ⟨_, rfl, rfl⟩⟩
              · rw [if_neg n10, if_pos hcz, wJ_inr]
              · rw [k2, if_pos hcz]
            · left
              refine ⟨(c + 1, nI (j + 1)), (c + 1, nI (j + 1)), ?_, ?_, by omega, c + 1, rfl, rfl⟩
              · rw [if_neg n10, if_neg hcz]
                repeat (first | rw [wB_eq] | rw [wC_s] | rw [wP_s] | rw [wJ_inl] | rw [wJ_inr])
                rw [nI_addL]
              · rw [k2, if_neg hcz, nI_addL]
      obtain ⟨x, y, k1, k2, k3⟩ := key
      unfold F_X9_restAt F_X9_restAt_j101 F_X9_restAt_j83 F_X8_rest_j44
      rw [k1, k2]
      rcases k3 with ⟨rfl, c, rfl⟩ | ⟨q, rfl, rfl⟩
      · rw [wJ_inr, wJ_inr, wJ_inl, if_pos z1, wP_s]
        exact ⟨_, t0, rfl, rfl, hK0⟩
      · rw [wJ_inl, wJ_inl, wJ_inr, wP_s, Int32.mul_comm]
        exact ⟨_, t0, rfl, rfl, hK0⟩
end

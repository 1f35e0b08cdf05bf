/-! a law under way: a value begins -/
theorem wrong_h {β : Type} {t : wSt} {w : Int32} : wC (F_X9_wrong 79 w t) (fun (i : Int32) (v : wSt) => wG (i = 0 ∨ i = 1) (some (Sum.inr (i, v) : β ⊕ (Int32 × wSt)))) = some (Sum.inr ((0 : Int32), wr t w)) := by
  rw [wrong_t, wC_s, wG_pos (Or.inl rfl)]
section
variable {n s e i w p c K : Nat} {b ps : Nat → Nat} {S L : List Nat} {u t : wSt}
theorem leaf_o (h : Lx n b ps s e i w p c K S L u t) (hW : W1 S L t) {k : Nat} (hk0 : u.1 38 0 = nI k) (hN : KN k (u.1 38 2) (t.1 79 8) (t.1 79 9)) (h30 : k = 30) : Lp n b ps s e i w p u t (F_X2_readTowardsValue 36 u) (F_X9_leafRead 79 t) := by
  obtain ⟨hR, hk, hf, hL⟩ := h
  have hp := hR.1
  have hm := hR.2.1
  have hd := hR.2.2.1
  have d1 := TC_le hd
  have hl := Lg_len hL
  have hLg := hL
  obtain ⟨⟨k1, k2, k3, k4⟩, ⟨w3, h5⟩, ⟨s1, s2, s3⟩, ⟨l1, l2⟩, ⟨c1, c2⟩, ⟨q1, q2, q3⟩, hP, -⟩ := hL
  have nl := n_len S
  have k36 := hN.1
  have pK := hP.1
  have n10 : ¬ (1 : Int32) = 0 := by decide
  have z00 : (0 : Int32) = 0 := rfl
  have x2 : (2 : Int32) ≠ 0 := by decide
  have x1 : (1 : Int32) ≠ 0 := by decide
  have Uu : uL e w p u u := uL_rf
  have Ut : tL p t t := tL_rf
  have e33 : (nI k = (33 : Int32)) = (k = 33) := nI_eqI (a := k) (b := 33) (by omega) (by omega)
  have e30 : (nI k = (30 : Int32)) = (k = 30) := nI_eqI (a := k) (b := 30) (by omega) (by omega)
  have e12 : (nI k = (12 : Int32)) = (k = 12) := nI_eqI (a := k) (b := 12) (by omega) (by omega)
  have e31 : (nI k = (31 : Int32)) = (k = 31) := nI_eqI (a := k) (b := 31) (by omega) (by omega)
  obtain ⟨w1, w44, w45⟩ := hW
  have sg : F_X9_isSign 79 (40 : Int32) t = some (bI (k = 30)) := sgn_t (c := 30) hN (by omega)
  have ky : F_X9_isKey 79 (12 : Int32) t = some (bI (k = 12)) := key_t (c := 12) hN (by omega)
  have nm := nm_t hN
  rw [rt_c hp hk0 k36]
  unfold F_X2_readTowardsValue_j25 F_X9_leafRead
  rw [sg, wP_s]
  rw [if_neg (show ¬ (13 ≤ k ∧ k ≤ 19) by omega), bI_t h30, if_neg n10, if_neg (fun z => absurd (e33.mp z) (by omega)), if_pos z00, if_pos (e30.mpr h30)]
  unfold F_X2_openOne F_X2_readTowardsValue_j131
  have e8 : (nI (nPa S) < (8 : Int32)) = (nPa S < 8) := nI_ltE (a := nPa S) (b := 8) (by omega) (by omega)
  have e8q : (nI (nPa S) = (8 : Int32)) = (nPa S = 8) := nI_eqI (a := nPa S) (b := 8) (by omega) (by omega)
  rw [q1, q2]
  by_cases h8 : nPa S = 8
  · rw [if_neg (fun z => absurd (e8.mp z) (by omega)), if_pos (e8q.mpr h8), blame_c hp hf.1, wC_s, wC_s, wJ_inl, goon_b (bl_ne x2), wC_s, wJ_inr, wrong_g]
    exact ⟨_, _, _, _, rfl, rfl, uL_F bl_F, tL_F wr_F, Or.inr ⟨rfl, Bd_w hk x2, w3, by rw [bl_n (by omega)]; exact h5, ⟨S.length, hl.1, by rw [bl_n (by omega)]; exact s1⟩, ⟨K, pK, hl.2.2, by rw [bl_n (by omega)]; exact k1⟩⟩⟩
  have hS : S.length < 72 := by omega
  have hi := Tk_e hR hk hk0 k36 (by omega)
  obtain ⟨u0, hu0⟩ : ∃ u0, u0 = w_sI u (36) (7) (nI (nPa S + 1)) := ⟨_, rfl⟩
  have Uu0 : uL e w p u u0 := by rw [hu0]; exact uL_s Uu (by unfold lC; omega)
  have Du0 : ∀ a j, ¬ (a = 36 ∧ j = 7) → u0.1 a j = u.1 a j := fun a j q => by rw [hu0]; exact if_neg q
  have Vu0 : u0.1 (36) (7) = nI (nPa S + 1) := by rw [hu0]; exact sI_eq _ _ _ _
  obtain ⟨u1, hu1⟩ : ∃ u1, u1 = w_sI u0 (37) (S.length) (30) := ⟨_, rfl⟩
  have Uu1 : uL e w p u u1 := by rw [hu1]; exact uL_s Uu0 (by unfold lC; omega)
  have Du1 : ∀ a j, ¬ (a = 37 ∧ j = S.length) → u1.1 a j = u0.1 a j := fun a j q => by rw [hu1]; exact if_neg q
  have Vu1 : u1.1 (37) (S.length) = 30 := by rw [hu1]; exact sI_eq _ _ _ _
  obtain ⟨u2, hu2⟩ : ∃ u2, u2 = w_sI u1 (36) (8) (nI (S.length + 1)) := ⟨_, rfl⟩
  have Uu2 : uL e w p u u2 := by rw [hu2]; exact uL_s Uu1 (by unfold lC; omega)
  have Du2 : ∀ a j, ¬ (a = 36 ∧ j = 8) → u2.1 a j = u1.1 a j := fun a j q => by rw [hu2]; exact if_neg q
  have Vu2 : u2.1 (36) (8) = nI (S.length + 1) := by rw [hu2]; exact sI_eq _ _ _ _
  obtain ⟨t0, ht0⟩ : ∃ t0, t0 = w_sI t (79) (42) (nI (nPa S + 1)) := ⟨_, rfl⟩
  have Ut0 : tL p t t0 := by rw [ht0]; exact tL_s Ut (by unfold lT; omega)
  have Dt0 : ∀ a j, ¬ (a = 79 ∧ j = 42) → t0.1 a j = t.1 a j := fun a j q => by rw [ht0]; exact if_neg q
  have Vt0 : t0.1 (79) (42) = nI (nPa S + 1) := by rw [ht0]; exact sI_eq _ _ _ _
  obtain ⟨t1, ht1⟩ : ∃ t1, t1 = w_sI t0 (100) (S.length) (0) := ⟨_, rfl⟩
  have Ut1 : tL p t t1 := by rw [ht1]; exact tL_s Ut0 (by unfold lT; omega)
  have Dt1 : ∀ a j, ¬ (a = 100 ∧ j = S.length) → t1.1 a j = t0.1 a j := fun a j q => by rw [ht1]; exact if_neg q
  have Vt1 : t1.1 (100) (S.length) = 0 := by rw [ht1]; exact sI_eq _ _ _ _
  obtain ⟨t2, ht2⟩ : ∃ t2, t2 = w_sI t1 (79) (40) (nI (S.length + 1)) := ⟨_, rfl⟩
  have Ut2 : tL p t t2 := by rw [ht2]; exact tL_s Ut1 (by unfold lT; omega)
  have Dt2 : ∀ a j, ¬ (a = 79 ∧ j = 40) → t2.1 a j = t1.1 a j := fun a j q => by rw [ht2]; exact if_neg q
  have Vt2 : t2.1 (79) (40) = nI (S.length + 1) := by rw [ht2]; exact sI_eq _ _ _ _
  obtain ⟨t3, ht3⟩ : ∃ t3, t3 = w_sI t2 (79) (45) (1) := ⟨_, rfl⟩
  have Ut3 : tL p t t3 := by rw [ht3]; exact tL_s Ut2 (by unfold lT; omega)
  have Dt3 : ∀ a j, ¬ (a = 79 ∧ j = 45) → t3.1 a j = t2.1 a j := fun a j q => by rw [ht3]; exact if_neg q
  have Vt3 : t3.1 (79) (45) = 1 := by rw [ht3]; exact sI_eq _ _ _ _
  have aw := aw_c (u := u0) (m := S.length) (x := 30) (by rw [Uu0.1]; exact hp) (by rw [Du0 _ _ (by omega)]; exact s1) hS
  have wt := wait_t (t := t0) (m := S.length) (x := 0) (by rw [Ut0.1]; exact hm) (by rw [Dt0 _ _ (by omega)]; exact s2) (by omega)
  have Z0 : u2.1 36 0 = 0 := by rw [Du2 _ _ (by omega), Du1 _ _ (by omega), Du0 _ _ (by omega)]; exact hf.1
  obtain ⟨u3, t4, a1, a2, a3, a4, a5, a6, a7⟩ := tok_rl (Rd_fr hR (uL_G Uu2) (tL_G Ut3)) (Tk_fr hk (fun a j q => by rw [Du2 _ _ (by omega), Du1 _ _ (by omega), Du0 _ _ (by omega)]) (fun j q r => by rw [Dt3 _ _ (by omega), Dt2 _ _ (by omega), Dt1 _ _ (by omega), Dt0 _ _ (by omega)])) hi
  rw [if_pos (e8.mpr (by omega)), if_neg (fun z => absurd (e8q.mp z) h8), nI_addL, wB_eq, wB_eq, ← hu0, ← ht0, aw, wC_s, wC_s, ← hu1, ← hu2, wJ_inl, goon_c (by rw [Uu2.1]; exact hp) Z0 a1, wC_s, wJ_inr, wt, wC_s, ← ht1, ← ht2, wB_eq, ← ht3, a2, wC_s]
  have nP : nPa (0 :: S) = nPa S + 1 := by
    show (if 0 = 0 then 1 else 0) + nPa S = _
    rw [if_pos rfl, Nat.add_comm]
  have nO : nOp (0 :: S) = nOp S := Nat.zero_add _
  have nB : nBi (0 :: S) = nBi S := Nat.zero_add _
  have UF := uL_tr Uu2 (uL_t (e := e) (w := w) (p := p) a3 a4)
  have TF := tL_tr Ut3 (tL_t (p := p) a5 a6)
  refine ⟨_, u3, _, t4, rfl, rfl, UF, TF, Or.inl ⟨rfl, c, K, 0 :: S, L, ⟨Rd_fr hR (uL_G UF) (tL_G TF), a7, ⟨by rw [a4 _ _ (by omega)]; exact Z0, ?_, ?_⟩, Lg_push hd hLg (Or.inl rfl) (by rw [nO]; exact c1) c2 (by rw [nP]; omega) ?_ ?_ ?_ ?_ ?_ ?_ ?_ ?_ (fun a j y1 y2 y3 => by rw [a4 a j (by omega), Du2 a j (by omega), Du1 a j (by omega), Du0 a j (by omega)]) (fun a j y1 y2 => by rw [a6 a j (by omega), Dt3 a j (by omega), Dt2 a j (by omega), Dt1 a j (by omega), Dt0 a j (by omega)])⟩, Or.inl ⟨rfl, by rw [nB]; exact w1, ?_, ?_⟩⟩⟩
  · rw [a6 _ _ (by omega), Dt3 _ _ (by omega), Dt2 _ _ (by omega), Dt1 _ _ (by omega), Dt0 _ _ (by omega)]; exact hf.2.1
  · rw [a6 _ _ (by omega), Dt3 _ _ (by omega), Dt2 _ _ (by omega), Dt1 _ _ (by omega), Dt0 _ _ (by omega)]; exact hf.2.2
  · rw [a4 _ _ (by omega)]; exact Vu2
  · rw [a6 _ _ (by omega), Dt3 _ _ (by omega)]; exact Vt2
  · rw [a4 _ _ (by omega), Du2 _ _ (by omega)]; exact Vu1
  · rw [a6 _ _ (by omega), Dt3 _ _ (by omega), Dt2 _ _ (by omega)]; exact Vt1
  · rw [a4 _ _ (by omega), Du2 _ _ (by omega), Du1 _ _ (by omega), Du0 _ _ (by omega)]; exact k3
  · rw [a6 _ _ (by omega), Dt3 _ _ (by omega), Dt2 _ _ (by omega), Dt1 _ _ (by omega), Dt0 _ _ (by omega)]; exact k4
  · rw [a4 _ _ (by omega), Du2 _ _ (by omega), Du1 _ _ (by omega)]; rw [nP]; exact Vu0
  · rw [a6 _ _ (by omega), Dt3 _ _ (by omega), Dt2 _ _ (by omega), Dt1 _ _ (by omega)]; rw [nP]; exact Vt0
  · rw [a6 _ _ (by omega), Dt3 _ _ (by omega), Dt2 _ _ (by omega), Dt1 _ _ (by omega), Dt0 _ _ (by omega)]; exact w44
  · rw [a6 _ _ (by omega)]; exact Vt3
theorem leaf_n (h : Lx n b ps s e i w p c K S L u t) (hW : W1 S L t) {k : Nat} (hk0 : u.1 38 0 = nI k) (hN : KN k (u.1 38 2) (t.1 79 8) (t.1 79 9)) (h12 : k = 12) : Lp n b ps s e i w p u t (F_X2_readTowardsValue 36 u) (F_X9_leafRead 79 t) := by
  obtain ⟨hR, hk, hf, hL⟩ := h
  have hp := hR.1
  have hm := hR.2.1
  have hd := hR.2.2.1
  have d1 := TC_le hd
  have hl := Lg_len hL
  have hLg := hL
  obtain ⟨⟨k1, k2, k3, k4⟩, ⟨w3, h5⟩, ⟨s1, s2, s3⟩, ⟨l1, l2⟩, ⟨c1, c2⟩, ⟨q1, q2, q3⟩, hP, -⟩ := hL
  have nl := n_len S
  have k36 := hN.1
  have pK := hP.1
  have n10 : ¬ (1 : Int32) = 0 := by decide
  have z00 : (0 : Int32) = 0 := rfl
  have x2 : (2 : Int32) ≠ 0 := by decide
  have x1 : (1 : Int32) ≠ 0 := by decide
  have Uu : uL e w p u u := uL_rf
  have Ut : tL p t t := tL_rf
  have e33 : (nI k = (33 : Int32)) = (k = 33) := nI_eqI (a := k) (b := 33) (by omega) (by omega)
  have e30 : (nI k = (30 : Int32)) = (k = 30) := nI_eqI (a := k) (b := 30) (by omega) (by omega)
  have e12 : (nI k = (12 : Int32)) = (k = 12) := nI_eqI (a := k) (b := 12) (by omega) (by omega)
  have e31 : (nI k = (31 : Int32)) = (k = 31) := nI_eqI (a := k) (b := 31) (by omega) (by omega)
  obtain ⟨w1, w44, w45⟩ := hW
  have sg : F_X9_isSign 79 (40 : Int32) t = some (bI (k = 30)) := sgn_t (c := 30) hN (by omega)
  have ky : F_X9_isKey 79 (12 : Int32) t = some (bI (k = 12)) := key_t (c := 12) hN (by omega)
  have nm := nm_t hN
  rw [rt_c hp hk0 k36]
  unfold F_X2_readTowardsValue_j25 F_X9_leafRead
  rw [sg, wP_s]
  have lw := lw_c (S := S) hp s1 hl.1 s3
  have bo := bind_o (u := u) (Wr_hd s3)
  have r6 := rk_le (S.headD 0)
  have e4 : ((4 : Int32) ≤ nI (rk (S.headD 0))) = (4 ≤ rk (S.headD 0)) := nI_leE (a := 4) (b := rk (S.headD 0)) (by omega) (by omega)
  unfold F_X2_readTowardsValue_j131 F_X2_readTowardsValue_j126
  rw [if_neg (show ¬ (13 ≤ k ∧ k ≤ 19) by omega), bI_f (show ¬ k = 30 by omega), ky, bI_t h12, if_neg (fun z => absurd (e33.mp z) (by omega)), if_pos z00, if_pos z00, if_neg (fun z => absurd (e30.mp z) (by omega)), if_pos (e12.mpr h12), lw, wP_s, bo, wP_s, wP_s, if_neg n10, w45]
  by_cases h4 : 4 ≤ rk (S.headD 0)
  · have kr : t.1 79 8 = 1 := (hN.2.1 (by omega)).1
    rw [if_pos (e4.mpr h4), wJ_inl, blame_c hp hf.1, wC_s, wJ_inl, goon_b (bl_ne x1), wC_s, wJ_inr, bI_f (by omega), if_pos z00, wJ_inl]
    unfold F_X9_leafRead_j86
    rw [nm, if_neg (show ¬ (13 ≤ k ∧ k ≤ 19) by omega), wP_s, if_neg (show ¬ (0 : Int32) ≤ -1 by decide), kr, if_neg (show ¬ (1 : Int32) = 3 by decide), wrong_h, wJ_inr]
    exact ⟨_, _, _, _, rfl, rfl, uL_F bl_F, tL_F wr_F, Or.inr ⟨rfl, Bd_w hk x1, w3, by rw [bl_n (by omega)]; exact h5, ⟨S.length, hl.1, by rw [bl_n (by omega)]; exact s1⟩, ⟨K, pK, hl.2.2, by rw [bl_n (by omega)]; exact k1⟩⟩⟩
  rw [if_neg (fun z => absurd (e4.mp z) h4), bI_t (show rk (S.headD 0) < 4 by omega), if_neg n10]
  by_cases h64 : c = 64
  · have k3' : u.1 36 6 = 64 := by rw [k3, h64]; rfl
    have k4' : t.1 79 43 = 64 := by rw [k4, h64]; rfl
    obtain ⟨ub, b1, b2, b3, m', b4, b5⟩ := aw_a (u := bl u 2) (m := S.length) (x := 12) hp (by rw [bl_n (by omega)]; exact s1) hl.1
    have B0 : Bd ub (wr t 2) := Bd_f (Bd_w hk x2) (b3 _ _ (by omega) (by omega)) (b3 _ _ (by omega) (by omega))
    rw [cnt_x hp k3' hf.1, wC_s, b1, wC_s, wJ_inr, wJ_inl, goon_b B0.1, wC_s, wJ_inr, isc_x k4', wC_s, if_pos z00, wJ_inr]
    exact ⟨_, _, _, _, rfl, rfl, uL_tr (uL_F bl_F) ⟨b2, fun a j q => b3 a j (fun r => q (by unfold lC; omega)) (fun r => q (by unfold lC; omega))⟩, tL_F wr_F, Or.inr ⟨rfl, B0, w3, by rw [b3 _ _ (by omega) (by omega), bl_n (by omega)]; exact h5, ⟨m', b4, b5⟩, ⟨K, pK, hl.2.2, by rw [b3 _ _ (by omega) (by omega), bl_n (by omega)]; exact k1⟩⟩⟩
  have hS : S.length < 72 := by omega
  have hi := Tk_e hR hk hk0 k36 (by omega)
  obtain ⟨u0, hu0⟩ : ∃ u0, u0 = w_sI u (36) (6) (nI (c + 1)) := ⟨_, rfl⟩
  have Uu0 : uL e w p u u0 := by rw [hu0]; exact uL_s Uu (by unfold lC; omega)
  have Du0 : ∀ a j, ¬ (a = 36 ∧ j = 6) → u0.1 a j = u.1 a j := fun a j q => by rw [hu0]; exact if_neg q
  have Vu0 : u0.1 (36) (6) = nI (c + 1) := by rw [hu0]; exact sI_eq _ _ _ _
  obtain ⟨u1, hu1⟩ : ∃ u1, u1 = w_sI u0 (37) (S.length) (12) := ⟨_, rfl⟩
  have Uu1 : uL e w p u u1 := by rw [hu1]; exact uL_s Uu0 (by unfold lC; omega)
  have Du1 : ∀ a j, ¬ (a = 37 ∧ j = S.length) → u1.1 a j = u0.1 a j := fun a j q => by rw [hu1]; exact if_neg q
  have Vu1 : u1.1 (37) (S.length) = 12 := by rw [hu1]; exact sI_eq _ _ _ _
  obtain ⟨u2, hu2⟩ : ∃ u2, u2 = w_sI u1 (36) (8) (nI (S.length + 1)) := ⟨_, rfl⟩
  have Uu2 : uL e w p u u2 := by rw [hu2]; exact uL_s Uu1 (by unfold lC; omega)
  have Du2 : ∀ a j, ¬ (a = 36 ∧ j = 8) → u2.1 a j = u1.1 a j := fun a j q => by rw [hu2]; exact if_neg q
  have Vu2 : u2.1 (36) (8) = nI (S.length + 1) := by rw [hu2]; exact sI_eq _ _ _ _
  obtain ⟨t0, ht0⟩ : ∃ t0, t0 = w_sI t (79) (43) (nI (c + 1)) := ⟨_, rfl⟩
  have Ut0 : tL p t t0 := by rw [ht0]; exact tL_s Ut (by unfold lT; omega)
  have Dt0 : ∀ a j, ¬ (a = 79 ∧ j = 43) → t0.1 a j = t.1 a j := fun a j q => by rw [ht0]; exact if_neg q
  have Vt0 : t0.1 (79) (43) = nI (c + 1) := by rw [ht0]; exact sI_eq _ _ _ _
  obtain ⟨t1, ht1⟩ : ∃ t1, t1 = w_sI t0 (100) (S.length) (2) := ⟨_, rfl⟩
  have Ut1 : tL p t t1 := by rw [ht1]; exact tL_s Ut0 (by unfold lT; omega)
  have Dt1 : ∀ a j, ¬ (a = 100 ∧ j = S.length) → t1.1 a j = t0.1 a j := fun a j q => by rw [ht1]; exact if_neg q
  have Vt1 : t1.1 (100) (S.length) = 2 := by rw [ht1]; exact sI_eq _ _ _ _
  obtain ⟨t2, ht2⟩ : ∃ t2, t2 = w_sI t1 (79) (40) (nI (S.length + 1)) := ⟨_, rfl⟩
  have Ut2 : tL p t t2 := by rw [ht2]; exact tL_s Ut1 (by unfold lT; omega)
  have Dt2 : ∀ a j, ¬ (a = 79 ∧ j = 40) → t2.1 a j = t1.1 a j := fun a j q => by rw [ht2]; exact if_neg q
  have Vt2 : t2.1 (79) (40) = nI (S.length + 1) := by rw [ht2]; exact sI_eq _ _ _ _
  have aw := aw_c (u := u0) (m := S.length) (x := 12) (by rw [Uu0.1]; exact hp) (by rw [Du0 _ _ (by omega)]; exact s1) hS
  have wt := wait_t (t := t0) (m := S.length) (x := 2) (by rw [Ut0.1]; exact hm) (by rw [Dt0 _ _ (by omega)]; exact s2) (by omega)
  have Z0 : u2.1 36 0 = 0 := by rw [Du2 _ _ (by omega), Du1 _ _ (by omega), Du0 _ _ (by omega)]; exact hf.1
  obtain ⟨u3, t4, a1, a2, a3, a4, a5, a6, a7⟩ := tok_rl (Rd_fr hR (uL_G Uu2) (tL_G Ut2)) (Tk_fr hk (fun a j q => by rw [Du2 _ _ (by omega), Du1 _ _ (by omega), Du0 _ _ (by omega)]) (fun j q r => by rw [Dt2 _ _ (by omega), Dt1 _ _ (by omega), Dt0 _ _ (by omega)])) hi
  rw [cnt_c k3 (by omega), wC_s, ← hu0, aw, wC_s, ← hu1, ← hu2, wJ_inr, wJ_inl, goon_c (by rw [Uu2.1]; exact hp) Z0 a1, wC_s, wJ_inr, isc_t k4 (by omega), wC_s, ← ht0, if_neg n10, wt, wC_s, ← ht1, ← ht2, a2, wC_s, wJ_inr]
  have nP : nPa (2 :: S) = nPa S := Nat.zero_add _
  have nO : nOp (2 :: S) = nOp S + 1 := Nat.add_comm _ _
  have nB : nBi (2 :: S) = nBi S := Nat.zero_add _
  have UF := uL_tr Uu2 (uL_t (e := e) (w := w) (p := p) a3 a4)
  have TF := tL_tr Ut2 (tL_t (p := p) a5 a6)
  refine ⟨_, u3, _, t4, rfl, rfl, UF, TF, Or.inl ⟨rfl, c + 1, K, 2 :: S, L, ⟨Rd_fr hR (uL_G UF) (tL_G TF), a7, ⟨by rw [a4 _ _ (by omega)]; exact Z0, ?_, ?_⟩, Lg_push hd hLg (Or.inr (Or.inl rfl)) (by rw [nO]; omega) (by omega) (by rw [nP]; omega) ?_ ?_ ?_ ?_ ?_ ?_ ?_ ?_ (fun a j y1 y2 y3 => by rw [a4 a j (by omega), Du2 a j (by omega), Du1 a j (by omega), Du0 a j (by omega)]) (fun a j y1 y2 => by rw [a6 a j (by omega), Dt2 a j (by omega), Dt1 a j (by omega), Dt0 a j (by omega)])⟩, Or.inl ⟨rfl, by rw [nB]; exact w1, ?_, ?_⟩⟩⟩
  · rw [a6 _ _ (by omega), Dt2 _ _ (by omega), Dt1 _ _ (by omega), Dt0 _ _ (by omega)]; exact hf.2.1
  · rw [a6 _ _ (by omega), Dt2 _ _ (by omega), Dt1 _ _ (by omega), Dt0 _ _ (by omega)]; exact hf.2.2
  · rw [a4 _ _ (by omega)]; exact Vu2
  · rw [a6 _ _ (by omega)]; exact Vt2
  · rw [a4 _ _ (by omega), Du2 _ _ (by omega)]; exact Vu1
  · rw [a6 _ _ (by omega), Dt2 _ _ (by omega)]; exact Vt1
  · rw [a4 _ _ (by omega), Du2 _ _ (by omega), Du1 _ _ (by omega)]; exact Vu0
  · rw [a6 _ _ (by omega), Dt2 _ _ (by omega), Dt1 _ _ (by omega)]; exact Vt0
  · rw [a4 _ _ (by omega), Du2 _ _ (by omega), Du1 _ _ (by omega), Du0 _ _ (by omega)]; rw [nP]; exact q1
  · rw [a6 _ _ (by omega), Dt2 _ _ (by omega), Dt1 _ _ (by omega), Dt0 _ _ (by omega)]; rw [nP]; exact q2
  · rw [a6 _ _ (by omega), Dt2 _ _ (by omega), Dt1 _ _ (by omega), Dt0 _ _ (by omega)]; exact w44
  · rw [a6 _ _ (by omega), Dt2 _ _ (by omega), Dt1 _ _ (by omega), Dt0 _ _ (by omega)]; rw [w45, bI_t (show rk (S.headD 0) < 4 by omega)]; rfl
theorem leaf_x (h : Lx n b ps s e i w p c K S L u t) (hW : W1 S L t) {k : Nat} (hk0 : u.1 38 0 = nI k) (hN : KN k (u.1 38 2) (t.1 79 8) (t.1 79 9)) (h33 : k ≠ 33) (h30 : k ≠ 30) (h12 : k ≠ 12) (hnm : ¬ (13 ≤ k ∧ k ≤ 19)) : Lp n b ps s e i w p u t (F_X2_readTowardsValue 36 u) (F_X9_leafRead 79 t) := by
  obtain ⟨hR, hk, hf, hL⟩ := h
  have hp := hR.1
  have hm := hR.2.1
  have hd := hR.2.2.1
  have d1 := TC_le hd
  have hl := Lg_len hL
  have hLg := hL
  obtain ⟨⟨k1, k2, k3, k4⟩, ⟨w3, h5⟩, ⟨s1, s2, s3⟩, ⟨l1, l2⟩, ⟨c1, c2⟩, ⟨q1, q2, q3⟩, hP, -⟩ := hL
  have nl := n_len S
  have k36 := hN.1
  have pK := hP.1
  have n10 : ¬ (1 : Int32) = 0 := by decide
  have z00 : (0 : Int32) = 0 := rfl
  have x2 : (2 : Int32) ≠ 0 := by decide
  have x1 : (1 : Int32) ≠ 0 := by decide
  have Uu : uL e w p u u := uL_rf
  have Ut : tL p t t := tL_rf
  have e33 : (nI k = (33 : Int32)) = (k = 33) := nI_eqI (a := k) (b := 33) (by omega) (by omega)
  have e30 : (nI k = (30 : Int32)) = (k = 30) := nI_eqI (a := k) (b := 30) (by omega) (by omega)
  have e12 : (nI k = (12 : Int32)) = (k = 12) := nI_eqI (a := k) (b := 12) (by omega) (by omega)
  have e31 : (nI k = (31 : Int32)) = (k = 31) := nI_eqI (a := k) (b := 31) (by omega) (by omega)
  obtain ⟨w1, w44, w45⟩ := hW
  have sg : F_X9_isSign 79 (40 : Int32) t = some (bI (k = 30)) := sgn_t (c := 30) hN (by omega)
  have ky : F_X9_isKey 79 (12 : Int32) t = some (bI (k = 12)) := key_t (c := 12) hN (by omega)
  have nm := nm_t hN
  rw [rt_c hp hk0 k36]
  unfold F_X2_readTowardsValue_j25 F_X9_leafRead
  rw [sg, wP_s]
  unfold F_X2_readTowardsValue_j131 F_X2_readTowardsValue_j126 F_X9_leafRead_j86
  rw [if_neg hnm, bI_f h30, ky, bI_f h12, if_neg (fun z => absurd (e33.mp z) h33), if_pos z00, if_pos z00, if_neg (fun z => absurd (e30.mp z) h30), if_neg (fun z => absurd (e12.mp z) h12), wP_s, if_pos z00, wJ_inl, wJ_inl, blame_c hp hf.1, wC_s, wJ_inl, goon_b (bl_ne x1), wC_s, wJ_inr, nm, if_neg hnm, wP_s, if_neg (show ¬ (0 : Int32) ≤ -1 by decide), if_neg (KN_3 hN h33), wrong_h, wJ_inr]
  exact ⟨_, _, _, _, rfl, rfl, uL_F bl_F, tL_F wr_F, Or.inr ⟨rfl, Bd_w hk x1, w3, by rw [bl_n (by omega)]; exact h5, ⟨S.length, hl.1, by rw [bl_n (by omega)]; exact s1⟩, ⟨K, pK, hl.2.2, by rw [bl_n (by omega)]; exact k1⟩⟩⟩
end

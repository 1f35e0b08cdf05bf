/-! a law under way: numbers and names -/
section
variable {n s e i w p c K : Nat} {b ps : Nat → Nat} {S L : List Nat} {u t : wSt}
theorem leaf_d (h : Lx n b ps s e i w p c K S L u t) (hW : W1 S L t) {k : Nat} (hk0 : u.1 38 0 = nI k) (hN : KN k (u.1 38 2) (t.1 79 8) (t.1 79 9)) (h33 : k = 33) : Lp n b ps s e i w p u t (F_X2_readTowardsValue 36 u) (F_X9_leafRead 79 t) := by
  obtain ⟨hR, hk, hf, hL⟩ := h
  have hp := hR.1
  have hm := hR.2.1
  have hd := hR.2.2.1
  have d1 := TC_le hd
  have hl := Lg_len hL
  have hLg := hL
  obtain ⟨⟨k1, k2, k3, k4⟩, ⟨w3, h5⟩, ⟨s1, s2, s3⟩, ⟨l1, l2⟩, ⟨c1, c2⟩, ⟨q1, q2, q3⟩, hP, -⟩ := hL
  have nl := n_len S
  have k36 := hN.1
  have pK := hP.1
  have n10 : ¬ (1 : Int32) = 0 := by decide
  have z00 : (0 : Int32) = 0 := rfl
  have x2 : (2 : Int32) ≠ 0 := by decide
  have x1 : (1 : Int32) ≠ 0 := by decide
  have Uu : uL e w p u u := uL_rf
  have Ut : tL p t t := tL_rf
  have e33 : (nI k = (33 : Int32)) = (k = 33) := nI_eqI (a := k) (b := 33) (by omega) (by omega)
  have e30 : (nI k = (30 : Int32)) = (k = 30) := nI_eqI (a := k) (b := 30) (by omega) (by omega)
  have e12 : (nI k = (12 : Int32)) = (k = 12) := nI_eqI (a := k) (b := 12) (by omega) (by omega)
  have e31 : (nI k = (31 : Int32)) = (k = 31) := nI_eqI (a := k) (b := 31) (by omega) (by omega)
  obtain ⟨w1, w44, w45⟩ := hW
  have sg : F_X9_isSign 79 (40 : Int32) t = some (bI (k = 30)) := sgn_t (c := 30) hN (by omega)
  have ky : F_X9_isKey 79 (12 : Int32) t = some (bI (k = 12)) := key_t (c := 12) hN (by omega)
  have nm := nm_t hN
  rw [rt_c hp hk0 k36]
  unfold F_X2_readTowardsValue_j25 F_X9_leafRead
  rw [sg, wP_s]
  obtain ⟨kr, v, v', hWv, hwr, v1, v2, hv⟩ := hN.2.2.2.2.1 h33
  have h33' : u.1 38 0 = 33 := by rw [hk0, h33]; rfl
  have ec : (nI v' ≤ (9999 : Int32)) = (v' ≤ 9999) := nI_leE (a := v') (b := 9999) (by omega) (by omega)
  have REF : wP (F_X9_isKey 79 12 t) (fun i3 => wJ (X := Unit) (if i3 = 0 then some (Sum.inl ()) else if t.1 79 45 = 0 then some (Sum.inl ()) else wC (F_X9_isCounted 79 t) fun i23 u22 => if i23 = 0 then some (Sum.inr (0, u22)) else wC (F_X9_waitsFor 79 2 u22) fun x u24 => wC (F_X9_token 79 u24) fun x u25 => some (Sum.inr (1, u25))) fun x => F_X9_leafRead_j86 79 t) = wJ (X := Unit) (if nI v' ≤ 9999 then some (Sum.inl ()) else wC (F_X9_wrong 79 2 t) fun i19 u18 => wG (i19 = 0 ∨ i19 = 1) (some (Sum.inr (i19, u18)))) (fun x => F_X9_leafRead_j129 79 t (-1)) := by
    unfold F_X9_leafRead_j86 F_X9_leafRead_j109
    rw [ky, bI_f (show ¬ k = 12 by omega), wP_s, if_pos z00, wJ_inl, nm, if_neg (show ¬ (13 ≤ k ∧ k ≤ 19) by omega), wP_s, if_neg (show ¬ (0 : Int32) ≤ -1 by decide), if_pos kr, wJ_inl, if_neg (show ¬ (0 : Int32) ≤ -1 by decide), hwr]
  rw [if_neg (show ¬ (13 ≤ k ∧ k ≤ 19) by omega), if_pos (e33.mpr h33), wJ_inl, bI_f (show ¬ k = 30 by omega), if_pos z00, REF]
  clear REF
  unfold F_X2_readTowardsValue_j36 F_X2_readTowardsValue_j56
  by_cases h64 : c = 64
  · have k3' : u.1 36 6 = 64 := by rw [k3, h64]; rfl
    have k4' : t.1 79 43 = 64 := by rw [k4, h64]; rfl
    obtain ⟨ub, b1, b2, b3, K', b4, b5, b6⟩ := add_a (u := bl u 2) (X := nI k) (Y := (bl u 2).1 38 2) hp hd (by rw [bl_n (by omega)]; exact k1) hl.2.2 w3 pK
    have B0 : Bd ub (wr t 2) := Bd_f (Bd_w hk x2) (b3 _ _ (by omega) (by omega) (by omega)) (b3 _ _ (by omega) (by omega) (by omega))
    have h5b : (bl u 2).1 36 5 = nI w := by rw [bl_n (by omega)]; exact h5
    rw [cnt_x hp k3' hf.1, wC_s, if_pos z00, num_b (u := bl u 2) hp (bl_ne x2), wC_s, wJ_inl]
    dsimp only
    rw [show (bl u 2).2 = u.2 from rfl, hR.2.2.2.1, wR_d0 _ hd, (PL_d hp hd).2.2.2.2.2.2.2.2.2.1, wR_d10 _ hd, h5b, b1, wC_s, if_pos z00]
    have FIN : ∀ o', o' = some ((0 : Int32), wr t 2) → Lp n b ps s e i w p u t (some ((0 : Int32), ub)) o' := fun o' ho => ⟨_, ub, _, wr t 2, rfl, ho, uL_tr (uL_F bl_F) ⟨b2, fun a j q => b3 a j (fun r => q (by unfold lC; omega)) (fun r => q (by unfold lC; omega)) (fun r => q (by unfold lC; omega))⟩, tL_F wr_F, Or.inr ⟨rfl, B0, w3, by rw [b3 _ _ (by omega) (by omega) (by omega)]; exact h5b, ⟨S.length, hl.1, by rw [b3 _ _ (by omega) (by omega) (by omega), bl_n (by omega)]; exact s1⟩, ⟨K', b4, b5, b6⟩⟩⟩
    apply FIN
    by_cases hv9 : v' ≤ 9999
    · unfold F_X9_leafRead_j129
      rw [if_pos (ec.mpr hv9), wJ_inl, isc_x k4', wC_s, if_pos z00]
    · rw [if_neg (fun z => absurd (ec.mp z) hv9), wrong_h, wJ_inr]
  obtain ⟨u0, hu0⟩ : ∃ u0, u0 = w_sI u (36) (6) (nI (c + 1)) := ⟨_, rfl⟩
  have Uu0 : uL e w p u u0 := by rw [hu0]; exact uL_s Uu (by unfold lC; omega)
  have Du0 : ∀ a j, ¬ (a = 36 ∧ j = 6) → u0.1 a j = u.1 a j := fun a j q => by rw [hu0]; exact if_neg q
  have Vu0 : u0.1 (36) (6) = nI (c + 1) := by rw [hu0]; exact sI_eq _ _ _ _
  have Z0 : u0.1 36 0 = 0 := by rw [Du0 _ _ (by omega)]; exact hf.1
  have hp0 : PL u0.2.2 := by rw [Uu0.1]; exact hp
  by_cases hv9 : v' ≤ 9999
  rotate_left
  · have tn : F_X2_takeNumber 36 (0 : Int32) (9999 : Int32) u0 = some (nI v, bl u0 2) := tn_x (u := u0) (hi := 9999) (k := v) hp0 Z0 (by rw [Du0 _ _ (by omega)]; exact h33') (by rw [Du0 _ _ (by omega)]; exact hWv) v1 (by omega)
    obtain ⟨ub, b1, b2, b3, K', b4, b5, b6⟩ := add_a (u := bl u0 2) (X := nI k) (Y := nI v) hp0 hd (by rw [bl_n (by omega), Du0 _ _ (by omega)]; exact k1) hl.2.2 w3 pK
    have B0 : Bd ub (wr t 2) := Bd_f (Bd_w (Tk_fr (u' := u0) (t' := t) hk (fun a j q => Du0 a j (by omega)) (fun _ _ _ => rfl)) x2) (b3 _ _ (by omega) (by omega) (by omega)) (b3 _ _ (by omega) (by omega) (by omega))
    have h5b : (bl u0 2).1 36 5 = nI w := by rw [bl_n (by omega), Du0 _ _ (by omega)]; exact h5
    rw [cnt_c k3 (by omega), wC_s, ← hu0, if_pos z00, tn, wC_s, wJ_inl]
    dsimp only
    rw [show (bl u0 2).2 = u0.2 from rfl, Uu0.1, hR.2.2.2.1, wR_d0 _ hd, (PL_d hp hd).2.2.2.2.2.2.2.2.2.1, wR_d10 _ hd, h5b, b1, wC_s, if_pos z00, if_neg (fun z => absurd (ec.mp z) hv9), wrong_h, wJ_inr]
    exact ⟨_, ub, _, wr t 2, rfl, rfl, uL_tr (uL_tr Uu0 (uL_F bl_F)) ⟨b2, fun a j q => b3 a j (fun r => q (by unfold lC; omega)) (fun r => q (by unfold lC; omega)) (fun r => q (by unfold lC; omega))⟩, tL_F wr_F, Or.inr ⟨rfl, B0, w3, by rw [b3 _ _ (by omega) (by omega) (by omega)]; exact h5b, ⟨S.length, hl.1, by rw [b3 _ _ (by omega) (by omega) (by omega), bl_n (by omega), Du0 _ _ (by omega)]; exact s1⟩, ⟨K', b4, b5, b6⟩⟩⟩
  have hvv : v = v' := by omega
  have hi := Tk_e hR hk hk0 k36 (by omega)
  obtain ⟨t0, ht0⟩ : ∃ t0, t0 = w_sI t (79) (43) (nI (c + 1)) := ⟨_, rfl⟩
  have Ut0 : tL p t t0 := by rw [ht0]; exact tL_s Ut (by unfold lT; omega)
  have Dt0 : ∀ a j, ¬ (a = 79 ∧ j = 43) → t0.1 a j = t.1 a j := fun a j q => by rw [ht0]; exact if_neg q
  have Vt0 : t0.1 (79) (43) = nI (c + 1) := by rw [ht0]; exact sI_eq _ _ _ _
  obtain ⟨t1, ht1⟩ : ∃ t1, t1 = gw t0 K L.length (0) (nI v') (0) := ⟨_, rfl⟩
  have Ut1 : tL p t t1 := by rw [ht1]; exact tL_gw Ut0 pK
  have Dt1 : ∀ a j, ¬ (((a = 96 ∨ a = 98 ∨ a = 99) ∧ j = 64 + K) ∨ (a = 101 ∧ j = L.length) ∨ (a = 79 ∧ (j = 19 ∨ j = 41))) → t1.1 a j = t0.1 a j := fun a j q => by rw [ht1]; exact gw_n (by omega) (by omega) (by omega)
  have Vt1 : t1.1 96 (64 + K) = 0 ∧ t1.1 98 (64 + K) = nI v' ∧ t1.1 99 (64 + K) = 0 ∧ t1.1 101 L.length = nI K ∧ t1.1 79 41 = nI (L.length + 1) ∧ t1.1 79 19 = nI (K + 1) := by rw [ht1]; exact gw_v
  obtain ⟨t2, ht2⟩ : ∃ t2, t2 = w_sI t1 (79) (44) (0) := ⟨_, rfl⟩
  have Ut2 : tL p t t2 := by rw [ht2]; exact tL_s Ut1 (by unfold lT; omega)
  have Dt2 : ∀ a j, ¬ (a = 79 ∧ j = 44) → t2.1 a j = t1.1 a j := fun a j q => by rw [ht2]; exact if_neg q
  have Vt2 : t2.1 (79) (44) = 0 := by rw [ht2]; exact sI_eq _ _ _ _
  obtain ⟨u1, t3, a1, a2, a3, a4, a5, a6, a7⟩ := tok_rl (Rd_fr hR (uL_G Uu0) (tL_G Ut2)) (Tk_fr hk (fun a j q => Du0 a j (by omega)) (fun j q r => by rw [Dt2 _ _ (by omega), Dt1 _ _ (by omega), Dt0 _ _ (by omega)])) hi
  have Uu1 : uL e w p u u1 := uL_tr Uu0 (uL_t a3 a4)
  have tn : F_X2_takeNumber 36 (0 : Int32) (9999 : Int32) u0 = some (nI v, u1) := tn_g (u := u0) (lo := 0) (hi := 9999) (k := v) hp0 Z0 (by rw [Du0 _ _ (by omega)]; exact h33') (by rw [Du0 _ _ (by omega)]; exact hWv) v1 (by omega) (by omega) (by omega) a1
  have h5b : u1.1 36 5 = nI w := by rw [a4 _ _ (by omega), Du0 _ _ (by omega)]; exact h5
  have ac := add_c (u := u1) (w := w) (X := nI k) (Y := nI v) (by rw [Uu1.1]; exact hp) hd (K := K) (by rw [a4 _ _ (by omega), Du0 _ _ (by omega)]; exact k1) (by omega) w3
  have gc := grown_t (t := t0) (K := K) (h := L.length) (A := 0) (B := nI v') (C := 0) (by rw [Ut0.1]; exact hm) (by rw [Dt0 _ _ (by omega)]; exact k2) (by omega) (by rw [Dt0 _ _ (by omega)]; exact l1) (by omega)
  have t9 : t0.1 79 9 = nI v' := by rw [Dt0 _ _ (by omega)]; exact hwr
  obtain ⟨u2, hu2⟩ : ∃ u2, u2 = ad u1 e w K (nI k) (nI v) := ⟨_, rfl⟩
  have Uu2 : uL e w p u u2 := by rw [hu2]; exact uL_ad Uu1 pK
  have Du2 : ∀ a j, ¬ (((a = e + 14 ∨ a = e + 15) ∧ j = K) ∨ (a = e + 10 ∧ j = 0) ∨ (a = e + 13 ∧ j = w)) → u2.1 a j = u1.1 a j := fun a j q => by rw [hu2]; exact ad_n (by omega) (by omega) (by omega)
  have Vu2 : u2.1 (e + 14) K = nI k ∧ u2.1 (e + 15) K = nI v ∧ u2.1 (e + 10) 0 = nI (K + 1) ∧ u2.1 (e + 13) w = nI (K + 1) := by rw [hu2]; exact ad_v
  rw [cnt_c k3 (by omega), wC_s, ← hu0, if_pos z00, tn, wC_s, wJ_inl]
  dsimp only
  rw [Uu1.1, hR.2.2.2.1, wR_d0 _ hd, (PL_d hp hd).2.2.2.2.2.2.2.2.2.1, wR_d10 _ hd, h5b, ac, wC_s, ← hu2, if_pos z00]
  unfold F_X9_leafRead_j129 F_X9_leafRead_j148 F_X9_leafRead_j160
  rw [if_pos (ec.mpr hv9), wJ_inl, isc_t k4 (by omega), wC_s, ← ht0, if_neg n10, if_pos (show (-1 : Int32) < 0 by decide), wJ_inl, if_pos (show (-1 : Int32) < 0 by decide), wJ_inl, t9, gc, wC_s, ← ht1, wB_eq, ← ht2, a2, wC_s]
  have TF := tL_tr Ut2 (tL_t (p := p) a5 a6)
  refine ⟨_, u2, _, t3, rfl, rfl, Uu2, TF, Or.inl ⟨rfl, c + 1, K + 1, S, K :: L, ⟨Rd_fr hR (uL_G Uu2) (tL_G TF), Tk_fr a7 (fun a j q => Du2 a j (by omega)) (fun _ _ _ => rfl), ⟨by rw [Du2 _ _ (by omega), a4 _ _ (by omega)]; exact Z0, ?_, ?_⟩, Lg_leaf hd hLg (by omega) Vu2.1 Vu2.2.1 Vu2.2.2.1 Vu2.2.2.2 ?_ (A := 0) (B := nI v') (C := 0) ?_ ?_ ?_ ?_ ?_ ?_ ?_ (Or.inl ⟨by rw [h33]; rfl, rfl, by rw [hvv], ⟨v, by omega, rfl⟩, rfl⟩) (fun a j y1 y2 y3 y4 y5 => by rw [Du2 a j (by omega), a4 a j (by omega), Du0 a j (by omega)]) (fun a j y1 y2 y3 => by rw [a6 a j (by omega), Dt2 a j (by omega), Dt1 a j (by omega), Dt0 a j (by omega)])⟩, Or.inr ⟨rfl, ?_, ?_, ⟨L, rfl⟩, by omega⟩⟩⟩
  · rw [a6 _ _ (by omega), Dt2 _ _ (by omega), Dt1 _ _ (by omega), Dt0 _ _ (by omega)]; exact hf.2.1
  · rw [a6 _ _ (by omega), Dt2 _ _ (by omega), Dt1 _ _ (by omega), Dt0 _ _ (by omega)]; exact hf.2.2
  · rw [Du2 _ _ (by omega), a4 _ _ (by omega)]; exact Vu0
  · rw [a6 _ _ (by omega), Dt2 _ _ (by omega)]; exact Vt1.1
  · rw [a6 _ _ (by omega), Dt2 _ _ (by omega)]; exact Vt1.2.1
  · rw [a6 _ _ (by omega), Dt2 _ _ (by omega)]; exact Vt1.2.2.1
  · rw [a6 _ _ (by omega), Dt2 _ _ (by omega)]; exact Vt1.2.2.2.1
  · rw [a6 _ _ (by omega), Dt2 _ _ (by omega)]; exact Vt1.2.2.2.2.1
  · rw [a6 _ _ (by omega), Dt2 _ _ (by omega)]; exact Vt1.2.2.2.2.2
  · rw [a6 _ _ (by omega), Dt2 _ _ (by omega), Dt1 _ _ (by omega)]; exact Vt0
  · rw [List.length_cons, w1]
  · rw [a6 _ _ (by omega)]; exact Vt2
theorem leaf_m (h : Lx n b ps s e i w p c K S L u t) (hW : W1 S L t) {k : Nat} (hk0 : u.1 38 0 = nI k) (hN : KN k (u.1 38 2) (t.1 79 8) (t.1 79 9)) (hnm : 13 ≤ k ∧ k ≤ 19) : Lp n b ps s e i w p u t (F_X2_readTowardsValue 36 u) (F_X9_leafRead 79 t) := by
  obtain ⟨hR, hk, hf, hL⟩ := h
  have hp := hR.1
  have hm := hR.2.1
  have hd := hR.2.2.1
  have d1 := TC_le hd
  have hl := Lg_len hL
  have hLg := hL
  obtain ⟨⟨k1, k2, k3, k4⟩, ⟨w3, h5⟩, ⟨s1, s2, s3⟩, ⟨l1, l2⟩, ⟨c1, c2⟩, ⟨q1, q2, q3⟩, hP, -⟩ := hL
  have nl := n_len S
  have k36 := hN.1
  have pK := hP.1
  have n10 : ¬ (1 : Int32) = 0 := by decide
  have z00 : (0 : Int32) = 0 := rfl
  have x2 : (2 : Int32) ≠ 0 := by decide
  have x1 : (1 : Int32) ≠ 0 := by decide
  have Uu : uL e w p u u := uL_rf
  have Ut : tL p t t := tL_rf
  have e33 : (nI k = (33 : Int32)) = (k = 33) := nI_eqI (a := k) (b := 33) (by omega) (by omega)
  have e30 : (nI k = (30 : Int32)) = (k = 30) := nI_eqI (a := k) (b := 30) (by omega) (by omega)
  have e12 : (nI k = (12 : Int32)) = (k = 12) := nI_eqI (a := k) (b := 12) (by omega) (by omega)
  have e31 : (nI k = (31 : Int32)) = (k = 31) := nI_eqI (a := k) (b := 31) (by omega) (by omega)
  obtain ⟨w1, w44, w45⟩ := hW
  have sg : F_X9_isSign 79 (40 : Int32) t = some (bI (k = 30)) := sgn_t (c := 30) hN (by omega)
  have ky : F_X9_isKey 79 (12 : Int32) t = some (bI (k = 12)) := key_t (c := 12) hN (by omega)
  have nm := nm_t hN
  rw [rt_c hp hk0 k36]
  unfold F_X2_readTowardsValue_j25 F_X9_leafRead
  rw [sg, wP_s]
  have eg : ((0 : Int32) ≤ nI (k - 13)) = (0 ≤ k - 13) := nI_leE (a := 0) (b := k - 13) (by omega) (by omega)
  have en : ¬ nI (k - 13) < (0 : Int32) := by rw [nI_nn (by omega)]; exact id
  have REF : wP (F_X9_isKey 79 12 t) (fun i3 => wJ (X := Unit) (if i3 = 0 then some (Sum.inl ()) else if t.1 79 45 = 0 then some (Sum.inl ()) else wC (F_X9_isCounted 79 t) fun i23 u22 => if i23 = 0 then some (Sum.inr (0, u22)) else wC (F_X9_waitsFor 79 2 u22) fun x u24 => wC (F_X9_token 79 u24) fun x u25 => some (Sum.inr (1, u25))) fun x => F_X9_leafRead_j86 79 t) = F_X9_leafRead_j129 79 t (nI (k - 13)) := by
    unfold F_X9_leafRead_j86 F_X9_leafRead_j109
    rw [ky, bI_f (show ¬ k = 12 by omega), wP_s, if_pos z00, wJ_inl, nm, if_pos hnm, wP_s, if_pos (eg.mpr (by omega)), wJ_inl, if_pos (eg.mpr (by omega)), wJ_inl]
  rw [if_pos hnm, if_neg (fun z => absurd (e33.mp z) (by omega)), if_neg n10, wJ_inl, bI_f (show ¬ k = 30 by omega), if_pos z00, REF]
  clear REF
  unfold F_X2_readTowardsValue_j36 F_X2_readTowardsValue_j56
  by_cases h64 : c = 64
  · have k3' : u.1 36 6 = 64 := by rw [k3, h64]; rfl
    have k4' : t.1 79 43 = 64 := by rw [k4, h64]; rfl
    obtain ⟨ub, b1, b2, b3, K', b4, b5, b6⟩ := add_a (u := bl u 2) (X := nI k) (Y := 0) hp hd (by rw [bl_n (by omega)]; exact k1) hl.2.2 w3 pK
    have B0 : Bd ub (wr t 2) := Bd_f (Bd_w hk x2) (b3 _ _ (by omega) (by omega) (by omega)) (b3 _ _ (by omega) (by omega) (by omega))
    have h5b : (bl u 2).1 36 5 = nI w := by rw [bl_n (by omega)]; exact h5
    rw [cnt_x hp k3' hf.1, wC_s, if_neg n10, wJ_inl]
    dsimp only
    rw [show (bl u 2).2 = u.2 from rfl, hR.2.2.2.1, wR_d0 _ hd, (PL_d hp hd).2.2.2.2.2.2.2.2.2.1, wR_d10 _ hd, h5b, b1, wC_s, if_neg n10, goon_b B0.1, wC_s]
    unfold F_X9_leafRead_j129
    rw [isc_x k4', wC_s, if_pos z00]
    exact ⟨_, ub, _, wr t 2, rfl, rfl, uL_tr (uL_F bl_F) ⟨b2, fun a j q => b3 a j (fun r => q (by unfold lC; omega)) (fun r => q (by unfold lC; omega)) (fun r => q (by unfold lC; omega))⟩, tL_F wr_F, Or.inr ⟨rfl, B0, w3, by rw [b3 _ _ (by omega) (by omega) (by omega)]; exact h5b, ⟨S.length, hl.1, by rw [b3 _ _ (by omega) (by omega) (by omega), bl_n (by omega)]; exact s1⟩, ⟨K', b4, b5, b6⟩⟩⟩
  obtain ⟨u0, hu0⟩ : ∃ u0, u0 = w_sI u (36) (6) (nI (c + 1)) := ⟨_, rfl⟩
  have Uu0 : uL e w p u u0 := by rw [hu0]; exact uL_s Uu (by unfold lC; omega)
  have Du0 : ∀ a j, ¬ (a = 36 ∧ j = 6) → u0.1 a j = u.1 a j := fun a j q => by rw [hu0]; exact if_neg q
  have Vu0 : u0.1 (36) (6) = nI (c + 1) := by rw [hu0]; exact sI_eq _ _ _ _
  obtain ⟨u1, hu1⟩ : ∃ u1, u1 = ad u0 e w K (nI k) (0) := ⟨_, rfl⟩
  have Uu1 : uL e w p u u1 := by rw [hu1]; exact uL_ad Uu0 pK
  have Du1 : ∀ a j, ¬ (((a = e + 14 ∨ a = e + 15) ∧ j = K) ∨ (a = e + 10 ∧ j = 0) ∨ (a = e + 13 ∧ j = w)) → u1.1 a j = u0.1 a j := fun a j q => by rw [hu1]; exact ad_n (by omega) (by omega) (by omega)
  have Vu1 : u1.1 (e + 14) K = nI k ∧ u1.1 (e + 15) K = 0 ∧ u1.1 (e + 10) 0 = nI (K + 1) ∧ u1.1 (e + 13) w = nI (K + 1) := by rw [hu1]; exact ad_v
  obtain ⟨t0, ht0⟩ : ∃ t0, t0 = w_sI t (79) (43) (nI (c + 1)) := ⟨_, rfl⟩
  have Ut0 : tL p t t0 := by rw [ht0]; exact tL_s Ut (by unfold lT; omega)
  have Dt0 : ∀ a j, ¬ (a = 79 ∧ j = 43) → t0.1 a j = t.1 a j := fun a j q => by rw [ht0]; exact if_neg q
  have Vt0 : t0.1 (79) (43) = nI (c + 1) := by rw [ht0]; exact sI_eq _ _ _ _
  obtain ⟨t1, ht1⟩ : ∃ t1, t1 = gw t0 K L.length (1) (nI (k - 13)) (0) := ⟨_, rfl⟩
  have Ut1 : tL p t t1 := by rw [ht1]; exact tL_gw Ut0 pK
  have Dt1 : ∀ a j, ¬ (((a = 96 ∨ a = 98 ∨ a = 99) ∧ j = 64 + K) ∨ (a = 101 ∧ j = L.length) ∨ (a = 79 ∧ (j = 19 ∨ j = 41))) → t1.1 a j = t0.1 a j := fun a j q => by rw [ht1]; exact gw_n (by omega) (by omega) (by omega)
  have Vt1 : t1.1 96 (64 + K) = 1 ∧ t1.1 98 (64 + K) = nI (k - 13) ∧ t1.1 99 (64 + K) = 0 ∧ t1.1 101 L.length = nI K ∧ t1.1 79 41 = nI (L.length + 1) ∧ t1.1 79 19 = nI (K + 1) := by rw [ht1]; exact gw_v
  obtain ⟨t2, ht2⟩ : ∃ t2, t2 = w_sI t1 (79) (44) (0) := ⟨_, rfl⟩
  have Ut2 : tL p t t2 := by rw [ht2]; exact tL_s Ut1 (by unfold lT; omega)
  have Dt2 : ∀ a j, ¬ (a = 79 ∧ j = 44) → t2.1 a j = t1.1 a j := fun a j q => by rw [ht2]; exact if_neg q
  have Vt2 : t2.1 (79) (44) = 0 := by rw [ht2]; exact sI_eq _ _ _ _
  have hi := Tk_e hR hk hk0 k36 (by omega)
  have Z0 : u1.1 36 0 = 0 := by rw [Du1 _ _ (by omega), Du0 _ _ (by omega)]; exact hf.1
  have h5b : u0.1 36 5 = nI w := by rw [Du0 _ _ (by omega)]; exact h5
  have ac := add_c (u := u0) (w := w) (X := nI k) (Y := 0) (by rw [Uu0.1]; exact hp) hd (K := K) (by rw [Du0 _ _ (by omega)]; exact k1) (by omega) w3
  have gc := grown_t (t := t0) (K := K) (h := L.length) (A := 1) (B := nI (k - 13)) (C := 0) (by rw [Ut0.1]; exact hm) (by rw [Dt0 _ _ (by omega)]; exact k2) (by omega) (by rw [Dt0 _ _ (by omega)]; exact l1) (by omega)
  obtain ⟨u2, t3, a1, a2, a3, a4, a5, a6, a7⟩ := tok_rl (Rd_fr hR (uL_G Uu1) (tL_G Ut2)) (Tk_fr hk (fun a j q => by rw [Du1 a j (by omega), Du0 a j (by omega)]) (fun j q r => by rw [Dt2 _ _ (by omega), Dt1 _ _ (by omega), Dt0 _ _ (by omega)])) hi
  rw [cnt_c k3 (by omega), wC_s, ← hu0, if_neg n10, wJ_inl]
  dsimp only
  rw [Uu0.1, hR.2.2.2.1, wR_d0 _ hd, (PL_d hp hd).2.2.2.2.2.2.2.2.2.1, wR_d10 _ hd, h5b, ac, wC_s, ← hu1, if_neg n10, goon_c (by rw [Uu1.1]; exact hp) Z0 a1, wC_s]
  unfold F_X9_leafRead_j129 F_X9_leafRead_j148 F_X9_leafRead_j160
  rw [isc_t k4 (by omega), wC_s, ← ht0, if_neg n10, if_neg en, wJ_inl, if_neg en, wJ_inl, gc, wC_s, ← ht1, wB_eq, ← ht2, a2, wC_s]
  have UF := uL_tr Uu1 (uL_t (e := e) (w := w) (p := p) a3 a4)
  have TF := tL_tr Ut2 (tL_t (p := p) a5 a6)
  have Vu2 : u2.1 (e + 14) K = nI k ∧ u2.1 (e + 15) K = 0 ∧ u2.1 (e + 10) 0 = nI (K + 1) ∧ u2.1 (e + 13) w = nI (K + 1) := by
    rw [a4 _ _ (by omega), a4 _ _ (by omega), a4 _ _ (by omega), a4 _ _ (by omega)]
    exact Vu1
  refine ⟨_, u2, _, t3, rfl, rfl, UF, TF, Or.inl ⟨rfl, c + 1, K + 1, S, K :: L, ⟨Rd_fr hR (uL_G UF) (tL_G TF), a7, ⟨by rw [a4 _ _ (by omega)]; exact Z0, ?_, ?_⟩, Lg_leaf hd hLg (by omega) Vu2.1 Vu2.2.1 Vu2.2.2.1 Vu2.2.2.2 ?_ (A := 1) (B := nI (k - 13)) (C := 0) ?_ ?_ ?_ ?_ ?_ ?_ ?_ (Or.inr (Or.inl ⟨k - 13, by omega, by rw [show 13 + (k - 13) = k from by omega], rfl, rfl, rfl⟩)) (fun a j y1 y2 y3 y4 y5 => by rw [a4 a j (by omega), Du1 a j (by omega), Du0 a j (by omega)]) (fun a j y1 y2 y3 => by rw [a6 a j (by omega), Dt2 a j (by omega), Dt1 a j (by omega), Dt0 a j (by omega)])⟩, Or.inr ⟨rfl, ?_, ?_, ⟨L, rfl⟩, by omega⟩⟩⟩
  · rw [a6 _ _ (by omega), Dt2 _ _ (by omega), Dt1 _ _ (by omega), Dt0 _ _ (by omega)]; exact hf.2.1
  · rw [a6 _ _ (by omega), Dt2 _ _ (by omega), Dt1 _ _ (by omega), Dt0 _ _ (by omega)]; exact hf.2.2
  · rw [a4 _ _ (by omega), Du1 _ _ (by omega)]; exact Vu0
  · rw [a6 _ _ (by omega), Dt2 _ _ (by omega)]; exact Vt1.1
  · rw [a6 _ _ (by omega), Dt2 _ _ (by omega)]; exact Vt1.2.1
  · rw [a6 _ _ (by omega), Dt2 _ _ (by omega)]; exact Vt1.2.2.1
  · rw [a6 _ _ (by omega), Dt2 _ _ (by omega)]; exact Vt1.2.2.2.1
  · rw [a6 _ _ (by omega), Dt2 _ _ (by omega)]; exact Vt1.2.2.2.2.1
  · rw [a6 _ _ (by omega), Dt2 _ _ (by omega)]; exact Vt1.2.2.2.2.2
  · rw [a6 _ _ (by omega), Dt2 _ _ (by omega), Dt1 _ _ (by omega)]; exact Vt0
  · rw [List.length_cons, w1]
  · rw [a6 _ _ (by omega)]; exact Vt2
theorem leaf_rl (h : Lx n b ps s e i w p c K S L u t) (hW : W1 S L t) : Lp n b ps s e i w p u t (F_X2_readTowardsValue 36 u) (F_X9_leafRead 79 t) := by
  obtain ⟨k, hk0, hN⟩ := Tk_k h.2.1
  by_cases h33 : k = 33
  · exact leaf_d h hW hk0 hN h33
  by_cases h30 : k = 30
  · exact leaf_o h hW hk0 hN h30
  by_cases h12 : k = 12
  · exact leaf_n h hW hk0 hN h12
  by_cases hnm : 13 ≤ k ∧ k ≤ 19
  · exact leaf_m h hW hk0 hN hnm
  · exact leaf_x h hW hk0 hN h33 h30 h12 hnm
end

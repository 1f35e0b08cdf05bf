/-! a law under way: what stands behind a value -/
def oc (k : Nat) : Nat := if k = 11 then 3 else if k = 10 then 4 else if 20 ≤ k ∧ k ≤ 29 then k - 15 else 0
theorem oc_e {k : Nat} (h : k ≤ 36) : (oc k = 0 ∨ (3 ≤ oc k ∧ oc k < 15 ∧ kc (oc k) = k ∧ 1 ≤ rk (oc k) ∧ rk (oc k) ≤ 6 ∧ rk (oc k) ≠ 3 ∧ k ≠ 12)) ∧ (k = 12 → oc k = 0) ∧ (k = 31 → oc k = 0) := by
  have : ∀ k : Fin 37, (oc k.1 = 0 ∨ (3 ≤ oc k.1 ∧ oc k.1 < 15 ∧ kc (oc k.1) = k.1 ∧ 1 ≤ rk (oc k.1) ∧ rk (oc k.1) ≤ 6 ∧ rk (oc k.1) ≠ 3 ∧ k.1 ≠ 12)) ∧ (k.1 = 12 → oc k.1 = 0) ∧ (k.1 = 31 → oc k.1 = 0) := by decide +kernel
  exact this ⟨k, by omega⟩
theorem bind_k {k : Nat} {u : wSt} (h : k ≤ 36) : F_X2_bindingOf (nI k) u = some (nI (if k = 12 then 3 else rk (oc k))) := by
  have : ∀ k : Fin 37, F_X2_bindingOf (nI k.1) r9 = some (nI (if k.1 = 12 then 3 else rk (oc k.1))) := by decide +kernel
  exact this ⟨k, by omega⟩
theorem sj_t {k : Nat} {W : Int32} {t : wSt} (hN : KN k W (t.1 79 8) (t.1 79 9)) : F_X9_signs_j47 79 t = F_X9_signs_j147 79 t (nI (oc k)) := by
  have k36 := hN.1
  have z00 : (0 : Int32) = 0 := rfl
  have n10 : ¬ (1 : Int32) = 0 := by decide
  have y10 : F_X9_isKey 79 (10 : Int32) t = some (bI (k = 11)) := key_t (c := 10) hN (by omega)
  have y11 : F_X9_isKey 79 (11 : Int32) t = some (bI (k = 10)) := key_t (c := 11) hN (by omega)
  have g43 : F_X9_isSign 79 (43 : Int32) t = some (bI (k = 26)) := sgn_t (c := 26) hN (by omega)
  have g45 : F_X9_isSign 79 (45 : Int32) t = some (bI (k = 27)) := sgn_t (c := 27) hN (by omega)
  have g42 : F_X9_isSign 79 (42 : Int32) t = some (bI (k = 28)) := sgn_t (c := 28) hN (by omega)
  have g47 : F_X9_isSign 79 (47 : Int32) t = some (bI (k = 29)) := sgn_t (c := 29) hN (by omega)
  unfold F_X9_signs_j47
  rw [y10, wP_s]
  by_cases h11 : k = 11
  · rw [bI_t h11, if_neg n10, wJ_inl, h11]
    rfl
  rw [bI_f h11, if_pos z00, y11, wP_s]
  by_cases h10 : k = 10
  · rw [bI_t h10, if_neg n10, wJ_inl, h10]
    rfl
  rw [bI_f h10, if_pos z00]
  have oc0 : oc k = if 20 ≤ k ∧ k ≤ 29 then k - 15 else 0 := by
    unfold oc
    rw [if_neg h11, if_neg h10]
  rw [oc0]
  by_cases h2 : 20 ≤ k ∧ k < 26
  · obtain ⟨e1, e2⟩ := hN.2.2.1 h2.1 h2.2
    have : (5 : Int32) + nI (k - 20) = nI (k - 15) := by
      rw [nI_Ladd]
      congr 1
      omega
    rw [if_pos e1, wJ_inl, e2, this, if_pos (show 20 ≤ k ∧ k ≤ 29 by omega)]
  rw [if_neg (KN_5 hN (by omega)), g43, wP_s]
  by_cases h26 : k = 26
  · rw [bI_t h26, if_neg n10, wJ_inl, h26]
    rfl
  rw [bI_f h26, if_pos z00, g45, wP_s]
  by_cases h27 : k = 27
  · rw [bI_t h27, if_neg n10, wJ_inl, h27]
    rfl
  rw [bI_f h27, if_pos z00, g42, wP_s]
  by_cases h28 : k = 28
  · rw [bI_t h28, if_neg n10, wJ_inl, h28]
    rfl
  rw [bI_f h28, if_pos z00, g47, wP_s]
  by_cases h29 : k = 29
  · rw [bI_t h29, if_neg n10, wJ_inl, h29]
    rfl
  rw [bI_f h29, if_pos z00, wJ_inl, if_neg (show ¬ (20 ≤ k ∧ k ≤ 29) by omega)]
  rfl
section
variable {n s e i w p c K x k : Nat} {b ps : Nat → Nat} {S L r : List Nat} {u t u' t' : wSt}
theorem Lg_pop (hd : TC e) (h : Lg e w p c K (0 :: r) L u t) (u8 : u'.1 36 8 = nI r.length) (t40 : t'.1 79 40 = nI r.length) (u7 : u'.1 36 7 = nI (nPa r)) (t42 : t'.1 79 42 = nI (nPa r)) (hU : ∀ a j, ¬ (a = 36 ∧ (j ≤ 1 ∨ j = 7 ∨ j = 8)) → a ≠ 38 → u'.1 a j = u.1 a j) (hT : ∀ a j, ¬ (a = 79 ∧ ((4 ≤ j ∧ j ≤ 11) ∨ j = 40 ∨ j = 42 ∨ j = 44 ∨ j = 45)) → t'.1 a j = t.1 a j) : Lg e w p c K r L u' t' := by
  have d1 := TC_le hd
  obtain ⟨⟨k1, k2, k3, k4⟩, ⟨w3, h5⟩, ⟨s1, s2, s3⟩, ⟨l1, l2⟩, ⟨c1, c2⟩, ⟨q1, q2, q3⟩, hP, ⟨a1, a2, a3, a4, a5⟩⟩ := h
  have nP : nPa (0 :: r) = 1 + nPa r := rfl
  have nO : nOp (0 :: r) = nOp r := Nat.zero_add _
  rw [nO] at c1
  rw [nP] at q3
  refine ⟨⟨?_, ?_, ?_, ?_⟩, ⟨w3, ?_⟩, ⟨u8, t40, ?_⟩, ⟨?_, ?_⟩, ⟨c1, c2⟩, ⟨u7, t42, by omega⟩, ?_, ⟨?_, ?_, ?_, ?_, ?_⟩⟩
  · rw [hU _ _ (by omega) (by omega)]; exact k1
  · rw [hT _ _ (by omega)]; exact k2
  · rw [hU _ _ (by omega) (by omega)]; exact k3
  · rw [hT _ _ (by omega)]; exact k4
  · rw [hU _ _ (by omega) (by omega)]; exact h5
  · exact Wr_fr r s3.2.2.2 (fun j hj => ⟨hU _ _ (by omega) (by omega), hT _ _ (by omega)⟩)
  · rw [hT _ _ (by omega)]; exact l1
  · exact Hr_fr L l2 (fun j hj => hT _ _ (by omega))
  · exact LgP_fr hP (fun i hi => ⟨hU _ _ (by omega) (by omega), hU _ _ (by omega) (by omega)⟩) (fun i hi => ⟨hT _ _ (by omega), hT _ _ (by omega), hT _ _ (by omega)⟩)
  · rw [hU _ _ (by omega) (by omega)]; exact a1
  · rw [hT _ _ (by omega)]; exact a2
  · rw [hU _ _ (by omega) (by omega)]; exact a3
  · rw [hU _ _ (by omega) (by omega)]; exact a4
  · rw [hT _ _ (by omega)]; exact a5
theorem tail_rl (h : Lx n b ps s e i w p c K S L u t) (hW : L.length = nBi S + 1) (hx : 3 ≤ x ∧ x < 15) (hkx : kc x = k) (hr3 : rk x ≠ 3) (hi : i < s) : ∃ (u' : wSt) (r : Int32) (t' : wSt), F_X2_readBehindValue_j109 36 (nI k) u = some (Sum.inr (1, u')) ∧ F_X9_signs_j217 79 (nI x) t = some (r, t') ∧ uL e w p u u' ∧ tL p t t' ∧ ((r = 1 ∧ ∃ (c K : Nat) (S L : List Nat), Lx n b ps s e (i + 1) w p c K S L u' t' ∧ W1 S L t') ∨ (r = 0 ∧ Bd u' t' ∧ Bx e w p u')) := by
  obtain ⟨hR, hk, hf, hL⟩ := h
  have hp := hR.1
  have hm := hR.2.1
  have hd := hR.2.2.1
  have d1 := TC_le hd
  have hl := Lg_len hL
  have hLg := hL
  obtain ⟨⟨k1, k2, k3, k4⟩, ⟨w3, h5⟩, ⟨s1, s2, s3⟩, ⟨l1, l2⟩, ⟨c1, c2⟩, ⟨q1, q2, q3⟩, hP, -⟩ := hL
  have nl := n_len S
  have pK := hP.1
  have r6 := rk_le x
  have n10 : ¬ (1 : Int32) = 0 := by decide
  have z00 : (0 : Int32) = 0 := rfl
  have x2 : (2 : Int32) ≠ 0 := by decide
  have Uu : uL e w p u u := uL_rf
  have Ut : tL p t t := tL_rf
  have e3 : ((3 : Int32) ≤ nI (rk x)) = (3 ≤ rk x) := nI_leE (a := 3) (b := rk x) (by omega) (by omega)
  unfold F_X2_readBehindValue_j109 F_X9_signs_j217
  by_cases h64 : c = 64
  · have k3' : u.1 36 6 = 64 := by rw [k3, h64]; rfl
    have k4' : t.1 79 43 = 64 := by rw [k4, h64]; rfl
    obtain ⟨ub, b1, b2, b3, m', b4, b5⟩ := aw_a (u := bl u 2) (m := S.length) (x := nI k) hp (by rw [bl_n (by omega)]; exact s1) hl.1
    have B0 : Bd ub (wr t 2) := Bd_f (Bd_w hk x2) (b3 _ _ (by omega) (by omega)) (b3 _ _ (by omega) (by omega))
    rw [cnt_x hp k3' hf.1, wC_s, b1, wC_s, goon_b B0.1, wC_s, isc_x k4', wC_s, if_pos z00]
    exact ⟨_, _, _, rfl, rfl, uL_tr (uL_F bl_F) ⟨b2, fun a j q => b3 a j (fun r => q (by unfold lC; omega)) (fun r => q (by unfold lC; omega))⟩, tL_F wr_F, Or.inr ⟨rfl, B0, w3, by rw [b3 _ _ (by omega) (by omega), bl_n (by omega)]; exact h5, ⟨m', b4, b5⟩, ⟨K, pK, hl.2.2, by rw [b3 _ _ (by omega) (by omega), bl_n (by omega)]; exact k1⟩⟩⟩
  have hS : S.length < 72 := by omega
  obtain ⟨u0, hu0⟩ : ∃ u0, u0 = w_sI u (36) (6) (nI (c + 1)) := ⟨_, rfl⟩
  have Uu0 : uL e w p u u0 := by rw [hu0]; exact uL_s Uu (by unfold lC; omega)
  have Du0 : ∀ a j, ¬ (a = 36 ∧ j = 6) → u0.1 a j = u.1 a j := fun a j q => by rw [hu0]; exact if_neg q
  have Vu0 : u0.1 (36) (6) = nI (c + 1) := by rw [hu0]; exact sI_eq _ _ _ _
  obtain ⟨u1, hu1⟩ : ∃ u1, u1 = w_sI u0 (37) (S.length) (nI k) := ⟨_, rfl⟩
  have Uu1 : uL e w p u u1 := by rw [hu1]; exact uL_s Uu0 (by unfold lC; omega)
  have Du1 : ∀ a j, ¬ (a = 37 ∧ j = S.length) → u1.1 a j = u0.1 a j := fun a j q => by rw [hu1]; exact if_neg q
  have Vu1 : u1.1 (37) (S.length) = nI k := by rw [hu1]; exact sI_eq _ _ _ _
  obtain ⟨u2, hu2⟩ : ∃ u2, u2 = w_sI u1 (36) (8) (nI (S.length + 1)) := ⟨_, rfl⟩
  have Uu2 : uL e w p u u2 := by rw [hu2]; exact uL_s Uu1 (by unfold lC; omega)
  have Du2 : ∀ a j, ¬ (a = 36 ∧ j = 8) → u2.1 a j = u1.1 a j := fun a j q => by rw [hu2]; exact if_neg q
  have Vu2 : u2.1 (36) (8) = nI (S.length + 1) := by rw [hu2]; exact sI_eq _ _ _ _
  obtain ⟨t0, ht0⟩ : ∃ t0, t0 = w_sI t (79) (43) (nI (c + 1)) := ⟨_, rfl⟩
  have Ut0 : tL p t t0 := by rw [ht0]; exact tL_s Ut (by unfold lT; omega)
  have Dt0 : ∀ a j, ¬ (a = 79 ∧ j = 43) → t0.1 a j = t.1 a j := fun a j q => by rw [ht0]; exact if_neg q
  have Vt0 : t0.1 (79) (43) = nI (c + 1) := by rw [ht0]; exact sI_eq _ _ _ _
  obtain ⟨t1, ht1⟩ : ∃ t1, t1 = w_sI t0 (100) (S.length) (nI x) := ⟨_, rfl⟩
  have Ut1 : tL p t t1 := by rw [ht1]; exact tL_s Ut0 (by unfold lT; omega)
  have Dt1 : ∀ a j, ¬ (a = 100 ∧ j = S.length) → t1.1 a j = t0.1 a j := fun a j q => by rw [ht1]; exact if_neg q
  have Vt1 : t1.1 (100) (S.length) = nI x := by rw [ht1]; exact sI_eq _ _ _ _
  obtain ⟨t2, ht2⟩ : ∃ t2, t2 = w_sI t1 (79) (40) (nI (S.length + 1)) := ⟨_, rfl⟩
  have Ut2 : tL p t t2 := by rw [ht2]; exact tL_s Ut1 (by unfold lT; omega)
  have Dt2 : ∀ a j, ¬ (a = 79 ∧ j = 40) → t2.1 a j = t1.1 a j := fun a j q => by rw [ht2]; exact if_neg q
  have Vt2 : t2.1 (79) (40) = nI (S.length + 1) := by rw [ht2]; exact sI_eq _ _ _ _
  obtain ⟨t3, ht3⟩ : ∃ t3, t3 = w_sI t2 (79) (44) (1) := ⟨_, rfl⟩
  have Ut3 : tL p t t3 := by rw [ht3]; exact tL_s Ut2 (by unfold lT; omega)
  have Dt3 : ∀ a j, ¬ (a = 79 ∧ j = 44) → t3.1 a j = t2.1 a j := fun a j q => by rw [ht3]; exact if_neg q
  have Vt3 : t3.1 (79) (44) = 1 := by rw [ht3]; exact sI_eq _ _ _ _
  obtain ⟨t4, ht4⟩ : ∃ t4, t4 = w_sI t3 (79) (45) (bI (rk x < 4)) := ⟨_, rfl⟩
  have Ut4 : tL p t t4 := by rw [ht4]; exact tL_s Ut3 (by unfold lT; omega)
  have Dt4 : ∀ a j, ¬ (a = 79 ∧ j = 45) → t4.1 a j = t3.1 a j := fun a j q => by rw [ht4]; exact if_neg q
  have Vt4 : t4.1 (79) (45) = bI (rk x < 4) := by rw [ht4]; exact sI_eq _ _ _ _
  have aw := aw_c (u := u0) (m := S.length) (x := nI k) (by rw [Uu0.1]; exact hp) (by rw [Du0 _ _ (by omega)]; exact s1) hS
  have wt := wait_t (t := t0) (m := S.length) (x := nI x) (by rw [Ut0.1]; exact hm) (by rw [Dt0 _ _ (by omega)]; exact s2) (by omega)
  have Z0 : u2.1 36 0 = 0 := by rw [Du2 _ _ (by omega), Du1 _ _ (by omega), Du0 _ _ (by omega)]; exact hf.1
  obtain ⟨u3, t5, a1, a2, a3, a4, a5, a6, a7⟩ := tok_rl (Rd_fr hR (uL_G Uu2) (tL_G Ut4)) (Tk_fr hk (fun a j q => by rw [Du2 _ _ (by omega), Du1 _ _ (by omega), Du0 _ _ (by omega)]) (fun j q r => by rw [Dt4 _ _ (by omega), Dt3 _ _ (by omega), Dt2 _ _ (by omega), Dt1 _ _ (by omega), Dt0 _ _ (by omega)])) hi
  have J : ∀ q : Int32, q = bI (rk x < 4) → F_X9_signs_j250 79 q t3 = some ((1 : Int32), t5) := fun q hq => by
    unfold F_X9_signs_j250
    rw [hq, wG_pos bI_or, wB_eq, ← ht4, a2, wC_s]
  have M : wJ (X := Int32 × wSt) (if (3 : Int32) ≤ nI (rk x) then some (Sum.inl ((0 : Int32), t3)) else some (Sum.inl ((1 : Int32), t3))) (fun x => F_X9_signs_j250 79 x.1 x.2) = some ((1 : Int32), t5) := by
    by_cases h3 : 3 ≤ rk x
    · rw [if_pos (e3.mpr h3), wJ_inl]
      exact J 0 (bI_f (by omega)).symm
    · rw [if_neg (fun z => absurd (e3.mp z) h3), wJ_inl]
      exact J 1 (bI_t (by omega)).symm
  rw [cnt_c k3 (by omega), wC_s, ← hu0, aw, wC_s, ← hu1, ← hu2, goon_c (by rw [Uu2.1]; exact hp) Z0 a1, wC_s, isc_t k4 (by omega), wC_s, ← ht0, if_neg n10, wt, wC_s, ← ht1, ← ht2, wB_eq, ← ht3, rank_t (by omega), wP_s, M]
  have x0 : ¬ x = 0 := by omega
  have nP : nPa (x :: S) = nPa S := by
    show (if x = 0 then 1 else 0) + nPa S = _
    rw [if_neg x0, Nat.zero_add]
  have nO : nOp (x :: S) = nOp S + 1 := by
    show (if x = 0 then 0 else 1) + nOp S = _
    rw [if_neg x0, Nat.add_comm]
  have nB : nBi (x :: S) = nBi S + 1 := by
    show (if 3 ≤ x then 1 else 0) + nBi S = _
    rw [if_pos hx.1, Nat.add_comm]
  have UF := uL_tr Uu2 (uL_t (e := e) (w := w) (p := p) a3 a4)
  have TF := tL_tr Ut4 (tL_t (p := p) a5 a6)
  refine ⟨u3, _, t5, rfl, rfl, UF, TF, Or.inl ⟨rfl, c + 1, K, x :: S, L, ⟨Rd_fr hR (uL_G UF) (tL_G TF), a7, ⟨by rw [a4 _ _ (by omega)]; exact Z0, ?_, ?_⟩, Lg_push hd hLg (Or.inr (Or.inr hx)) (by rw [nO]; omega) (by omega) (by rw [nP]; omega) ?_ ?_ ?_ ?_ ?_ ?_ ?_ ?_ (fun a j y1 y2 y3 => by rw [a4 a j (by omega), Du2 a j (by omega), Du1 a j (by omega), Du0 a j (by omega)]) (fun a j y1 y2 => by rw [a6 a j (by omega), Dt4 a j (by omega), Dt3 a j (by omega), Dt2 a j (by omega), Dt1 a j (by omega), Dt0 a j (by omega)])⟩, by rw [nB]; exact hW, ?_, ?_⟩⟩
  · rw [a6 _ _ (by omega), Dt4 _ _ (by omega), Dt3 _ _ (by omega), Dt2 _ _ (by omega), Dt1 _ _ (by omega), Dt0 _ _ (by omega)]; exact hf.2.1
  · rw [a6 _ _ (by omega), Dt4 _ _ (by omega), Dt3 _ _ (by omega), Dt2 _ _ (by omega), Dt1 _ _ (by omega), Dt0 _ _ (by omega)]; exact hf.2.2
  · rw [a4 _ _ (by omega)]; exact Vu2
  · rw [a6 _ _ (by omega), Dt4 _ _ (by omega), Dt3 _ _ (by omega)]; exact Vt2
  · rw [a4 _ _ (by omega), Du2 _ _ (by omega)]; rw [hkx]; exact Vu1
  · rw [a6 _ _ (by omega), Dt4 _ _ (by omega), Dt3 _ _ (by omega), Dt2 _ _ (by omega)]; exact Vt1
  · rw [a4 _ _ (by omega), Du2 _ _ (by omega), Du1 _ _ (by omega)]; exact Vu0
  · rw [a6 _ _ (by omega), Dt4 _ _ (by omega), Dt3 _ _ (by omega), Dt2 _ _ (by omega), Dt1 _ _ (by omega)]; exact Vt0
  · rw [a4 _ _ (by omega), Du2 _ _ (by omega), Du1 _ _ (by omega), Du0 _ _ (by omega)]; rw [nP]; exact q1
  · rw [a6 _ _ (by omega), Dt4 _ _ (by omega), Dt3 _ _ (by omega), Dt2 _ _ (by omega), Dt1 _ _ (by omega), Dt0 _ _ (by omega)]; rw [nP]; exact q2
  · rw [a6 _ _ (by omega), Dt4 _ _ (by omega)]; exact Vt3
  · rw [a6 _ _ (by omega)]; exact Vt4
theorem sign_c2 (h : Lx n b ps s e i w p c K S L u t) (hW : W0 p K S L t) {k : Nat} (hk0 : u.1 38 0 = nI k) (hN : KN k (u.1 38 2) (t.1 79 8) (t.1 79 9)) (h31 : k = 31) (h0 : 0 < nPa S) : Lp n b ps s e i w p u t (F_X2_readBehindValue 36 u) (F_X9_signs 79 t) := by
  obtain ⟨hR, hk, hf, hL⟩ := h
  have hp := hR.1
  have hm := hR.2.1
  have hd := hR.2.2.1
  have d1 := TC_le hd
  have hl := Lg_len hL
  have hLg := hL
  obtain ⟨⟨k1, k2, k3, k4⟩, ⟨w3, h5⟩, ⟨s1, s2, s3⟩, ⟨l1, l2⟩, ⟨c1, c2⟩, ⟨q1, q2, q3⟩, hP, -⟩ := hL
  have nl := n_len S
  have k36 := hN.1
  have pK := hP.1
  have n10 : ¬ (1 : Int32) = 0 := by decide
  have z00 : (0 : Int32) = 0 := rfl
  have x2 : (2 : Int32) ≠ 0 := by decide
  have x1 : (1 : Int32) ≠ 0 := by decide
  have Uu : uL e w p u u := uL_rf
  have Ut : tL p t t := tL_rf
  have e33 : (nI k = (33 : Int32)) = (k = 33) := nI_eqI (a := k) (b := 33) (by omega) (by omega)
  have e30 : (nI k = (30 : Int32)) = (k = 30) := nI_eqI (a := k) (b := 30) (by omega) (by omega)
  have e12 : (nI k = (12 : Int32)) = (k = 12) := nI_eqI (a := k) (b := 12) (by omega) (by omega)
  have e31 : (nI k = (31 : Int32)) = (k = 31) := nI_eqI (a := k) (b := 31) (by omega) (by omega)
  obtain ⟨w1, w44, hh, hpK⟩ := hW
  have sg : F_X9_isSign 79 (41 : Int32) t = some (bI (k = 31)) := sgn_t (c := 31) hN (by omega)
  have ep : (nI (nPa S) ≤ (0 : Int32)) = (nPa S ≤ 0) := nI_leE (a := nPa S) (b := 0) (by omega) (by omega)
  obtain ⟨u1, t1, K1, S1, L1, b1, b2, b3, b4, b5, b6, b7, b8, b9, b10⟩ := bind_rl (m := 1) hp hm hd hR.2.2.2.1 hLg w1 hh hpK (by omega) (by omega)
  have b1' : F_X2_putDownFrom 36 (1 : Int32) u = some ((), u1) := b1
  have b2' : F_X9_bind 79 (1 : Int32) t = some ((), t1) := b2
  have hi := Tk_e hR hk hk0 k36 (by omega)
  cases S1 with
  | nil => exact absurd b10 (by show ¬ 0 = nPa S; omega)
  | cons y r =>
    have y0 : y = 0 := by
      have ok := b5.2.2.1.2.2.1
      unfold okS at ok
      have r1 : rk y < 1 := b9
      have : ∀ y : Fin 15, (y.1 = 0 ∨ y.1 = 2 ∨ 3 ≤ y.1) → rk y.1 < 1 → y.1 = 0 := by decide +kernel
      exact this ⟨y, by omega⟩ (by dsimp only; omega) r1
    subst y0
    have nP : nPa (0 :: r) = 1 + nPa r := rfl
    have s1' : u1.1 36 8 = nI (r.length + 1) := b5.2.2.1.1
    have s2' : t1.1 79 40 = nI (r.length + 1) := b5.2.2.1.2.1
    have q1' : u1.1 36 7 = nI (1 + nPa r) := b5.2.2.2.2.2.1.1
    have q2' : t1.1 79 42 = nI (1 + nPa r) := b5.2.2.2.2.2.1.2.1
    have hl1 := Lg_len b5
    have es : nI (r.length + 1) - (1 : Int32) = nI r.length := nI_sub (a := r.length + 1) (b := 1) (by omega)
    have ew : nI (1 + nPa r) - (1 : Int32) = nI (nPa r) := by
      rw [Nat.add_comm]
      exact nI_sub (a := nPa r + 1) (b := 1) (by omega)
    have Uu1 : uL e w p u u1 := uL_B b3
    have Ut1 : tL p t t1 := tL_B b4
    obtain ⟨u2, hu2⟩ : ∃ u2, u2 = w_sI u1 (36) (8) (nI r.length) := ⟨_, rfl⟩
    have Uu2 : uL e w p u u2 := by rw [hu2]; exact uL_s Uu1 (by unfold lC; omega)
    have Du2 : ∀ a j, ¬ (a = 36 ∧ j = 8) → u2.1 a j = u1.1 a j := fun a j q => by rw [hu2]; exact if_neg q
    have Vu2 : u2.1 (36) (8) = nI r.length := by rw [hu2]; exact sI_eq _ _ _ _
    obtain ⟨u3, hu3⟩ : ∃ u3, u3 = w_sI u2 (36) (7) (nI (nPa r)) := ⟨_, rfl⟩
    have Uu3 : uL e w p u u3 := by rw [hu3]; exact uL_s Uu2 (by unfold lC; omega)
    have Du3 : ∀ a j, ¬ (a = 36 ∧ j = 7) → u3.1 a j = u2.1 a j := fun a j q => by rw [hu3]; exact if_neg q
    have Vu3 : u3.1 (36) (7) = nI (nPa r) := by rw [hu3]; exact sI_eq _ _ _ _
    obtain ⟨t2, ht2⟩ : ∃ t2, t2 = w_sI t1 (79) (40) (nI r.length) := ⟨_, rfl⟩
    have Ut2 : tL p t t2 := by rw [ht2]; exact tL_s Ut1 (by unfold lT; omega)
    have Dt2 : ∀ a j, ¬ (a = 79 ∧ j = 40) → t2.1 a j = t1.1 a j := fun a j q => by rw [ht2]; exact if_neg q
    have Vt2 : t2.1 (79) (40) = nI r.length := by rw [ht2]; exact sI_eq _ _ _ _
    obtain ⟨t3, ht3⟩ : ∃ t3, t3 = w_sI t2 (79) (42) (nI (nPa r)) := ⟨_, rfl⟩
    have Ut3 : tL p t t3 := by rw [ht3]; exact tL_s Ut2 (by unfold lT; omega)
    have Dt3 : ∀ a j, ¬ (a = 79 ∧ j = 42) → t3.1 a j = t2.1 a j := fun a j q => by rw [ht3]; exact if_neg q
    have Vt3 : t3.1 (79) (42) = nI (nPa r) := by rw [ht3]; exact sI_eq _ _ _ _
    have q1b : u2.1 36 7 = nI (1 + nPa r) := by rw [Du2 _ _ (by omega)]; exact q1'
    have q2b : t2.1 79 42 = nI (1 + nPa r) := by rw [Dt2 _ _ (by omega)]; exact q2'
    have Z0 : u3.1 36 0 = 0 := by rw [Du3 _ _ (by omega), Du2 _ _ (by omega), b3.2 _ _ (by omega) (by omega) (by omega) (by omega)]; exact hf.1
    obtain ⟨u4, t4, a1, a2, a3, a4, a5, a6, a7⟩ := tok_rl (Rd_fr hR (uL_G Uu3) (tL_G Ut3)) (Tk_fr hk (fun a j q => by rw [Du3 _ _ (by omega), Du2 _ _ (by omega), b3.2 _ _ (by omega) (by omega) (by omega) (by omega)]) (fun j q r => by rw [Dt3 _ _ (by omega), Dt2 _ _ (by omega), b4.2 _ _ (by omega) (by omega) (by omega)])) hi
    unfold F_X2_readBehindValue F_X9_signs
    rw [p36_2 hp, wR_38, wB_eq, hk0, if_pos (e31.mpr h31), q1, if_neg (fun z => absurd (ep.mp z) (by omega)), b1', wC_s, s1', es, wB_eq, ← hu2, q1b, ew, wB_eq, ← hu3, goon_c (by rw [Uu3.1]; exact hp) Z0 a1, wC_s, wJ_inr, sg, bI_t h31, wP_s, if_neg n10, q2, if_neg (fun z => absurd (ep.mp z) (by omega)), b2', wC_s, s2', es, wB_eq, ← ht2, q2b, ew, wB_eq, ← ht3, a2, wC_s, wJ_inr]
    have UF := uL_tr Uu3 (uL_t (e := e) (w := w) (p := p) a3 a4)
    have TF := tL_tr Ut3 (tL_t (p := p) a5 a6)
    have nB : nBi (0 :: r) = nBi r := Nat.zero_add _
    refine ⟨_, u4, _, t4, rfl, rfl, UF, TF, Or.inl ⟨rfl, c, K1, r, L1, ⟨Rd_fr hR (uL_G UF) (tL_G TF), a7, ⟨by rw [a4 _ _ (by omega)]; exact Z0, ?_, ?_⟩, Lg_pop hd b5 ?_ ?_ ?_ ?_ (fun a j y1 y2 => by rw [a4 a j (by omega), Du3 a j (by omega), Du2 a j (by omega)]) (fun a j y1 => by rw [a6 a j (by omega), Dt3 a j (by omega), Dt2 a j (by omega)])⟩, Or.inr ⟨rfl, by rw [← nB]; exact b6, ?_, b7, b8⟩⟩⟩
    · rw [a6 _ _ (by omega), Dt3 _ _ (by omega), Dt2 _ _ (by omega), b4.2 _ _ (by omega) (by omega) (by omega)]; exact hf.2.1
    · rw [a6 _ _ (by omega), Dt3 _ _ (by omega), Dt2 _ _ (by omega), b4.2 _ _ (by omega) (by omega) (by omega)]; exact hf.2.2
    · rw [a4 _ _ (by omega), Du3 _ _ (by omega)]; exact Vu2
    · rw [a6 _ _ (by omega), Dt3 _ _ (by omega)]; exact Vt2
    · rw [a4 _ _ (by omega)]; exact Vu3
    · rw [a6 _ _ (by omega)]; exact Vt3
    · rw [a6 _ _ (by omega), Dt3 _ _ (by omega), Dt2 _ _ (by omega), b4.2 _ _ (by omega) (by omega) (by omega)]; exact w44
theorem sign_x (h : Lx n b ps s e i w p c K S L u t) (hW : W0 p K S L t) {k : Nat} (hk0 : u.1 38 0 = nI k) (hN : KN k (u.1 38 2) (t.1 79 8) (t.1 79 9)) (hno : ¬ (k = 31 ∧ 0 < nPa S)) (h0 : oc k = 0) : Lp n b ps s e i w p u t (F_X2_readBehindValue 36 u) (F_X9_signs 79 t) := by
  obtain ⟨hR, hk, hf, hL⟩ := h
  have hp := hR.1
  have hm := hR.2.1
  have hd := hR.2.2.1
  have d1 := TC_le hd
  have hl := Lg_len hL
  have hLg := hL
  obtain ⟨⟨k1, k2, k3, k4⟩, ⟨w3, h5⟩, ⟨s1, s2, s3⟩, ⟨l1, l2⟩, ⟨c1, c2⟩, ⟨q1, q2, q3⟩, hP, -⟩ := hL
  have nl := n_len S
  have k36 := hN.1
  have pK := hP.1
  have n10 : ¬ (1 : Int32) = 0 := by decide
  have z00 : (0 : Int32) = 0 := rfl
  have x2 : (2 : Int32) ≠ 0 := by decide
  have x1 : (1 : Int32) ≠ 0 := by decide
  have Uu : uL e w p u u := uL_rf
  have Ut : tL p t t := tL_rf
  have e33 : (nI k = (33 : Int32)) = (k = 33) := nI_eqI (a := k) (b := 33) (by omega) (by omega)
  have e30 : (nI k = (30 : Int32)) = (k = 30) := nI_eqI (a := k) (b := 30) (by omega) (by omega)
  have e12 : (nI k = (12 : Int32)) = (k = 12) := nI_eqI (a := k) (b := 12) (by omega) (by omega)
  have e31 : (nI k = (31 : Int32)) = (k = 31) := nI_eqI (a := k) (b := 31) (by omega) (by omega)
  have sg : F_X9_isSign 79 (41 : Int32) t = some (bI (k = 31)) := sgn_t (c := 31) hN (by omega)
  have ep : (nI (nPa S) ≤ (0 : Int32)) = (nPa S ≤ 0) := nI_leE (a := nPa S) (b := 0) (by omega) (by omega)
  have bk := bind_k (u := u) k36
  have CL : F_X2_readBehindValue 36 u = F_X2_readBehindValue_j52 u 36 (nI k) := by
    unfold F_X2_readBehindValue
    rw [p36_2 hp, wR_38, wB_eq, hk0]
    by_cases h31 : k = 31
    · rw [if_pos (e31.mpr h31), q1, if_pos (ep.mpr (by omega)), wJ_inl]
    · rw [if_neg (fun z => absurd (e31.mp z) h31), wJ_inl]
  have RF : F_X9_signs 79 t = F_X9_signs_j47 79 t := by
    unfold F_X9_signs
    rw [sg, wP_s]
    by_cases h31 : k = 31
    · rw [bI_t h31, if_neg n10, q2, if_pos (ep.mpr (by omega)), wJ_inl]
    · rw [bI_f h31, if_pos z00, wJ_inl]
  rw [CL, RF, sj_t hN, h0]
  unfold F_X2_readBehindValue_j52 F_X2_readBehindValue_j67 F_X9_signs_j147
  rw [bk, wP_s, if_pos (show nI 0 = (0 : Int32) from rfl), wrong_g]
  have FIN : Lp n b ps s e i w p u t (some ((0 : Int32), bl u 1)) (some ((0 : Int32), wr t 1)) := ⟨_, _, _, _, rfl, rfl, uL_F bl_F, tL_F wr_F, Or.inr ⟨rfl, Bd_w hk x1, w3, by rw [bl_n (by omega)]; exact h5, ⟨S.length, hl.1, by rw [bl_n (by omega)]; exact s1⟩, ⟨K, pK, hl.2.2, by rw [bl_n (by omega)]; exact k1⟩⟩⟩
  by_cases h12 : k = 12
  · rw [if_pos h12, if_neg (show ¬ nI 3 = (0 : Int32) by decide), if_pos (e12.mpr h12), wJ_inl, blame_c hp hf.1, wC_s]
    exact FIN
  · rw [if_neg h12, h0, if_pos (show nI (rk 0) = (0 : Int32) from rfl), wJ_inl, blame_c hp hf.1, wC_s]
    exact FIN
theorem sign_j (h : Lx n b ps s e i w p c K S L u t) (hW : W0 p K S L t) {k : Nat} (hk0 : u.1 38 0 = nI k) (hN : KN k (u.1 38 2) (t.1 79 8) (t.1 79 9)) (h0 : oc k ≠ 0) : Lp n b ps s e i w p u t (F_X2_readBehindValue 36 u) (F_X9_signs 79 t) := by
  obtain ⟨hR, hk, hf, hL⟩ := h
  have hp := hR.1
  have hm := hR.2.1
  have hd := hR.2.2.1
  have d1 := TC_le hd
  have hl := Lg_len hL
  have hLg := hL
  obtain ⟨⟨k1, k2, k3, k4⟩, ⟨w3, h5⟩, ⟨s1, s2, s3⟩, ⟨l1, l2⟩, ⟨c1, c2⟩, ⟨q1, q2, q3⟩, hP, -⟩ := hL
  have nl := n_len S
  have k36 := hN.1
  have pK := hP.1
  have n10 : ¬ (1 : Int32) = 0 := by decide
  have z00 : (0 : Int32) = 0 := rfl
  have x2 : (2 : Int32) ≠ 0 := by decide
  have x1 : (1 : Int32) ≠ 0 := by decide
  have Uu : uL e w p u u := uL_rf
  have Ut : tL p t t := tL_rf
  have e33 : (nI k = (33 : Int32)) = (k = 33) := nI_eqI (a := k) (b := 33) (by omega) (by omega)
  have e30 : (nI k = (30 : Int32)) = (k = 30) := nI_eqI (a := k) (b := 30) (by omega) (by omega)
  have e12 : (nI k = (12 : Int32)) = (k = 12) := nI_eqI (a := k) (b := 12) (by omega) (by omega)
  have e31 : (nI k = (31 : Int32)) = (k = 31) := nI_eqI (a := k) (b := 31) (by omega) (by omega)
  obtain ⟨w1, w44, hh, hpK⟩ := hW
  obtain ⟨oe, o12, o31⟩ := oc_e k36
  obtain ⟨x3, x15, xk, r1, r6, r3, kn⟩ : 3 ≤ oc k ∧ oc k < 15 ∧ kc (oc k) = k ∧ 1 ≤ rk (oc k) ∧ rk (oc k) ≤ 6 ∧ rk (oc k) ≠ 3 ∧ k ≠ 12 := by
    rcases oe with z | z
    · exact absurd z h0
    · exact z
  have k31 : k ≠ 31 := fun z => h0 (o31 z)
  have hi := Tk_e hR hk hk0 k36 (by
    intro z
    rw [z] at h0
    exact h0 rfl)
  have sg : F_X9_isSign 79 (41 : Int32) t = some (bI (k = 31)) := sgn_t (c := 31) hN (by omega)
  have bk : F_X2_bindingOf (nI k) u = some (nI (rk (oc k))) := by rw [bind_k k36, if_neg kn]
  have CL : F_X2_readBehindValue 36 u = F_X2_readBehindValue_j52 u 36 (nI k) := by
    unfold F_X2_readBehindValue
    rw [p36_2 hp, wR_38, wB_eq, hk0, if_neg (fun z => absurd (e31.mp z) k31), wJ_inl]
  have RF : F_X9_signs 79 t = F_X9_signs_j47 79 t := by
    unfold F_X9_signs
    rw [sg, wP_s, bI_f k31, if_pos z00, wJ_inl]
  rw [CL, RF, sj_t hN]
  clear CL RF
  obtain ⟨x, hx⟩ : ∃ x, x = oc k := ⟨_, rfl⟩
  rw [← hx] at x3 x15 xk r1 r6 r3 bk h0 ⊢
  have er0 : (nI (rk x) = (0 : Int32)) = (rk x = 0) := nI_eqI (a := rk x) (b := 0) (by omega) (by omega)
  have er4 : (nI (rk x) = (4 : Int32)) = (rk x = 4) := nI_eqI (a := rk x) (b := 4) (by omega) (by omega)
  have ex0 : (nI x = (0 : Int32)) = (x = 0) := nI_eqI (a := x) (b := 0) (by omega) (by omega)
  obtain ⟨m, hm1, hm6, hm4, hmn⟩ : ∃ m : Nat, 1 ≤ m ∧ m ≤ 6 ∧ (rk x = 4 → m = 5) ∧ (rk x ≠ 4 → m = rk x) := by
    by_cases q : rk x = 4
    · exact ⟨5, by omega, by omega, fun _ => rfl, fun z => absurd q z⟩
    · exact ⟨rk x, r1, r6, fun z => absurd z q, fun _ => rfl⟩
  obtain ⟨u1, t1, K1, S1, L1, b1, b2, b3, b4, b5, b6, b7, b8, b9, b10⟩ := bind_rl (m := m) hp hm hd hR.2.2.2.1 hLg w1 hh hpK hm1 hm6
  have CL : F_X2_readBehindValue_j52 u 36 (nI k) = wJ (X := Unit) (F_X2_readBehindValue_j85 36 u (nI (rk x)) (nI k) (nI m)) (fun _ => F_X2_readBehindValue_j67 36 u) := by
    unfold F_X2_readBehindValue_j52
    rw [bk, wP_s, if_neg (fun z => absurd (er0.mp z) (by omega)), if_neg (fun z => absurd (e12.mp z) kn)]
    by_cases q : rk x = 4
    · rw [if_pos (er4.mpr q), wJ_inl, hm4 q]
      rfl
    · rw [if_neg (fun z => absurd (er4.mp z) q), wJ_inl, hmn q]
  have RF : F_X9_signs_j147 79 t (nI x) = F_X9_signs_j175 79 t (nI x) (nI m) := by
    unfold F_X9_signs_j147
    rw [if_neg (fun z => absurd (ex0.mp z) h0), rank_t x15, wP_s]
    by_cases q : rk x = 4
    · rw [if_pos (er4.mpr q), wJ_inl, hm4 q]
      rfl
    · rw [if_neg (fun z => absurd (er4.mp z) q), wP_s, wJ_inl, hmn q]
  rw [CL, RF]
  clear CL RF
  have Uu1 : uL e w p u u1 := uL_B b3
  have Ut1 : tL p t t1 := tL_B b4
  have hl1 := Lg_len b5
  have fU : ∀ a j, ¬ (a = 36 ∧ j = 8) → a ≠ e + 10 → a ≠ e + 13 → a ≠ e + 14 → a ≠ e + 15 → u1.1 a j = u.1 a j := fun a j y1 y2 y3 y4 y5 => b3.2 a j y1 (fun z => y2 z.1) (fun z => y3 z.1) (by omega)
  have fT : ∀ a j, a = 79 → 4 ≤ j → j ≤ 11 → t1.1 a j = t.1 a j := fun a j y1 y2 y3 => b4.2 a j (by omega) (by omega) (by omega)
  have R1 := Rd_fr hR (uL_G Uu1) (tL_G Ut1)
  have T1 : Tk ps s i u1 t1 := Tk_fr hk (fun a j q => fU a j (by omega) (by omega) (by omega) (by omega) (by omega)) (fun j q r => fT 79 j rfl (by omega) (by omega))
  have N1 : Nf u1 t1 := ⟨by rw [fU _ _ (by omega) (by omega) (by omega) (by omega) (by omega)]; exact hf.1, by rw [fT _ _ rfl (by omega) (by omega)]; exact hf.2.1, by rw [fT _ _ rfl (by omega) (by omega)]; exact hf.2.2⟩
  have hp1 : PL u1.2.2 := R1.1
  have hm1' : PM t1.2.2 := R1.2.1
  have TAIL : Lp n b ps s e i w p u t (wJ (X := Unit) (F_X2_readBehindValue_j109 36 (nI k) u1) (fun _ => F_X2_readBehindValue_j67 36 u)) (F_X9_signs_j217 79 (nI x) t1) := by
    obtain ⟨u', r, t', c3, c4, c5, c6, c7⟩ := tail_rl (x := x) (k := k) ⟨R1, T1, N1, b5⟩ b6 ⟨x3, x15⟩ xk r3 hi
    rw [c3, c4, wJ_inr]
    refine ⟨_, u', r, t', rfl, rfl, uL_tr Uu1 c5, tL_tr Ut1 c6, ?_⟩
    rcases c7 with ⟨z1, c, K, S, L, z2, z3⟩ | z
    · exact Or.inl ⟨z1, c, K, S, L, z2, Or.inl ⟨rfl, z3⟩⟩
    · exact Or.inr z
  unfold F_X2_readBehindValue_j85 F_X9_signs_j175
  rw [b1, wC_s, b2, wC_s, rank_t x15, wP_s]
  by_cases q4 : rk x = 4
  rotate_left
  · rw [if_neg (fun z => absurd (er4.mp z) q4), if_neg (fun z => absurd (er4.mp z) q4), wJ_inl, wJ_inl]
    exact TAIL
  have s3' := b5.2.2.1.2.2
  have lw := lw_c (S := S1) hp1 b5.2.2.1.1 hl1.1 s3'
  have bo := bind_o (u := u1) (Wr_hd s3')
  have r6' := rk_le (S1.headD 0)
  have eh4 : (nI (rk (S1.headD 0)) = (4 : Int32)) = (rk (S1.headD 0) = 4) := nI_eqI (a := rk (S1.headD 0)) (b := 4) (by omega) (by omega)
  rw [if_pos (er4.mpr q4), if_pos (er4.mpr q4), lw, wP_s, bo, wP_s]
  by_cases hq : rk (S1.headD 0) = 4
  rotate_left
  · have RF : ∀ (f : wSt → Option (Int32 × wSt)), wJ (X := wSt) (if t1.1 79 40 ≤ 0 then some (Sum.inl t1) else wR (t1.2.2 79 38) 14 fun o24 => wN (t1.1 79 40 - 1) o24 fun j25 => wP (F_X9_rank (t1.1 o24 j25) t1) fun i26 => if i26 = 4 then wC (F_X9_wrong 79 1 t1) fun i28 u27 => wG (i28 = 0 ∨ i28 = 1) (some (Sum.inr (i28, u27))) else some (Sum.inl t1)) f = f t1 := fun f => by
      cases S1 with
      | nil =>
        have s2' : t1.1 79 40 = nI 0 := b5.2.2.1.2.1
        rw [s2', if_pos (show nI 0 ≤ (0 : Int32) by decide), wJ_inl]
      | cons y r =>
        have s2' : t1.1 79 40 = nI (r.length + 1) := b5.2.2.1.2.1
        have hlr : r.length + 1 ≤ 72 := hl1.1
        have e0 : (nI (r.length + 1) ≤ (0 : Int32)) = (r.length + 1 ≤ 0) := nI_leE (a := r.length + 1) (b := 0) (by omega) (by omega)
        have es : nI (r.length + 1) - (1 : Int32) = nI r.length := nI_sub (a := r.length + 1) (b := 1) (by omega)
        have ok := s3'.1
        unfold okS at ok
        rw [s2', if_neg (fun z => absurd (e0.mp z) (by omega)), qm38 hm1', wR_100, es, wN_100 _ (by omega), s3'.2.2.1, rank_t (by omega), wP_s, if_neg (show ¬ nI (rk y) = (4 : Int32) from fun z => absurd (eh4.mp z) hq), wJ_inl]
    rw [if_neg (fun z => absurd (eh4.mp z) hq), wJ_inl, RF]
    exact TAIL
  have RF : ∀ (f : wSt → Option (Int32 × wSt)), wJ (X := wSt) (if t1.1 79 40 ≤ 0 then some (Sum.inl t1) else wR (t1.2.2 79 38) 14 fun o24 => wN (t1.1 79 40 - 1) o24 fun j25 => wP (F_X9_rank (t1.1 o24 j25) t1) fun i26 => if i26 = 4 then wC (F_X9_wrong 79 1 t1) fun i28 u27 => wG (i28 = 0 ∨ i28 = 1) (some (Sum.inr (i28, u27))) else some (Sum.inl t1)) f = some ((0 : Int32), wr t1 1) := fun f => by
    cases S1 with
    | nil => exact absurd hq (by decide)
    | cons y r =>
      have s2' : t1.1 79 40 = nI (r.length + 1) := b5.2.2.1.2.1
      have hlr : r.length + 1 ≤ 72 := hl1.1
      have e0 : (nI (r.length + 1) ≤ (0 : Int32)) = (r.length + 1 ≤ 0) := nI_leE (a := r.length + 1) (b := 0) (by omega) (by omega)
      have es : nI (r.length + 1) - (1 : Int32) = nI r.length := nI_sub (a := r.length + 1) (b := 1) (by omega)
      have ok := s3'.1
      unfold okS at ok
      rw [s2', if_neg (fun z => absurd (e0.mp z) (by omega)), qm38 hm1', wR_100, es, wN_100 _ (by omega), s3'.2.2.1, rank_t (by omega), wP_s, if_pos (show nI (rk y) = (4 : Int32) from eh4.mpr hq), wrong_h, wJ_inr]
  obtain ⟨ua, d1', d2', d3'⟩ := cnt_a (u := bl u1 1) (c := c) (by rw [bl_n (by omega)]; exact b5.1.2.2.1) c2 (bl_ne x1)
  have s1a : ua.1 36 8 = nI S1.length := by rw [d3' _ _ (by omega), bl_n (by omega)]; exact b5.2.2.1.1
  obtain ⟨ub, f1, f2, f3, m', f4, f5⟩ := aw_a (u := ua) (m := S1.length) (x := nI k) (by rw [d2']; exact hp1) s1a hl1.1
  have B0 : Bd ub (wr t1 1) := Bd_f (Bd_w T1 x1) (by rw [f3 _ _ (by omega) (by omega), d3' _ _ (by omega)]) (by rw [f3 _ _ (by omega) (by omega), d3' _ _ (by omega)])
  rw [if_pos (eh4.mpr hq), blame_c hp1 N1.1, wC_s, wJ_inl, RF]
  unfold F_X2_readBehindValue_j109
  rw [d1', wC_s, f1, wC_s, goon_b B0.1, wC_s, wJ_inr]
  have Ua : uL e w p u ua := uL_tr (uL_tr Uu1 (uL_F bl_F)) ⟨d2', fun a j q => d3' a j (fun r => q (by unfold lC; omega))⟩
  exact ⟨_, ub, _, wr t1 1, rfl, rfl, uL_tr Ua ⟨f2, fun a j q => f3 a j (fun r => q (by unfold lC; omega)) (fun r => q (by unfold lC; omega))⟩, tL_tr Ut1 (tL_F wr_F), Or.inr ⟨rfl, B0, w3, by rw [f3 _ _ (by omega) (by omega), d3' _ _ (by omega), bl_n (by omega)]; exact b5.2.1.2, ⟨m', f4, f5⟩, ⟨K1, by omega, hl1.2.2, by rw [f3 _ _ (by omega) (by omega), d3' _ _ (by omega), bl_n (by omega)]; exact b5.1.1⟩⟩⟩
theorem sign_rl (h : Lx n b ps s e i w p c K S L u t) (hW : W0 p K S L t) : Lp n b ps s e i w p u t (F_X2_readBehindValue 36 u) (F_X9_signs 79 t) := by
  obtain ⟨k, hk0, hN⟩ := Tk_k h.2.1
  by_cases h31 : k = 31 ∧ 0 < nPa S
  · exact sign_c2 h hW hk0 hN h31.1 h31.2
  by_cases h0 : oc k = 0
  · exact sign_x h hW hk0 hN h31 h0
  · exact sign_j h hW hk0 hN h0
end

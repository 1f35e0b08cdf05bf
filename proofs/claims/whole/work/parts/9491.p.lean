/-! lines of a text: bites, and what is told once -/
section
variable {n s e a f k p L i : Nat} {b ps : Nat → Nat} {u t : wSt}
theorem ln_b (h : Ls n b ps s e a f k p L i u t) (hi : i < s) : Pl n b ps s e L i u t (F_X2_readBite 36 u) (F_X9_biteLine 79 t) := by
  obtain ⟨hR, hk, hf, hG, hF, hB, hO, hL, hK, h0⟩ := h
  have hp := hR.1
  have hm := hR.2.1
  have hd := hR.2.2.1
  have d1 := TC_le hd
  have n10 : ¬ (1 : Int32) = 0 := by decide
  have w1 : (1 : Int32) ≠ 0 := by decide
  have w2 : (2 : Int32) ≠ 0 := by decide
  have w3 : (3 : Int32) ≠ 0 := by decide
  have w4 : (4 : Int32) ≠ 0 := by decide
  have hX := hB
  obtain ⟨g6, g1, g2, g3⟩ := hX
  have hX := hG
  obtain ⟨ga, gg1, gg2, gg3⟩ := hX
  have e6 : (nI k < (8 : Int32)) = (k < 8) := nI_ltE (a := k) (b := 8) (by omega) (by omega)
  have e6q : (nI k = (8 : Int32)) = (k = 8) := nI_eqI (a := k) (b := 8) (by omega) (by omega)
  unfold F_X2_readBite F_X9_biteLine
  rw [hR.2.2.2.1, wR_d0 _ hd, wB_eq, g1, g2]
  by_cases ha : k = 8
  · rw [if_neg (fun z => absurd (e6.mp z) (by omega)), if_pos (e6q.mpr (by exact ha)), blame_c hp hf.1, wC_s, wrong_g]
    exact ⟨_, _, _, rfl, rfl, uF_G bl_F, tF_G wr_F, Or.inr ⟨rfl, Bd_w hk w2⟩⟩
  have ha6 : k < 8 := by omega
  obtain ⟨u1, t1, a1, a2, a3, a4, a5, a6, a7⟩ := tok_rl hR hk hi
  have G1 : uG e u u1 := ⟨a3, fun c j q => a4 c j (fun r => q (by unfold rC; omega))⟩
  have S1 : tG t t1 := ⟨a5, fun c j q => a6 c j (fun r => q (by unfold rT; omega))⟩
  have R1 := Rd_fr hR G1 S1
  have N1 : Nf u1 t1 := ⟨by rw [a4 36 0 (by omega)]; exact hf.1, by rw [a6 79 4 (by omega)]; exact hf.2.1, by rw [a6 79 5 (by omega)]; exact hf.2.2⟩
  have t16 : t1.1 79 16 = nI a := by rw [a6 79 16 (by omega)]; exact gg2
  have t18 : t1.1 79 18 = nI k := by rw [a6 79 18 (by omega)]; exact g2
  obtain ⟨x, x1, x2, x3⟩ := gn_rl (x := u1.1 38 2) (t := t1) R1.1 hd (by rw [a4 e 1 (by omega)]; exact gg1) ga (fun g hg => by rw [a4 (e + 1) g (by omega), a6 84 _ (by omega)]; exact (gg3 g hg).1)
  obtain ⟨kk, hk0, hN⟩ := Tk_k a7
  have k36 := hN.1
  have e34 : (nI kk = (34 : Int32)) = (kk = 34) := nI_eqI (a := kk) (b := 34) (by omega) (by omega)
  rw [if_pos (e6.mpr (by exact ha6)), if_neg (fun z => absurd (e6q.mp z) (by exact ha)), (p36_2 hp), wR_38, a1, wC_s, a3, hR.2.2.2.1, wR_d0 _ hd, (PL_d hp hd).2.2.2.2.2.2.2.1, wR_d8 _ hd]
  rw [a2, wC_s, a5, (qm22 hm), wR_84, t16]
  unfold F_X2_takeGuest F_X2_takeGuest_j45
  rw [a3, hR.2.2.2.1, wR_d0 _ hd, (p36_2 hp), wR_38, x1, wP_s, wR_38, hk0]
  have Fb : ∀ w : Int32, w ≠ 0 → Bd (bl u1 w) (wr t1 w) := fun w hw => Bd_w a7 hw
  have Gb : ∀ w : Int32, uG e u (bl u1 w) := fun w => uG_tr G1 (uF_G bl_F)
  have Sb : ∀ w : Int32, tG t (wr t1 w) := fun w => tG_tr S1 (tF_G wr_F)
  have zb : ∀ w : Int32, (bl u1 w).2 = u.2 := fun w => a3
  by_cases h34 : kk = 34
  rotate_left
  · rw [if_neg (fun z => absurd (e34.mp z) (by exact h34)), if_neg (KN_2 hN h34), blame_c R1.1 N1.1, wC_s, wJ_inl, wrong_g]
    obtain ⟨u2, hu2⟩ : ∃ u2, u2 = bl u1 1 := ⟨_, rfl⟩
    have B2 : Bd u2 (wr t1 1) := by rw [hu2]; exact Fb _ (by decide)
    have zu2 : u2.2 = u.2 := by rw [hu2]; exact a3
    have Gu2 : uG e u u2 := by rw [hu2]; exact Gb _
    rw [← hu2, goon_b B2.1, wC_s, wC_s, wSI_eq, wN_d8 _ hd ha6]
    obtain ⟨u3, hu3⟩ : ∃ u3, u3 = w_sI u2 (e + 8) (k) (x) := ⟨_, rfl⟩
    rw [← hu3]
    have zu3 : u3.2 = u.2 := by rw [hu3]; exact zu2
    have Gu3 : uG e u u3 := by rw [hu3]; exact uG_s Gu2 (by unfold rC; omega)
    have Du3 : ∀ c j, ¬ (c = e + 8 ∧ j = k) → u3.1 c j = u2.1 c j := fun c j q => by rw [hu3]; exact if_neg q
    have B3 : Bd u3 (wr t1 1) := by rw [hu3]; exact Bd_s B2 (by omega)
    rw [zu3, hR.2.2.2.1, wR_d0 _ hd, (PL_d hp hd).2.2.2.2.2.2.2.2.1, wR_d9 _ hd, num_b (by rw [zu3]; exact hp) B3.1, wC_s, wSI_eq, wN_d9 _ hd ha6]
    obtain ⟨u4, hu4⟩ : ∃ u4, u4 = w_sI u3 (e + 9) (k) (u3.1 38 2) := ⟨_, rfl⟩
    rw [← hu4]
    have zu4 : u4.2 = u.2 := by rw [hu4]; exact zu3
    have Gu4 : uG e u u4 := by rw [hu4]; exact uG_s Gu3 (by unfold rC; omega)
    have Du4 : ∀ c j, ¬ (c = e + 9 ∧ j = k) → u4.1 c j = u3.1 c j := fun c j q => by rw [hu4]; exact if_neg q
    have B4 : Bd u4 (wr t1 1) := by rw [hu4]; exact Bd_s B3 (by omega)
    rw [zu4, hR.2.2.2.1, wR_d0 _ hd, wB_eq]
    exact ⟨_, _, _, rfl, rfl, uG_s Gu4 (by unfold rC; omega), Sb 1, Or.inr ⟨rfl, Bd_s B4 (by omega)⟩⟩
  obtain ⟨kr, hw⟩ := hN.2.2.2.2.2.1 h34
  rw [if_pos (e34.mpr (by exact h34)), if_pos kr, hw, x2, wP_s]
  rcases x3 with hx | ⟨xj, xl, hx⟩
  · rw [hx, if_pos rfl, if_neg (show ¬ (0 : Int32) ≤ -1 by decide), blame_c R1.1 N1.1, wC_s, wJ_inl, wrong_g, ← hx]
    obtain ⟨u2, hu2⟩ : ∃ u2, u2 = bl u1 4 := ⟨_, rfl⟩
    have B2 : Bd u2 (wr t1 4) := by rw [hu2]; exact Fb _ (by decide)
    have zu2 : u2.2 = u.2 := by rw [hu2]; exact a3
    have Gu2 : uG e u u2 := by rw [hu2]; exact Gb _
    rw [← hu2, goon_b B2.1, wC_s, wC_s, wSI_eq, wN_d8 _ hd ha6]
    obtain ⟨u3, hu3⟩ : ∃ u3, u3 = w_sI u2 (e + 8) (k) (x) := ⟨_, rfl⟩
    rw [← hu3]
    have zu3 : u3.2 = u.2 := by rw [hu3]; exact zu2
    have Gu3 : uG e u u3 := by rw [hu3]; exact uG_s Gu2 (by unfold rC; omega)
    have Du3 : ∀ c j, ¬ (c = e + 8 ∧ j = k) → u3.1 c j = u2.1 c j := fun c j q => by rw [hu3]; exact if_neg q
    have B3 : Bd u3 (wr t1 4) := by rw [hu3]; exact Bd_s B2 (by omega)
    rw [zu3, hR.2.2.2.1, wR_d0 _ hd, (PL_d hp hd).2.2.2.2.2.2.2.2.1, wR_d9 _ hd, num_b (by rw [zu3]; exact hp) B3.1, wC_s, wSI_eq, wN_d9 _ hd ha6]
    obtain ⟨u4, hu4⟩ : ∃ u4, u4 = w_sI u3 (e + 9) (k) (u3.1 38 2) := ⟨_, rfl⟩
    rw [← hu4]
    have zu4 : u4.2 = u.2 := by rw [hu4]; exact zu3
    have Gu4 : uG e u u4 := by rw [hu4]; exact uG_s Gu3 (by unfold rC; omega)
    have Du4 : ∀ c j, ¬ (c = e + 9 ∧ j = k) → u4.1 c j = u3.1 c j := fun c j q => by rw [hu4]; exact if_neg q
    have B4 : Bd u4 (wr t1 4) := by rw [hu4]; exact Bd_s B3 (by omega)
    rw [zu4, hR.2.2.2.1, wR_d0 _ hd, wB_eq]
    exact ⟨_, _, _, rfl, rfl, uG_s Gu4 (by unfold rC; omega), Sb 4, Or.inr ⟨rfl, Bd_s B4 (by omega)⟩⟩
  have xne : ¬ x = -1 := by rw [hx, nI_neg (by omega)]; exact id
  have xge : (0 : Int32) ≤ x := by
    rw [hx]
    have := nI_leE (a := 0) (b := xj) (by omega) (by omega)
    exact (show nI 0 ≤ nI xj by rw [this]; omega)
  have hi1 := Tk_e R1 a7 hk0 k36 (by omega)
  rw [if_neg xne, if_pos xge, wJ_inl, (qm29 hm), wR_91, t18, nI_Ladd, wSI_eq, wN_91 _ (by omega)]
  have zt1 : t1.2 = t.2 := a5
  have St1 := S1
  have Ft1 : ∀ c j, ¬ ((c = 79 ∧ ((4 ≤ j ∧ j ≤ 5) ∨ (7 ≤ j ∧ j ≤ 11) ∨ j = 18)) ∨ (91 ≤ c ∧ c ≤ 92 ∧ j = 8 + k)) → t1.1 c j = t.1 c j := fun c j q => a6 c j (by omega)
  have Kt1_79_18 : t1.1 (79) (18) = nI k := t18
  obtain ⟨t2, ht2⟩ : ∃ t2, t2 = w_sI t1 (91) (8 + k) (x) := ⟨_, rfl⟩
  rw [← ht2]
  have zt2 : t2.2 = t.2 := by rw [ht2]; exact zt1
  have St2 : tG t t2 := by rw [ht2]; exact tG_s St1 (by unfold rT; omega)
  have Dt2 : ∀ c j, ¬ (c = 91 ∧ j = 8 + k) → t2.1 c j = t1.1 c j := fun c j q => by rw [ht2]; exact if_neg q
  have Ft2 : ∀ c j, ¬ ((c = 79 ∧ ((4 ≤ j ∧ j ≤ 5) ∨ (7 ≤ j ∧ j ≤ 11) ∨ j = 18)) ∨ (91 ≤ c ∧ c ≤ 92 ∧ j = 8 + k)) → t2.1 c j = t.1 c j := fun c j q => (Dt2 c j (by omega)).trans (Ft1 c j q)
  have Kt2_79_18 : t2.1 (79) (18) = nI k := by rw [Dt2 _ _ (by omega)]; exact Kt1_79_18
  have Kt2_91_8pk : t2.1 (91) (8 + k) = x := by rw [ht2]; exact sI_eq _ _ _ _
  obtain ⟨u2, t3, b1, b2, b3, b4, b5, b6, b7⟩ := tok_rl (Rd_fr hR G1 St2) (Tk_fr a7 (fun _ _ _ => rfl) (fun j q r => Dt2 79 j (by omega))) hi1
  rw [goon_c R1.1 N1.1 b1, wC_s, wC_s, wSI_eq, wN_d8 _ hd ha6, b2, wC_s]
  have zu2 : u2.2 = u.2 := b3.trans a3
  have Gu2 : uG e u u2 := uG_tr G1 ⟨b3, fun c j q => b4 c j (fun r => q (by unfold rC; omega))⟩
  have Fu2 : ∀ c j, ¬ ((c = e ∧ j = 3) ∨ (e + 8 ≤ c ∧ c ≤ e + 9 ∧ j = k) ∨ (c = 36 ∧ j ≤ 1) ∨ (c = 38 ∧ (j ≤ 2 ∨ j = 7))) → u2.1 c j = u.1 c j := fun c j q => by rw [b4 c j (by omega)]; exact a4 c j (by omega)
  have Ku2_e_3 : u2.1 (e) (3) = nI k := by rw [b4 _ _ (by omega), a4 _ _ (by omega)]; exact g1
  obtain ⟨u3, hu3⟩ : ∃ u3, u3 = w_sI u2 (e + 8) (k) (x) := ⟨_, rfl⟩
  rw [← hu3]
  have zu3 : u3.2 = u.2 := by rw [hu3]; exact zu2
  have Gu3 : uG e u u3 := by rw [hu3]; exact uG_s Gu2 (by unfold rC; omega)
  have Du3 : ∀ c j, ¬ (c = e + 8 ∧ j = k) → u3.1 c j = u2.1 c j := fun c j q => by rw [hu3]; exact if_neg q
  have Fu3 : ∀ c j, ¬ ((c = e ∧ j = 3) ∨ (e + 8 ≤ c ∧ c ≤ e + 9 ∧ j = k) ∨ (c = 36 ∧ j ≤ 1) ∨ (c = 38 ∧ (j ≤ 2 ∨ j = 7))) → u3.1 c j = u.1 c j := fun c j q => (Du3 c j (by omega)).trans (Fu2 c j q)
  have Ku3_e_3 : u3.1 (e) (3) = nI k := by rw [Du3 _ _ (by omega)]; exact Ku2_e_3
  have Ku3_ep8_k : u3.1 (e + 8) (k) = x := by rw [hu3]; exact sI_eq _ _ _ _
  have zt3 : t3.2 = t.2 := b5.trans zt2
  have St3 : tG t t3 := tG_tr St2 ⟨b5, fun c j q => b6 c j (fun r => q (by unfold rT; omega))⟩
  have Ft3 : ∀ c j, ¬ ((c = 79 ∧ ((4 ≤ j ∧ j ≤ 5) ∨ (7 ≤ j ∧ j ≤ 11) ∨ j = 18)) ∨ (91 ≤ c ∧ c ≤ 92 ∧ j = 8 + k)) → t3.1 c j = t.1 c j := fun c j q => by rw [b6 c j (by omega)]; exact Ft2 c j q
  have Kt3_79_18 : t3.1 (79) (18) = nI k := by rw [b6 _ _ (by omega)]; exact Kt2_79_18
  have Kt3_91_8pk : t3.1 (91) (8 + k) = x := by rw [b6 _ _ (by omega)]; exact Kt2_91_8pk
  have R3 := Rd_fr hR Gu3 St3
  have T3 : Tk ps s (i + 1 + 1) u3 t3 := Tk_fr b7 (fun c j q => Du3 c j (by omega)) (fun _ _ _ => rfl)
  have N3 : Nf u3 t3 := ⟨by rw [Du3 _ _ (by omega), b4 _ _ (by omega)]; exact N1.1, by rw [b6 _ _ (by omega), Dt2 _ _ (by omega)]; exact N1.2.1, by rw [b6 _ _ (by omega), Dt2 _ _ (by omega)]; exact N1.2.2⟩
  obtain ⟨v, u4, o, t4, m1, m2, m3, m4, m5⟩ := num_rl (lo := 0) (hi := 99) R3 T3 N3 (by omega) (by omega)
  have m1q : F_X2_takeNumber 36 (0 : Int32) (99 : Int32) u3 = some (v, u4) := m1
  have m2q : F_X9_number 79 (0 : Int32) (99 : Int32) t3 = some (o, t4) := m2
  rw [zu3, hR.2.2.2.1, wR_d0 _ hd, (PL_d hp hd).2.2.2.2.2.2.2.2.1, wR_d9 _ hd, m1q, wC_s, wSI_eq, wN_d9 _ hd ha6, m2q, wC_s]
  have zu4 : u4.2 = u.2 := m3.1.trans zu3
  have Gu4 : uG e u u4 := uG_tr Gu3 (uF_G m3)
  have Fu4 : ∀ c j, ¬ ((c = e ∧ j = 3) ∨ (e + 8 ≤ c ∧ c ≤ e + 9 ∧ j = k) ∨ (c = 36 ∧ j ≤ 1) ∨ (c = 38 ∧ (j ≤ 2 ∨ j = 7))) → u4.1 c j = u.1 c j := fun c j q => by rw [m3.2 c j (by omega) (by omega)]; exact Fu3 c j q
  have Ku4_e_3 : u4.1 (e) (3) = nI k := by rw [m3.2 _ _ (by omega) (by omega)]; exact Ku3_e_3
  have Ku4_ep8_k : u4.1 (e + 8) (k) = x := by rw [m3.2 _ _ (by omega) (by omega)]; exact Ku3_ep8_k
  have zt4 : t4.2 = t.2 := m4.1.trans zt3
  have St4 : tG t t4 := tG_tr St3 (tF_G m4)
  have Ft4 : ∀ c j, ¬ ((c = 79 ∧ ((4 ≤ j ∧ j ≤ 5) ∨ (7 ≤ j ∧ j ≤ 11) ∨ j = 18)) ∨ (91 ≤ c ∧ c ≤ 92 ∧ j = 8 + k)) → t4.1 c j = t.1 c j := fun c j q => by rw [m4.2 c j (by omega)]; exact Ft3 c j q
  have Kt4_79_18 : t4.1 (79) (18) = nI k := by rw [m4.2 _ _ (by omega)]; exact Kt3_79_18
  have Kt4_91_8pk : t4.1 (91) (8 + k) = x := by rw [m4.2 _ _ (by omega)]; exact Kt3_91_8pk
  obtain ⟨u5, hu5⟩ : ∃ u5, u5 = w_sI u4 (e + 9) (k) (v) := ⟨_, rfl⟩
  rw [← hu5]
  have zu5 : u5.2 = u.2 := by rw [hu5]; exact zu4
  have Gu5 : uG e u u5 := by rw [hu5]; exact uG_s Gu4 (by unfold rC; omega)
  have Du5 : ∀ c j, ¬ (c = e + 9 ∧ j = k) → u5.1 c j = u4.1 c j := fun c j q => by rw [hu5]; exact if_neg q
  have Fu5 : ∀ c j, ¬ ((c = e ∧ j = 3) ∨ (e + 8 ≤ c ∧ c ≤ e + 9 ∧ j = k) ∨ (c = 36 ∧ j ≤ 1) ∨ (c = 38 ∧ (j ≤ 2 ∨ j = 7))) → u5.1 c j = u.1 c j := fun c j q => (Du5 c j (by omega)).trans (Fu4 c j q)
  have Ku5_e_3 : u5.1 (e) (3) = nI k := by rw [Du5 _ _ (by omega)]; exact Ku4_e_3
  have Ku5_ep8_k : u5.1 (e + 8) (k) = x := by rw [Du5 _ _ (by omega)]; exact Ku4_ep8_k
  have Ku5_ep9_k : u5.1 (e + 9) (k) = v := by rw [hu5]; exact sI_eq _ _ _ _
  rcases m5 with ⟨oe, il, ⟨qn, ql, qh, qe⟩, g11, kkk, nn⟩ | ⟨oe, bb⟩
  rotate_left
  · rw [oe, if_pos rfl]
    have B5 : Bd u5 t4 := by rw [hu5]; exact Bd_s bb (by omega)
    rw [zu5, hR.2.2.2.1, wR_d0 _ hd, wB_eq]
    exact ⟨_, _, _, rfl, rfl, uG_s Gu5 (by unfold rC; omega), St4, Or.inr ⟨rfl, Bd_s B5 (by omega)⟩⟩
  rw [oe, if_neg n10, zt4, (qm30 hm), wR_92, Kt4_79_18, nI_Ladd, wSI_eq, wN_92 _ (by omega), g11]
  obtain ⟨t5, ht5⟩ : ∃ t5, t5 = w_sI t4 (92) (8 + k) (v) := ⟨_, rfl⟩
  rw [← ht5]
  have zt5 : t5.2 = t.2 := by rw [ht5]; exact zt4
  have St5 : tG t t5 := by rw [ht5]; exact tG_s St4 (by unfold rT; omega)
  have Dt5 : ∀ c j, ¬ (c = 92 ∧ j = 8 + k) → t5.1 c j = t4.1 c j := fun c j q => by rw [ht5]; exact if_neg q
  have Ft5 : ∀ c j, ¬ ((c = 79 ∧ ((4 ≤ j ∧ j ≤ 5) ∨ (7 ≤ j ∧ j ≤ 11) ∨ j = 18)) ∨ (91 ≤ c ∧ c ≤ 92 ∧ j = 8 + k)) → t5.1 c j = t.1 c j := fun c j q => (Dt5 c j (by omega)).trans (Ft4 c j q)
  have Kt5_79_18 : t5.1 (79) (18) = nI k := by rw [Dt5 _ _ (by omega)]; exact Kt4_79_18
  have Kt5_91_8pk : t5.1 (91) (8 + k) = x := by rw [Dt5 _ _ (by omega)]; exact Kt4_91_8pk
  have Kt5_92_8pk : t5.1 (92) (8 + k) = v := by rw [ht5]; exact sI_eq _ _ _ _
  rw [zu5, hR.2.2.2.1, wR_d0 _ hd, wB_eq, Ku5_e_3, nI_addL, Kt5_79_18, wB_eq, nI_addL]
  obtain ⟨uz, huz⟩ : ∃ uz, uz = w_sI u5 (e) (3) (nI (k + 1)) := ⟨_, rfl⟩
  rw [← huz]
  have zuz : uz.2 = u.2 := by rw [huz]; exact zu5
  have Guz : uG e u uz := by rw [huz]; exact uG_s Gu5 (by unfold rC; omega)
  have Duz : ∀ c j, ¬ (c = e ∧ j = 3) → uz.1 c j = u5.1 c j := fun c j q => by rw [huz]; exact if_neg q
  have Fuz : ∀ c j, ¬ ((c = e ∧ j = 3) ∨ (e + 8 ≤ c ∧ c ≤ e + 9 ∧ j = k) ∨ (c = 36 ∧ j ≤ 1) ∨ (c = 38 ∧ (j ≤ 2 ∨ j = 7))) → uz.1 c j = u.1 c j := fun c j q => (Duz c j (by omega)).trans (Fu5 c j q)
  have Kuz_ep8_k : uz.1 (e + 8) (k) = x := by rw [Duz _ _ (by omega)]; exact Ku5_ep8_k
  have Kuz_ep9_k : uz.1 (e + 9) (k) = v := by rw [Duz _ _ (by omega)]; exact Ku5_ep9_k
  have Kuz_e_3 : uz.1 (e) (3) = nI (k + 1) := by rw [huz]; exact sI_eq _ _ _ _
  obtain ⟨tz, htz⟩ : ∃ tz, tz = w_sI t5 (79) (18) (nI (k + 1)) := ⟨_, rfl⟩
  rw [← htz]
  have ztz : tz.2 = t.2 := by rw [htz]; exact zt5
  have Stz : tG t tz := by rw [htz]; exact tG_s St5 (by unfold rT; omega)
  have Dtz : ∀ c j, ¬ (c = 79 ∧ j = 18) → tz.1 c j = t5.1 c j := fun c j q => by rw [htz]; exact if_neg q
  have Ftz : ∀ c j, ¬ ((c = 79 ∧ ((4 ≤ j ∧ j ≤ 5) ∨ (7 ≤ j ∧ j ≤ 11) ∨ j = 18)) ∨ (91 ≤ c ∧ c ≤ 92 ∧ j = 8 + k)) → tz.1 c j = t.1 c j := fun c j q => (Dtz c j (by omega)).trans (Ft5 c j q)
  have Ktz_91_8pk : tz.1 (91) (8 + k) = x := by rw [Dtz _ _ (by omega)]; exact Kt5_91_8pk
  have Ktz_92_8pk : tz.1 (92) (8 + k) = v := by rw [Dtz _ _ (by omega)]; exact Kt5_92_8pk
  have Ktz_79_18 : tz.1 (79) (18) = nI (k + 1) := by rw [htz]; exact sI_eq _ _ _ _
  refine ⟨uz, _, tz, rfl, rfl, Guz, Stz, Or.inl ⟨rfl, i + 1 + 1 + 1, a, f, k + 1, p, by omega, Rd_fr hR Guz Stz, Tk_fr kkk (fun c j q => by rw [Duz c j (by omega), Du5 c j (by omega)]) (fun j q r => by rw [Dtz 79 j (by omega), Dt5 79 j (by omega)]), ⟨by rw [Duz _ _ (by omega), Du5 _ _ (by omega)]; exact nn.1, by rw [Dtz _ _ (by omega), Dt5 _ _ (by omega)]; exact nn.2.1, by rw [Dtz _ _ (by omega), Dt5 _ _ (by omega)]; exact nn.2.2⟩, TrG_fr hG (fun c j q => Fuz c j (by omega)) (fun c j q => Ftz c j (by omega)), TrF_fr hF (fun c j q => Fuz c j (by omega)) (fun c j q => Ftz c j (by omega)), ?_, TrO_fr hO (fun c j q => Fuz c j (by omega)) (fun c j q => Ftz c j (by omega)), TrL_f2 hL (fun c j q => Fuz c j (by omega)) (fun c j q => Ftz c j (by omega)), TrK_fr hK (fun c j q => Fuz c j (by omega)) (fun j q => Ftz 79 j (by omega)), by rw [Fuz e 0 (by omega)]; exact h0⟩⟩
  refine ⟨by omega, Kuz_e_3, Ktz_79_18, fun g hg => ?_⟩
  by_cases q : g = k
  · rw [q, Kuz_ep8_k, Kuz_ep9_k, Ktz_91_8pk, Ktz_92_8pk]
    exact ⟨rfl, rfl⟩
  · rw [Fuz (e + 8) g (by omega), Fuz (e + 9) g (by omega), Ftz 91 _ (by omega), Ftz 92 _ (by omega)]
    exact g3 g (by omega)
theorem ln_o0 (h : Ls n b ps s e a f k p L i u t) (hi : i < s) : Pl n b ps s e L i u t (F_X2_readSetting 36 (nI 3) u) (F_X9_onceLine 79 (0 : Int32) (1 : Int32) (5 : Int32) t) := by
  obtain ⟨hR, hk, hf, hG, hF, hB, hO, hL, hK, h0⟩ := h
  have hp := hR.1
  have hm := hR.2.1
  have hd := hR.2.2.1
  have d1 := TC_le hd
  have n10 : ¬ (1 : Int32) = 0 := by decide
  have w1 : (1 : Int32) ≠ 0 := by decide
  have w2 : (2 : Int32) ≠ 0 := by decide
  have w3 : (3 : Int32) ≠ 0 := by decide
  have w4 : (4 : Int32) ≠ 0 := by decide
  have hX := hO
  obtain ⟨o1, o2, o3, o4, o5, o6⟩ := hX
  have ob : t.1 82 0 = bI (bt (u.1 36 4) 3 = true) := o6 0 (by omega)
  have one1 : (1 : Int32) &&& 1 = 1 := by decide
  unfold F_X2_readSetting F_X9_onceLine
  rw [bt_sh (by omega), (qm20 hm), wR_82, wN_lit, wN_82 _ (by omega), ob]
  by_cases hb : bt (u.1 36 4) 3 = true
  · rw [bI_t hb, if_neg n10, if_neg n10, blame_c hp hf.1, wC_s, wrong_g]
    exact ⟨_, _, _, rfl, rfl, uF_G bl_F, tF_G wr_F, Or.inr ⟨rfl, Bd_w hk w3⟩⟩
  rw [bI_f hb, if_pos (show (0 : Int32) = 0 from rfl), if_pos (show (0 : Int32) = 0 from rfl), wB_eq, wR_82, wSZ_eq, wN_lit, wN_82 _ (by omega), one1]
  have zu : u.2 = u.2 := rfl
  have Gu := uG_rf e u
  have Fu : ∀ c j, ¬ ((c = e ∧ j = 4) ∨ (c = 36 ∧ (j ≤ 1 ∨ j = 4)) ∨ (c = 38 ∧ (j ≤ 2 ∨ j = 7))) → u.1 c j = u.1 c j := fun _ _ _ => rfl
  have zt : t.2 = t.2 := rfl
  have St := tG_rf t
  have Ft : ∀ c j, ¬ ((c = 79 ∧ ((4 ≤ j ∧ j ≤ 5) ∨ (7 ≤ j ∧ j ≤ 11))) ∨ (c = 82 ∧ j = 0) ∨ (c = 83 ∧ j = 3)) → t.1 c j = t.1 c j := fun _ _ _ => rfl
  obtain ⟨u0, hu0⟩ : ∃ u0, u0 = w_sI u (36) (4) (u.1 36 4 ||| (1 : Int32) <<< (nI 3 &&& 31)) := ⟨_, rfl⟩
  rw [← hu0]
  have zu0 : u0.2 = u.2 := by rw [hu0]; exact zu
  have Gu0 : uG e u u0 := by rw [hu0]; exact uG_s Gu (by unfold rC; omega)
  have Du0 : ∀ c j, ¬ (c = 36 ∧ j = 4) → u0.1 c j = u.1 c j := fun c j q => by rw [hu0]; exact if_neg q
  have Fu0 : ∀ c j, ¬ ((c = e ∧ j = 4) ∨ (c = 36 ∧ (j ≤ 1 ∨ j = 4)) ∨ (c = 38 ∧ (j ≤ 2 ∨ j = 7))) → u0.1 c j = u.1 c j := fun c j q => (Du0 c j (by omega)).trans (Fu c j q)
  have Ku0_36_4 : u0.1 (36) (4) = u.1 36 4 ||| (1 : Int32) <<< (nI 3 &&& 31) := by rw [hu0]; exact sI_eq _ _ _ _
  obtain ⟨t0, ht0⟩ : ∃ t0, t0 = w_sI t (82) (0) (1) := ⟨_, rfl⟩
  rw [← ht0]
  have zt0 : t0.2 = t.2 := by rw [ht0]; exact zt
  have St0 : tG t t0 := by rw [ht0]; exact tG_s St (by unfold rT; omega)
  have Dt0 : ∀ c j, ¬ (c = 82 ∧ j = 0) → t0.1 c j = t.1 c j := fun c j q => by rw [ht0]; exact if_neg q
  have Ft0 : ∀ c j, ¬ ((c = 79 ∧ ((4 ≤ j ∧ j ≤ 5) ∨ (7 ≤ j ∧ j ≤ 11))) ∨ (c = 82 ∧ j = 0) ∨ (c = 83 ∧ j = 3)) → t0.1 c j = t.1 c j := fun c j q => (Dt0 c j (by omega)).trans (Ft c j q)
  have Kt0_82_0 : t0.1 (82) (0) = 1 := by rw [ht0]; exact sI_eq _ _ _ _
  have N0 : Nf u0 t0 := ⟨by rw [Du0 _ _ (by omega)]; exact hf.1, by rw [Dt0 _ _ (by omega)]; exact hf.2.1, by rw [Dt0 _ _ (by omega)]; exact hf.2.2⟩
  obtain ⟨u1, t1, a1, a2, a3, a4, a5, a6, a7⟩ := tok_rl (Rd_fr hR Gu0 St0) (Tk_fr hk (fun c j q => Du0 c j (by omega)) (fun j q r => Dt0 79 j (by omega))) hi
  have zu1 : u1.2 = u.2 := a3.trans zu0
  have zt1 : t1.2 = t.2 := a5.trans zt0
  have Gu1 : uG e u u1 := uG_tr Gu0 ⟨a3, fun c j q => a4 c j (fun r => q (by unfold rC; omega))⟩
  have St1 : tG t t1 := tG_tr St0 ⟨a5, fun c j q => a6 c j (fun r => q (by unfold rT; omega))⟩
  have R1 := Rd_fr hR Gu1 St1
  have N1 : Nf u1 t1 := ⟨by rw [a4 36 0 (by omega)]; exact N0.1, by rw [a6 79 4 (by omega)]; exact N0.2.1, by rw [a6 79 5 (by omega)]; exact N0.2.2⟩
  obtain ⟨v, u2, o, t2, m1, m2, m3, m4, m5⟩ := num_rl (lo := 1) (hi := 5) R1 a7 N1 (by omega) (by omega)
  have m1q : F_X2_takeNumber 36 (1 : Int32) (5 : Int32) u1 = some (v, u2) := m1
  have m2q : F_X9_number 79 (1 : Int32) (5 : Int32) t1 = some (o, t2) := m2
  have zu2 : u2.2 = u.2 := m3.1.trans zu1
  have Gu2 : uG e u u2 := uG_tr Gu1 (uF_G m3)
  have Fu2 : ∀ c j, ¬ ((c = e ∧ j = 4) ∨ (c = 36 ∧ (j ≤ 1 ∨ j = 4)) ∨ (c = 38 ∧ (j ≤ 2 ∨ j = 7))) → u2.1 c j = u.1 c j := fun c j q => by rw [m3.2 c j (by omega) (by omega), a4 c j (by omega)]; exact Fu0 c j q
  have Ku2_36_4 : u2.1 36 4 = u.1 36 4 ||| (1 : Int32) <<< (nI 3 &&& 31) := by rw [m3.2 _ _ (by omega) (by omega), a4 _ _ (by omega)]; exact Ku0_36_4
  have zt2 : t2.2 = t.2 := m4.1.trans zt1
  have St2 : tG t t2 := tG_tr St1 (tF_G m4)
  have Ft2 : ∀ c j, ¬ ((c = 79 ∧ ((4 ≤ j ∧ j ≤ 5) ∨ (7 ≤ j ∧ j ≤ 11))) ∨ (c = 82 ∧ j = 0) ∨ (c = 83 ∧ j = 3)) → t2.1 c j = t.1 c j := fun c j q => by rw [m4.2 c j (by omega), a6 c j (by omega)]; exact Ft0 c j q
  have Kt2_82_0 : t2.1 82 0 = 1 := by rw [m4.2 _ _ (by omega), a6 _ _ (by omega)]; exact Kt0_82_0
  rw [zu0, (p36_2 hp), wR_38, a1, wC_s, if_pos (show nI 3 = (3 : Int32) from rfl), zu1, hR.2.2.2.1, wR_d0 _ hd, m1q, wC_s, wB_eq, a2, wC_s, m2q, wC_s]
  obtain ⟨uz, huz⟩ : ∃ uz, uz = w_sI u2 (e) (4) (v) := ⟨_, rfl⟩
  rw [← huz]
  have zuz : uz.2 = u.2 := by rw [huz]; exact zu2
  have Guz : uG e u uz := by rw [huz]; exact uG_s Gu2 (by unfold rC; omega)
  have Duz : ∀ c j, ¬ (c = e ∧ j = 4) → uz.1 c j = u2.1 c j := fun c j q => by rw [huz]; exact if_neg q
  have Fuz : ∀ c j, ¬ ((c = e ∧ j = 4) ∨ (c = 36 ∧ (j ≤ 1 ∨ j = 4)) ∨ (c = 38 ∧ (j ≤ 2 ∨ j = 7))) → uz.1 c j = u.1 c j := fun c j q => (Duz c j (by omega)).trans (Fu2 c j q)
  have Kuz_36_4 : uz.1 (36) (4) = u.1 36 4 ||| (1 : Int32) <<< (nI 3 &&& 31) := by rw [Duz _ _ (by omega)]; exact Ku2_36_4
  have Kuz_e_4 : uz.1 (e) (4) = v := by rw [huz]; exact sI_eq _ _ _ _
  rcases m5 with ⟨oe, il, ⟨qn, ql, qh, qe⟩, g11, kkk, nn⟩ | ⟨oe, bb⟩
  rotate_left
  · rw [oe, if_pos rfl]
    exact ⟨_, _, _, rfl, rfl, Guz, St2, Or.inr ⟨rfl, by rw [huz]; exact Bd_s bb (by omega)⟩⟩
  rw [oe, if_neg n10, zt2, (qm21 hm), wR_83, show (3 : Int32) + (0 : Int32) = nI 3 from rfl, wSI_eq, wN_83 _ (by omega), g11]
  obtain ⟨tz, htz⟩ : ∃ tz, tz = w_sI t2 (83) (3) (v) := ⟨_, rfl⟩
  rw [← htz]
  have ztz : tz.2 = t.2 := by rw [htz]; exact zt2
  have Stz : tG t tz := by rw [htz]; exact tG_s St2 (by unfold rT; omega)
  have Dtz : ∀ c j, ¬ (c = 83 ∧ j = 3) → tz.1 c j = t2.1 c j := fun c j q => by rw [htz]; exact if_neg q
  have Ftz : ∀ c j, ¬ ((c = 79 ∧ ((4 ≤ j ∧ j ≤ 5) ∨ (7 ≤ j ∧ j ≤ 11))) ∨ (c = 82 ∧ j = 0) ∨ (c = 83 ∧ j = 3)) → tz.1 c j = t.1 c j := fun c j q => (Dtz c j (by omega)).trans (Ft2 c j q)
  have Ktz_82_0 : tz.1 (82) (0) = 1 := by rw [Dtz _ _ (by omega)]; exact Kt2_82_0
  have Ktz_83_3 : tz.1 (83) (3) = v := by rw [htz]; exact sI_eq _ _ _ _
  refine ⟨uz, _, tz, rfl, rfl, Guz, Stz, Or.inl ⟨rfl, i + 1 + 1, a, f, k, p, by omega, Rd_fr hR Guz Stz, Tk_fr kkk (fun c j q => Duz c j (by omega)) (fun j q r => Dtz 79 j (by omega)), ⟨by rw [Duz _ _ (by omega)]; exact nn.1, by rw [Dtz _ _ (by omega)]; exact nn.2.1, by rw [Dtz _ _ (by omega)]; exact nn.2.2⟩, TrG_fr hG (fun c j q => Fuz c j (by omega)) (fun c j q => Ftz c j (by omega)), TrF_fr hF (fun c j q => Fuz c j (by omega)) (fun c j q => Ftz c j (by omega)), TrB_fr hB (fun c j q => Fuz c j (by omega)) (fun c j q => Ftz c j (by omega)), ?_, TrL_f2 hL (fun c j q => Fuz c j (by omega)) (fun c j q => Ftz c j (by omega)), TrK_fr hK (fun c j q => Fuz c j (by omega)) (fun j q => Ftz 79 j (by omega)), by rw [Fuz e 0 (by omega)]; exact h0⟩⟩
  refine ⟨by rw [Kuz_e_4, Ktz_83_3], by rw [Fuz e 5 (by omega), Ftz 83 4 (by omega)]; exact o2, by rw [Fuz e 6 (by omega), Ftz 83 5 (by omega)]; exact o3, by rw [Fuz e 5 (by omega)]; exact o4, by rw [Fuz e 6 (by omega)]; exact o5, fun x hx => ?_⟩
  rw [Kuz_36_4, bt_or, bt_one (by omega) (by omega)]
  by_cases q : x = 0
  · rw [q, Ktz_82_0]
    have : (bt (u.1 36 4) (3 + 0) || decide (3 + 0 = 3)) = true := by rw [Bool.or_eq_true]; exact Or.inr (by decide)
    exact (bI_t this).symm
  · rw [Ftz 82 x (by omega), o6 x hx, decide_eq_false (show ¬ 3 + x = 3 by omega), Bool.or_false]
theorem ln_o1 (h : Ls n b ps s e a f k p L i u t) (hi : i < s) : Pl n b ps s e L i u t (F_X2_readSetting 36 (nI 4) u) (F_X9_onceLine 79 (1 : Int32) (0 : Int32) (100 : Int32) t) := by
  obtain ⟨hR, hk, hf, hG, hF, hB, hO, hL, hK, h0⟩ := h
  have hp := hR.1
  have hm := hR.2.1
  have hd := hR.2.2.1
  have d1 := TC_le hd
  have n10 : ¬ (1 : Int32) = 0 := by decide
  have w1 : (1 : Int32) ≠ 0 := by decide
  have w2 : (2 : Int32) ≠ 0 := by decide
  have w3 : (3 : Int32) ≠ 0 := by decide
  have w4 : (4 : Int32) ≠ 0 := by decide
  have hX := hO
  obtain ⟨o1, o2, o3, o4, o5, o6⟩ := hX
  have ob : t.1 82 1 = bI (bt (u.1 36 4) 4 = true) := o6 1 (by omega)
  have one1 : (1 : Int32) &&& 1 = 1 := by decide
  unfold F_X2_readSetting F_X9_onceLine
  rw [bt_sh (by omega), (qm20 hm), wR_82, wN_lit, wN_82 _ (by omega), ob]
  by_cases hb : bt (u.1 36 4) 4 = true
  · rw [bI_t hb, if_neg n10, if_neg n10, blame_c hp hf.1, wC_s, wrong_g]
    exact ⟨_, _, _, rfl, rfl, uF_G bl_F, tF_G wr_F, Or.inr ⟨rfl, Bd_w hk w3⟩⟩
  rw [bI_f hb, if_pos (show (0 : Int32) = 0 from rfl), if_pos (show (0 : Int32) = 0 from rfl), wB_eq, wR_82, wSZ_eq, wN_lit, wN_82 _ (by omega), one1]
  have zu : u.2 = u.2 := rfl
  have Gu := uG_rf e u
  have Fu : ∀ c j, ¬ ((c = e ∧ j = 5) ∨ (c = 36 ∧ (j ≤ 1 ∨ j = 4)) ∨ (c = 38 ∧ (j ≤ 2 ∨ j = 7))) → u.1 c j = u.1 c j := fun _ _ _ => rfl
  have zt : t.2 = t.2 := rfl
  have St := tG_rf t
  have Ft : ∀ c j, ¬ ((c = 79 ∧ ((4 ≤ j ∧ j ≤ 5) ∨ (7 ≤ j ∧ j ≤ 11))) ∨ (c = 82 ∧ j = 1) ∨ (c = 83 ∧ j = 4)) → t.1 c j = t.1 c j := fun _ _ _ => rfl
  obtain ⟨u0, hu0⟩ : ∃ u0, u0 = w_sI u (36) (4) (u.1 36 4 ||| (1 : Int32) <<< (nI 4 &&& 31)) := ⟨_, rfl⟩
  rw [← hu0]
  have zu0 : u0.2 = u.2 := by rw [hu0]; exact zu
  have Gu0 : uG e u u0 := by rw [hu0]; exact uG_s Gu (by unfold rC; omega)
  have Du0 : ∀ c j, ¬ (c = 36 ∧ j = 4) → u0.1 c j = u.1 c j := fun c j q => by rw [hu0]; exact if_neg q
  have Fu0 : ∀ c j, ¬ ((c = e ∧ j = 5) ∨ (c = 36 ∧ (j ≤ 1 ∨ j = 4)) ∨ (c = 38 ∧ (j ≤ 2 ∨ j = 7))) → u0.1 c j = u.1 c j := fun c j q => (Du0 c j (by omega)).trans (Fu c j q)
  have Ku0_36_4 : u0.1 (36) (4) = u.1 36 4 ||| (1 : Int32) <<< (nI 4 &&& 31) := by rw [hu0]; exact sI_eq _ _ _ _
  obtain ⟨t0, ht0⟩ : ∃ t0, t0 = w_sI t (82) (1) (1) := ⟨_, rfl⟩
  rw [← ht0]
  have zt0 : t0.2 = t.2 := by rw [ht0]; exact zt
  have St0 : tG t t0 := by rw [ht0]; exact tG_s St (by unfold rT; omega)
  have Dt0 : ∀ c j, ¬ (c = 82 ∧ j = 1) → t0.1 c j = t.1 c j := fun c j q => by rw [ht0]; exact if_neg q
  have Ft0 : ∀ c j, ¬ ((c = 79 ∧ ((4 ≤ j ∧ j ≤ 5) ∨ (7 ≤ j ∧ j ≤ 11))) ∨ (c = 82 ∧ j = 1) ∨ (c = 83 ∧ j = 4)) → t0.1 c j = t.1 c j := fun c j q => (Dt0 c j (by omega)).trans (Ft c j q)
  have Kt0_82_1 : t0.1 (82) (1) = 1 := by rw [ht0]; exact sI_eq _ _ _ _
  have N0 : Nf u0 t0 := ⟨by rw [Du0 _ _ (by omega)]; exact hf.1, by rw [Dt0 _ _ (by omega)]; exact hf.2.1, by rw [Dt0 _ _ (by omega)]; exact hf.2.2⟩
  obtain ⟨u1, t1, a1, a2, a3, a4, a5, a6, a7⟩ := tok_rl (Rd_fr hR Gu0 St0) (Tk_fr hk (fun c j q => Du0 c j (by omega)) (fun j q r => Dt0 79 j (by omega))) hi
  have zu1 : u1.2 = u.2 := a3.trans zu0
  have zt1 : t1.2 = t.2 := a5.trans zt0
  have Gu1 : uG e u u1 := uG_tr Gu0 ⟨a3, fun c j q => a4 c j (fun r => q (by unfold rC; omega))⟩
  have St1 : tG t t1 := tG_tr St0 ⟨a5, fun c j q => a6 c j (fun r => q (by unfold rT; omega))⟩
  have R1 := Rd_fr hR Gu1 St1
  have N1 : Nf u1 t1 := ⟨by rw [a4 36 0 (by omega)]; exact N0.1, by rw [a6 79 4 (by omega)]; exact N0.2.1, by rw [a6 79 5 (by omega)]; exact N0.2.2⟩
  obtain ⟨v, u2, o, t2, m1, m2, m3, m4, m5⟩ := num_rl (lo := 0) (hi := 100) R1 a7 N1 (by omega) (by omega)
  have m1q : F_X2_takeNumber 36 (0 : Int32) (100 : Int32) u1 = some (v, u2) := m1
  have m2q : F_X9_number 79 (0 : Int32) (100 : Int32) t1 = some (o, t2) := m2
  have zu2 : u2.2 = u.2 := m3.1.trans zu1
  have Gu2 : uG e u u2 := uG_tr Gu1 (uF_G m3)
  have Fu2 : ∀ c j, ¬ ((c = e ∧ j = 5) ∨ (c = 36 ∧ (j ≤ 1 ∨ j = 4)) ∨ (c = 38 ∧ (j ≤ 2 ∨ j = 7))) → u2.1 c j = u.1 c j := fun c j q => by rw [m3.2 c j (by omega) (by omega), a4 c j (by omega)]; exact Fu0 c j q
  have Ku2_36_4 : u2.1 36 4 = u.1 36 4 ||| (1 : Int32) <<< (nI 4 &&& 31) := by rw [m3.2 _ _ (by omega) (by omega), a4 _ _ (by omega)]; exact Ku0_36_4
  have zt2 : t2.2 = t.2 := m4.1.trans zt1
  have St2 : tG t t2 := tG_tr St1 (tF_G m4)
  have Ft2 : ∀ c j, ¬ ((c = 79 ∧ ((4 ≤ j ∧ j ≤ 5) ∨ (7 ≤ j ∧ j ≤ 11))) ∨ (c = 82 ∧ j = 1) ∨ (c = 83 ∧ j = 4)) → t2.1 c j = t.1 c j := fun c j q => by rw [m4.2 c j (by omega), a6 c j (by omega)]; exact Ft0 c j q
  have Kt2_82_1 : t2.1 82 1 = 1 := by rw [m4.2 _ _ (by omega), a6 _ _ (by omega)]; exact Kt0_82_1
  rw [zu0, (p36_2 hp), wR_38, a1, wC_s, if_neg (show ¬ nI 4 = (3 : Int32) by decide), if_pos (show nI 4 = (4 : Int32) from rfl), zu1, hR.2.2.2.1, wR_d0 _ hd, m1q, wC_s, wB_eq, a2, wC_s, m2q, wC_s]
  obtain ⟨uz, huz⟩ : ∃ uz, uz = w_sI u2 (e) (5) (v) := ⟨_, rfl⟩
  rw [← huz]
  have zuz : uz.2 = u.2 := by rw [huz]; exact zu2
  have Guz : uG e u uz := by rw [huz]; exact uG_s Gu2 (by unfold rC; omega)
  have Duz : ∀ c j, ¬ (c = e ∧ j = 5) → uz.1 c j = u2.1 c j := fun c j q => by rw [huz]; exact if_neg q
  have Fuz : ∀ c j, ¬ ((c = e ∧ j = 5) ∨ (c = 36 ∧ (j ≤ 1 ∨ j = 4)) ∨ (c = 38 ∧ (j ≤ 2 ∨ j = 7))) → uz.1 c j = u.1 c j := fun c j q => (Duz c j (by omega)).trans (Fu2 c j q)
  have Kuz_36_4 : uz.1 (36) (4) = u.1 36 4 ||| (1 : Int32) <<< (nI 4 &&& 31) := by rw [Duz _ _ (by omega)]; exact Ku2_36_4
  have Kuz_e_5 : uz.1 (e) (5) = v := by rw [huz]; exact sI_eq _ _ _ _
  rcases m5 with ⟨oe, il, ⟨qn, ql, qh, qe⟩, g11, kkk, nn⟩ | ⟨oe, bb⟩
  rotate_left
  · rw [oe, if_pos rfl]
    exact ⟨_, _, _, rfl, rfl, Guz, St2, Or.inr ⟨rfl, by rw [huz]; exact Bd_s bb (by omega)⟩⟩
  rw [oe, if_neg n10, zt2, (qm21 hm), wR_83, show (3 : Int32) + (1 : Int32) = nI 4 from rfl, wSI_eq, wN_83 _ (by omega), g11]
  obtain ⟨tz, htz⟩ : ∃ tz, tz = w_sI t2 (83) (4) (v) := ⟨_, rfl⟩
  rw [← htz]
  have ztz : tz.2 = t.2 := by rw [htz]; exact zt2
  have Stz : tG t tz := by rw [htz]; exact tG_s St2 (by unfold rT; omega)
  have Dtz : ∀ c j, ¬ (c = 83 ∧ j = 4) → tz.1 c j = t2.1 c j := fun c j q => by rw [htz]; exact if_neg q
  have Ftz : ∀ c j, ¬ ((c = 79 ∧ ((4 ≤ j ∧ j ≤ 5) ∨ (7 ≤ j ∧ j ≤ 11))) ∨ (c = 82 ∧ j = 1) ∨ (c = 83 ∧ j = 4)) → tz.1 c j = t.1 c j := fun c j q => (Dtz c j (by omega)).trans (Ft2 c j q)
  have Ktz_82_1 : tz.1 (82) (1) = 1 := by rw [Dtz _ _ (by omega)]; exact Kt2_82_1
  have Ktz_83_4 : tz.1 (83) (4) = v := by rw [htz]; exact sI_eq _ _ _ _
  refine ⟨uz, _, tz, rfl, rfl, Guz, Stz, Or.inl ⟨rfl, i + 1 + 1, a, f, k, p, by omega, Rd_fr hR Guz Stz, Tk_fr kkk (fun c j q => Duz c j (by omega)) (fun j q r => Dtz 79 j (by omega)), ⟨by rw [Duz _ _ (by omega)]; exact nn.1, by rw [Dtz _ _ (by omega)]; exact nn.2.1, by rw [Dtz _ _ (by omega)]; exact nn.2.2⟩, TrG_fr hG (fun c j q => Fuz c j (by omega)) (fun c j q => Ftz c j (by omega)), TrF_fr hF (fun c j q => Fuz c j (by omega)) (fun c j q => Ftz c j (by omega)), TrB_fr hB (fun c j q => Fuz c j (by omega)) (fun c j q => Ftz c j (by omega)), ?_, TrL_f2 hL (fun c j q => Fuz c j (by omega)) (fun c j q => Ftz c j (by omega)), TrK_fr hK (fun c j q => Fuz c j (by omega)) (fun j q => Ftz 79 j (by omega)), by rw [Fuz e 0 (by omega)]; exact h0⟩⟩
  refine ⟨by rw [Fuz e 4 (by omega), Ftz 83 3 (by omega)]; exact o1, by rw [Kuz_e_5, Ktz_83_4], by rw [Fuz e 6 (by omega), Ftz 83 5 (by omega)]; exact o3, ⟨qn, qh, by rw [Kuz_e_5]; exact qe⟩, by rw [Fuz e 6 (by omega)]; exact o5, fun x hx => ?_⟩
  rw [Kuz_36_4, bt_or, bt_one (by omega) (by omega)]
  by_cases q : x = 1
  · rw [q, Ktz_82_1]
    have : (bt (u.1 36 4) (3 + 1) || decide (3 + 1 = 4)) = true := by rw [Bool.or_eq_true]; exact Or.inr (by decide)
    exact (bI_t this).symm
  · rw [Ftz 82 x (by omega), o6 x hx, decide_eq_false (show ¬ 3 + x = 4 by omega), Bool.or_false]
theorem ln_o2 (h : Ls n b ps s e a f k p L i u t) (hi : i < s) : Pl n b ps s e L i u t (F_X2_readSetting 36 (nI 5) u) (F_X9_onceLine 79 (2 : Int32) (0 : Int32) (99999 : Int32) t) := by
  obtain ⟨hR, hk, hf, hG, hF, hB, hO, hL, hK, h0⟩ := h
  have hp := hR.1
  have hm := hR.2.1
  have hd := hR.2.2.1
  have d1 := TC_le hd
  have n10 : ¬ (1 : Int32) = 0 := by decide
  have w1 : (1 : Int32) ≠ 0 := by decide
  have w2 : (2 : Int32) ≠ 0 := by decide
  have w3 : (3 : Int32) ≠ 0 := by decide
  have w4 : (4 : Int32) ≠ 0 := by decide
  have hX := hO
  obtain ⟨o1, o2, o3, o4, o5, o6⟩ := hX
  have ob : t.1 82 2 = bI (bt (u.1 36 4) 5 = true) := o6 2 (by omega)
  have one1 : (1 : Int32) &&& 1 = 1 := by decide
  unfold F_X2_readSetting F_X9_onceLine
  rw [bt_sh (by omega), (qm20 hm), wR_82, wN_lit, wN_82 _ (by omega), ob]
  by_cases hb : bt (u.1 36 4) 5 = true
  · rw [bI_t hb, if_neg n10, if_neg n10, blame_c hp hf.1, wC_s, wrong_g]
    exact ⟨_, _, _, rfl, rfl, uF_G bl_F, tF_G wr_F, Or.inr ⟨rfl, Bd_w hk w3⟩⟩
  rw [bI_f hb, if_pos (show (0 : Int32) = 0 from rfl), if_pos (show (0 : Int32) = 0 from rfl), wB_eq, wR_82, wSZ_eq, wN_lit, wN_82 _ (by omega), one1]
  have zu : u.2 = u.2 := rfl
  have Gu := uG_rf e u
  have Fu : ∀ c j, ¬ ((c = e ∧ j = 6) ∨ (c = 36 ∧ (j ≤ 1 ∨ j = 4)) ∨ (c = 38 ∧ (j ≤ 2 ∨ j = 7))) → u.1 c j = u.1 c j := fun _ _ _ => rfl
  have zt : t.2 = t.2 := rfl
  have St := tG_rf t
  have Ft : ∀ c j, ¬ ((c = 79 ∧ ((4 ≤ j ∧ j ≤ 5) ∨ (7 ≤ j ∧ j ≤ 11))) ∨ (c = 82 ∧ j = 2) ∨ (c = 83 ∧ j = 5)) → t.1 c j = t.1 c j := fun _ _ _ => rfl
  obtain ⟨u0, hu0⟩ : ∃ u0, u0 = w_sI u (36) (4) (u.1 36 4 ||| (1 : Int32) <<< (nI 5 &&& 31)) := ⟨_, rfl⟩
  rw [← hu0]
  have zu0 : u0.2 = u.2 := by rw [hu0]; exact zu
  have Gu0 : uG e u u0 := by rw [hu0]; exact uG_s Gu (by unfold rC; omega)
  have Du0 : ∀ c j, ¬ (c = 36 ∧ j = 4) → u0.1 c j = u.1 c j := fun c j q => by rw [hu0]; exact if_neg q
  have Fu0 : ∀ c j, ¬ ((c = e ∧ j = 6) ∨ (c = 36 ∧ (j ≤ 1 ∨ j = 4)) ∨ (c = 38 ∧ (j ≤ 2 ∨ j = 7))) → u0.1 c j = u.1 c j := fun c j q => (Du0 c j (by omega)).trans (Fu c j q)
  have Ku0_36_4 : u0.1 (36) (4) = u.1 36 4 ||| (1 : Int32) <<< (nI 5 &&& 31) := by rw [hu0]; exact sI_eq _ _ _ _
  obtain ⟨t0, ht0⟩ : ∃ t0, t0 = w_sI t (82) (2) (1) := ⟨_, rfl⟩
  rw [← ht0]
  have zt0 : t0.2 = t.2 := by rw [ht0]; exact zt
  have St0 : tG t t0 := by rw [ht0]; exact tG_s St (by unfold rT; omega)
  have Dt0 : ∀ c j, ¬ (c = 82 ∧ j = 2) → t0.1 c j = t.1 c j := fun c j q => by rw [ht0]; exact if_neg q
  have Ft0 : ∀ c j, ¬ ((c = 79 ∧ ((4 ≤ j ∧ j ≤ 5) ∨ (7 ≤ j ∧ j ≤ 11))) ∨ (c = 82 ∧ j = 2) ∨ (c = 83 ∧ j = 5)) → t0.1 c j = t.1 c j := fun c j q => (Dt0 c j (by omega)).trans (Ft c j q)
  have Kt0_82_2 : t0.1 (82) (2) = 1 := by rw [ht0]; exact sI_eq _ _ _ _
  have N0 : Nf u0 t0 := ⟨by rw [Du0 _ _ (by omega)]; exact hf.1, by rw [Dt0 _ _ (by omega)]; exact hf.2.1, by rw [Dt0 _ _ (by omega)]; exact hf.2.2⟩
  obtain ⟨u1, t1, a1, a2, a3, a4, a5, a6, a7⟩ := tok_rl (Rd_fr hR Gu0 St0) (Tk_fr hk (fun c j q => Du0 c j (by omega)) (fun j q r => Dt0 79 j (by omega))) hi
  have zu1 : u1.2 = u.2 := a3.trans zu0
  have zt1 : t1.2 = t.2 := a5.trans zt0
  have Gu1 : uG e u u1 := uG_tr Gu0 ⟨a3, fun c j q => a4 c j (fun r => q (by unfold rC; omega))⟩
  have St1 : tG t t1 := tG_tr St0 ⟨a5, fun c j q => a6 c j (fun r => q (by unfold rT; omega))⟩
  have R1 := Rd_fr hR Gu1 St1
  have N1 : Nf u1 t1 := ⟨by rw [a4 36 0 (by omega)]; exact N0.1, by rw [a6 79 4 (by omega)]; exact N0.2.1, by rw [a6 79 5 (by omega)]; exact N0.2.2⟩
  obtain ⟨v, u2, o, t2, m1, m2, m3, m4, m5⟩ := num_rl (lo := 0) (hi := 99999) R1 a7 N1 (by omega) (by omega)
  have m1q : F_X2_takeNumber 36 (0 : Int32) (99999 : Int32) u1 = some (v, u2) := m1
  have m2q : F_X9_number 79 (0 : Int32) (99999 : Int32) t1 = some (o, t2) := m2
  have zu2 : u2.2 = u.2 := m3.1.trans zu1
  have Gu2 : uG e u u2 := uG_tr Gu1 (uF_G m3)
  have Fu2 : ∀ c j, ¬ ((c = e ∧ j = 6) ∨ (c = 36 ∧ (j ≤ 1 ∨ j = 4)) ∨ (c = 38 ∧ (j ≤ 2 ∨ j = 7))) → u2.1 c j = u.1 c j := fun c j q => by rw [m3.2 c j (by omega) (by omega), a4 c j (by omega)]; exact Fu0 c j q
  have Ku2_36_4 : u2.1 36 4 = u.1 36 4 ||| (1 : Int32) <<< (nI 5 &&& 31) := by rw [m3.2 _ _ (by omega) (by omega), a4 _ _ (by omega)]; exact Ku0_36_4
  have zt2 : t2.2 = t.2 := m4.1.trans zt1
  have St2 : tG t t2 := tG_tr St1 (tF_G m4)
  have Ft2 : ∀ c j, ¬ ((c = 79 ∧ ((4 ≤ j ∧ j ≤ 5) ∨ (7 ≤ j ∧ j ≤ 11))) ∨ (c = 82 ∧ j = 2) ∨ (c = 83 ∧ j = 5)) → t2.1 c j = t.1 c j := fun c j q => by rw [m4.2 c j (by omega), a6 c j (by omega)]; exact Ft0 c j q
  have Kt2_82_2 : t2.1 82 2 = 1 := by rw [m4.2 _ _ (by omega), a6 _ _ (by omega)]; exact Kt0_82_2
  rw [zu0, (p36_2 hp), wR_38, a1, wC_s, if_neg (show ¬ nI 5 = (3 : Int32) by decide), if_neg (show ¬ nI 5 = (4 : Int32) by decide), zu1, hR.2.2.2.1, wR_d0 _ hd, m1q, wC_s, wB_eq, a2, wC_s, m2q, wC_s]
  obtain ⟨uz, huz⟩ : ∃ uz, uz = w_sI u2 (e) (6) (v) := ⟨_, rfl⟩
  rw [← huz]
  have zuz : uz.2 = u.2 := by rw [huz]; exact zu2
  have Guz : uG e u uz := by rw [huz]; exact uG_s Gu2 (by unfold rC; omega)
  have Duz : ∀ c j, ¬ (c = e ∧ j = 6) → uz.1 c j = u2.1 c j := fun c j q => by rw [huz]; exact if_neg q
  have Fuz : ∀ c j, ¬ ((c = e ∧ j = 6) ∨ (c = 36 ∧ (j ≤ 1 ∨ j = 4)) ∨ (c = 38 ∧ (j ≤ 2 ∨ j = 7))) → uz.1 c j = u.1 c j := fun c j q => (Duz c j (by omega)).trans (Fu2 c j q)
  have Kuz_36_4 : uz.1 (36) (4) = u.1 36 4 ||| (1 : Int32) <<< (nI 5 &&& 31) := by rw [Duz _ _ (by omega)]; exact Ku2_36_4
  have Kuz_e_6 : uz.1 (e) (6) = v := by rw [huz]; exact sI_eq _ _ _ _
  rcases m5 with ⟨oe, il, ⟨qn, ql, qh, qe⟩, g11, kkk, nn⟩ | ⟨oe, bb⟩
  rotate_left
  · rw [oe, if_pos rfl]
    exact ⟨_, _, _, rfl, rfl, Guz, St2, Or.inr ⟨rfl, by rw [huz]; exact Bd_s bb (by omega)⟩⟩
  rw [oe, if_neg n10, zt2, (qm21 hm), wR_83, show (3 : Int32) + (2 : Int32) = nI 5 from rfl, wSI_eq, wN_83 _ (by omega), g11]
  obtain ⟨tz, htz⟩ : ∃ tz, tz = w_sI t2 (83) (5) (v) := ⟨_, rfl⟩
  rw [← htz]
  have ztz : tz.2 = t.2 := by rw [htz]; exact zt2
  have Stz : tG t tz := by rw [htz]; exact tG_s St2 (by unfold rT; omega)
  have Dtz : ∀ c j, ¬ (c = 83 ∧ j = 5) → tz.1 c j = t2.1 c j := fun c j q => by rw [htz]; exact if_neg q
  have Ftz : ∀ c j, ¬ ((c = 79 ∧ ((4 ≤ j ∧ j ≤ 5) ∨ (7 ≤ j ∧ j ≤ 11))) ∨ (c = 82 ∧ j = 2) ∨ (c = 83 ∧ j = 5)) → tz.1 c j = t.1 c j := fun c j q => (Dtz c j (by omega)).trans (Ft2 c j q)
  have Ktz_82_2 : tz.1 (82) (2) = 1 := by rw [Dtz _ _ (by omega)]; exact Kt2_82_2
  have Ktz_83_5 : tz.1 (83) (5) = v := by rw [htz]; exact sI_eq _ _ _ _
  refine ⟨uz, _, tz, rfl, rfl, Guz, Stz, Or.inl ⟨rfl, i + 1 + 1, a, f, k, p, by omega, Rd_fr hR Guz Stz, Tk_fr kkk (fun c j q => Duz c j (by omega)) (fun j q r => Dtz 79 j (by omega)), ⟨by rw [Duz _ _ (by omega)]; exact nn.1, by rw [Dtz _ _ (by omega)]; exact nn.2.1, by rw [Dtz _ _ (by omega)]; exact nn.2.2⟩, TrG_fr hG (fun c j q => Fuz c j (by omega)) (fun c j q => Ftz c j (by omega)), TrF_fr hF (fun c j q => Fuz c j (by omega)) (fun c j q => Ftz c j (by omega)), TrB_fr hB (fun c j q => Fuz c j (by omega)) (fun c j q => Ftz c j (by omega)), ?_, TrL_f2 hL (fun c j q => Fuz c j (by omega)) (fun c j q => Ftz c j (by omega)), TrK_fr hK (fun c j q => Fuz c j (by omega)) (fun j q => Ftz 79 j (by omega)), by rw [Fuz e 0 (by omega)]; exact h0⟩⟩
  refine ⟨by rw [Fuz e 4 (by omega), Ftz 83 3 (by omega)]; exact o1, by rw [Fuz e 5 (by omega), Ftz 83 4 (by omega)]; exact o2, by rw [Kuz_e_6, Ktz_83_5], by rw [Fuz e 5 (by omega)]; exact o4, ⟨qn, qh, by rw [Kuz_e_6]; exact qe⟩, fun x hx => ?_⟩
  rw [Kuz_36_4, bt_or, bt_one (by omega) (by omega)]
  by_cases q : x = 2
  · rw [q, Ktz_82_2]
    have : (bt (u.1 36 4) (3 + 2) || decide (3 + 2 = 5)) = true := by rw [Bool.or_eq_true]; exact Or.inr (by decide)
    exact (bI_t this).symm
  · rw [Ftz 82 x (by omega), o6 x hx, decide_eq_false (show ¬ 3 + x = 5 by omega), Bool.or_false]
end

/-! the line of a law -/
theorem qm31 {R : Nat → Nat → Nat} (h : PM R) : R 79 31 = 94 := by simp only [PM_u h]
theorem qm32 {R : Nat → Nat → Nat} (h : PM R) : R 79 32 = 95 := by simp only [PM_u h]
theorem qm33 {R : Nat → Nat → Nat} (h : PM R) : R 79 33 = 96 := by simp only [PM_u h]
def lawT (t : wSt) : Option ((Int32 × wSt) ⊕ ((Unit) ⊕ (Int32 × wSt))) := (wC (F_X9_token 79 t) (fun _ (u25 : wSt) => wJ (X := wSt) (if (u25.1 79 8) = (1 : Int32) then (if (u25.1 79 9) < (7 : Int32) then (some (.inl u25)) else (if (u25.1 79 9) ≤ (9 : Int32) then (wB (((3 : Int32) + (u25.1 79 9)) - (7 : Int32)) (fun (i30 : Int32) => wR (u25.2.2 79 31) 15 (fun o31 => wN i30 o31 (fun j32 => if (u25.1 o31 j32) = 0 then (wR (u25.2.2 79 31) 15 (fun o33 => wSZ u25 o33 i30 (1 : Int32) (fun (u34 : wSt) => wC (F_X9_token 79 u34) (fun _ (u35 : wSt) => wR (u35.2.2 79 32) 14 (fun o36 => wSI u35 o36 i30 (u35.1 79 19) (fun (u37 : wSt) => wC (F_X9_sumRead 79 u37) (fun (i39 : Int32) (u38 : wSt) => wR (u38.2.2 79 33) 14 (fun o40 => wSI u38 o40 i30 (u38.1 79 19) (fun (u41 : wSt) => some (.inr (.inl (i39, u41)))))))))))) else (wC (F_X9_wrong 79 (3 : Int32) u25) (fun (i43 : Int32) (u42 : wSt) => wG (i43 = 0 ∨ i43 = 1) (some (.inr (.inr (.inr (i43, u42))))))))))) else (some (.inl u25)))) else (some (.inl u25))) (fun x => F_X9_lineRead_j153 79 x)))
section
variable {n s e a f k p L i : Nat} {b ps : Nat → Nat} {u t : wSt}
theorem ln_l (h : Ls n b ps s e a f k p L i u t) (hi : i < s) : ∃ u' t', F_X2_readLaw 36 u = some ((), u') ∧ uG e u u' ∧ tG t t' ∧ ((lawT t = some (.inl ((1 : Int32), t')) ∧ ∃ i' a f k p : Nat, i < i' ∧ Ls n b ps s e a f k p L i' u' t') ∨ (lawT t = some (.inl ((0 : Int32), t')) ∧ Bd u' t') ∨ (lawT t = some (.inr (.inr ((0 : Int32), t'))) ∧ Bd u' t')) := by
  obtain ⟨hR, hk, hf, hG, hF, hB, hO, hL, hK, h0⟩ := h
  have hp := hR.1
  have hm := hR.2.1
  have hd := hR.2.2.1
  have d1 := TC_le hd
  have p6 := hL.1
  have n10 : ¬ (1 : Int32) = 0 := by decide
  have z00 : (0 : Int32) = 0 := rfl
  have x1 : (1 : Int32) ≠ 0 := by decide
  have x3 : (3 : Int32) ≠ 0 := by decide
  have o11 : (1 : Int32) &&& 1 = 1 := by decide
  obtain ⟨u1, t1, a1, a2, a3, a4, a5, a6, a7⟩ := tok_rl hR hk hi
  have Gu1 : uG e u u1 := ⟨a3, fun c j q => a4 c j (fun r => q (by unfold rC; omega))⟩
  have Gt1 : tG t t1 := ⟨a5, fun c j q => a6 c j (fun r => q (by unfold rT; omega))⟩
  have R1 := Rd_fr hR Gu1 Gt1
  have N1 : Nf u1 t1 := ⟨by rw [a4 36 0 (by omega)]; exact hf.1, by rw [a6 79 4 (by omega)]; exact hf.2.1, by rw [a6 79 5 (by omega)]; exact hf.2.2⟩
  obtain ⟨kk, hk0, hN⟩ := Tk_k a7
  have k36 := hN.1
  have e7 : (nI kk < (7 : Int32)) = (kk < 7) := nI_ltE (a := kk) (b := 7) (by omega) (by omega)
  have e9 : (nI kk ≤ (9 : Int32)) = (kk ≤ 9) := nI_leE (a := kk) (b := 9) (by omega) (by omega)
  by_cases h79 : 7 ≤ kk ∧ kk ≤ 9
  rotate_left
  · have CL : F_X2_readLaw 36 u = some ((), bl u1 1) := by
      unfold F_X2_readLaw F_X2_readLaw_j31
      rw [p36_2 hp, wR_38, a1, wC_s, a3, p36_2 hp, wR_38, hk0]
      by_cases h7 : kk < 7
      · rw [if_pos (e7.mpr h7), wJ_inl, blame_c R1.1 N1.1, wC_s]
      · rw [if_neg (fun z => absurd (e7.mp z) h7), wR_38, hk0, if_neg (fun z => absurd (e9.mp z) (by omega)), wJ_inl, blame_c R1.1 N1.1, wC_s]
    have RF : lawT t = some (.inr (.inr ((0 : Int32), wr t1 1))) := by
      unfold lawT F_X9_lineRead_j153
      rw [a2, wC_s]
      by_cases h20 : kk < 20
      · obtain ⟨y1, y2⟩ := hN.2.1 h20
        have : ∀ k : Fin 20, (k.1 < 7 → sw k.1 < 7) ∧ (9 < k.1 → 9 < sw k.1 ∧ ¬ sw k.1 < 7) ∧ sw k.1 < 20 := by decide
        have z := this ⟨kk, h20⟩
        dsimp only at z
        have c7 : (nI (sw kk) < (7 : Int32)) = (sw kk < 7) := nI_ltE (a := sw kk) (b := 7) (by omega) (by omega)
        have c9 : (nI (sw kk) ≤ (9 : Int32)) = (sw kk ≤ 9) := nI_leE (a := sw kk) (b := 9) (by omega) (by omega)
        rw [if_pos y1, y2]
        by_cases h7 : kk < 7
        · rw [if_pos (c7.mpr (z.1 h7)), wJ_inl, wrong_t, wC_s, wG_pos (Or.inl rfl)]
        · rw [if_neg (fun y => absurd (c7.mp y) (by omega)), if_neg (fun y => absurd (c9.mp y) (by omega)), wJ_inl, wrong_t, wC_s, wG_pos (Or.inl rfl)]
      · rw [if_neg (KN_1 hN (by omega)), wJ_inl, wrong_t, wC_s, wG_pos (Or.inl rfl)]
    exact ⟨_, _, CL, uG_tr Gu1 (uF_G bl_F), tG_tr Gt1 (tF_G wr_F), Or.inr (Or.inr ⟨RF, Bd_w a7 x1⟩)⟩
  obtain ⟨w, hw⟩ : ∃ w, w = kk - 7 := ⟨_, rfl⟩
  have w3 : w < 3 := by omega
  have es7 : nI kk - (7 : Int32) = nI w := by
    rw [hw]
    exact nI_sub (a := kk) (b := 7) (by omega)
  obtain ⟨y1, y2⟩ := hN.2.1 (by omega)
  have swk : sw kk = kk := by
    have : ∀ k : Fin 10, sw k.1 = k.1 := by decide
    exact this ⟨kk, by omega⟩
  rw [swk] at y2
  have ei : (3 : Int32) + nI kk - (7 : Int32) = nI (3 + w) := by
    rw [nI_Ladd, hw]
    have := nI_sub (a := 3 + kk) (b := 7) (by omega)
    rw [show 3 + (kk - 7) = 3 + kk - 7 from by omega]
    exact this
  obtain ⟨l1, l2, l3⟩ := hL.2 w w3 (by omega)
  obtain ⟨k1, k2, k3, k4⟩ := hK
  obtain ⟨u2, hu2⟩ : ∃ u2, u2 = w_sI u1 (36) (5) (nI w) := ⟨_, rfl⟩
  have Gu2 : uG e u u2 := by rw [hu2]; exact uG_s Gu1 (by unfold rC; omega)
  have Du2 : ∀ a j, ¬ (a = 36 ∧ j = 5) → u2.1 a j = u1.1 a j := fun a j q => by rw [hu2]; exact if_neg q
  have Vu2 : u2.1 (36) (5) = nI w := by rw [hu2]; exact sI_eq _ _ _ _
  have t93 : t1.1 93 (3 + w) = u.1 (e + 11) w := by rw [a6 _ _ (by omega)]; exact l1
  have u11 : u2.1 (e + 11) w = u.1 (e + 11) w := by rw [Du2 _ _ (by omega), a4 _ _ (by omega)]
  have hp2 : PL u2.2.2 := by rw [Gu2.1]; exact hp
  have HAS : F_X1_has (e + 10) (nI w) u2 = some (u.1 (e + 11) w) := by
    unfold F_X1_has
    rw [Gu2.1, (PL_d hp hd).2.2.2.2.2.2.2.2.2.2.1, wR_d11 _ hd, wN_d11 _ hd w3, u11, wG_pos l2]
  have CL0 : F_X2_readLaw 36 u = wJ (X := wSt) (if u.1 (e + 11) w = 0 then (wC (F_X1_open (e + 10) (nI w) u2) (fun _ (u16 : wSt) => wR (u16.2.2 36 2) 5 (fun o17 => wC (F_X5_next o17 u16) (fun _ (u18 : wSt) => wB (w_sI u18 36 7 (0 : Int32)) (fun (u19 : wSt) => wB (w_sI u19 36 8 (0 : Int32)) (fun (u20 : wSt) => wJ (X := wSt) (wL (S := Int32 × Int32 × Int32 × wSt) (fun x => F_X2_readLaw_b111 36 x.1 x.2.1 x.2.2.1 x.2.2.2) wFu ((1 : Int32), (0 : Int32), (0 : Int32), u20)) (fun x => F_X2_readLaw_j176 36 x))))))) else (wC (F_X2_blame 36 (3 : Int32) u2) (fun _ (u40 : wSt) => some (.inr ((), u40))))) (fun x => F_X2_readLaw_j31 36 x) := by
    unfold F_X2_readLaw
    rw [p36_2 hp, wR_38, a1, wC_s, a3, p36_2 hp, wR_38, hk0, if_neg (fun z => absurd (e7.mp z) (by omega)), wR_38, hk0, if_pos (e9.mpr h79.2), wR_38, hk0, es7, wB_eq, ← hu2, Gu2.1, hR.2.2.2.1, wR_d0 _ hd, (PL_d hp hd).2.2.2.2.2.2.2.2.2.1, wR_d10 _ hd, Vu2, HAS, wP_s, wR_d0 _ hd, (PL_d hp hd).2.2.2.2.2.2.2.2.2.1, wR_d10 _ hd]
  have c7 : (nI kk < (7 : Int32)) = (kk < 7) := e7
  by_cases hT : u.1 (e + 11) w = 1
  · have CL : F_X2_readLaw 36 u = some ((), bl u2 3) := by
      rw [CL0, hT, if_neg n10, blame_c hp2 (by rw [Du2 _ _ (by omega)]; exact N1.1), wC_s, wJ_inr]
    have RF : lawT t = some (.inr (.inr ((0 : Int32), wr t1 3))) := by
      unfold lawT
      rw [a2, wC_s, if_pos y1, y2, if_neg (fun z => absurd (e7.mp z) (by omega)), if_pos (e9.mpr h79.2), ei, wB_eq, a5, qm31 hm, wR_93, wN_93 _ (by omega), t93, hT, if_neg n10, wrong_t, wC_s, wG_pos (Or.inl rfl), wJ_inr]
    exact ⟨_, _, CL, uG_tr Gu2 (uF_G bl_F), tG_tr Gt1 (tF_G wr_F), Or.inr (Or.inr ⟨RF, Bd_w (Tk_fr (u' := u2) (t' := t1) a7 (fun c j q => Du2 c j (by omega)) (fun _ _ _ => rfl)) x3⟩)⟩
  have hT0 : u.1 (e + 11) w = 0 := by
    rcases l2 with z | z
    · exact z
    · exact absurd z hT
  have hi1 := Tk_e R1 a7 hk0 k36 (by omega)
  have u10 : u2.1 (e + 10) 0 = nI p := by rw [Du2 _ _ (by omega), a4 _ _ (by omega)]; exact k1
  obtain ⟨u3, hu3⟩ : ∃ u3, u3 = w_sI u2 (e + 11) (w) (1) := ⟨_, rfl⟩
  have Gu3 : uG e u u3 := by rw [hu3]; exact uG_s Gu2 (by unfold rC; omega)
  have Du3 : ∀ a j, ¬ (a = e + 11 ∧ j = w) → u3.1 a j = u2.1 a j := fun a j q => by rw [hu3]; exact if_neg q
  have Vu3 : u3.1 (e + 11) (w) = 1 := by rw [hu3]; exact sI_eq _ _ _ _
  obtain ⟨u4, hu4⟩ : ∃ u4, u4 = w_sI u3 (e + 12) (w) (nI p) := ⟨_, rfl⟩
  have Gu4 : uG e u u4 := by rw [hu4]; exact uG_s Gu3 (by unfold rC; omega)
  have Du4 : ∀ a j, ¬ (a = e + 12 ∧ j = w) → u4.1 a j = u3.1 a j := fun a j q => by rw [hu4]; exact if_neg q
  have Vu4 : u4.1 (e + 12) (w) = nI p := by rw [hu4]; exact sI_eq _ _ _ _
  obtain ⟨u5, hu5⟩ : ∃ u5, u5 = w_sI u4 (e + 13) (w) (nI p) := ⟨_, rfl⟩
  have Gu5 : uG e u u5 := by rw [hu5]; exact uG_s Gu4 (by unfold rC; omega)
  have Du5 : ∀ a j, ¬ (a = e + 13 ∧ j = w) → u5.1 a j = u4.1 a j := fun a j q => by rw [hu5]; exact if_neg q
  have Vu5 : u5.1 (e + 13) (w) = nI p := by rw [hu5]; exact sI_eq _ _ _ _
  obtain ⟨t2, ht2⟩ : ∃ t2, t2 = w_sI t1 (93) (3 + w) (1) := ⟨_, rfl⟩
  have Gt2 : tG t t2 := by rw [ht2]; exact tG_s Gt1 (by unfold rT; omega)
  have Dt2 : ∀ a j, ¬ (a = 93 ∧ j = 3 + w) → t2.1 a j = t1.1 a j := fun a j q => by rw [ht2]; exact if_neg q
  have Vt2 : t2.1 (93) (3 + w) = 1 := by rw [ht2]; exact sI_eq _ _ _ _
  have u10a : u3.1 (e + 10) 0 = nI p := by rw [Du3 _ _ (by omega)]; exact u10
  have u10b : u4.1 (e + 10) 0 = nI p := by rw [Du4 _ _ (by omega)]; exact u10a
  have OP : F_X1_open (e + 10) (nI w) u2 = some ((), u5) := by
    unfold F_X1_open
    rw [Gu2.1, (PL_d hp hd).2.2.2.2.2.2.2.2.2.2.1, wR_d11 _ hd, wSZ_eq, wN_d11 _ hd w3, o11, ← hu3, Gu3.1, (PL_d hp hd).2.2.2.2.2.2.2.2.2.2.2.1, wR_d12 _ hd, u10a, wSI_eq, wN_d12 _ hd w3, ← hu4, Gu4.1, (PL_d hp hd).2.2.2.2.2.2.2.2.2.2.2.2.1, wR_d13 _ hd, u10b, wSI_eq, wN_d13 _ hd w3, ← hu5]
  obtain ⟨u6, t3, b1, b2, b3, b4, b5, b6, b7⟩ := tok_rl (Rd_fr hR Gu5 Gt2) (Tk_fr a7 (fun c j q => by rw [Du5 c j (by omega), Du4 c j (by omega), Du3 c j (by omega), Du2 c j (by omega)]) (fun j q r => Dt2 79 j (by omega))) hi1
  have Gu6 : uG e u u6 := uG_tr Gu5 ⟨b3, fun c j q => b4 c j (fun r => q (by unfold rC; omega))⟩
  have Gt3 : tG t t3 := tG_tr Gt2 ⟨b5, fun c j q => b6 c j (fun r => q (by unfold rT; omega))⟩
  obtain ⟨u7, hu7⟩ : ∃ u7, u7 = w_sI u6 (36) (7) (0) := ⟨_, rfl⟩
  have Gu7 : uG e u u7 := by rw [hu7]; exact uG_s Gu6 (by unfold rC; omega)
  have Du7 : ∀ a j, ¬ (a = 36 ∧ j = 7) → u7.1 a j = u6.1 a j := fun a j q => by rw [hu7]; exact if_neg q
  have Vu7 : u7.1 (36) (7) = 0 := by rw [hu7]; exact sI_eq _ _ _ _
  obtain ⟨u8, hu8⟩ : ∃ u8, u8 = w_sI u7 (36) (8) (0) := ⟨_, rfl⟩
  have Gu8 : uG e u u8 := by rw [hu8]; exact uG_s Gu7 (by unfold rC; omega)
  have Du8 : ∀ a j, ¬ (a = 36 ∧ j = 8) → u8.1 a j = u7.1 a j := fun a j q => by rw [hu8]; exact if_neg q
  have Vu8 : u8.1 (36) (8) = 0 := by rw [hu8]; exact sI_eq _ _ _ _
  obtain ⟨t4, ht4⟩ : ∃ t4, t4 = w_sI t3 (94) (3 + w) (nI p) := ⟨_, rfl⟩
  have Gt4 : tG t t4 := by rw [ht4]; exact tG_s Gt3 (by unfold rT; omega)
  have Dt4 : ∀ a j, ¬ (a = 94 ∧ j = 3 + w) → t4.1 a j = t3.1 a j := fun a j q => by rw [ht4]; exact if_neg q
  have Vt4 : t4.1 (94) (3 + w) = nI p := by rw [ht4]; exact sI_eq _ _ _ _
  obtain ⟨t5, ht5⟩ : ∃ t5, t5 = w_sI t4 (79) (40) (0) := ⟨_, rfl⟩
  have Gt5 : tG t t5 := by rw [ht5]; exact tG_s Gt4 (by unfold rT; omega)
  have Dt5 : ∀ a j, ¬ (a = 79 ∧ j = 40) → t5.1 a j = t4.1 a j := fun a j q => by rw [ht5]; exact if_neg q
  have Vt5 : t5.1 (79) (40) = 0 := by rw [ht5]; exact sI_eq _ _ _ _
  obtain ⟨t6, ht6⟩ : ∃ t6, t6 = w_sI t5 (79) (41) (0) := ⟨_, rfl⟩
  have Gt6 : tG t t6 := by rw [ht6]; exact tG_s Gt5 (by unfold rT; omega)
  have Dt6 : ∀ a j, ¬ (a = 79 ∧ j = 41) → t6.1 a j = t5.1 a j := fun a j q => by rw [ht6]; exact if_neg q
  have Vt6 : t6.1 (79) (41) = 0 := by rw [ht6]; exact sI_eq _ _ _ _
  obtain ⟨t7, ht7⟩ : ∃ t7, t7 = w_sI t6 (79) (42) (0) := ⟨_, rfl⟩
  have Gt7 : tG t t7 := by rw [ht7]; exact tG_s Gt6 (by unfold rT; omega)
  have Dt7 : ∀ a j, ¬ (a = 79 ∧ j = 42) → t7.1 a j = t6.1 a j := fun a j q => by rw [ht7]; exact if_neg q
  have Vt7 : t7.1 (79) (42) = 0 := by rw [ht7]; exact sI_eq _ _ _ _
  obtain ⟨t8, ht8⟩ : ∃ t8, t8 = w_sI t7 (79) (44) (1) := ⟨_, rfl⟩
  have Gt8 : tG t t8 := by rw [ht8]; exact tG_s Gt7 (by unfold rT; omega)
  have Dt8 : ∀ a j, ¬ (a = 79 ∧ j = 44) → t8.1 a j = t7.1 a j := fun a j q => by rw [ht8]; exact if_neg q
  have Vt8 : t8.1 (79) (44) = 1 := by rw [ht8]; exact sI_eq _ _ _ _
  obtain ⟨t9, ht9⟩ : ∃ t9, t9 = w_sI t8 (79) (45) (1) := ⟨_, rfl⟩
  have Gt9 : tG t t9 := by rw [ht9]; exact tG_s Gt8 (by unfold rT; omega)
  have Dt9 : ∀ a j, ¬ (a = 79 ∧ j = 45) → t9.1 a j = t8.1 a j := fun a j q => by rw [ht9]; exact if_neg q
  have Vt9 : t9.1 (79) (45) = 1 := by rw [ht9]; exact sI_eq _ _ _ _
  have t19 : t3.1 79 19 = nI p := by rw [b6 _ _ (by omega), Dt2 _ _ (by omega), a6 _ _ (by omega)]; exact k2
  have R9 := Rd_fr hR Gu8 Gt9
  have FU9 : ∀ c j, ¬ (c = 36 ∧ (j = 5 ∨ j = 7 ∨ j = 8)) → ¬ (c = 38 ∧ (j ≤ 2 ∨ j = 7)) → ¬ ((c = e + 11 ∨ c = e + 12 ∨ c = e + 13) ∧ j = w) → u8.1 c j = u.1 c j := fun c j z1 z2 z3 => by rw [Du8 c j (by omega), Du7 c j (by omega), b4 c j (by omega), Du5 c j (by omega), Du4 c j (by omega), Du3 c j (by omega), Du2 c j (by omega), a4 c j (by omega)]
  have FT9 : ∀ c j, ¬ (c = 79 ∧ ((7 ≤ j ∧ j ≤ 10) ∨ (40 ≤ j ∧ j ≤ 42) ∨ j = 44 ∨ j = 45)) → ¬ ((c = 93 ∨ c = 94) ∧ j = 3 + w) → t9.1 c j = t.1 c j := fun c j z1 z2 => by rw [Dt9 c j (by omega), Dt8 c j (by omega), Dt7 c j (by omega), Dt6 c j (by omega), Dt5 c j (by omega), Dt4 c j (by omega), b6 c j (by omega), Dt2 c j (by omega), a6 c j (by omega)]
  have LX : Lx n b ps s e (i + 1 + 1) w p p p [] [] u8 t9 := by
    refine ⟨R9, Tk_fr b7 (fun c j q => by rw [Du8 c j (by omega), Du7 c j (by omega)]) (fun j q r => by rw [Dt9 79 j (by omega), Dt8 79 j (by omega), Dt7 79 j (by omega), Dt6 79 j (by omega), Dt5 79 j (by omega), Dt4 79 j (by omega)]), ⟨by rw [FU9 _ _ (by omega) (by omega) (by omega)]; exact hf.1, by rw [FT9 _ _ (by omega) (by omega)]; exact hf.2.1, by rw [FT9 _ _ (by omega) (by omega)]; exact hf.2.2⟩, ⟨?_, ?_, ?_, ?_⟩, ⟨w3, ?_⟩, ⟨Vu8, ?_, trivial⟩, ⟨?_, trivial⟩, ⟨rfl, p6⟩, ⟨?_, ?_, by show 0 ≤ 8; omega⟩, ⟨Nat.le_refl p, fun _ => [], rfl, rfl, fun j z1 z2 => by omega⟩, ⟨?_, ?_, ?_, ?_, ?_⟩⟩
    · rw [FU9 _ _ (by omega) (by omega) (by omega)]; exact k1
    · rw [FT9 _ _ (by omega) (by omega)]; exact k2
    · rw [FU9 _ _ (by omega) (by omega) (by omega)]; exact k3
    · rw [FT9 _ _ (by omega) (by omega)]; exact k4
    · rw [Du8 _ _ (by omega), Du7 _ _ (by omega), b4 _ _ (by omega), Du5 _ _ (by omega), Du4 _ _ (by omega), Du3 _ _ (by omega)]; exact Vu2
    · rw [Dt9 _ _ (by omega), Dt8 _ _ (by omega), Dt7 _ _ (by omega), Dt6 _ _ (by omega)]; exact Vt5
    · rw [Dt9 _ _ (by omega), Dt8 _ _ (by omega), Dt7 _ _ (by omega)]; exact Vt6
    · rw [Du8 _ _ (by omega)]; exact Vu7
    · rw [Dt9 _ _ (by omega), Dt8 _ _ (by omega)]; exact Vt7
    · rw [Du8 _ _ (by omega), Du7 _ _ (by omega), b4 _ _ (by omega), Du5 _ _ (by omega), Du4 _ _ (by omega)]; exact Vu3
    · rw [Dt9 _ _ (by omega), Dt8 _ _ (by omega), Dt7 _ _ (by omega), Dt6 _ _ (by omega), Dt5 _ _ (by omega), Dt4 _ _ (by omega), b6 _ _ (by omega)]; exact Vt2
    · rw [Du8 _ _ (by omega), Du7 _ _ (by omega), b4 _ _ (by omega), Du5 _ _ (by omega)]; exact Vu4
    · rw [Du8 _ _ (by omega), Du7 _ _ (by omega), b4 _ _ (by omega)]; exact Vu5
    · rw [Dt9 _ _ (by omega), Dt8 _ _ (by omega), Dt7 _ _ (by omega), Dt6 _ _ (by omega), Dt5 _ _ (by omega)]; exact Vt4
  have hW : W1 [] [] t9 := ⟨rfl, by rw [Dt9 _ _ (by omega)]; exact Vt8, by
    rw [Vt9]
    exact (bI_t (show rk 0 < 4 by decide)).symm⟩
  obtain ⟨y, z, lr, lc, hE⟩ := lawrd_loop LX hW
  have CL1 : F_X2_readLaw 36 u = wJ (X := wSt) (wJ (X := wSt) (some z) (fun x => F_X2_readLaw_j176 36 x)) (fun x => F_X2_readLaw_j31 36 x) := by
    rw [CL0, hT0, if_pos z00, OP, wC_s, Gu5.1, p36_2 hp, wR_38, b1, wC_s, wB_eq, ← hu7, wB_eq, ← hu8, lc]
  have RF1 : ∀ (r : Int32) (tx : wSt), F_X9_sumRead 79 t4 = some (r, tx) → tx.2 = t.2 → lawT t = some (.inl (r, w_sI tx 95 (3 + w) (tx.1 79 19))) := fun r tx hs hz => by
    unfold lawT
    rw [a2, wC_s, if_pos y1, y2, if_neg (fun z => absurd (e7.mp z) (by omega)), if_pos (e9.mpr h79.2), ei, wB_eq, a5, qm31 hm, wR_93, wN_93 _ (by omega), t93, hT0, if_pos z00, wR_93, wSZ_eq, wN_93 _ (by omega), o11, ← ht2, b2, wC_s, Gt3.1, qm32 hm, wR_94, t19, wSI_eq, wN_94 _ (by omega), ← ht4, hs, wC_s, hz, qm33 hm, wR_95, wSI_eq, wN_95 _ (by omega), wJ_inr]
  have SR : F_X9_sumRead 79 t4 = wJ (X := wSt) (some y) (fun x => F_X9_sumRead_j74 79 x) := by
    unfold F_X9_sumRead
    rw [wB_eq, ← ht5, wB_eq, ← ht6, wB_eq, ← ht7, wB_eq, ← ht8, wB_eq, ← ht9, lr]
  rcases hE with ⟨tA, uA, iA, c, K, S, Lh, rfl, rfl, hiA, hxA, hwA, hnA, fuA, ftA⟩ | ⟨tA, uA, rfl, rfl, bd, bx, fuA, ftA⟩
  · obtain ⟨RA, kA, fA, gA⟩ := hxA
    obtain ⟨w1, w44, hh, hpK⟩ := hwA
    obtain ⟨uB', tB', K1, S1, L1, c1, c2, c3, c4, c5, c6, c7', c8, c9, c10⟩ := bind_rl (m := 1) RA.1 RA.2.1 hd RA.2.2.2.1 gA w1 hh hpK (by omega) (by omega)
    have c1' : F_X2_putDownFrom 36 (1 : Int32) uA = some ((), uB') := c1
    have c2' : F_X9_bind 79 (1 : Int32) tA = some ((), tB') := c2
    have hS1 : S1 = [] := by
      cases S1 with
      | nil => rfl
      | cons y r =>
        exfalso
        have ok := c5.2.2.1.2.2.1
        unfold okS at ok
        have r1 : rk y < 1 := c9
        have : ∀ y : Fin 15, (y.1 = 0 ∨ y.1 = 2 ∨ 3 ≤ y.1) → rk y.1 < 1 → y.1 = 0 := by decide +kernel
        have y0 := this ⟨y, by omega⟩ (by dsimp only; omega) r1
        dsimp only at y0
        rw [y0, hnA] at c10
        have : nPa (0 :: r) = 1 + nPa r := rfl
        omega
    subst hS1
    have CL : F_X2_readLaw 36 u = some ((), uB') := by
      rw [CL1, wJ_inl]
      unfold F_X2_readLaw_j176
      rw [c1', wC_s, wJ_inr]
    have SR1 : F_X9_sumRead 79 t4 = some ((1 : Int32), tB') := by
      rw [SR, wJ_inl]
      unfold F_X9_sumRead_j74
      rw [c2', wC_s]
    have Gt : tG t tB' := tG_tr Gt9 (tG_tr (tL_G ftA) (tL_G (tL_B c4)))
    have Gu : uG e u uB' := uG_tr Gu8 (uG_tr (uL_G fuA) (uL_G (uL_B c3)))
    have RF := RF1 1 tB' SR1 Gt.1
    obtain ⟨⟨m1, m2, m3, m4⟩, ⟨-, m5⟩, -, ⟨m6, m7⟩, ⟨m8, m9⟩, -, mP, ⟨v1, v2, v3, v4, v5⟩⟩ := c5
    rw [m2] at RF
    have KC : K1 = c := m8
    have FU : ∀ x j, ¬ (x = 36 ∧ (j ≤ 1 ∨ (5 ≤ j ∧ j ≤ 8))) → x ≠ 37 → ¬ (x = 38 ∧ (j ≤ 2 ∨ j = 7)) → ¬ (x = e + 10 ∧ j = 0) → ¬ ((x = e + 11 ∨ x = e + 12 ∨ x = e + 13) ∧ j = w) → ¬ ((x = e + 14 ∨ x = e + 15) ∧ p ≤ j) → uB'.1 x j = u.1 x j := fun x j z1 z2 z3 z4 z5 z6 => by
      rw [c3.2 x j (by omega) z4 (by omega) z6, fuA.2 x j (by unfold lC; omega)]
      exact FU9 x j (by omega) z3 z5
    have FT : ∀ x j, ¬ (x = 79 ∧ ((4 ≤ j ∧ j ≤ 5) ∨ (7 ≤ j ∧ j ≤ 11) ∨ j = 19 ∨ (40 ≤ j ∧ j ≤ 45))) → x ≠ 100 → x ≠ 101 → ¬ ((x = 93 ∨ x = 94) ∧ j = 3 + w) → ¬ ((x = 96 ∨ x = 98 ∨ x = 99) ∧ 64 + p ≤ j) → tB'.1 x j = t.1 x j := fun x j z1 z2 z3 z4 z5 => by
      rw [c4.2 x j (by omega) z3 z5, ftA.2 x j (by unfold lT; omega)]
      exact FT9 x j (by omega) z4
    obtain ⟨tz, htz⟩ : ∃ tz, tz = w_sI tB' 95 (3 + w) (nI K1) := ⟨_, rfl⟩
    have Dtz : ∀ x j, ¬ (x = 95 ∧ j = 3 + w) → tz.1 x j = tB'.1 x j := fun x j q => by rw [htz]; exact if_neg q
    have Gtz : tG t tz := by rw [htz]; exact tG_s Gt (by unfold rT; omega)
    rw [← htz] at RF
    refine ⟨uB', tz, CL, Gu, Gtz, Or.inl ⟨RF, iA, a, f, k, K1, by omega, Rd_fr hR Gu Gtz, ?_, ?_, ?_, ?_, ?_, ?_, ?_, ?_, ?_⟩⟩
    · exact Tk_fr kA (fun x j q => c3.2 x j (by omega) (by omega) (by omega) (by omega)) (fun j q r => by rw [Dtz _ _ (by omega), c4.2 _ _ (by omega) (by omega) (by omega)])
    · exact ⟨by rw [c3.2 _ _ (by omega) (by omega) (by omega) (by omega)]; exact fA.1, by rw [Dtz _ _ (by omega), c4.2 _ _ (by omega) (by omega) (by omega)]; exact fA.2.1, by rw [Dtz _ _ (by omega), c4.2 _ _ (by omega) (by omega) (by omega)]; exact fA.2.2⟩
    · exact TrG_fr hG (fun x j q => FU x j (by omega) (by omega) (by omega) (by omega) (by omega) (by omega)) (fun x j q => by rw [Dtz x j (by omega)]; exact FT x j (by omega) (by omega) (by omega) (by omega) (by omega))
    · exact TrF_fr hF (fun x j q => FU x j (by omega) (by omega) (by omega) (by omega) (by omega) (by omega)) (fun x j q => by rw [Dtz x j (by omega)]; exact FT x j (by omega) (by omega) (by omega) (by omega) (by omega))
    · exact TrB_fr hB (fun x j q => FU x j (by omega) (by omega) (by omega) (by omega) (by omega) (by omega)) (fun x j q => by rw [Dtz x j (by omega)]; exact FT x j (by omega) (by omega) (by omega) (by omega) (by omega))
    · exact TrO_fr hO (fun x j q => FU x j (by omega) (by omega) (by omega) (by omega) (by omega) (by omega)) (fun x j q => by rw [Dtz x j (by omega)]; exact FT x j (by omega) (by omega) (by omega) (by omega) (by omega))
    · refine ⟨by omega, fun v hv hv3 => ?_⟩
      by_cases q : v = w
      · rw [q, Dtz 93 _ (by omega), Dtz 94 _ (by omega), v1, v2, v3, v4, v5]
        refine ⟨rfl, Or.inr rfl, fun _ => ⟨p, K1, rfl, rfl, rfl, by rw [htz]; exact sI_eq _ _ _ _, Nat.le_refl K1, c8, by omega, ?_⟩⟩
        obtain ⟨-, s1, s2, s3, s4⟩ := mP
        obtain ⟨r, hr⟩ := c7'
        have hr0 : r = [] := by
          rw [hr] at c6
          have c6' : r.length + 1 = 0 + 1 := c6
          exact List.eq_nil_of_length_eq_zero (by omega)
        refine ⟨s1, s2, by rw [s3, hr, hr0], fun j z1 z2 => ?_⟩
        show Nd _ _ (tz.1 96 (64 + j)) (tz.1 98 (64 + j)) (tz.1 99 (64 + j)) _ _ _
        rw [Dtz 96 _ (by omega), Dtz 98 _ (by omega), Dtz 99 _ (by omega)]
        exact s4 j z1 z2
      · obtain ⟨n1, n2, n3⟩ := hL.2 v hv (by omega)
        rw [FU (e + 11) v (by omega) (by omega) (by omega) (by omega) (by omega) (by omega), FU (e + 12) v (by omega) (by omega) (by omega) (by omega) (by omega) (by omega), FU (e + 13) v (by omega) (by omega) (by omega) (by omega) (by omega) (by omega), Dtz 93 _ (by omega), Dtz 94 _ (by omega), Dtz 95 _ (by omega), FT 93 _ (by omega) (by omega) (by omega) (by omega) (by omega), FT 94 _ (by omega) (by omega) (by omega) (by omega) (by omega), FT 95 _ (by omega) (by omega) (by omega) (by omega) (by omega)]
        refine ⟨n1, n2, fun z => ?_⟩
        obtain ⟨x, y, g1, g2, g3, g4, g5, g6⟩ := n3 z
        exact ⟨x, y, g1, g2, g3, g4, by omega, Pg_fr g6 (fun j hj => ⟨FU (e + 14) j (by omega) (by omega) (by omega) (by omega) (by omega) (by omega), FU (e + 15) j (by omega) (by omega) (by omega) (by omega) (by omega) (by omega), (Dtz 96 _ (by omega)).trans (FT 96 _ (by omega) (by omega) (by omega) (by omega) (by omega)), (Dtz 98 _ (by omega)).trans (FT 98 _ (by omega) (by omega) (by omega) (by omega) (by omega)), (Dtz 99 _ (by omega)).trans (FT 99 _ (by omega) (by omega) (by omega) (by omega) (by omega))⟩)⟩
    · exact ⟨m1, by rw [Dtz _ _ (by omega)]; exact m2, by rw [KC]; exact m3, by rw [Dtz _ _ (by omega), KC]; exact m4⟩
    · rw [FU e 0 (by omega) (by omega) (by omega) (by omega) (by omega) (by omega)]
      exact h0
  · have RA : PL uA.2.2 := by rw [fuA.1, Gu8.1]; exact hp
    obtain ⟨uB', c1, c3⟩ := pd_b RA hd (by rw [fuA.1, Gu8.1]; exact hR.2.2.2.1) bx
    have CL : F_X2_readLaw 36 u = some ((), uB') := by
      rw [CL1, wJ_inl]
      unfold F_X2_readLaw_j176
      rw [c1, wC_s, wJ_inr]
    have Gt : tG t tA := tG_tr Gt9 (tL_G ftA)
    have RF := RF1 0 tA (by rw [SR, wJ_inr]) Gt.1
    refine ⟨uB', _, CL, uG_tr Gu8 (uG_tr (uL_G fuA) (uL_G (uL_B c3))), tG_s Gt (by unfold rT; omega), Or.inr (Or.inl ⟨RF, ?_⟩)⟩
    have bd' := Bd_f bd (c3.2 36 0 (by omega) (by omega) (by omega) (by omega)) (c3.2 36 1 (by omega) (by omega) (by omega) (by omega))
    unfold Bd at bd' ⊢
    rw [sI_ne _ _ _ _ _ _ (by decide), sI_ne _ _ _ _ _ _ (by decide)]
    exact bd'
end

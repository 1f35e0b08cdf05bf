/-! any line, and all lines -/
section
variable {n s e a f k p L i : Nat} {b ps : Nat → Nat} {u t u0 t0 : wSt}
theorem j95_b (hp : PL u.2.2) (h0 : u.1 36 0 ≠ 0) : F_X2_readLine_j95 36 u = some ((), u) := by
  unfold F_X2_readLine_j95 F_X2_readLine_j112
  rw [p36_2 hp, wR_38]
  by_cases q : u.1 38 0 = 32
  · rw [if_pos q, wJ_inl, if_neg h0]
  · rw [if_neg q, blame_b h0, wC_s, wJ_inl, if_neg h0]
theorem le_rl {r : Int32} (hp : PL u.2.2) (h : (r = 1 ∧ ∃ i' a f k p : Nat, i < i' ∧ Ls n b ps s e a f k p L i' u t) ∨ (r = 0 ∧ Bd u t)) : ∃ (u2 : wSt) (r2 : Int32) (t2 : wSt), F_X2_readLine_j95 36 u = some ((), u2) ∧ (∀ g : Unit → Option (Int32 × wSt), wJ (X := Unit) (F_X9_lineRead_j220 79 r t) g = some (r2, t2)) ∧ uG e u u2 ∧ tG t t2 ∧ ((r2 = 1 ∧ ∃ i' a f k p : Nat, i < i' ∧ Ls n b ps s e a f k p (L + 1) i' u2 t2) ∨ (r2 = 0 ∧ Bd u2 t2)) := by
  have n10 : ¬ (1 : Int32) = 0 := by decide
  have z00 : (0 : Int32) = 0 := rfl
  have x1 : (1 : Int32) ≠ 0 := by decide
  rcases h with ⟨rfl, i', a, f, k, p, hi', hLs⟩ | ⟨rfl, hb⟩
  rotate_left
  · refine ⟨u, 0, t, j95_b hp hb.1, fun g => ?_, uG_rf e u, tG_rf t, Or.inr ⟨rfl, hb⟩⟩
    unfold F_X9_lineRead_j220
    rw [if_pos z00, wJ_inr]
  obtain ⟨hR, hk, hf, hG, hF, hB, hO, hL, hK, h0⟩ := hLs
  have hd := hR.2.2.1
  have d1 := TC_le hd
  obtain ⟨kk, hk0, hN⟩ := Tk_k hk
  have k36 := hN.1
  have e32 : (nI kk = (32 : Int32)) = (kk = 32) := nI_eqI (a := kk) (b := 32) (by omega) (by omega)
  have sg : F_X9_isSign 79 (59 : Int32) t = some (bI (kk = 32)) := sgn_t (c := 32) hN (by omega)
  by_cases h32 : kk = 32
  rotate_left
  · have b0 := bl_ne (u := u) x1
    refine ⟨bl u 1, 0, wr t 1, ?_, fun g => ?_, uF_G bl_F, tF_G wr_F, Or.inr ⟨rfl, Bd_w hk x1⟩⟩
    · unfold F_X2_readLine_j95 F_X2_readLine_j112
      rw [p36_2 hp, wR_38, hk0, if_neg (fun z => absurd (e32.mp z) h32), blame_c hp hf.1, wC_s, wJ_inl, if_neg b0]
    · unfold F_X9_lineRead_j220
      rw [if_neg n10, sg, bI_f h32, wP_s, if_pos z00, wrong_h, wJ_inr]
  have hi := Tk_e hR hk hk0 k36 (by omega)
  obtain ⟨u1, hu1⟩ : ∃ u1, u1 = w_sI u e 0 (nI (L + 1)) := ⟨_, rfl⟩
  have Gu1 : uG e u u1 := by rw [hu1]; exact uG_s (uG_rf e u) (by unfold rC; omega)
  have Du1 : ∀ a j, ¬ (a = e ∧ j = 0) → u1.1 a j = u.1 a j := fun a j q => by rw [hu1]; exact if_neg q
  have Vu1 : u1.1 e 0 = nI (L + 1) := by rw [hu1]; exact sI_eq _ _ _ _
  obtain ⟨u2, t2, a1, a2, a3, a4, a5, a6, a7⟩ := tok_rl (Rd_fr hR Gu1 (tG_rf t)) (Tk_fr hk (fun c j q => Du1 c j (by omega)) (fun _ _ _ => rfl)) hi
  have Gu2 : uG e u u2 := uG_tr Gu1 ⟨a3, fun c j q => a4 c j (fun r => q (by unfold rC; omega))⟩
  have Gt2 : tG t t2 := ⟨a5, fun c j q => a6 c j (fun r => q (by unfold rT; omega))⟩
  have FU : ∀ c j, ¬ (c = e ∧ j = 0) → ¬ (c = 38 ∧ (j ≤ 2 ∨ j = 7)) → u2.1 c j = u.1 c j := fun c j q q' => (a4 c j q').trans (Du1 c j q)
  refine ⟨u2, 1, t2, ?_, fun g => ?_, Gu2, Gt2, Or.inl ⟨rfl, i' + 1, a, f, k, p, by omega, Rd_fr hR Gu2 Gt2, a7, ⟨by rw [FU _ _ (by omega) (by omega)]; exact hf.1, by rw [a6 _ _ (by omega)]; exact hf.2.1, by rw [a6 _ _ (by omega)]; exact hf.2.2⟩, TrG_fr hG (fun c j q => FU c j (by omega) (by omega)) (fun c j q => a6 c j (by omega)), TrF_fr hF (fun c j q => FU c j (by omega) (by omega)) (fun c j q => a6 c j (by omega)), TrB_fr hB (fun c j q => FU c j (by omega) (by omega)) (fun c j q => a6 c j (by omega)), TrO_fr hO (fun c j q => FU c j (by omega) (by omega)) (fun c j q => a6 c j (by omega)), TrL_f2 hL (fun c j q => FU c j (by omega) (by omega)) (fun c j q => a6 c j (by omega)), TrK_fr hK (fun c j q => FU c j (by omega) (by omega)) (fun j q => a6 79 j (by omega)), by rw [a4 e 0 (by omega)]; exact Vu1⟩⟩
  · unfold F_X2_readLine_j95 F_X2_readLine_j112
    rw [p36_2 hp, wR_38, hk0, if_pos (e32.mpr h32), wJ_inl, if_pos hf.1, hR.2.2.2.1, wR_d0 _ hd, h0, nI_addL, wB_eq, ← hu1, Gu1.1, p36_2 hp, wR_38, a1, wC_s]
  · unfold F_X9_lineRead_j220
    rw [if_neg n10, sg, bI_t h32, wP_s, if_neg n10, a2, wC_s, wJ_inr]
theorem line_rl (h : Ls n b ps s e a f k p L i u t) (hi : i < s) : ∃ (u' : wSt) (r : Int32) (t' : wSt), F_X2_readLine 36 u = some ((), u') ∧ F_X9_lineRead 79 t = some (r, t') ∧ uG e u u' ∧ tG t t' ∧ ((r = 1 ∧ ∃ i' a f k p : Nat, i < i' ∧ Ls n b ps s e a f k p (L + 1) i' u' t') ∨ (r = 0 ∧ Bd u' t')) := by
  have hR := h.1
  have hp := hR.1
  have hk := h.2.1
  have hf := h.2.2.1
  have x1 : (1 : Int32) ≠ 0 := by decide
  obtain ⟨kk, hk0, hN⟩ := Tk_k hk
  have k36 := hN.1
  by_cases h0 : kk = 0
  · obtain ⟨u1, r1, t1, c1, c2, c3, c4, c5⟩ := ln_g h hi
    obtain ⟨u2, r2, t2, d1, d2, d3, d4, d5⟩ := le_rl (L := L) (i := i) (by rw [c3.1]; exact hp) c5
    rw [h0] at hk0
    have y := hN.2.1 (by omega)
    rw [h0] at y
    have y2 : t.1 79 9 = nI 0 := y.2
    have CL : F_X2_readLine 36 u = some ((), u2) := by
      unfold F_X2_readLine
      rw [p36_2 hp, wR_38, wB_eq, hk0, if_pos (show nI 0 = (0 : Int32) from rfl), c1, wC_s, wJ_inl, d1]
    have RF : F_X9_lineRead 79 t = some (r2, t2) := by
      unfold F_X9_lineRead
      rw [if_pos y.1, y2, if_pos (show nI 0 ≤ (6 : Int32) by decide), wB_eq, if_pos (show nI 0 = (0 : Int32) from rfl), c2, wC_s, wJ_inl]
      exact d2 _
    exact ⟨u2, r2, t2, CL, RF, uG_tr c3 d3, tG_tr c4 d4, d5⟩
  by_cases h1 : kk = 1
  · obtain ⟨u1, r1, t1, c1, c2, c3, c4, c5⟩ := ln_f h hi
    obtain ⟨u2, r2, t2, d1, d2, d3, d4, d5⟩ := le_rl (L := L) (i := i) (by rw [c3.1]; exact hp) c5
    rw [h1] at hk0
    have y := hN.2.1 (by omega)
    rw [h1] at y
    have y2 : t.1 79 9 = nI 1 := y.2
    have CL : F_X2_readLine 36 u = some ((), u2) := by
      unfold F_X2_readLine
      rw [p36_2 hp, wR_38, wB_eq, hk0, if_neg (show ¬ nI 1 = (0 : Int32) by decide), if_pos (show nI 1 = (1 : Int32) from rfl), c1, wC_s, wJ_inl, d1]
    have RF : F_X9_lineRead 79 t = some (r2, t2) := by
      unfold F_X9_lineRead
      rw [if_pos y.1, y2, if_pos (show nI 1 ≤ (6 : Int32) by decide), wB_eq, if_neg (show ¬ nI 1 = (0 : Int32) by decide), if_pos (show nI 1 = (1 : Int32) from rfl), c2, wC_s, wJ_inl]
      exact d2 _
    exact ⟨u2, r2, t2, CL, RF, uG_tr c3 d3, tG_tr c4 d4, d5⟩
  by_cases h2 : kk = 2
  · obtain ⟨u1, r1, t1, c1, c2, c3, c4, c5⟩ := ln_b h hi
    obtain ⟨u2, r2, t2, d1, d2, d3, d4, d5⟩ := le_rl (L := L) (i := i) (by rw [c3.1]; exact hp) c5
    rw [h2] at hk0
    have y := hN.2.1 (by omega)
    rw [h2] at y
    have y2 : t.1 79 9 = nI 2 := y.2
    have CL : F_X2_readLine 36 u = some ((), u2) := by
      unfold F_X2_readLine
      rw [p36_2 hp, wR_38, wB_eq, hk0, if_neg (show ¬ nI 2 = (0 : Int32) by decide), if_neg (show ¬ nI 2 = (1 : Int32) by decide), if_pos (show nI 2 = (2 : Int32) from rfl), c1, wC_s, wJ_inl, d1]
    have RF : F_X9_lineRead 79 t = some (r2, t2) := by
      unfold F_X9_lineRead
      rw [if_pos y.1, y2, if_pos (show nI 2 ≤ (6 : Int32) by decide), wB_eq, if_neg (show ¬ nI 2 = (0 : Int32) by decide), if_neg (show ¬ nI 2 = (1 : Int32) by decide), if_pos (show nI 2 = (2 : Int32) from rfl), c2, wC_s, wJ_inl]
      exact d2 _
    exact ⟨u2, r2, t2, CL, RF, uG_tr c3 d3, tG_tr c4 d4, d5⟩
  by_cases h3 : kk = 3
  · obtain ⟨u1, r1, t1, c1, c2, c3, c4, c5⟩ := ln_o0 h hi
    obtain ⟨u2, r2, t2, d1, d2, d3, d4, d5⟩ := le_rl (L := L) (i := i) (by rw [c3.1]; exact hp) c5
    rw [h3] at hk0
    have y := hN.2.1 (by omega)
    rw [h3] at y
    have y2 : t.1 79 9 = nI 3 := y.2
    have CL : F_X2_readLine 36 u = some ((), u2) := by
      unfold F_X2_readLine
      rw [p36_2 hp, wR_38, wB_eq, hk0, if_neg (show ¬ nI 3 = (0 : Int32) by decide), if_neg (show ¬ nI 3 = (1 : Int32) by decide), if_neg (show ¬ nI 3 = (2 : Int32) by decide), if_pos (show nI 3 = (3 : Int32) ∨ nI 3 = (4 : Int32) ∨ nI 3 = (5 : Int32) by decide), wR_38, hk0, c1, wC_s, wJ_inl, d1]
    have RF : F_X9_lineRead 79 t = some (r2, t2) := by
      unfold F_X9_lineRead
      rw [if_pos y.1, y2, if_pos (show nI 3 ≤ (6 : Int32) by decide), wB_eq, if_neg (show ¬ nI 3 = (0 : Int32) by decide), if_neg (show ¬ nI 3 = (1 : Int32) by decide), if_neg (show ¬ nI 3 = (2 : Int32) by decide), if_pos (show nI 3 = (3 : Int32) from rfl), c2, wC_s, wJ_inl]
      exact d2 _
    exact ⟨u2, r2, t2, CL, RF, uG_tr c3 d3, tG_tr c4 d4, d5⟩
  by_cases h4 : kk = 4
  · obtain ⟨u1, r1, t1, c1, c2, c3, c4, c5⟩ := ln_o1 h hi
    obtain ⟨u2, r2, t2, d1, d2, d3, d4, d5⟩ := le_rl (L := L) (i := i) (by rw [c3.1]; exact hp) c5
    rw [h4] at hk0
    have y := hN.2.1 (by omega)
    rw [h4] at y
    have y2 : t.1 79 9 = nI 4 := y.2
    have CL : F_X2_readLine 36 u = some ((), u2) := by
      unfold F_X2_readLine
      rw [p36_2 hp, wR_38, wB_eq, hk0, if_neg (show ¬ nI 4 = (0 : Int32) by decide), if_neg (show ¬ nI 4 = (1 : Int32) by decide), if_neg (show ¬ nI 4 = (2 : Int32) by decide), if_pos (show nI 4 = (3 : Int32) ∨ nI 4 = (4 : Int32) ∨ nI 4 = (5 : Int32) by decide), wR_38, hk0, c1, wC_s, wJ_inl, d1]
    have RF : F_X9_lineRead 79 t = some (r2, t2) := by
      unfold F_X9_lineRead
      rw [if_pos y.1, y2, if_pos (show nI 4 ≤ (6 : Int32) by decide), wB_eq, if_neg (show ¬ nI 4 = (0 : Int32) by decide), if_neg (show ¬ nI 4 = (1 : Int32) by decide), if_neg (show ¬ nI 4 = (2 : Int32) by decide), if_neg (show ¬ nI 4 = (3 : Int32) by decide), if_pos (show nI 4 = (4 : Int32) from rfl), c2, wC_s, wJ_inl]
      exact d2 _
    exact ⟨u2, r2, t2, CL, RF, uG_tr c3 d3, tG_tr c4 d4, d5⟩
  by_cases h5 : kk = 5
  · obtain ⟨u1, r1, t1, c1, c2, c3, c4, c5⟩ := ln_o2 h hi
    obtain ⟨u2, r2, t2, d1, d2, d3, d4, d5⟩ := le_rl (L := L) (i := i) (by rw [c3.1]; exact hp) c5
    rw [h5] at hk0
    have y := hN.2.1 (by omega)
    rw [h5] at y
    have y2 : t.1 79 9 = nI 5 := y.2
    have CL : F_X2_readLine 36 u = some ((), u2) := by
      unfold F_X2_readLine
      rw [p36_2 hp, wR_38, wB_eq, hk0, if_neg (show ¬ nI 5 = (0 : Int32) by decide), if_neg (show ¬ nI 5 = (1 : Int32) by decide), if_neg (show ¬ nI 5 = (2 : Int32) by decide), if_pos (show nI 5 = (3 : Int32) ∨ nI 5 = (4 : Int32) ∨ nI 5 = (5 : Int32) by decide), wR_38, hk0, c1, wC_s, wJ_inl, d1]
    have RF : F_X9_lineRead 79 t = some (r2, t2) := by
      unfold F_X9_lineRead
      rw [if_pos y.1, y2, if_pos (show nI 5 ≤ (6 : Int32) by decide), wB_eq, if_neg (show ¬ nI 5 = (0 : Int32) by decide), if_neg (show ¬ nI 5 = (1 : Int32) by decide), if_neg (show ¬ nI 5 = (2 : Int32) by decide), if_neg (show ¬ nI 5 = (3 : Int32) by decide), if_neg (show ¬ nI 5 = (4 : Int32) by decide), if_pos (show nI 5 = (5 : Int32) from rfl), c2, wC_s, wJ_inl]
      exact d2 _
    exact ⟨u2, r2, t2, CL, RF, uG_tr c3 d3, tG_tr c4 d4, d5⟩
  by_cases h6 : kk = 6
  · obtain ⟨u1, t1, c1, c3, c4, c5⟩ := ln_l h hi
    rw [h6] at hk0
    have y := hN.2.1 (by omega)
    rw [h6] at y
    have y2 : t.1 79 9 = nI 6 := y.2
    have CL : F_X2_readLine 36 u = F_X2_readLine_j95 36 u1 := by
      unfold F_X2_readLine
      rw [p36_2 hp, wR_38, wB_eq, hk0, if_neg (show ¬ nI 6 = (0 : Int32) by decide), if_neg (show ¬ nI 6 = (1 : Int32) by decide), if_neg (show ¬ nI 6 = (2 : Int32) by decide), if_neg (show ¬ (nI 6 = (3 : Int32) ∨ nI 6 = (4 : Int32) ∨ nI 6 = (5 : Int32)) by decide), if_pos (show nI 6 = (6 : Int32) from rfl), c1, wC_s, wJ_inl]
    have RF : F_X9_lineRead 79 t = wJ (X := Unit) (wJ (X := Int32 × wSt) (lawT t) (fun x => F_X9_lineRead_j220 79 x.1 x.2)) (fun _ => F_X9_lineRead_j17 79 t) := by
      unfold F_X9_lineRead
      rw [if_pos y.1, y2, if_pos (show nI 6 ≤ (6 : Int32) by decide), wB_eq, if_neg (show ¬ nI 6 = (0 : Int32) by decide), if_neg (show ¬ nI 6 = (1 : Int32) by decide), if_neg (show ¬ nI 6 = (2 : Int32) by decide), if_neg (show ¬ nI 6 = (3 : Int32) by decide), if_neg (show ¬ nI 6 = (4 : Int32) by decide), if_neg (show ¬ nI 6 = (5 : Int32) by decide)]
      rfl
    have hp1 : PL u1.2.2 := by rw [c3.1]; exact hp
    rcases c5 with ⟨c6, c7⟩ | ⟨c6, c7⟩ | ⟨c6, c7⟩
    · obtain ⟨u2, r2, t2, d1, d2, d3, d4, d5⟩ := le_rl (L := L) (i := i) (r := 1) hp1 (Or.inl ⟨rfl, c7⟩)
      exact ⟨u2, r2, t2, by rw [CL]; exact d1, by rw [RF, c6, wJ_inl]; exact d2 _, uG_tr c3 d3, tG_tr c4 d4, d5⟩
    · obtain ⟨u2, r2, t2, d1, d2, d3, d4, d5⟩ := le_rl (n := n) (b := b) (ps := ps) (s := s) (e := e) (L := L) (i := i) (r := 0) hp1 (Or.inr ⟨rfl, c7⟩)
      exact ⟨u2, r2, t2, by rw [CL]; exact d1, by rw [RF, c6, wJ_inl]; exact d2 _, uG_tr c3 d3, tG_tr c4 d4, d5⟩
    · exact ⟨u1, 0, t1, by rw [CL]; exact j95_b hp1 c7.1, by rw [RF, c6, wJ_inr, wJ_inr], c3, c4, Or.inr ⟨rfl, c7⟩⟩
  have ek : ∀ c : Nat, c ≤ 6 → ¬ nI kk = nI c := fun c hc z => by
    rw [nI_eqI (by omega) (by omega)] at z
    omega
  have b0 := bl_ne (u := u) x1
  refine ⟨bl u 1, 0, wr t 1, ?_, ?_, uF_G bl_F, tF_G wr_F, Or.inr ⟨rfl, Bd_w hk x1⟩⟩
  · unfold F_X2_readLine
    rw [p36_2 hp, wR_38, wB_eq, hk0, if_neg (show ¬ nI kk = (0 : Int32) from ek 0 (by omega)), if_neg (show ¬ nI kk = (1 : Int32) from ek 1 (by omega)), if_neg (show ¬ nI kk = (2 : Int32) from ek 2 (by omega)), if_neg (show ¬ (nI kk = (3 : Int32) ∨ nI kk = (4 : Int32) ∨ nI kk = (5 : Int32)) from fun z => by
      rcases z with z | z | z
      · exact ek 3 (by omega) z
      · exact ek 4 (by omega) z
      · exact ek 5 (by omega) z), if_neg (show ¬ nI kk = (6 : Int32) from ek 6 (by omega)), blame_c hp hf.1, wC_s, wJ_inl]
    exact j95_b hp b0
  · unfold F_X9_lineRead F_X9_lineRead_j17
    by_cases h20 : kk < 20
    · obtain ⟨y1, y2⟩ := hN.2.1 h20
      have : ∀ k : Fin 20, 7 ≤ k.1 → 7 ≤ sw k.1 ∧ sw k.1 < 20 := by decide
      have z := this ⟨kk, h20⟩ (by dsimp only; omega)
      dsimp only at z
      have e6 : (nI (sw kk) ≤ (6 : Int32)) = (sw kk ≤ 6) := nI_leE (a := sw kk) (b := 6) (by omega) (by omega)
      rw [if_pos y1, y2, if_neg (fun y => absurd (e6.mp y) (by omega)), wJ_inl, wrong_g]
    · rw [if_neg (KN_1 hN (by omega)), wJ_inl, wrong_g]
def RE (n : Nat) (b ps : Nat → Nat) (s e : Nat) (u0 t0 : wSt) (y : (Int32 × wSt) ⊕ (Int32 × wSt)) (z : wSt ⊕ (Int32 × wSt)) : Prop :=
  (∃ (t1 u1 : wSt) (i a f k p L : Nat), y = .inl (nI L, t1) ∧ z = .inl u1 ∧ Ls n b ps s e a f k p L i u1 t1 ∧ uG e u0 u1 ∧ tG t0 t1) ∨
  (∃ (t1 u1 : wSt), y = .inr ((-1 : Int32), t1) ∧ z = .inl u1 ∧ Bd u1 t1 ∧ uG e u0 u1 ∧ tG t0 t1)
theorem rd_end {x : Int32} (hp : PL u.2.2) (h : u.1 36 0 ≠ 0 ∨ u.1 38 0 = 35) : F_X2_read_b37 36 x u = some (.inr (.inl u)) := by
  unfold F_X2_read_b37
  by_cases q : (700 : Int32) ≤ x
  · rw [if_pos q]
  · rw [if_neg q]
    by_cases q0 : u.1 36 0 = 0
    · rw [if_pos q0, p36_2 hp, wR_38, if_pos (by rcases h with h | h; exact absurd q0 h; exact h)]
    · rw [if_neg q0]
theorem rd_loop (h : Ls n b ps s e a f k p 0 0 u0 t0) : Rl (RE n b ps s e u0 t0) (wL (S := Int32 × wSt) (fun x => F_X9_text_b55 79 x.1 x.2) wFu ((0 : Int32), t0)) (wL (S := Int32 × wSt) (fun x => F_X2_read_b37 36 x.1 x.2) wFu ((0 : Int32), u0)) := by
  have n10 : ¬ (1 : Int32) = 0 := by decide
  have z00 : (0 : Int32) = 0 := rfl
  have s7 : s ≤ 700 := h.1.2.2.2.2.2.2.2.2.1
  refine wL_ex (fun L y x => ∃ (u t : wSt) (i a f k p : Nat), y = (nI L, t) ∧ x = (nI L, u) ∧ L ≤ i ∧ Ls n b ps s e a f k p L i u t ∧ uG e u0 u ∧ tG t0 t) (fun L y x => (∃ x', F_X2_read_b37 36 x.1 x.2 = some (.inl x') ∧ L < 701 ∧ ∃ z, F_X2_read_b37 36 x'.1 x'.2 = some (.inr z) ∧ RE n b ps s e u0 t0 y z) ∨ (∃ z, F_X2_read_b37 36 x.1 x.2 = some (.inr z) ∧ RE n b ps s e u0 t0 y z)) _ 701 (by unfold wFu; omega) ?_ ?_ ⟨u0, t0, 0, a, f, k, p, rfl, rfl, Nat.le_refl 0, h, uG_rf e u0, tG_rf t0⟩
  · rintro L y x hL ⟨u, t, i, a, f, k, p, rfl, rfl, hLi, hLs, gu, gt⟩
    have hR := hLs.1
    have hp := hR.1
    have hk := hLs.2.1
    have hf := hLs.2.2.1
    have i1 : i ≤ s := hk.1
    obtain ⟨kk, hk0, hN⟩ := Tk_k hk
    have k36 := hN.1
    have e35 : (nI kk = (35 : Int32)) = (kk = 35) := nI_eqI (a := kk) (b := 35) (by omega) (by omega)
    dsimp only
    by_cases h35 : kk = 35
    · right
      left
      refine ⟨.inl (nI L, t), .inl u, ?_, rd_end hp (Or.inr (by rw [hk0]; exact e35.mpr h35)), Or.inl ⟨t, u, i, a, f, k, p, L, rfl, rfl, hLs, gu, gt⟩⟩
      unfold F_X9_text_b55
      rw [if_pos (hN.2.2.2.2.2.2.1 h35)]
    · have hi := Tk_e hR hk hk0 k36 h35
      have e7 : ((700 : Int32) ≤ nI L) = (700 ≤ L) := nI_leE (a := 700) (b := L) (by omega) (by omega)
      obtain ⟨u', r, t', c1, c2, c3, c4, c5⟩ := line_rl hLs hi
      have CL : F_X2_read_b37 36 (nI L) u = some (.inl (nI (L + 1), u')) := by
        unfold F_X2_read_b37
        rw [if_neg (fun z => absurd (e7.mp z) (by omega)), if_pos hf.1, p36_2 hp, wR_38, hk0, if_neg (fun z => absurd (e35.mp z) h35), c1, wC_s, wB_eq, nI_addL]
      unfold F_X9_text_b55
      rw [if_neg (KN_0 hN h35), c2, wC_s]
      rcases c5 with ⟨rfl, i', a', f', k', p', hi', hLs'⟩ | ⟨rfl, hb⟩
      · left
        rw [if_neg n10, wB_eq, nI_addL]
        exact ⟨_, _, rfl, CL, by omega, u', t', i', a', f', k', p', rfl, rfl, by omega, hLs', uG_tr gu c3, tG_tr gt c4⟩
      · right
        right
        rw [if_pos z00]
        exact ⟨_, rfl, Or.inl ⟨_, CL, by omega, .inl u', rd_end (by rw [c3.1]; exact hp) (Or.inl hb.1), Or.inr ⟨t', u', rfl, rfl, hb, uG_tr gu c3, tG_tr gt c4⟩⟩⟩
  · rintro L y x hk (⟨x', h1, h2, h3⟩ | h)
    · exact Or.inl ⟨x', h1, h2, Or.inr h3⟩
    · exact Or.inr h
end

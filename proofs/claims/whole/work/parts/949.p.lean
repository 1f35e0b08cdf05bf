/-! lines of a text: guests and fruits -/
theorem p36_2 {R : Nat → Nat → Nat} (h : PL R) : R 36 2 = 39 := by simp only [PL_u h]
theorem qm20 {R : Nat → Nat → Nat} (h : PM R) : R 79 20 = 83 := by simp only [PM_u h]
theorem qm21 {R : Nat → Nat → Nat} (h : PM R) : R 79 21 = 84 := by simp only [PM_u h]
theorem qm22 {R : Nat → Nat → Nat} (h : PM R) : R 79 22 = 85 := by simp only [PM_u h]
theorem qm23 {R : Nat → Nat → Nat} (h : PM R) : R 79 23 = 86 := by simp only [PM_u h]
theorem qm24 {R : Nat → Nat → Nat} (h : PM R) : R 79 24 = 87 := by simp only [PM_u h]
theorem qm25 {R : Nat → Nat → Nat} (h : PM R) : R 79 25 = 88 := by simp only [PM_u h]
theorem qm26 {R : Nat → Nat → Nat} (h : PM R) : R 79 26 = 89 := by simp only [PM_u h]
theorem qm27 {R : Nat → Nat → Nat} (h : PM R) : R 79 27 = 90 := by simp only [PM_u h]
theorem qm28 {R : Nat → Nat → Nat} (h : PM R) : R 79 28 = 91 := by simp only [PM_u h]
theorem qm29 {R : Nat → Nat → Nat} (h : PM R) : R 79 29 = 92 := by simp only [PM_u h]
theorem qm30 {R : Nat → Nat → Nat} (h : PM R) : R 79 30 = 93 := by simp only [PM_u h]
section
variable {n s e a f k p L i : Nat} {b ps : Nat → Nat} {u t : wSt}
theorem ln_g (h : Ls n b ps s e a f k p L i u t) (hi : i < s) : Pl n b ps s e L i u t (F_X2_readGuest 36 u) (F_X9_guestLine 79 t) := by
  obtain ⟨hR, hk, hf, hG, hF, hB, hO, hL, hK, h0⟩ := h
  have hp := hR.1
  have hm := hR.2.1
  have hd := hR.2.2.1
  have d1 := TC_le hd
  have n10 : ¬ (1 : Int32) = 0 := by decide
  have w1 : (1 : Int32) ≠ 0 := by decide
  have w2 : (2 : Int32) ≠ 0 := by decide
  have w3 : (3 : Int32) ≠ 0 := by decide
  have w4 : (4 : Int32) ≠ 0 := by decide
  have hX := hG
  obtain ⟨g6, g1, g2, g3⟩ := hX
  have e6 : (nI a < (6 : Int32)) = (a < 6) := nI_ltE (a := a) (b := 6) (by omega) (by omega)
  have e6q : (nI a = (6 : Int32)) = (a = 6) := nI_eqI (a := a) (b := 6) (by omega) (by omega)
  unfold F_X2_readGuest F_X9_guestLine
  rw [hR.2.2.2.1, wR_d0 _ hd, wB_eq, g1, g2]
  by_cases ha : a = 6
  · rw [if_neg (fun z => absurd (e6.mp z) (by omega)), if_pos (e6q.mpr (by exact ha)), blame_c hp hf.1, wC_s, wrong_g]
    exact ⟨_, _, _, rfl, rfl, uF_G bl_F, tF_G wr_F, Or.inr ⟨rfl, Bd_w hk w2⟩⟩
  have ha6 : a < 6 := by omega
  obtain ⟨u1, t1, a1, a2, a3, a4, a5, a6, a7⟩ := tok_rl hR hk hi
  have G1 : uG e u u1 := ⟨a3, fun c j q => a4 c j (fun r => q (by unfold rC; omega))⟩
  have S1 : tG t t1 := ⟨a5, fun c j q => a6 c j (fun r => q (by unfold rT; omega))⟩
  have R1 := Rd_fr hR G1 S1
  have N1 : Nf u1 t1 := ⟨by rw [a4 36 0 (by omega)]; exact hf.1, by rw [a6 79 4 (by omega)]; exact hf.2.1, by rw [a6 79 5 (by omega)]; exact hf.2.2⟩
  have t16 : t1.1 79 16 = nI a := by rw [a6 79 16 (by omega)]; exact g2
  obtain ⟨x, x1, x2, x3⟩ := gn_rl (x := u1.1 38 2) (t := t1) R1.1 hd (by rw [a4 e 1 (by omega)]; exact g1) g6 (fun g hg => by rw [a4 (e + 1) g (by omega), a6 84 _ (by omega)]; exact (g3 g hg).1)
  obtain ⟨u2, r2, t2, b1, b2, b3, b4⟩ := name_rl (O := 84) (o := 6) (a := a) R1 a7 N1 (by unfold rT; omega) (by decide) x2 (by rcases x3 with q | ⟨j, q, q'⟩; exact Or.inl q; exact Or.inr ⟨j, by omega, q'⟩) (fun K => by rw [nI_add]; exact wN_84 K (by omega))
  have b2q : F_X9_newName 79 84 (6 : Int32) (nI a) t1 = some (r2, t2) := b2
  rw [if_pos (e6.mpr (by exact ha6)), if_neg (fun z => absurd (e6q.mp z) (by exact ha)), (p36_2 hp), wR_38, a1, wC_s, a3, hR.2.2.2.1, wR_d0 _ hd, (PL_d hp hd).1, wR_d1 _ hd, wR_d0 _ hd, (p36_2 hp), wR_38, x1, wP_s, b1, wC_s, wSI_eq, wN_d1 _ hd ha6]
  rw [a2, wC_s, a5, (qm22 hm), wR_84, t16, b2q, wC_s]
  have zu2 : u2.2 = u.2 := b3.1.trans a3
  have Gu2 : uG e u u2 := uG_tr G1 (uF_G b3)
  have Fu2 : ∀ c j, ¬ ((c = e ∧ j = 1) ∨ (e + 1 ≤ c ∧ c ≤ e + 4 ∧ j = a) ∨ (c = 36 ∧ j ≤ 1) ∨ (c = 38 ∧ (j ≤ 2 ∨ j = 7))) → u2.1 c j = u.1 c j := fun c j q => by rw [b3.2 c j (by omega) (by omega)]; exact a4 c j (by omega)
  have Ku2_e_1 : u2.1 (e) (1) = nI a := by rw [b3.2 _ _ (by omega) (by omega), a4 _ _ (by omega)]; exact g1
  obtain ⟨u3, hu3⟩ : ∃ u3, u3 = w_sI u2 (e + 1) (a) (u1.1 38 2) := ⟨_, rfl⟩
  rw [← hu3]
  have zu3 : u3.2 = u.2 := by rw [hu3]; exact zu2
  have Gu3 : uG e u u3 := by rw [hu3]; exact uG_s Gu2 (by unfold rC; omega)
  have Du3 : ∀ c j, ¬ (c = e + 1 ∧ j = a) → u3.1 c j = u2.1 c j := fun c j q => by rw [hu3]; exact if_neg q
  have Fu3 : ∀ c j, ¬ ((c = e ∧ j = 1) ∨ (e + 1 ≤ c ∧ c ≤ e + 4 ∧ j = a) ∨ (c = 36 ∧ j ≤ 1) ∨ (c = 38 ∧ (j ≤ 2 ∨ j = 7))) → u3.1 c j = u.1 c j := fun c j q => (Du3 c j (by omega)).trans (Fu2 c j q)
  have Ku3_e_1 : u3.1 (e) (1) = nI a := by rw [Du3 _ _ (by omega)]; exact Ku2_e_1
  have Ku3_ep1_a : u3.1 (e + 1) (a) = u1.1 38 2 := by rw [hu3]; exact sI_eq _ _ _ _
  rcases b4 with ⟨r2e, i1, c1, c2, c3, c4, c5⟩ | ⟨r2e, c1, c2⟩
  rotate_left
  · rw [r2e, if_pos rfl]
    have B3 : Bd u3 t2 := by rw [hu3]; exact Bd_s c1 (by omega)
    rw [zu3, hR.2.2.2.1, wR_d0 _ hd, (PL_d hp hd).2.1, wR_d2 _ hd, num_b (by rw [zu3]; exact hp) B3.1, wC_s, wSI_eq, wN_d2 _ hd ha6]
    obtain ⟨b0_0, hb0_0⟩ : ∃ b0_0, b0_0 = w_sI u3 (e + 2) (a) (u3.1 38 2) := ⟨_, rfl⟩
    rw [← hb0_0]
    have zb0_0 : b0_0.2 = u.2 := by rw [hb0_0]; exact zu3
    have Gb0_0 : uG e u b0_0 := by rw [hb0_0]; exact uG_s Gu3 (by unfold rC; omega)
    have Db0_0 : ∀ c j, ¬ (c = e + 2 ∧ j = a) → b0_0.1 c j = u3.1 c j := fun c j q => by rw [hb0_0]; exact if_neg q
    have Bb0_0 : Bd b0_0 t2 := by rw [hb0_0]; exact Bd_s B3 (by omega)
    rw [zb0_0, hR.2.2.2.1, wR_d0 _ hd, (PL_d hp hd).2.2.1, wR_d3 _ hd, num_b (by rw [zb0_0]; exact hp) Bb0_0.1, wC_s, wSI_eq, wN_d3 _ hd ha6]
    obtain ⟨b0_1, hb0_1⟩ : ∃ b0_1, b0_1 = w_sI b0_0 (e + 3) (a) (b0_0.1 38 2) := ⟨_, rfl⟩
    rw [← hb0_1]
    have zb0_1 : b0_1.2 = u.2 := by rw [hb0_1]; exact zb0_0
    have Gb0_1 : uG e u b0_1 := by rw [hb0_1]; exact uG_s Gb0_0 (by unfold rC; omega)
    have Db0_1 : ∀ c j, ¬ (c = e + 3 ∧ j = a) → b0_1.1 c j = b0_0.1 c j := fun c j q => by rw [hb0_1]; exact if_neg q
    have Bb0_1 : Bd b0_1 t2 := by rw [hb0_1]; exact Bd_s Bb0_0 (by omega)
    rw [zb0_1, hR.2.2.2.1, wR_d0 _ hd, (PL_d hp hd).2.2.2.1, wR_d4 _ hd, num_b (by rw [zb0_1]; exact hp) Bb0_1.1, wC_s, wSI_eq, wN_d4 _ hd ha6]
    obtain ⟨b0_2, hb0_2⟩ : ∃ b0_2, b0_2 = w_sI b0_1 (e + 4) (a) (b0_1.1 38 2) := ⟨_, rfl⟩
    rw [← hb0_2]
    have zb0_2 : b0_2.2 = u.2 := by rw [hb0_2]; exact zb0_1
    have Gb0_2 : uG e u b0_2 := by rw [hb0_2]; exact uG_s Gb0_1 (by unfold rC; omega)
    have Db0_2 : ∀ c j, ¬ (c = e + 4 ∧ j = a) → b0_2.1 c j = b0_1.1 c j := fun c j q => by rw [hb0_2]; exact if_neg q
    have Bb0_2 : Bd b0_2 t2 := by rw [hb0_2]; exact Bd_s Bb0_1 (by omega)
    rw [zb0_2, hR.2.2.2.1, wR_d0 _ hd, wB_eq]
    exact ⟨_, _, _, rfl, rfl, uG_s Gb0_2 (by unfold rC; omega), (tG_tr S1 (tF_G c2)), Or.inr ⟨rfl, Bd_s Bb0_2 (by omega)⟩⟩
  have zt2 : t2.2 = t.2 := c2.trans a5
  have St2 : tG t t2 := tG_tr S1 ⟨c2, fun c j q => c3 c j (fun r => q (by unfold rT; omega)) (fun r => q (by unfold rT; omega))⟩
  have Ft2 : ∀ c j, ¬ ((c = 79 ∧ ((4 ≤ j ∧ j ≤ 5) ∨ (7 ≤ j ∧ j ≤ 11) ∨ j = 16)) ∨ (84 ≤ c ∧ c ≤ 87 ∧ j = 6 + a)) → t2.1 c j = t.1 c j := fun c j q => by rw [c3 c j (by omega) (by omega)]; exact a6 c j (by omega)
  have Kt2_79_16 : t2.1 (79) (16) = nI a := by rw [c3 _ _ (by omega) (by omega)]; exact t16
  have Kt2_84_6pa : t2.1 (84) (6 + a) = u1.1 38 2 := c1
  have R3 := Rd_fr hR Gu3 St2
  have T3 : Tk ps s (i + 1 + 1) u3 t2 := Tk_fr c4 (fun c j q => Du3 c j (by omega)) (fun _ _ _ => rfl)
  have N3 : Nf u3 t2 := ⟨by rw [Du3 _ _ (by omega)]; exact c5.1, c5.2⟩
  rw [r2e, if_neg n10, Kt2_79_16, wB_eq, nI_Ladd]
  obtain ⟨v0, y0, o0, s0, m1_0, m2_0, m3_0, m4_0, m5_0⟩ := num_rl (lo := 0) (hi := 99) R3 T3 N3 (by omega) (by omega)
  have m1q0 : F_X2_takeNumber 36 (0 : Int32) (99 : Int32) u3 = some (v0, y0) := m1_0
  have m2q0 : F_X9_number 79 (0 : Int32) (99 : Int32) t2 = some (o0, s0) := m2_0
  rw [zu3, hR.2.2.2.1, wR_d0 _ hd, (PL_d hp hd).2.1, wR_d2 _ hd, m1q0, wC_s, wSI_eq, wN_d2 _ hd ha6, m2q0, wC_s]
  have zy0 : y0.2 = u.2 := m3_0.1.trans zu3
  have Gy0 : uG e u y0 := uG_tr Gu3 (uF_G m3_0)
  have Fy0 : ∀ c j, ¬ ((c = e ∧ j = 1) ∨ (e + 1 ≤ c ∧ c ≤ e + 4 ∧ j = a) ∨ (c = 36 ∧ j ≤ 1) ∨ (c = 38 ∧ (j ≤ 2 ∨ j = 7))) → y0.1 c j = u.1 c j := fun c j q => by rw [m3_0.2 c j (by omega) (by omega)]; exact Fu3 c j q
  have Ky0_e_1 : y0.1 (e) (1) = nI a := by rw [m3_0.2 _ _ (by omega) (by omega)]; exact Ku3_e_1
  have Ky0_ep1_a : y0.1 (e + 1) (a) = u1.1 38 2 := by rw [m3_0.2 _ _ (by omega) (by omega)]; exact Ku3_ep1_a
  have zs0 : s0.2 = t.2 := m4_0.1.trans zt2
  have Ss0 : tG t s0 := tG_tr St2 (tF_G m4_0)
  have Fs0 : ∀ c j, ¬ ((c = 79 ∧ ((4 ≤ j ∧ j ≤ 5) ∨ (7 ≤ j ∧ j ≤ 11) ∨ j = 16)) ∨ (84 ≤ c ∧ c ≤ 87 ∧ j = 6 + a)) → s0.1 c j = t.1 c j := fun c j q => by rw [m4_0.2 c j (by omega)]; exact Ft2 c j q
  have Ks0_79_16 : s0.1 (79) (16) = nI a := by rw [m4_0.2 _ _ (by omega)]; exact Kt2_79_16
  have Ks0_84_6pa : s0.1 (84) (6 + a) = u1.1 38 2 := by rw [m4_0.2 _ _ (by omega)]; exact Kt2_84_6pa
  obtain ⟨x0, hx0⟩ : ∃ x0, x0 = w_sI y0 (e + 2) (a) (v0) := ⟨_, rfl⟩
  rw [← hx0]
  have zx0 : x0.2 = u.2 := by rw [hx0]; exact zy0
  have Gx0 : uG e u x0 := by rw [hx0]; exact uG_s Gy0 (by unfold rC; omega)
  have Dx0 : ∀ c j, ¬ (c = e + 2 ∧ j = a) → x0.1 c j = y0.1 c j := fun c j q => by rw [hx0]; exact if_neg q
  have Fx0 : ∀ c j, ¬ ((c = e ∧ j = 1) ∨ (e + 1 ≤ c ∧ c ≤ e + 4 ∧ j = a) ∨ (c = 36 ∧ j ≤ 1) ∨ (c = 38 ∧ (j ≤ 2 ∨ j = 7))) → x0.1 c j = u.1 c j := fun c j q => (Dx0 c j (by omega)).trans (Fy0 c j q)
  have Kx0_e_1 : x0.1 (e) (1) = nI a := by rw [Dx0 _ _ (by omega)]; exact Ky0_e_1
  have Kx0_ep1_a : x0.1 (e + 1) (a) = u1.1 38 2 := by rw [Dx0 _ _ (by omega)]; exact Ky0_ep1_a
  have Kx0_ep2_a : x0.1 (e + 2) (a) = v0 := by rw [hx0]; exact sI_eq _ _ _ _
  rcases m5_0 with ⟨oe0, il0, ⟨q0n, ql0, qh0, qe0⟩, g11_0, kk0, nn0⟩ | ⟨oe0, bb0⟩
  rotate_left
  · rw [oe0, if_pos rfl]
    have Bx0 : Bd x0 s0 := by rw [hx0]; exact Bd_s bb0 (by omega)
    rw [zx0, hR.2.2.2.1, wR_d0 _ hd, (PL_d hp hd).2.2.1, wR_d3 _ hd, num_b (by rw [zx0]; exact hp) Bx0.1, wC_s, wSI_eq, wN_d3 _ hd ha6]
    obtain ⟨b1_1, hb1_1⟩ : ∃ b1_1, b1_1 = w_sI x0 (e + 3) (a) (x0.1 38 2) := ⟨_, rfl⟩
    rw [← hb1_1]
    have zb1_1 : b1_1.2 = u.2 := by rw [hb1_1]; exact zx0
    have Gb1_1 : uG e u b1_1 := by rw [hb1_1]; exact uG_s Gx0 (by unfold rC; omega)
    have Db1_1 : ∀ c j, ¬ (c = e + 3 ∧ j = a) → b1_1.1 c j = x0.1 c j := fun c j q => by rw [hb1_1]; exact if_neg q
    have Bb1_1 : Bd b1_1 s0 := by rw [hb1_1]; exact Bd_s Bx0 (by omega)
    rw [zb1_1, hR.2.2.2.1, wR_d0 _ hd, (PL_d hp hd).2.2.2.1, wR_d4 _ hd, num_b (by rw [zb1_1]; exact hp) Bb1_1.1, wC_s, wSI_eq, wN_d4 _ hd ha6]
    obtain ⟨b1_2, hb1_2⟩ : ∃ b1_2, b1_2 = w_sI b1_1 (e + 4) (a) (b1_1.1 38 2) := ⟨_, rfl⟩
    rw [← hb1_2]
    have zb1_2 : b1_2.2 = u.2 := by rw [hb1_2]; exact zb1_1
    have Gb1_2 : uG e u b1_2 := by rw [hb1_2]; exact uG_s Gb1_1 (by unfold rC; omega)
    have Db1_2 : ∀ c j, ¬ (c = e + 4 ∧ j = a) → b1_2.1 c j = b1_1.1 c j := fun c j q => by rw [hb1_2]; exact if_neg q
    have Bb1_2 : Bd b1_2 s0 := by rw [hb1_2]; exact Bd_s Bb1_1 (by omega)
    rw [zb1_2, hR.2.2.2.1, wR_d0 _ hd, wB_eq]
    exact ⟨_, _, _, rfl, rfl, uG_s Gb1_2 (by unfold rC; omega), Ss0, Or.inr ⟨rfl, Bd_s Bb1_2 (by omega)⟩⟩
  rw [oe0, if_neg n10, zs0, (qm23 hm), wR_85, wSI_eq, wN_85 _ (by omega), g11_0]
  obtain ⟨k0, hk0⟩ : ∃ k0, k0 = w_sI s0 (85) (6 + a) (v0) := ⟨_, rfl⟩
  rw [← hk0]
  have zk0 : k0.2 = t.2 := by rw [hk0]; exact zs0
  have Sk0 : tG t k0 := by rw [hk0]; exact tG_s Ss0 (by unfold rT; omega)
  have Dk0 : ∀ c j, ¬ (c = 85 ∧ j = 6 + a) → k0.1 c j = s0.1 c j := fun c j q => by rw [hk0]; exact if_neg q
  have Fk0 : ∀ c j, ¬ ((c = 79 ∧ ((4 ≤ j ∧ j ≤ 5) ∨ (7 ≤ j ∧ j ≤ 11) ∨ j = 16)) ∨ (84 ≤ c ∧ c ≤ 87 ∧ j = 6 + a)) → k0.1 c j = t.1 c j := fun c j q => (Dk0 c j (by omega)).trans (Fs0 c j q)
  have Kk0_79_16 : k0.1 (79) (16) = nI a := by rw [Dk0 _ _ (by omega)]; exact Ks0_79_16
  have Kk0_84_6pa : k0.1 (84) (6 + a) = u1.1 38 2 := by rw [Dk0 _ _ (by omega)]; exact Ks0_84_6pa
  have Kk0_85_6pa : k0.1 (85) (6 + a) = v0 := by rw [hk0]; exact sI_eq _ _ _ _
  have Rx0 := Rd_fr hR Gx0 Sk0
  have Tx0 : Tk ps s (i + 1 + 1 + 1) x0 k0 := Tk_fr kk0 (fun c j q => Dx0 c j (by omega)) (fun j q r => Dk0 79 j (by omega))
  have Nx0 : Nf x0 k0 := ⟨by rw [Dx0 _ _ (by omega)]; exact nn0.1, by rw [Dk0 _ _ (by omega)]; exact nn0.2.1, by rw [Dk0 _ _ (by omega)]; exact nn0.2.2⟩
  obtain ⟨v1, y1, o1, s1, m1_1, m2_1, m3_1, m4_1, m5_1⟩ := num_rl (lo := 0) (hi := 98) Rx0 Tx0 Nx0 (by omega) (by omega)
  have m1q1 : F_X2_takeNumber 36 (0 : Int32) (98 : Int32) x0 = some (v1, y1) := m1_1
  have m2q1 : F_X9_number 79 (0 : Int32) (98 : Int32) k0 = some (o1, s1) := m2_1
  rw [zx0, hR.2.2.2.1, wR_d0 _ hd, (PL_d hp hd).2.2.1, wR_d3 _ hd, m1q1, wC_s, wSI_eq, wN_d3 _ hd ha6, m2q1, wC_s]
  have zy1 : y1.2 = u.2 := m3_1.1.trans zx0
  have Gy1 : uG e u y1 := uG_tr Gx0 (uF_G m3_1)
  have Fy1 : ∀ c j, ¬ ((c = e ∧ j = 1) ∨ (e + 1 ≤ c ∧ c ≤ e + 4 ∧ j = a) ∨ (c = 36 ∧ j ≤ 1) ∨ (c = 38 ∧ (j ≤ 2 ∨ j = 7))) → y1.1 c j = u.1 c j := fun c j q => by rw [m3_1.2 c j (by omega) (by omega)]; exact Fx0 c j q
  have Ky1_e_1 : y1.1 (e) (1) = nI a := by rw [m3_1.2 _ _ (by omega) (by omega)]; exact Kx0_e_1
  have Ky1_ep1_a : y1.1 (e + 1) (a) = u1.1 38 2 := by rw [m3_1.2 _ _ (by omega) (by omega)]; exact Kx0_ep1_a
  have Ky1_ep2_a : y1.1 (e + 2) (a) = v0 := by rw [m3_1.2 _ _ (by omega) (by omega)]; exact Kx0_ep2_a
  have zs1 : s1.2 = t.2 := m4_1.1.trans zk0
  have Ss1 : tG t s1 := tG_tr Sk0 (tF_G m4_1)
  have Fs1 : ∀ c j, ¬ ((c = 79 ∧ ((4 ≤ j ∧ j ≤ 5) ∨ (7 ≤ j ∧ j ≤ 11) ∨ j = 16)) ∨ (84 ≤ c ∧ c ≤ 87 ∧ j = 6 + a)) → s1.1 c j = t.1 c j := fun c j q => by rw [m4_1.2 c j (by omega)]; exact Fk0 c j q
  have Ks1_79_16 : s1.1 (79) (16) = nI a := by rw [m4_1.2 _ _ (by omega)]; exact Kk0_79_16
  have Ks1_84_6pa : s1.1 (84) (6 + a) = u1.1 38 2 := by rw [m4_1.2 _ _ (by omega)]; exact Kk0_84_6pa
  have Ks1_85_6pa : s1.1 (85) (6 + a) = v0 := by rw [m4_1.2 _ _ (by omega)]; exact Kk0_85_6pa
  obtain ⟨x1, hx1⟩ : ∃ x1, x1 = w_sI y1 (e + 3) (a) (v1) := ⟨_, rfl⟩
  rw [← hx1]
  have zx1 : x1.2 = u.2 := by rw [hx1]; exact zy1
  have Gx1 : uG e u x1 := by rw [hx1]; exact uG_s Gy1 (by unfold rC; omega)
  have Dx1 : ∀ c j, ¬ (c = e + 3 ∧ j = a) → x1.1 c j = y1.1 c j := fun c j q => by rw [hx1]; exact if_neg q
  have Fx1 : ∀ c j, ¬ ((c = e ∧ j = 1) ∨ (e + 1 ≤ c ∧ c ≤ e + 4 ∧ j = a) ∨ (c = 36 ∧ j ≤ 1) ∨ (c = 38 ∧ (j ≤ 2 ∨ j = 7))) → x1.1 c j = u.1 c j := fun c j q => (Dx1 c j (by omega)).trans (Fy1 c j q)
  have Kx1_e_1 : x1.1 (e) (1) = nI a := by rw [Dx1 _ _ (by omega)]; exact Ky1_e_1
  have Kx1_ep1_a : x1.1 (e + 1) (a) = u1.1 38 2 := by rw [Dx1 _ _ (by omega)]; exact Ky1_ep1_a
  have Kx1_ep2_a : x1.1 (e + 2) (a) = v0 := by rw [Dx1 _ _ (by omega)]; exact Ky1_ep2_a
  have Kx1_ep3_a : x1.1 (e + 3) (a) = v1 := by rw [hx1]; exact sI_eq _ _ _ _
  rcases m5_1 with ⟨oe1, il1, ⟨q1n, ql1, qh1, qe1⟩, g11_1, kk1, nn1⟩ | ⟨oe1, bb1⟩
  rotate_left
  · rw [oe1, if_pos rfl]
    have Bx1 : Bd x1 s1 := by rw [hx1]; exact Bd_s bb1 (by omega)
    rw [zx1, hR.2.2.2.1, wR_d0 _ hd, (PL_d hp hd).2.2.2.1, wR_d4 _ hd, num_b (by rw [zx1]; exact hp) Bx1.1, wC_s, wSI_eq, wN_d4 _ hd ha6]
    obtain ⟨b2_2, hb2_2⟩ : ∃ b2_2, b2_2 = w_sI x1 (e + 4) (a) (x1.1 38 2) := ⟨_, rfl⟩
    rw [← hb2_2]
    have zb2_2 : b2_2.2 = u.2 := by rw [hb2_2]; exact zx1
    have Gb2_2 : uG e u b2_2 := by rw [hb2_2]; exact uG_s Gx1 (by unfold rC; omega)
    have Db2_2 : ∀ c j, ¬ (c = e + 4 ∧ j = a) → b2_2.1 c j = x1.1 c j := fun c j q => by rw [hb2_2]; exact if_neg q
    have Bb2_2 : Bd b2_2 s1 := by rw [hb2_2]; exact Bd_s Bx1 (by omega)
    rw [zb2_2, hR.2.2.2.1, wR_d0 _ hd, wB_eq]
    exact ⟨_, _, _, rfl, rfl, uG_s Gb2_2 (by unfold rC; omega), Ss1, Or.inr ⟨rfl, Bd_s Bb2_2 (by omega)⟩⟩
  rw [oe1, if_neg n10, zs1, (qm24 hm), wR_86, wSI_eq, wN_86 _ (by omega), g11_1]
  obtain ⟨k1, hk1⟩ : ∃ k1, k1 = w_sI s1 (86) (6 + a) (v1) := ⟨_, rfl⟩
  rw [← hk1]
  have zk1 : k1.2 = t.2 := by rw [hk1]; exact zs1
  have Sk1 : tG t k1 := by rw [hk1]; exact tG_s Ss1 (by unfold rT; omega)
  have Dk1 : ∀ c j, ¬ (c = 86 ∧ j = 6 + a) → k1.1 c j = s1.1 c j := fun c j q => by rw [hk1]; exact if_neg q
  have Fk1 : ∀ c j, ¬ ((c = 79 ∧ ((4 ≤ j ∧ j ≤ 5) ∨ (7 ≤ j ∧ j ≤ 11) ∨ j = 16)) ∨ (84 ≤ c ∧ c ≤ 87 ∧ j = 6 + a)) → k1.1 c j = t.1 c j := fun c j q => (Dk1 c j (by omega)).trans (Fs1 c j q)
  have Kk1_79_16 : k1.1 (79) (16) = nI a := by rw [Dk1 _ _ (by omega)]; exact Ks1_79_16
  have Kk1_84_6pa : k1.1 (84) (6 + a) = u1.1 38 2 := by rw [Dk1 _ _ (by omega)]; exact Ks1_84_6pa
  have Kk1_85_6pa : k1.1 (85) (6 + a) = v0 := by rw [Dk1 _ _ (by omega)]; exact Ks1_85_6pa
  have Kk1_86_6pa : k1.1 (86) (6 + a) = v1 := by rw [hk1]; exact sI_eq _ _ _ _
  have Rx1 := Rd_fr hR Gx1 Sk1
  have Tx1 : Tk ps s (i + 1 + 1 + 1 + 1) x1 k1 := Tk_fr kk1 (fun c j q => Dx1 c j (by omega)) (fun j q r => Dk1 79 j (by omega))
  have Nx1 : Nf x1 k1 := ⟨by rw [Dx1 _ _ (by omega)]; exact nn1.1, by rw [Dk1 _ _ (by omega)]; exact nn1.2.1, by rw [Dk1 _ _ (by omega)]; exact nn1.2.2⟩
  obtain ⟨v2, y2, o2, s2, m1_2, m2_2, m3_2, m4_2, m5_2⟩ := num_rl (lo := 0) (hi := 9) Rx1 Tx1 Nx1 (by omega) (by omega)
  have m1q2 : F_X2_takeNumber 36 (0 : Int32) (9 : Int32) x1 = some (v2, y2) := m1_2
  have m2q2 : F_X9_number 79 (0 : Int32) (9 : Int32) k1 = some (o2, s2) := m2_2
  rw [zx1, hR.2.2.2.1, wR_d0 _ hd, (PL_d hp hd).2.2.2.1, wR_d4 _ hd, m1q2, wC_s, wSI_eq, wN_d4 _ hd ha6, m2q2, wC_s]
  have zy2 : y2.2 = u.2 := m3_2.1.trans zx1
  have Gy2 : uG e u y2 := uG_tr Gx1 (uF_G m3_2)
  have Fy2 : ∀ c j, ¬ ((c = e ∧ j = 1) ∨ (e + 1 ≤ c ∧ c ≤ e + 4 ∧ j = a) ∨ (c = 36 ∧ j ≤ 1) ∨ (c = 38 ∧ (j ≤ 2 ∨ j = 7))) → y2.1 c j = u.1 c j := fun c j q => by rw [m3_2.2 c j (by omega) (by omega)]; exact Fx1 c j q
  have Ky2_e_1 : y2.1 (e) (1) = nI a := by rw [m3_2.2 _ _ (by omega) (by omega)]; exact Kx1_e_1
  have Ky2_ep1_a : y2.1 (e + 1) (a) = u1.1 38 2 := by rw [m3_2.2 _ _ (by omega) (by omega)]; exact Kx1_ep1_a
  have Ky2_ep2_a : y2.1 (e + 2) (a) = v0 := by rw [m3_2.2 _ _ (by omega) (by omega)]; exact Kx1_ep2_a
  have Ky2_ep3_a : y2.1 (e + 3) (a) = v1 := by rw [m3_2.2 _ _ (by omega) (by omega)]; exact Kx1_ep3_a
  have zs2 : s2.2 = t.2 := m4_2.1.trans zk1
  have Ss2 : tG t s2 := tG_tr Sk1 (tF_G m4_2)
  have Fs2 : ∀ c j, ¬ ((c = 79 ∧ ((4 ≤ j ∧ j ≤ 5) ∨ (7 ≤ j ∧ j ≤ 11) ∨ j = 16)) ∨ (84 ≤ c ∧ c ≤ 87 ∧ j = 6 + a)) → s2.1 c j = t.1 c j := fun c j q => by rw [m4_2.2 c j (by omega)]; exact Fk1 c j q
  have Ks2_79_16 : s2.1 (79) (16) = nI a := by rw [m4_2.2 _ _ (by omega)]; exact Kk1_79_16
  have Ks2_84_6pa : s2.1 (84) (6 + a) = u1.1 38 2 := by rw [m4_2.2 _ _ (by omega)]; exact Kk1_84_6pa
  have Ks2_85_6pa : s2.1 (85) (6 + a) = v0 := by rw [m4_2.2 _ _ (by omega)]; exact Kk1_85_6pa
  have Ks2_86_6pa : s2.1 (86) (6 + a) = v1 := by rw [m4_2.2 _ _ (by omega)]; exact Kk1_86_6pa
  obtain ⟨x2, hx2⟩ : ∃ x2, x2 = w_sI y2 (e + 4) (a) (v2) := ⟨_, rfl⟩
  rw [← hx2]
  have zx2 : x2.2 = u.2 := by rw [hx2]; exact zy2
  have Gx2 : uG e u x2 := by rw [hx2]; exact uG_s Gy2 (by unfold rC; omega)
  have Dx2 : ∀ c j, ¬ (c = e + 4 ∧ j = a) → x2.1 c j = y2.1 c j := fun c j q => by rw [hx2]; exact if_neg q
  have Fx2 : ∀ c j, ¬ ((c = e ∧ j = 1) ∨ (e + 1 ≤ c ∧ c ≤ e + 4 ∧ j = a) ∨ (c = 36 ∧ j ≤ 1) ∨ (c = 38 ∧ (j ≤ 2 ∨ j = 7))) → x2.1 c j = u.1 c j := fun c j q => (Dx2 c j (by omega)).trans (Fy2 c j q)
  have Kx2_e_1 : x2.1 (e) (1) = nI a := by rw [Dx2 _ _ (by omega)]; exact Ky2_e_1
  have Kx2_ep1_a : x2.1 (e + 1) (a) = u1.1 38 2 := by rw [Dx2 _ _ (by omega)]; exact Ky2_ep1_a
  have Kx2_ep2_a : x2.1 (e + 2) (a) = v0 := by rw [Dx2 _ _ (by omega)]; exact Ky2_ep2_a
  have Kx2_ep3_a : x2.1 (e + 3) (a) = v1 := by rw [Dx2 _ _ (by omega)]; exact Ky2_ep3_a
  have Kx2_ep4_a : x2.1 (e + 4) (a) = v2 := by rw [hx2]; exact sI_eq _ _ _ _
  rcases m5_2 with ⟨oe2, il2, ⟨q2n, ql2, qh2, qe2⟩, g11_2, kk2, nn2⟩ | ⟨oe2, bb2⟩
  rotate_left
  · rw [oe2, if_pos rfl]
    have Bx2 : Bd x2 s2 := by rw [hx2]; exact Bd_s bb2 (by omega)
    rw [zx2, hR.2.2.2.1, wR_d0 _ hd, wB_eq]
    exact ⟨_, _, _, rfl, rfl, uG_s Gx2 (by unfold rC; omega), Ss2, Or.inr ⟨rfl, Bd_s Bx2 (by omega)⟩⟩
  rw [oe2, if_neg n10, zs2, (qm25 hm), wR_87, wSI_eq, wN_87 _ (by omega), g11_2]
  obtain ⟨k2, hk2⟩ : ∃ k2, k2 = w_sI s2 (87) (6 + a) (v2) := ⟨_, rfl⟩
  rw [← hk2]
  have zk2 : k2.2 = t.2 := by rw [hk2]; exact zs2
  have Sk2 : tG t k2 := by rw [hk2]; exact tG_s Ss2 (by unfold rT; omega)
  have Dk2 : ∀ c j, ¬ (c = 87 ∧ j = 6 + a) → k2.1 c j = s2.1 c j := fun c j q => by rw [hk2]; exact if_neg q
  have Fk2 : ∀ c j, ¬ ((c = 79 ∧ ((4 ≤ j ∧ j ≤ 5) ∨ (7 ≤ j ∧ j ≤ 11) ∨ j = 16)) ∨ (84 ≤ c ∧ c ≤ 87 ∧ j = 6 + a)) → k2.1 c j = t.1 c j := fun c j q => (Dk2 c j (by omega)).trans (Fs2 c j q)
  have Kk2_79_16 : k2.1 (79) (16) = nI a := by rw [Dk2 _ _ (by omega)]; exact Ks2_79_16
  have Kk2_84_6pa : k2.1 (84) (6 + a) = u1.1 38 2 := by rw [Dk2 _ _ (by omega)]; exact Ks2_84_6pa
  have Kk2_85_6pa : k2.1 (85) (6 + a) = v0 := by rw [Dk2 _ _ (by omega)]; exact Ks2_85_6pa
  have Kk2_86_6pa : k2.1 (86) (6 + a) = v1 := by rw [Dk2 _ _ (by omega)]; exact Ks2_86_6pa
  have Kk2_87_6pa : k2.1 (87) (6 + a) = v2 := by rw [hk2]; exact sI_eq _ _ _ _
  have Rx2 := Rd_fr hR Gx2 Sk2
  have Tx2 : Tk ps s (i + 1 + 1 + 1 + 1 + 1) x2 k2 := Tk_fr kk2 (fun c j q => Dx2 c j (by omega)) (fun j q r => Dk2 79 j (by omega))
  have Nx2 : Nf x2 k2 := ⟨by rw [Dx2 _ _ (by omega)]; exact nn2.1, by rw [Dk2 _ _ (by omega)]; exact nn2.2.1, by rw [Dk2 _ _ (by omega)]; exact nn2.2.2⟩
  rw [zx2, hR.2.2.2.1, wR_d0 _ hd, wB_eq, Kx2_e_1, nI_addL, Kk2_79_16, wB_eq, nI_addL]
  obtain ⟨uz, huz⟩ : ∃ uz, uz = w_sI x2 (e) (1) (nI (a + 1)) := ⟨_, rfl⟩
  rw [← huz]
  have zuz : uz.2 = u.2 := by rw [huz]; exact zx2
  have Guz : uG e u uz := by rw [huz]; exact uG_s Gx2 (by unfold rC; omega)
  have Duz : ∀ c j, ¬ (c = e ∧ j = 1) → uz.1 c j = x2.1 c j := fun c j q => by rw [huz]; exact if_neg q
  have Fuz : ∀ c j, ¬ ((c = e ∧ j = 1) ∨ (e + 1 ≤ c ∧ c ≤ e + 4 ∧ j = a) ∨ (c = 36 ∧ j ≤ 1) ∨ (c = 38 ∧ (j ≤ 2 ∨ j = 7))) → uz.1 c j = u.1 c j := fun c j q => (Duz c j (by omega)).trans (Fx2 c j q)
  have Kuz_ep1_a : uz.1 (e + 1) (a) = u1.1 38 2 := by rw [Duz _ _ (by omega)]; exact Kx2_ep1_a
  have Kuz_ep2_a : uz.1 (e + 2) (a) = v0 := by rw [Duz _ _ (by omega)]; exact Kx2_ep2_a
  have Kuz_ep3_a : uz.1 (e + 3) (a) = v1 := by rw [Duz _ _ (by omega)]; exact Kx2_ep3_a
  have Kuz_ep4_a : uz.1 (e + 4) (a) = v2 := by rw [Duz _ _ (by omega)]; exact Kx2_ep4_a
  have Kuz_e_1 : uz.1 (e) (1) = nI (a + 1) := by rw [huz]; exact sI_eq _ _ _ _
  obtain ⟨tz, htz⟩ : ∃ tz, tz = w_sI k2 (79) (16) (nI (a + 1)) := ⟨_, rfl⟩
  rw [← htz]
  have ztz : tz.2 = t.2 := by rw [htz]; exact zk2
  have Stz : tG t tz := by rw [htz]; exact tG_s Sk2 (by unfold rT; omega)
  have Dtz : ∀ c j, ¬ (c = 79 ∧ j = 16) → tz.1 c j = k2.1 c j := fun c j q => by rw [htz]; exact if_neg q
  have Ftz : ∀ c j, ¬ ((c = 79 ∧ ((4 ≤ j ∧ j ≤ 5) ∨ (7 ≤ j ∧ j ≤ 11) ∨ j = 16)) ∨ (84 ≤ c ∧ c ≤ 87 ∧ j = 6 + a)) → tz.1 c j = t.1 c j := fun c j q => (Dtz c j (by omega)).trans (Fk2 c j q)
  have Ktz_84_6pa : tz.1 (84) (6 + a) = u1.1 38 2 := by rw [Dtz _ _ (by omega)]; exact Kk2_84_6pa
  have Ktz_85_6pa : tz.1 (85) (6 + a) = v0 := by rw [Dtz _ _ (by omega)]; exact Kk2_85_6pa
  have Ktz_86_6pa : tz.1 (86) (6 + a) = v1 := by rw [Dtz _ _ (by omega)]; exact Kk2_86_6pa
  have Ktz_87_6pa : tz.1 (87) (6 + a) = v2 := by rw [Dtz _ _ (by omega)]; exact Kk2_87_6pa
  have Ktz_79_16 : tz.1 (79) (16) = nI (a + 1) := by rw [htz]; exact sI_eq _ _ _ _
  refine ⟨uz, _, tz, rfl, rfl, Guz, Stz, Or.inl ⟨rfl, i + 1 + 1 + 1 + 1 + 1, a + 1, f, k, p, by omega, Rd_fr hR Guz Stz, Tk_fr Tx2 (fun c j q => Duz c j (by omega)) (fun j q r => Dtz 79 j (by omega)), ⟨by rw [Duz _ _ (by omega)]; exact Nx2.1, by rw [Dtz _ _ (by omega)]; exact Nx2.2.1, by rw [Dtz _ _ (by omega)]; exact Nx2.2.2⟩, ?_, ?_, TrB_fr hB (fun c j q => Fuz c j (by omega)) (fun c j q => Ftz c j (by omega)), TrO_fr hO (fun c j q => Fuz c j (by omega)) (fun c j q => Ftz c j (by omega)), TrL_f2 hL (fun c j q => Fuz c j (by omega)) (fun c j q => Ftz c j (by omega)), TrK_fr hK (fun c j q => Fuz c j (by omega)) (fun j q => Ftz 79 j (by omega)), by rw [Fuz e 0 (by omega)]; exact h0⟩⟩
  · refine ⟨by omega, Kuz_e_1, Ktz_79_16, fun g hg => ?_⟩
    by_cases q : g = a
    · rw [q, Kuz_ep1_a, Kuz_ep2_a, Kuz_ep3_a, Kuz_ep4_a, Ktz_84_6pa, Ktz_85_6pa, Ktz_86_6pa, Ktz_87_6pa]
      exact ⟨rfl, rfl, rfl, rfl, q1n, qh1, qe1⟩
    · rw [Fuz (e + 1) g (by omega), Fuz (e + 2) g (by omega), Fuz (e + 3) g (by omega), Fuz (e + 4) g (by omega), Ftz 84 _ (by omega), Ftz 85 _ (by omega), Ftz 86 _ (by omega), Ftz 87 _ (by omega)]
      exact g3 g (by omega)
  · exact TrF_fr hF (fun c j q => Fuz c j (by omega)) (fun c j q => Ftz c j (by omega))
theorem ln_f (h : Ls n b ps s e a f k p L i u t) (hi : i < s) : Pl n b ps s e L i u t (F_X2_readFruit 36 u) (F_X9_fruitLine 79 t) := by
  obtain ⟨hR, hk, hf, hG, hF, hB, hO, hL, hK, h0⟩ := h
  have hp := hR.1
  have hm := hR.2.1
  have hd := hR.2.2.1
  have d1 := TC_le hd
  have n10 : ¬ (1 : Int32) = 0 := by decide
  have w1 : (1 : Int32) ≠ 0 := by decide
  have w2 : (2 : Int32) ≠ 0 := by decide
  have w3 : (3 : Int32) ≠ 0 := by decide
  have w4 : (4 : Int32) ≠ 0 := by decide
  have hX := hF
  obtain ⟨g6, g1, g2, g3⟩ := hX
  have e6 : (nI f < (8 : Int32)) = (f < 8) := nI_ltE (a := f) (b := 8) (by omega) (by omega)
  have e6q : (nI f = (8 : Int32)) = (f = 8) := nI_eqI (a := f) (b := 8) (by omega) (by omega)
  unfold F_X2_readFruit F_X9_fruitLine
  rw [hR.2.2.2.1, wR_d0 _ hd, wB_eq, g1, g2]
  by_cases ha : f = 8
  · rw [if_neg (fun z => absurd (e6.mp z) (by omega)), if_pos (e6q.mpr (by exact ha)), blame_c hp hf.1, wC_s, wrong_g]
    exact ⟨_, _, _, rfl, rfl, uF_G bl_F, tF_G wr_F, Or.inr ⟨rfl, Bd_w hk w2⟩⟩
  have ha6 : f < 8 := by omega
  obtain ⟨u1, t1, a1, a2, a3, a4, a5, a6, a7⟩ := tok_rl hR hk hi
  have G1 : uG e u u1 := ⟨a3, fun c j q => a4 c j (fun r => q (by unfold rC; omega))⟩
  have S1 : tG t t1 := ⟨a5, fun c j q => a6 c j (fun r => q (by unfold rT; omega))⟩
  have R1 := Rd_fr hR G1 S1
  have N1 : Nf u1 t1 := ⟨by rw [a4 36 0 (by omega)]; exact hf.1, by rw [a6 79 4 (by omega)]; exact hf.2.1, by rw [a6 79 5 (by omega)]; exact hf.2.2⟩
  have t16 : t1.1 79 17 = nI f := by rw [a6 79 17 (by omega)]; exact g2
  obtain ⟨x, x1, x2, x3⟩ := fn_rl (x := u1.1 38 2) (t := t1) R1.1 hd (by rw [a4 e 2 (by omega)]; exact g1) g6 (fun g hg => by rw [a4 (e + 5) g (by omega), a6 88 _ (by omega)]; exact (g3 g hg).1)
  obtain ⟨u2, r2, t2, b1, b2, b3, b4⟩ := name_rl (O := 88) (o := 8) (a := f) R1 a7 N1 (by unfold rT; omega) (by decide) x2 (by rcases x3 with q | ⟨j, q, q'⟩; exact Or.inl q; exact Or.inr ⟨j, by omega, q'⟩) (fun K => by rw [nI_add]; exact wN_88 K (by omega))
  have b2q : F_X9_newName 79 88 (8 : Int32) (nI f) t1 = some (r2, t2) := b2
  rw [if_pos (e6.mpr (by exact ha6)), if_neg (fun z => absurd (e6q.mp z) (by exact ha)), (p36_2 hp), wR_38, a1, wC_s, a3, hR.2.2.2.1, wR_d0 _ hd, (PL_d hp hd).2.2.2.2.1, wR_d5 _ hd, wR_d0 _ hd, (p36_2 hp), wR_38, x1, wP_s, b1, wC_s, wSI_eq, wN_d5 _ hd ha6]
  rw [a2, wC_s, a5, (qm26 hm), wR_88, t16, b2q, wC_s]
  have zu2 : u2.2 = u.2 := b3.1.trans a3
  have Gu2 : uG e u u2 := uG_tr G1 (uF_G b3)
  have Fu2 : ∀ c j, ¬ ((c = e ∧ j = 2) ∨ (e + 5 ≤ c ∧ c ≤ e + 7 ∧ j = f) ∨ (c = 36 ∧ j ≤ 1) ∨ (c = 38 ∧ (j ≤ 2 ∨ j = 7))) → u2.1 c j = u.1 c j := fun c j q => by rw [b3.2 c j (by omega) (by omega)]; exact a4 c j (by omega)
  have Ku2_e_2 : u2.1 (e) (2) = nI f := by rw [b3.2 _ _ (by omega) (by omega), a4 _ _ (by omega)]; exact g1
  obtain ⟨u3, hu3⟩ : ∃ u3, u3 = w_sI u2 (e + 5) (f) (u1.1 38 2) := ⟨_, rfl⟩
  rw [← hu3]
  have zu3 : u3.2 = u.2 := by rw [hu3]; exact zu2
  have Gu3 : uG e u u3 := by rw [hu3]; exact uG_s Gu2 (by unfold rC; omega)
  have Du3 : ∀ c j, ¬ (c = e + 5 ∧ j = f) → u3.1 c j = u2.1 c j := fun c j q => by rw [hu3]; exact if_neg q
  have Fu3 : ∀ c j, ¬ ((c = e ∧ j = 2) ∨ (e + 5 ≤ c ∧ c ≤ e + 7 ∧ j = f) ∨ (c = 36 ∧ j ≤ 1) ∨ (c = 38 ∧ (j ≤ 2 ∨ j = 7))) → u3.1 c j = u.1 c j := fun c j q => (Du3 c j (by omega)).trans (Fu2 c j q)
  have Ku3_e_2 : u3.1 (e) (2) = nI f := by rw [Du3 _ _ (by omega)]; exact Ku2_e_2
  have Ku3_ep5_f : u3.1 (e + 5) (f) = u1.1 38 2 := by rw [hu3]; exact sI_eq _ _ _ _
  rcases b4 with ⟨r2e, i1, c1, c2, c3, c4, c5⟩ | ⟨r2e, c1, c2⟩
  rotate_left
  · rw [r2e, if_pos rfl]
    have B3 : Bd u3 t2 := by rw [hu3]; exact Bd_s c1 (by omega)
    rw [zu3, hR.2.2.2.1, wR_d0 _ hd, (PL_d hp hd).2.2.2.2.2.1, wR_d6 _ hd, num_b (by rw [zu3]; exact hp) B3.1, wC_s, wSI_eq, wN_d6 _ hd ha6]
    obtain ⟨b0_0, hb0_0⟩ : ∃ b0_0, b0_0 = w_sI u3 (e + 6) (f) (u3.1 38 2) := ⟨_, rfl⟩
    rw [← hb0_0]
    have zb0_0 : b0_0.2 = u.2 := by rw [hb0_0]; exact zu3
    have Gb0_0 : uG e u b0_0 := by rw [hb0_0]; exact uG_s Gu3 (by unfold rC; omega)
    have Db0_0 : ∀ c j, ¬ (c = e + 6 ∧ j = f) → b0_0.1 c j = u3.1 c j := fun c j q => by rw [hb0_0]; exact if_neg q
    have Bb0_0 : Bd b0_0 t2 := by rw [hb0_0]; exact Bd_s B3 (by omega)
    rw [zb0_0, hR.2.2.2.1, wR_d0 _ hd, (PL_d hp hd).2.2.2.2.2.2.1, wR_d7 _ hd, num_b (by rw [zb0_0]; exact hp) Bb0_0.1, wC_s, wSI_eq, wN_d7 _ hd ha6]
    obtain ⟨b0_1, hb0_1⟩ : ∃ b0_1, b0_1 = w_sI b0_0 (e + 7) (f) (b0_0.1 38 2) := ⟨_, rfl⟩
    rw [← hb0_1]
    have zb0_1 : b0_1.2 = u.2 := by rw [hb0_1]; exact zb0_0
    have Gb0_1 : uG e u b0_1 := by rw [hb0_1]; exact uG_s Gb0_0 (by unfold rC; omega)
    have Db0_1 : ∀ c j, ¬ (c = e + 7 ∧ j = f) → b0_1.1 c j = b0_0.1 c j := fun c j q => by rw [hb0_1]; exact if_neg q
    have Bb0_1 : Bd b0_1 t2 := by rw [hb0_1]; exact Bd_s Bb0_0 (by omega)
    rw [zb0_1, hR.2.2.2.1, wR_d0 _ hd, wB_eq]
    exact ⟨_, _, _, rfl, rfl, uG_s Gb0_1 (by unfold rC; omega), (tG_tr S1 (tF_G c2)), Or.inr ⟨rfl, Bd_s Bb0_1 (by omega)⟩⟩
  have zt2 : t2.2 = t.2 := c2.trans a5
  have St2 : tG t t2 := tG_tr S1 ⟨c2, fun c j q => c3 c j (fun r => q (by unfold rT; omega)) (fun r => q (by unfold rT; omega))⟩
  have Ft2 : ∀ c j, ¬ ((c = 79 ∧ ((4 ≤ j ∧ j ≤ 5) ∨ (7 ≤ j ∧ j ≤ 11) ∨ j = 17)) ∨ (88 ≤ c ∧ c ≤ 90 ∧ j = 8 + f)) → t2.1 c j = t.1 c j := fun c j q => by rw [c3 c j (by omega) (by omega)]; exact a6 c j (by omega)
  have Kt2_79_17 : t2.1 (79) (17) = nI f := by rw [c3 _ _ (by omega) (by omega)]; exact t16
  have Kt2_88_8pf : t2.1 (88) (8 + f) = u1.1 38 2 := c1
  have R3 := Rd_fr hR Gu3 St2
  have T3 : Tk ps s (i + 1 + 1) u3 t2 := Tk_fr c4 (fun c j q => Du3 c j (by omega)) (fun _ _ _ => rfl)
  have N3 : Nf u3 t2 := ⟨by rw [Du3 _ _ (by omega)]; exact c5.1, c5.2⟩
  rw [r2e, if_neg n10]
  obtain ⟨v0, y0, o0, s0, m1_0, m2_0, m3_0, m4_0, m5_0⟩ := num_rl (lo := 0) (hi := 9) R3 T3 N3 (by omega) (by omega)
  have m1q0 : F_X2_takeNumber 36 (0 : Int32) (9 : Int32) u3 = some (v0, y0) := m1_0
  have m2q0 : F_X9_number 79 (0 : Int32) (9 : Int32) t2 = some (o0, s0) := m2_0
  rw [zu3, hR.2.2.2.1, wR_d0 _ hd, (PL_d hp hd).2.2.2.2.2.1, wR_d6 _ hd, m1q0, wC_s, wSI_eq, wN_d6 _ hd ha6, m2q0, wC_s]
  have zy0 : y0.2 = u.2 := m3_0.1.trans zu3
  have Gy0 : uG e u y0 := uG_tr Gu3 (uF_G m3_0)
  have Fy0 : ∀ c j, ¬ ((c = e ∧ j = 2) ∨ (e + 5 ≤ c ∧ c ≤ e + 7 ∧ j = f) ∨ (c = 36 ∧ j ≤ 1) ∨ (c = 38 ∧ (j ≤ 2 ∨ j = 7))) → y0.1 c j = u.1 c j := fun c j q => by rw [m3_0.2 c j (by omega) (by omega)]; exact Fu3 c j q
  have Ky0_e_2 : y0.1 (e) (2) = nI f := by rw [m3_0.2 _ _ (by omega) (by omega)]; exact Ku3_e_2
  have Ky0_ep5_f : y0.1 (e + 5) (f) = u1.1 38 2 := by rw [m3_0.2 _ _ (by omega) (by omega)]; exact Ku3_ep5_f
  have zs0 : s0.2 = t.2 := m4_0.1.trans zt2
  have Ss0 : tG t s0 := tG_tr St2 (tF_G m4_0)
  have Fs0 : ∀ c j, ¬ ((c = 79 ∧ ((4 ≤ j ∧ j ≤ 5) ∨ (7 ≤ j ∧ j ≤ 11) ∨ j = 17)) ∨ (88 ≤ c ∧ c ≤ 90 ∧ j = 8 + f)) → s0.1 c j = t.1 c j := fun c j q => by rw [m4_0.2 c j (by omega)]; exact Ft2 c j q
  have Ks0_79_17 : s0.1 (79) (17) = nI f := by rw [m4_0.2 _ _ (by omega)]; exact Kt2_79_17
  have Ks0_88_8pf : s0.1 (88) (8 + f) = u1.1 38 2 := by rw [m4_0.2 _ _ (by omega)]; exact Kt2_88_8pf
  obtain ⟨x0, hx0⟩ : ∃ x0, x0 = w_sI y0 (e + 6) (f) (v0) := ⟨_, rfl⟩
  rw [← hx0]
  have zx0 : x0.2 = u.2 := by rw [hx0]; exact zy0
  have Gx0 : uG e u x0 := by rw [hx0]; exact uG_s Gy0 (by unfold rC; omega)
  have Dx0 : ∀ c j, ¬ (c = e + 6 ∧ j = f) → x0.1 c j = y0.1 c j := fun c j q => by rw [hx0]; exact if_neg q
  have Fx0 : ∀ c j, ¬ ((c = e ∧ j = 2) ∨ (e + 5 ≤ c ∧ c ≤ e + 7 ∧ j = f) ∨ (c = 36 ∧ j ≤ 1) ∨ (c = 38 ∧ (j ≤ 2 ∨ j = 7))) → x0.1 c j = u.1 c j := fun c j q => (Dx0 c j (by omega)).trans (Fy0 c j q)
  have Kx0_e_2 : x0.1 (e) (2) = nI f := by rw [Dx0 _ _ (by omega)]; exact Ky0_e_2
  have Kx0_ep5_f : x0.1 (e + 5) (f) = u1.1 38 2 := by rw [Dx0 _ _ (by omega)]; exact Ky0_ep5_f
  have Kx0_ep6_f : x0.1 (e + 6) (f) = v0 := by rw [hx0]; exact sI_eq _ _ _ _
  rcases m5_0 with ⟨oe0, il0, ⟨q0n, ql0, qh0, qe0⟩, g11_0, kk0, nn0⟩ | ⟨oe0, bb0⟩
  rotate_left
  · rw [oe0, if_pos rfl]
    have Bx0 : Bd x0 s0 := by rw [hx0]; exact Bd_s bb0 (by omega)
    rw [zx0, hR.2.2.2.1, wR_d0 _ hd, (PL_d hp hd).2.2.2.2.2.2.1, wR_d7 _ hd, num_b (by rw [zx0]; exact hp) Bx0.1, wC_s, wSI_eq, wN_d7 _ hd ha6]
    obtain ⟨b1_1, hb1_1⟩ : ∃ b1_1, b1_1 = w_sI x0 (e + 7) (f) (x0.1 38 2) := ⟨_, rfl⟩
    rw [← hb1_1]
    have zb1_1 : b1_1.2 = u.2 := by rw [hb1_1]; exact zx0
    have Gb1_1 : uG e u b1_1 := by rw [hb1_1]; exact uG_s Gx0 (by unfold rC; omega)
    have Db1_1 : ∀ c j, ¬ (c = e + 7 ∧ j = f) → b1_1.1 c j = x0.1 c j := fun c j q => by rw [hb1_1]; exact if_neg q
    have Bb1_1 : Bd b1_1 s0 := by rw [hb1_1]; exact Bd_s Bx0 (by omega)
    rw [zb1_1, hR.2.2.2.1, wR_d0 _ hd, wB_eq]
    exact ⟨_, _, _, rfl, rfl, uG_s Gb1_1 (by unfold rC; omega), Ss0, Or.inr ⟨rfl, Bd_s Bb1_1 (by omega)⟩⟩
  rw [oe0, if_neg n10, zs0, (qm27 hm), wR_89, Ks0_79_17, nI_Ladd, wSI_eq, wN_89 _ (by omega), g11_0]
  obtain ⟨k0, hk0⟩ : ∃ k0, k0 = w_sI s0 (89) (8 + f) (v0) := ⟨_, rfl⟩
  rw [← hk0]
  have zk0 : k0.2 = t.2 := by rw [hk0]; exact zs0
  have Sk0 : tG t k0 := by rw [hk0]; exact tG_s Ss0 (by unfold rT; omega)
  have Dk0 : ∀ c j, ¬ (c = 89 ∧ j = 8 + f) → k0.1 c j = s0.1 c j := fun c j q => by rw [hk0]; exact if_neg q
  have Fk0 : ∀ c j, ¬ ((c = 79 ∧ ((4 ≤ j ∧ j ≤ 5) ∨ (7 ≤ j ∧ j ≤ 11) ∨ j = 17)) ∨ (88 ≤ c ∧ c ≤ 90 ∧ j = 8 + f)) → k0.1 c j = t.1 c j := fun c j q => (Dk0 c j (by omega)).trans (Fs0 c j q)
  have Kk0_79_17 : k0.1 (79) (17) = nI f := by rw [Dk0 _ _ (by omega)]; exact Ks0_79_17
  have Kk0_88_8pf : k0.1 (88) (8 + f) = u1.1 38 2 := by rw [Dk0 _ _ (by omega)]; exact Ks0_88_8pf
  have Kk0_89_8pf : k0.1 (89) (8 + f) = v0 := by rw [hk0]; exact sI_eq _ _ _ _
  have Rx0 := Rd_fr hR Gx0 Sk0
  have Tx0 : Tk ps s (i + 1 + 1 + 1) x0 k0 := Tk_fr kk0 (fun c j q => Dx0 c j (by omega)) (fun j q r => Dk0 79 j (by omega))
  have Nx0 : Nf x0 k0 := ⟨by rw [Dx0 _ _ (by omega)]; exact nn0.1, by rw [Dk0 _ _ (by omega)]; exact nn0.2.1, by rw [Dk0 _ _ (by omega)]; exact nn0.2.2⟩
  obtain ⟨v1, y1, o1, s1, m1_1, m2_1, m3_1, m4_1, m5_1⟩ := num_rl (lo := 0) (hi := 1) Rx0 Tx0 Nx0 (by omega) (by omega)
  have m1q1 : F_X2_takeNumber 36 (0 : Int32) (1 : Int32) x0 = some (v1, y1) := m1_1
  have m2q1 : F_X9_number 79 (0 : Int32) (1 : Int32) k0 = some (o1, s1) := m2_1
  rw [zx0, hR.2.2.2.1, wR_d0 _ hd, (PL_d hp hd).2.2.2.2.2.2.1, wR_d7 _ hd, m1q1, wC_s, wSI_eq, wN_d7 _ hd ha6, m2q1, wC_s]
  have zy1 : y1.2 = u.2 := m3_1.1.trans zx0
  have Gy1 : uG e u y1 := uG_tr Gx0 (uF_G m3_1)
  have Fy1 : ∀ c j, ¬ ((c = e ∧ j = 2) ∨ (e + 5 ≤ c ∧ c ≤ e + 7 ∧ j = f) ∨ (c = 36 ∧ j ≤ 1) ∨ (c = 38 ∧ (j ≤ 2 ∨ j = 7))) → y1.1 c j = u.1 c j := fun c j q => by rw [m3_1.2 c j (by omega) (by omega)]; exact Fx0 c j q
  have Ky1_e_2 : y1.1 (e) (2) = nI f := by rw [m3_1.2 _ _ (by omega) (by omega)]; exact Kx0_e_2
  have Ky1_ep5_f : y1.1 (e + 5) (f) = u1.1 38 2 := by rw [m3_1.2 _ _ (by omega) (by omega)]; exact Kx0_ep5_f
  have Ky1_ep6_f : y1.1 (e + 6) (f) = v0 := by rw [m3_1.2 _ _ (by omega) (by omega)]; exact Kx0_ep6_f
  have zs1 : s1.2 = t.2 := m4_1.1.trans zk0
  have Ss1 : tG t s1 := tG_tr Sk0 (tF_G m4_1)
  have Fs1 : ∀ c j, ¬ ((c = 79 ∧ ((4 ≤ j ∧ j ≤ 5) ∨ (7 ≤ j ∧ j ≤ 11) ∨ j = 17)) ∨ (88 ≤ c ∧ c ≤ 90 ∧ j = 8 + f)) → s1.1 c j = t.1 c j := fun c j q => by rw [m4_1.2 c j (by omega)]; exact Fk0 c j q
  have Ks1_79_17 : s1.1 (79) (17) = nI f := by rw [m4_1.2 _ _ (by omega)]; exact Kk0_79_17
  have Ks1_88_8pf : s1.1 (88) (8 + f) = u1.1 38 2 := by rw [m4_1.2 _ _ (by omega)]; exact Kk0_88_8pf
  have Ks1_89_8pf : s1.1 (89) (8 + f) = v0 := by rw [m4_1.2 _ _ (by omega)]; exact Kk0_89_8pf
  obtain ⟨x1, hx1⟩ : ∃ x1, x1 = w_sI y1 (e + 7) (f) (v1) := ⟨_, rfl⟩
  rw [← hx1]
  have zx1 : x1.2 = u.2 := by rw [hx1]; exact zy1
  have Gx1 : uG e u x1 := by rw [hx1]; exact uG_s Gy1 (by unfold rC; omega)
  have Dx1 : ∀ c j, ¬ (c = e + 7 ∧ j = f) → x1.1 c j = y1.1 c j := fun c j q => by rw [hx1]; exact if_neg q
  have Fx1 : ∀ c j, ¬ ((c = e ∧ j = 2) ∨ (e + 5 ≤ c ∧ c ≤ e + 7 ∧ j = f) ∨ (c = 36 ∧ j ≤ 1) ∨ (c = 38 ∧ (j ≤ 2 ∨ j = 7))) → x1.1 c j = u.1 c j := fun c j q => (Dx1 c j (by omega)).trans (Fy1 c j q)
  have Kx1_e_2 : x1.1 (e) (2) = nI f := by rw [Dx1 _ _ (by omega)]; exact Ky1_e_2
  have Kx1_ep5_f : x1.1 (e + 5) (f) = u1.1 38 2 := by rw [Dx1 _ _ (by omega)]; exact Ky1_ep5_f
  have Kx1_ep6_f : x1.1 (e + 6) (f) = v0 := by rw [Dx1 _ _ (by omega)]; exact Ky1_ep6_f
  have Kx1_ep7_f : x1.1 (e + 7) (f) = v1 := by rw [hx1]; exact sI_eq _ _ _ _
  rcases m5_1 with ⟨oe1, il1, ⟨q1n, ql1, qh1, qe1⟩, g11_1, kk1, nn1⟩ | ⟨oe1, bb1⟩
  rotate_left
  · rw [oe1, if_pos rfl]
    have Bx1 : Bd x1 s1 := by rw [hx1]; exact Bd_s bb1 (by omega)
    rw [zx1, hR.2.2.2.1, wR_d0 _ hd, wB_eq]
    exact ⟨_, _, _, rfl, rfl, uG_s Gx1 (by unfold rC; omega), Ss1, Or.inr ⟨rfl, Bd_s Bx1 (by omega)⟩⟩
  rw [oe1, if_neg n10, zs1, (qm28 hm), wR_90, Ks1_79_17, nI_Ladd, wSI_eq, wN_90 _ (by omega), g11_1]
  obtain ⟨k1, hk1⟩ : ∃ k1, k1 = w_sI s1 (90) (8 + f) (v1) := ⟨_, rfl⟩
  rw [← hk1]
  have zk1 : k1.2 = t.2 := by rw [hk1]; exact zs1
  have Sk1 : tG t k1 := by rw [hk1]; exact tG_s Ss1 (by unfold rT; omega)
  have Dk1 : ∀ c j, ¬ (c = 90 ∧ j = 8 + f) → k1.1 c j = s1.1 c j := fun c j q => by rw [hk1]; exact if_neg q
  have Fk1 : ∀ c j, ¬ ((c = 79 ∧ ((4 ≤ j ∧ j ≤ 5) ∨ (7 ≤ j ∧ j ≤ 11) ∨ j = 17)) ∨ (88 ≤ c ∧ c ≤ 90 ∧ j = 8 + f)) → k1.1 c j = t.1 c j := fun c j q => (Dk1 c j (by omega)).trans (Fs1 c j q)
  have Kk1_79_17 : k1.1 (79) (17) = nI f := by rw [Dk1 _ _ (by omega)]; exact Ks1_79_17
  have Kk1_88_8pf : k1.1 (88) (8 + f) = u1.1 38 2 := by rw [Dk1 _ _ (by omega)]; exact Ks1_88_8pf
  have Kk1_89_8pf : k1.1 (89) (8 + f) = v0 := by rw [Dk1 _ _ (by omega)]; exact Ks1_89_8pf
  have Kk1_90_8pf : k1.1 (90) (8 + f) = v1 := by rw [hk1]; exact sI_eq _ _ _ _
  have Rx1 := Rd_fr hR Gx1 Sk1
  have Tx1 : Tk ps s (i + 1 + 1 + 1 + 1) x1 k1 := Tk_fr kk1 (fun c j q => Dx1 c j (by omega)) (fun j q r => Dk1 79 j (by omega))
  have Nx1 : Nf x1 k1 := ⟨by rw [Dx1 _ _ (by omega)]; exact nn1.1, by rw [Dk1 _ _ (by omega)]; exact nn1.2.1, by rw [Dk1 _ _ (by omega)]; exact nn1.2.2⟩
  rw [zx1, hR.2.2.2.1, wR_d0 _ hd, wB_eq, Kx1_e_2, nI_addL, Kk1_79_17, wB_eq, nI_addL]
  obtain ⟨uz, huz⟩ : ∃ uz, uz = w_sI x1 (e) (2) (nI (f + 1)) := ⟨_, rfl⟩
  rw [← huz]
  have zuz : uz.2 = u.2 := by rw [huz]; exact zx1
  have Guz : uG e u uz := by rw [huz]; exact uG_s Gx1 (by unfold rC; omega)
  have Duz : ∀ c j, ¬ (c = e ∧ j = 2) → uz.1 c j = x1.1 c j := fun c j q => by rw [huz]; exact if_neg q
  have Fuz : ∀ c j, ¬ ((c = e ∧ j = 2) ∨ (e + 5 ≤ c ∧ c ≤ e + 7 ∧ j = f) ∨ (c = 36 ∧ j ≤ 1) ∨ (c = 38 ∧ (j ≤ 2 ∨ j = 7))) → uz.1 c j = u.1 c j := fun c j q => (Duz c j (by omega)).trans (Fx1 c j q)
  have Kuz_ep5_f : uz.1 (e + 5) (f) = u1.1 38 2 := by rw [Duz _ _ (by omega)]; exact Kx1_ep5_f
  have Kuz_ep6_f : uz.1 (e + 6) (f) = v0 := by rw [Duz _ _ (by omega)]; exact Kx1_ep6_f
  have Kuz_ep7_f : uz.1 (e + 7) (f) = v1 := by rw [Duz _ _ (by omega)]; exact Kx1_ep7_f
  have Kuz_e_2 : uz.1 (e) (2) = nI (f + 1) := by rw [huz]; exact sI_eq _ _ _ _
  obtain ⟨tz, htz⟩ : ∃ tz, tz = w_sI k1 (79) (17) (nI (f + 1)) := ⟨_, rfl⟩
  rw [← htz]
  have ztz : tz.2 = t.2 := by rw [htz]; exact zk1
  have Stz : tG t tz := by rw [htz]; exact tG_s Sk1 (by unfold rT; omega)
  have Dtz : ∀ c j, ¬ (c = 79 ∧ j = 17) → tz.1 c j = k1.1 c j := fun c j q => by rw [htz]; exact if_neg q
  have Ftz : ∀ c j, ¬ ((c = 79 ∧ ((4 ≤ j ∧ j ≤ 5) ∨ (7 ≤ j ∧ j ≤ 11) ∨ j = 17)) ∨ (88 ≤ c ∧ c ≤ 90 ∧ j = 8 + f)) → tz.1 c j = t.1 c j := fun c j q => (Dtz c j (by omega)).trans (Fk1 c j q)
  have Ktz_88_8pf : tz.1 (88) (8 + f) = u1.1 38 2 := by rw [Dtz _ _ (by omega)]; exact Kk1_88_8pf
  have Ktz_89_8pf : tz.1 (89) (8 + f) = v0 := by rw [Dtz _ _ (by omega)]; exact Kk1_89_8pf
  have Ktz_90_8pf : tz.1 (90) (8 + f) = v1 := by rw [Dtz _ _ (by omega)]; exact Kk1_90_8pf
  have Ktz_79_17 : tz.1 (79) (17) = nI (f + 1) := by rw [htz]; exact sI_eq _ _ _ _
  refine ⟨uz, _, tz, rfl, rfl, Guz, Stz, Or.inl ⟨rfl, i + 1 + 1 + 1 + 1, a, f + 1, k, p, by omega, Rd_fr hR Guz Stz, Tk_fr Tx1 (fun c j q => Duz c j (by omega)) (fun j q r => Dtz 79 j (by omega)), ⟨by rw [Duz _ _ (by omega)]; exact Nx1.1, by rw [Dtz _ _ (by omega)]; exact Nx1.2.1, by rw [Dtz _ _ (by omega)]; exact Nx1.2.2⟩, ?_, ?_, TrB_fr hB (fun c j q => Fuz c j (by omega)) (fun c j q => Ftz c j (by omega)), TrO_fr hO (fun c j q => Fuz c j (by omega)) (fun c j q => Ftz c j (by omega)), TrL_f2 hL (fun c j q => Fuz c j (by omega)) (fun c j q => Ftz c j (by omega)), TrK_fr hK (fun c j q => Fuz c j (by omega)) (fun j q => Ftz 79 j (by omega)), by rw [Fuz e 0 (by omega)]; exact h0⟩⟩
  · exact TrG_fr hG (fun c j q => Fuz c j (by omega)) (fun c j q => Ftz c j (by omega))
  · refine ⟨by omega, Kuz_e_2, Ktz_79_17, fun g hg => ?_⟩
    by_cases q : g = f
    · rw [q, Kuz_ep5_f, Kuz_ep6_f, Kuz_ep7_f, Ktz_88_8pf, Ktz_89_8pf, Ktz_90_8pf]
      exact ⟨rfl, rfl, rfl⟩
    · rw [Fuz (e + 5) g (by omega), Fuz (e + 6) g (by omega), Fuz (e + 7) g (by omega), Ftz 88 _ (by omega), Ftz 89 _ (by omega), Ftz 90 _ (by omega)]
      exact g3 g (by omega)
end

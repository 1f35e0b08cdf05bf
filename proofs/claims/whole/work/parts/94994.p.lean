/-! text -/
section
variable {n m k d : Nat} {u t : wSt}
theorem M_text {x : Int32} (h : GR n m k d u t) : QM (F_X8_text 0 x u) (F_X9_text 79 x t) := by
  unfold F_X9_text
  obtain ⟨t0, et⟩ : ∃ t0, t0 = w_sI t 79 2 (0 : Int32) := ⟨_, rfl⟩
  have hK0 : KT t t0 := by rw [et]; exact KT_s (by unfold scr; omega)
  have h := GR_fr h (KC_rf u) hK0
  rw [wB_eq, ← et]
  obtain ⟨L, l7, g1, g2, g3⟩ := h.2.2.2.2.2.2.2.2.2.2.2.2.2.1
  unfold F_X8_text
  by_cases x0 : x < 0
  · rw [if_pos x0, if_pos x0]
    exact ⟨_, u, t0, rfl, rfl, n, m, k, d, h⟩
  obtain ⟨N, N2, rfl⟩ := nI_of x0
  rw [if_neg x0, if_neg x0, g1, g2]
  have eL : (nI N ≤ nI L) = (N ≤ L) := nI_leE (by omega) (by omega)
  by_cases hL : N ≤ L
  rotate_left
  · rw [if_neg (fun z => absurd (eL.mp z) hL), if_neg (fun z => absurd (eL.mp z) hL)]
    exact ⟨_, u, t0, rfl, rfl, n, m, k, d, h⟩
  rw [if_pos (eL.mpr hL), if_pos (eL.mpr hL)]
  obtain ⟨b, hT⟩ := Tb_of (n := N) l7 hL g3
  have n7 := hT.1
  have hp := h.1
  have hm := h.2.1
  have hd : d = 2 ∨ d = 19 := h.2.2.1
  have hW := h.2.2.2.2.2.2.2.2.2.2.2.2.2.2.2
  have n10 : ¬ (1 : Int32) = 0 := by decide
  have z00 : (0 : Int32) = 0 := rfl
  obtain ⟨e, hee⟩ : ∃ e, e = 21 - d := ⟨_, rfl⟩
  have he : TC e := by
    unfold TC
    omega
  have d1 := TC_le he
  have h3 : u.2.2 0 3 = e + 1 := by
    rw [h.2.2.2.2.1]
    omega
  have zu : u.2 = u.2 := rfl
  have zt0 : t0.2 = t0.2 := rfl
  obtain ⟨u1, hu1⟩ : ∃ u1, u1 = w_sI u (0) (1) (0) := ⟨_, rfl⟩
  have zu1 : u1.2 = u.2 := by rw [hu1]; exact zu
  have Du1 : ∀ a j, ¬ (a = 0 ∧ j = 1) → u1.1 a j = u.1 a j := fun a j q => by rw [hu1]; exact if_neg q
  have Vu1 : u1.1 (0) (1) = 0 := by rw [hu1]; exact sI_eq _ _ _ _
  obtain ⟨u2, hu2⟩ : ∃ u2, u2 = w_sI u1 (36) (0) (0) := ⟨_, rfl⟩
  have zu2 : u2.2 = u.2 := by rw [hu2]; exact zu1
  have Du2 : ∀ a j, ¬ (a = 36 ∧ j = 0) → u2.1 a j = u1.1 a j := fun a j q => by rw [hu2]; exact if_neg q
  have Vu2 : u2.1 (36) (0) = 0 := by rw [hu2]; exact sI_eq _ _ _ _
  obtain ⟨u3, hu3⟩ : ∃ u3, u3 = w_sR u2 36 3 (e + 1) := ⟨_, rfl⟩
  have i3 : ∀ a j, u3.1 a j = u2.1 a j := fun a j => by rw [hu3, sR_i]
  have r3 : ∀ a j, ¬ (a = 36 ∧ j = 3) → u3.2.2 a j = u.2.2 a j := fun a j q => by
    rw [hu3, sR_v, if_neg q, zu2]
  have r33 : u3.2.2 36 3 = e + 1 := by
    rw [hu3, sR_v, if_pos ⟨rfl, rfl⟩]
  have hp3 : PL u3.2.2 := PL_fr hp (fun a j _ _ q => r3 a j q)
  obtain ⟨u4, c1, c2, c3, c4, c5, c6⟩ := clear_c (u := u3) (e := e) hp3 he
  have zu4 : u4.2 = u3.2 := c2
  obtain ⟨u5, hu5⟩ : ∃ u5, u5 = w_sI u4 (36) (4) (0) := ⟨_, rfl⟩
  have zu5 : u5.2 = u3.2 := by rw [hu5]; exact zu4
  have Du5 : ∀ a j, ¬ (a = 36 ∧ j = 4) → u5.1 a j = u4.1 a j := fun a j q => by rw [hu5]; exact if_neg q
  have Vu5 : u5.1 (36) (4) = 0 := by rw [hu5]; exact sI_eq _ _ _ _
  obtain ⟨u6, hu6⟩ : ∃ u6, u6 = w_sI u5 (36) (6) (0) := ⟨_, rfl⟩
  have zu6 : u6.2 = u3.2 := by rw [hu6]; exact zu5
  have Du6 : ∀ a j, ¬ (a = 36 ∧ j = 6) → u6.1 a j = u5.1 a j := fun a j q => by rw [hu6]; exact if_neg q
  have Vu6 : u6.1 (36) (6) = 0 := by rw [hu6]; exact sI_eq _ _ _ _
  obtain ⟨r1, hr1⟩ : ∃ r1, r1 = w_sI t0 (79) (6) (nI N) := ⟨_, rfl⟩
  have zr1 : r1.2 = t0.2 := by rw [hr1]; exact zt0
  have Dr1 : ∀ a j, ¬ (a = 79 ∧ j = 6) → r1.1 a j = t0.1 a j := fun a j q => by rw [hr1]; exact if_neg q
  have Vr1 : r1.1 (79) (6) = nI N := by rw [hr1]; exact sI_eq _ _ _ _
  obtain ⟨r2, hr2⟩ : ∃ r2, r2 = w_sI r1 (79) (1) (0) := ⟨_, rfl⟩
  have zr2 : r2.2 = t0.2 := by rw [hr2]; exact zr1
  have Dr2 : ∀ a j, ¬ (a = 79 ∧ j = 1) → r2.1 a j = r1.1 a j := fun a j q => by rw [hr2]; exact if_neg q
  have Vr2 : r2.1 (79) (1) = 0 := by rw [hr2]; exact sI_eq _ _ _ _
  obtain ⟨r3x, hr3x⟩ : ∃ r3x, r3x = w_sI r2 (79) (4) (0) := ⟨_, rfl⟩
  have zr3x : r3x.2 = t0.2 := by rw [hr3x]; exact zr2
  have Dr3x : ∀ a j, ¬ (a = 79 ∧ j = 4) → r3x.1 a j = r2.1 a j := fun a j q => by rw [hr3x]; exact if_neg q
  have Vr3x : r3x.1 (79) (4) = 0 := by rw [hr3x]; exact sI_eq _ _ _ _
  obtain ⟨r4, hr4⟩ : ∃ r4, r4 = w_sI r3x (79) (5) (-1) := ⟨_, rfl⟩
  have zr4 : r4.2 = t0.2 := by rw [hr4]; exact zr3x
  have Dr4 : ∀ a j, ¬ (a = 79 ∧ j = 5) → r4.1 a j = r3x.1 a j := fun a j q => by rw [hr4]; exact if_neg q
  have Vr4 : r4.1 (79) (5) = -1 := by rw [hr4]; exact sI_eq _ _ _ _
  obtain ⟨r5, hr5⟩ : ∃ r5, r5 = w_sI r4 (79) (7) (0) := ⟨_, rfl⟩
  have zr5 : r5.2 = t0.2 := by rw [hr5]; exact zr4
  have Dr5 : ∀ a j, ¬ (a = 79 ∧ j = 7) → r5.1 a j = r4.1 a j := fun a j q => by rw [hr5]; exact if_neg q
  have Vr5 : r5.1 (79) (7) = 0 := by rw [hr5]; exact sI_eq _ _ _ _
  obtain ⟨r6, q1, q2, q3, q4, q5⟩ := plain_r (t := r5) (by rw [zr5]; exact hm)
  have zr6 : r6.2 = t0.2 := q2.trans zr5
  have fu6 : ∀ a j, ¬ (a = 0 ∧ j = 1) → ¬ (a = 36 ∧ (j = 0 ∨ j = 4 ∨ j = 6)) → ¬ (e ≤ a ∧ a ≤ e + 16) → u6.1 a j = u.1 a j := fun a j y1 y2 y3 => by
    rw [Du6 a j (by omega), Du5 a j (by omega), c3 a j (by omega) (by omega) (by omega), i3, Du2 a j (by omega), Du1 a j (by omega)]
  have ft6 : ∀ a j, ¬ (a = 79 ∧ (j = 1 ∨ (4 ≤ j ∧ j ≤ 7) ∨ (16 ≤ j ∧ j ≤ 19) ∨ j = 43)) → a ≠ 82 → ¬ ((a = 83 ∨ a = 93) ∧ 3 ≤ j) → r6.1 a j = t0.1 a j := fun a j y1 y2 y3 => by
    rw [q3 a j (by omega) y2 y3, Dr5 a j (by omega), Dr4 a j (by omega), Dr3x a j (by omega), Dr2 a j (by omega), Dr1 a j (by omega)]
  have hp6 : PL u6.2.2 := by rw [zu6]; exact hp3
  have hT6 : Tb N b u6.1 r6.1 := ⟨n7, fun i hi => by rw [fu6 1 i (by omega) (by omega) (by omega), ft6 80 i (by omega) (by omega) (by omega)]; exact hT.2 i hi⟩
  obtain ⟨s, ps, u7, p1, p2, p3, p4, p5, p6, p7, p8, p9⟩ := split_p (u := u6) (t := r6) hp6 hT6 (fun i hi => by rw [fu6 39 i (by omega) (by omega) (by omega)]; exact hW.1 i hi)
  have zu7 : u7.2 = u3.2 := p2.trans zu6
  have hR : Rd N b ps s e u7 r6 := by
    refine ⟨by rw [zu7]; exact hp3, by rw [zr6]; exact hm, he, by rw [zu7]; exact r33, ⟨n7, fun i hi => by rw [p3 1 i (by omega) (by omega)]; exact hT6.2 i hi⟩, fun j hj => by rw [ft6 81 j (by omega) (by omega) (by omega)]; exact hW.2 j hj, ?_, p4, p5, p6, p7, p8⟩
    rw [q3 79 6 (by omega) (by omega) (by omega), Dr5 _ _ (by omega), Dr4 _ _ (by omega), Dr3x _ _ (by omega), Dr2 _ _ (by omega)]
    exact Vr1
  have t7 : r6.1 79 7 = nI (ps 0) := by
    rw [p6.1, q3 79 7 (by omega) (by omega) (by omega)]
    exact Vr5
  obtain ⟨u8, r7, a1, a2, a3, a4, a5, a6, a7⟩ := tok_g (i := 0) hR (by rw [p9]; decide) t7 (by omega)
  have zu8 : u8.2 = u3.2 := a3.trans zu7
  have zr7 : r7.2 = t0.2 := a5.trans zr6
  have fu8 : ∀ a j, a ≠ 38 → ¬ (40 ≤ a ∧ a ≤ 42) → u8.1 a j = u6.1 a j := fun a j y1 y2 => (a4 a j (by omega)).trans (p3 a j y1 y2)
  have fr7 : ∀ a j, ¬ (a = 79 ∧ 7 ≤ j ∧ j ≤ 10) → r7.1 a j = r6.1 a j := a6
  have f6e : ∀ a j, e ≤ a → a ≤ e + 16 → u6.1 a j = u4.1 a j := fun a j y1 y2 => by rw [Du6 a j (by omega), Du5 a j (by omega)]
  have ve : ∀ a j, e ≤ a → a ≤ e + 16 → u8.1 a j = u4.1 a j := fun a j y1 y2 => by rw [fu8 a j (by omega) (by omega)]; exact f6e a j y1 y2
  have LS : Ls N b ps s e 0 0 0 0 0 0 u8 r7 := by
    refine ⟨Rd_fr hR ⟨a3, fun c j q => a4 c j (fun r => q (by unfold rC; omega))⟩ ⟨a5, fun c j q => a6 c j (fun r => q (by unfold rT; omega))⟩, a7, ⟨?_, ?_, ?_⟩, ⟨by omega, ?_, ?_, fun g hg => by omega⟩, ⟨by omega, ?_, ?_, fun g hg => by omega⟩, ⟨by omega, ?_, ?_, fun g hg => by omega⟩, ⟨?_, ?_, ?_, ⟨0, by omega, ?_⟩, ⟨0, by omega, ?_⟩, fun v hv => ?_⟩, ⟨by omega, fun v hv _ => ⟨?_, Or.inl ?_, fun z => ?_⟩⟩, ⟨?_, ?_, ?_, ?_⟩, ?_⟩
    · rw [fu8 36 0 (by omega) (by omega), Du6 _ _ (by omega), Du5 _ _ (by omega), c3 _ _ (by omega) (by omega) (by omega), i3]; exact Vu2
    · rw [fr7 _ _ (by omega), q3 _ _ (by omega) (by omega) (by omega), Dr5 _ _ (by omega), Dr4 _ _ (by omega)]; exact Vr3x
    · rw [fr7 _ _ (by omega), q3 _ _ (by omega) (by omega) (by omega), Dr5 _ _ (by omega)]; exact Vr4
    · rw [ve _ _ (by omega) (by omega)]; exact c4.2.1
    · rw [fr7 _ _ (by omega)]; exact q4.1
    · rw [ve _ _ (by omega) (by omega)]; exact c4.2.2.1
    · rw [fr7 _ _ (by omega)]; exact q4.2.1
    · rw [ve _ _ (by omega) (by omega)]; exact c4.2.2.2.1
    · rw [fr7 _ _ (by omega)]; exact q4.2.2.1
    · rw [ve _ _ (by omega) (by omega), fr7 _ _ (by omega), c4.2.2.2.2.1]; exact (q5 0 (by omega)).2.2
    · rw [ve _ _ (by omega) (by omega), fr7 _ _ (by omega), c4.2.2.2.2.2.1]; exact (q5 1 (by omega)).2.2
    · rw [ve _ _ (by omega) (by omega), fr7 _ _ (by omega), c4.2.2.2.2.2.2]; exact (q5 2 (by omega)).2.2
    · rw [ve _ _ (by omega) (by omega)]; exact c4.2.2.2.2.2.1
    · rw [ve _ _ (by omega) (by omega)]; exact c4.2.2.2.2.2.2
    · rw [fr7 _ _ (by omega), (q5 v hv).1, fu8 36 4 (by omega) (by omega), Du6 _ _ (by omega), Vu5, bt_0]
      exact (bI_f (by decide)).symm
    · rw [fr7 _ _ (by omega), (q5 v hv).2.1, ve _ _ (by omega) (by omega)]; exact (c6 v hv).symm
    · rw [ve _ _ (by omega) (by omega)]; exact c6 v hv
    · rw [ve _ _ (by omega) (by omega), c6 v hv] at z
      exact absurd z (by decide)
    · rw [ve _ _ (by omega) (by omega)]; exact c5
    · rw [fr7 _ _ (by omega)]; exact q4.2.2.2.1
    · rw [fu8 36 6 (by omega) (by omega)]; exact Vu6
    · rw [fr7 _ _ (by omega)]; exact q4.2.2.2.2
    · rw [ve _ _ (by omega) (by omega)]; exact c4.1
  obtain ⟨y, z, lr, lc, hE⟩ := rd_loop LS
  -- the programs as far as the lines' end
  have RD : F_X2_read 36 (nI N) e u1 = wJ (X := wSt) (some z) (fun x => F_X2_read_j73 36 x) := by
    unfold F_X2_read
    rw [wB_eq, ← hu2, wB_eq, ← hu3, r33, wR_d0 _ he, c1, wC_s, wB_eq, ← hu5, wB_eq, ← hu6, p36_2 hp6, wR_38, p1, a1, wC_s, wC_s, lc]
  have hq4 : (u1.2.2 0 4) = 37 := by rw [zu1]; exact p0_4 hp
  rw [wB_eq, ← hu1, hq4, wR_36, zu1, h3, wR_d0 _ he, RD, wB_eq, ← hr1, wB_eq, ← hr2, wB_eq, ← hr3x, wB_eq, ← hr4, wB_eq, ← hr5, q1, wC_s, a2, wC_s, lr]
  clear RD lr lc
  have hq : ∀ a j, ¬ (a = 36 ∧ j = 3) → u8.2.2 a j = u.2.2 a j := fun a j q => by rw [zu8]; exact r3 a j q
  have FU : ∀ a j, ¬ (a = 0 ∧ j = 1) → ¬ (e ≤ a ∧ a ≤ e + 16) → ¬ (36 ≤ a ∧ a ≤ 42 ∧ a ≠ 39) → u8.1 a j = u.1 a j := fun a j y1 y2 y3 => by
    rw [fu8 a j (by omega) (by omega)]
    exact fu6 a j y1 (by omega) y2
  have FT : ∀ a j, ¬ rT a j → ¬ (a = 79 ∧ (j = 1 ∨ j = 6)) → r7.1 a j = t0.1 a j := fun a j y1 y2 => by
    unfold rT at y1
    rw [fr7 a j (by omega)]
    exact ft6 a j (by omega) (by omega) (by omega)
  have u01 : u8.1 0 1 = 0 := by
    rw [fu8 _ _ (by omega) (by omega), Du6 _ _ (by omega), Du5 _ _ (by omega), c3 _ _ (by omega) (by omega) (by omega), i3, Du2 _ _ (by omega)]
    exact Vu1
  have r01 : r7.1 79 1 = 0 := by
    rw [fr7 _ _ (by omega), q3 _ _ (by omega) (by omega) (by omega), Dr5 _ _ (by omega), Dr4 _ _ (by omega), Dr3x _ _ (by omega)]
    exact Vr2
  rcases hE with ⟨tA, uA, i, a, f, kk, p, LL, rfl, rfl, hLs, gu, gt⟩ | ⟨tA, uA, rfl, rfl, bd, gu, gt⟩
  rotate_left
  · unfold F_X2_read_j73
    rw [wJ_inl, if_neg bd.1, wC_s, if_pos z00, wJ_inr]
    refine ⟨_, uA, tA, rfl, rfl, n, m, k, d, GR_rd h (fun a j q => by rw [gu.1]; exact hq a j q) (gt.1.trans zr7) (fun a j y1 y2 y3 => by rw [gu.2 a j (by unfold rC; omega)]; exact FU a j y1 (by omega) y3) (fun a j y1 y2 => by rw [gt.2 a j y1]; exact FT a j y1 y2) ⟨0, by omega, ?_, ?_, fun i hi => by omega⟩ ⟨bd.2.1, fun z => absurd z bd.1, fun _ => bd.2.2⟩⟩
    · rw [gu.2 _ _ (by unfold rC; omega)]
      exact u01
    · rw [gt.2 _ _ (by unfold rT; omega)]
      exact r01
  obtain ⟨hRA, -, hfA, hG, hF, hB, hO, hLw, hK, hl0⟩ := hLs
  have hdT : TC d := hd
  have rA : ∀ a j, ¬ (a = 36 ∧ j = 3) → uA.2.2 a j = u.2.2 a j := fun a j q => by rw [gu.1]; exact hq a j q
  have rA2 : uA.2.2 0 2 = d + 1 := by rw [rA _ _ (by omega)]; exact h.2.2.2.1
  have rA3 : uA.2.2 0 3 = e + 1 := by rw [rA _ _ (by omega)]; exact h3
  obtain ⟨v1, hv1⟩ : ∃ v1, v1 = w_sR uA 0 2 (e + 1) := ⟨_, rfl⟩
  obtain ⟨v2, hv2⟩ : ∃ v2, v2 = w_sR v1 0 3 (d + 1) := ⟨_, rfl⟩
  have i2 : ∀ a j, v2.1 a j = uA.1 a j := fun a j => by rw [hv2, sR_i, hv1, sR_i]
  have rv2 : ∀ a j, ¬ (a = 0 ∧ (j = 2 ∨ j = 3)) → ¬ (a = 36 ∧ j = 3) → v2.2.2 a j = u.2.2 a j := fun a j y1 y2 => by
    rw [hv2, sR_v, if_neg (by omega), hv1, sR_v, if_neg (by omega)]
    exact rA a j y2
  have rv02 : v2.2.2 0 2 = e + 1 := by rw [hv2, sR_v, if_neg (by omega), hv1, sR_v, if_pos ⟨rfl, rfl⟩]
  have rv03 : v2.2.2 0 3 = d + 1 := by rw [hv2, sR_v, if_pos ⟨rfl, rfl⟩]
  have hpv : PL v2.2.2 := PL_fr hp (fun a j _ q q' => rv2 a j q q')
  obtain ⟨v3, b1, b2, b3, b4, b5, b6, b7, b8, b9⟩ := begin_s (u := v2) (c := 43) (d := e) hpv (Or.inl rfl) he
  obtain ⟨v7, hv7⟩ : ∃ v7, v7 = w_sI (w_sI (w_sI (w_sI v3 70 0 0) 70 1 (-1)) 66 0 0) 0 8 0 := ⟨_, rfl⟩
  have z7 : v7.2 = v2.2 := by rw [hv7]; exact b2
  have n7v : ∀ a j, ¬ (a = 70 ∧ j ≤ 1) → ¬ (a = 66 ∧ j = 0) → ¬ (a = 0 ∧ j = 8) → v7.1 a j = v3.1 a j := fun a j y1 y2 y3 => by
    rw [hv7, show ∀ (w : wSt) (x : Int32), (w_sI w 0 8 x).1 a j = w.1 a j from fun _ _ => if_neg y3, show ∀ (w : wSt) (x : Int32), (w_sI w 66 0 x).1 a j = w.1 a j from fun _ _ => if_neg y2, show ∀ (w : wSt) (x : Int32), (w_sI w 70 1 x).1 a j = w.1 a j from fun _ _ => if_neg (by omega)]
    exact if_neg (by omega)
  have v08 : v7.1 0 8 = 0 := by rw [hv7, sI_eq]
  have v66 : v7.1 66 0 = 0 := by rw [hv7, sI_ne _ _ _ _ _ _ (by decide), sI_eq]
  have v71 : v7.1 70 1 = -1 := by rw [hv7, sI_ne _ _ _ _ _ _ (by decide), sI_ne _ _ _ _ _ _ (by decide), sI_eq]
  have v70 : v7.1 70 0 = 0 := by rw [hv7, sI_ne _ _ _ _ _ _ (by decide), sI_ne _ _ _ _ _ _ (by decide), sI_ne2 _ _ _ _ _ _ (by decide), sI_eq]
  have nA : ∀ a j, ¬ (a = 70 ∧ j ≤ 1) → ¬ (a = 66 ∧ j = 0) → ¬ (a = 0 ∧ j = 8) → ¬ (43 ≤ a ∧ a ≤ 49) → v7.1 a j = uA.1 a j := fun a j y1 y2 y3 y4 => by
    rw [n7v a j y1 y2 y3, b3 a j (by omega)]
    exact i2 a j
  obtain ⟨tB, k1, k2, k3, k4, k5⟩ := keep_t (t := tA) (by rw [gt.1, zr7]; exact hm) (fun v hv => by
    obtain ⟨l1, l2, -⟩ := hLw.2 v hv (by omega)
    rw [l1]
    exact l2)
  have zB : tB.2 = t0.2 := k2.trans (gt.1.trans zr7)
  obtain ⟨tC, m1, m2, m3, m4, m5, m6, m7, m8⟩ := begin_r (t := tB) (by rw [zB]; exact hm)
  have l0 : v7.1 e 0 = nI LL := by rw [nA _ _ (by omega) (by omega) (by omega) (by omega)]; exact hl0
  have v3p : v3.2.2 = v2.2.2 := by rw [b2]
  unfold F_X2_read_j73 F_X9_text_j77 F_X4_clear
  rw [wJ_inl, if_pos hfA.1, wC_s, if_neg n10, rA2, wR_d0 _ hdT, rA3, wR_d0 _ he, wB_eq, ← hv1, wB_eq, ← hv2, p0_5 hpv, wR_43, rv02, wR_d0 _ he, b1, wC_s, v3p, p0_11 hpv, wR_70, wB_eq, wB_eq, wC_s, sI_r, sI_r, v3p, p0_10 hpv, wR_66, wB_eq, wB_eq, ← hv7, z7, rv02, wR_d0 _ he, l0, wJ_inl]
  dsimp only
  rw [k1, m1, wC_s, wC_s]
  have TD : Td a f kk e v7.1 tC.1 := by
    refine Td_mk hG hF hB hO hLw hK (fun x j y1 y2 => nA x j (by omega) (by omega) (by omega) (by omega)) ⟨?_, ?_, ?_, ?_⟩ (fun x j y1 y2 => ?_)
    · rw [m4 _ _ (by unfold rsb; omega) (by omega)]; exact k4.1
    · rw [m4 _ _ (by unfold rsb; omega) (by omega)]; exact k4.2.1
    · rw [m4 _ _ (by unfold rsb; omega) (by omega)]; exact k4.2.2.1
    · rw [m4 _ _ (by unfold rsb; omega) (by omega)]; exact k4.2.2.2
    · rw [m4 x j (by unfold rsb; unfold kT at y1; omega) (by omega)]
      exact k5 x j y2 y1
  have e6 : v7.1 43 1 = uA.1 e 6 := by rw [n7v _ _ (by omega) (by omega) (by omega), b5]; exact i2 e 6
  have t6 : tB.1 83 2 = uA.1 e 6 := by
    rw [k5 83 2 (by omega) (by unfold kT; omega)]
    exact hO.2.2.1
  have a6x : a ≤ 6 := hG.1
  have S44 : ∀ g, g < 6 → v7.1 44 g = nI g := fun g hg => by rw [n7v _ _ (by omega) (by omega) (by omega)]; exact (b8 g hg).1
  refine ⟨_, v7, tC, rfl, rfl, a, f, kk, e, ?_, by rw [m2, zB]; exact hm, he, by rw [z7]; exact rv02, ?_, TD, ?_, ⟨0, by omega, ?_⟩, ⟨fun g hg => ⟨g, hg, S44 g (by omega)⟩, fun g g' hg hg' z => ?_⟩, ⟨?_, ?_⟩, ⟨?_, Or.inl v08, fun z => ?_⟩, Un_0 v66 m5.2.2.1, ⟨0, by omega, v70, m5.1, ?_, Or.inl v71, fun i hi => by omega⟩, ⟨0, by omega, ?_, ?_, fun i hi => by omega⟩, ⟨?_, fun _ => ?_, fun z => ?_⟩, ⟨fun i hi => ?_, fun j hj => ?_⟩⟩
  · rw [z7]
    exact hpv
  · rw [z7, rv03]
    omega
  · refine Sc_begin TD ?_ ?_ ?_ (fun g hg => ?_) (fun g hg => ?_) m6 m7 m8
    · rw [n7v _ _ (by omega) (by omega) (by omega)]; exact b4
    · rw [n7v _ _ (by omega) (by omega) (by omega)]; exact b6
    · rw [n7v _ _ (by omega) (by omega) (by omega)]; exact b7
    · rw [n7v (43 + 1) g (by omega) (by omega) (by omega), n7v (43 + 2) g (by omega) (by omega) (by omega), n7v (43 + 3) g (by omega) (by omega) (by omega), n7v (43 + 4) g (by omega) (by omega) (by omega), n7v (e + 2) g (by omega) (by omega) (by omega), n7v (e + 3) g (by omega) (by omega) (by omega), b3 (e + 2) g (by omega), b3 (e + 3) g (by omega)]
      exact b8 g hg
    · rw [n7v (43 + 5) g (by omega) (by omega) (by omega), n7v (43 + 6) g (by omega) (by omega) (by omega)]
      exact b9 g hg
  · rw [n7v _ _ (by omega) (by omega) (by omega)]
    exact b4
  · rw [show (43 + 1 : Nat) = 44 from rfl, S44 g (by omega), S44 g' (by omega), nI_eqI (by omega) (by omega)] at z
    exact z
  · rw [m3, t6, e6]
  · obtain ⟨q, q9, hq'⟩ := hO.2.2.2.2.1
    rw [e6, hq']
    exact (nI_leE (a := 0) (b := q) (by omega) (by omega)).mpr (by omega)
  · rw [m5.2.2.2, v08]
  · rw [v08] at z
    exact absurd z (by decide)
  · rw [m5.2.1, v71]
  · rw [nA _ _ (by omega) (by omega) (by omega) (by omega), gu.2 _ _ (by unfold rC; omega)]
    exact u01
  · rw [m4 _ _ (by unfold rsb; omega) (by omega), k3 _ _ (by unfold kT; omega), gt.2 _ _ (by unfold rT; omega)]
    exact r01
  · rw [m4 _ _ (by unfold rsb; omega) (by omega), k3 _ _ (by unfold kT; omega), nA _ _ (by omega) (by omega) (by omega) (by omega), hfA.1]
    exact hfA.2.1
  · rw [m4 _ _ (by unfold rsb; omega) (by omega), k3 _ _ (by unfold kT; omega)]
    exact hfA.2.2
  · rw [nA _ _ (by omega) (by omega) (by omega) (by omega)] at z
    exact absurd hfA.1 z
  · rw [nA _ _ (by omega) (by omega) (by omega) (by omega), gu.2 _ _ (by unfold rC; omega), FU _ _ (by omega) (by omega) (by omega)]
    exact hW.1 i hi
  · rw [m4 _ _ (by unfold rsb; omega) (by omega), k3 _ _ (by unfold kT; omega), gt.2 _ _ (by unfold rT; omega), FT _ _ (by unfold rT; omega) (by omega)]
    exact hW.2 j hj
end

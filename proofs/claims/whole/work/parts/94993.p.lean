/-! a text: the relation anew -/
theorem p0_4 {R : Nat → Nat → Nat} (h : PL R) : R 0 4 = 37 := by simp only [PL_u h]
theorem p0_5 {R : Nat → Nat → Nat} (h : PL R) : R 0 5 = 44 := by simp only [PL_u h]
theorem p0_10 {R : Nat → Nat → Nat} (h : PL R) : R 0 10 = 67 := by simp only [PL_u h]
theorem p0_11 {R : Nat → Nat → Nat} (h : PL R) : R 0 11 = 71 := by simp only [PL_u h]
section
variable {n m k d e a f p : Nat} {u t u' t' : wSt} {U T U' T' : Nat → Nat → Int32}
theorem Td_f2 (h : Td n m k d U T) (hU : ∀ a j, d ≤ a → a ≤ d + 16 → U' a j = U a j) (hT : ∀ j, 12 ≤ j → j ≤ 15 → T' 79 j = T 79 j) (hT2 : ∀ a j, kT a j → 83 ≤ a → T' a j = T a j) : Td n m k d U' T' := by
  obtain ⟨⟨a1, a2, a3⟩, ⟨b1, b2, b3⟩, ⟨c1, c2, c3⟩, ⟨d1, d2, d3⟩, e1, f1, hG, hF, hB, hL, hK⟩ := h
  have u : ∀ i j, i ≤ 16 → U' (d + i) j = U (d + i) j := fun i j hi => hU _ _ (by omega) (by omega)
  have u0 : ∀ j, U' d j = U d j := fun j => hU _ _ (by omega) (by omega)
  refine ⟨⟨a1, a2, a3⟩, ⟨by rw [u0]; exact b1, by rw [u0]; exact b2, by rw [u0]; exact b3⟩, ⟨by rw [hT _ (by omega) (by omega)]; exact c1, by rw [hT _ (by omega) (by omega)]; exact c2, by rw [hT _ (by omega) (by omega)]; exact c3⟩, ⟨?_, ?_, ?_⟩, by rw [u0]; exact e1, by rw [u0]; exact f1, fun g hg => ?_, fun g hg => ?_, fun g hg => ?_, fun w hw => ?_, ?_⟩
  · rw [u0, hT2 83 0 (by unfold kT; omega) (by omega)]; exact d1
  · rw [u0, hT2 83 1 (by unfold kT; omega) (by omega)]; exact d2
  · rw [u0, hT2 83 2 (by unfold kT; omega) (by omega)]; exact d3
  · rw [u 1 g (by omega), u 2 g (by omega), u 3 g (by omega), u 4 g (by omega), hT2 84 g (by unfold kT; omega) (by omega), hT2 85 g (by unfold kT; omega) (by omega), hT2 86 g (by unfold kT; omega) (by omega), hT2 87 g (by unfold kT; omega) (by omega)]
    exact hG g hg
  · rw [u 5 g (by omega), u 6 g (by omega), u 7 g (by omega), hT2 88 g (by unfold kT; omega) (by omega), hT2 89 g (by unfold kT; omega) (by omega), hT2 90 g (by unfold kT; omega) (by omega)]
    exact hF g hg
  · rw [u 8 g (by omega), u 9 g (by omega), hT2 91 g (by unfold kT; omega) (by omega), hT2 92 g (by unfold kT; omega) (by omega)]
    exact hB g hg
  · obtain ⟨l1, l2, l3⟩ := hL w hw
    unfold Lw
    rw [u 11 w (by omega), u 12 w (by omega), u 13 w (by omega), hT2 93 w (by unfold kT; omega) (by omega), hT2 94 w (by unfold kT; omega) (by omega), hT2 95 w (by unfold kT; omega) (by omega)]
    refine ⟨l1, l2, fun z => ?_⟩
    obtain ⟨x, y, m1, m2, m3, m4, m5⟩ := l3 z
    have y6 := m5.2.1
    exact ⟨x, y, m1, m2, m3, m4, Pg_fr m5 (fun i hi => ⟨u 14 i (by omega), u 15 i (by omega), hT2 96 i (by unfold kT; omega) (by omega), hT2 98 i (by unfold kT; omega) (by omega), hT2 99 i (by unfold kT; omega) (by omega)⟩)⟩
  · rw [u 10 0 (by omega), hT _ (by omega) (by omega)]
    exact hK
theorem Td_mk (hG : TrG a e U T) (hF : TrF f e U T) (hB : TrB k e U T) (hO : TrO e U T) (hL : TrL 3 p e U T) (hK : TrK p p e U T) (hU : ∀ x j, e ≤ x → x ≤ e + 16 → U' x j = U x j) (h79 : T' 79 12 = T 79 16 ∧ T' 79 13 = T 79 17 ∧ T' 79 14 = T 79 18 ∧ T' 79 15 = T 79 19) (hT2 : ∀ x j, kT x j → 83 ≤ x → T' x j = T x (kO x + j)) : Td a f k e U' T' := by
  obtain ⟨a1, a2, a3, a4⟩ := hG
  obtain ⟨b1, b2, b3, b4⟩ := hF
  obtain ⟨c1, c2, c3, c4⟩ := hB
  obtain ⟨d1, d2, d3, d4, d5, -⟩ := hO
  obtain ⟨f1, f2, f3, f4⟩ := hK
  have u : ∀ i j, i ≤ 16 → U' (e + i) j = U (e + i) j := fun i j hi => hU _ _ (by omega) (by omega)
  have u0 : ∀ j, U' e j = U e j := fun j => hU _ _ (by omega) (by omega)
  refine ⟨⟨a1, b1, c1⟩, ⟨by rw [u0]; exact a2, by rw [u0]; exact b2, by rw [u0]; exact c2⟩, ⟨by rw [h79.1]; exact a3, by rw [h79.2.1]; exact b3, by rw [h79.2.2.1]; exact c3⟩, ⟨?_, ?_, ?_⟩, by rw [u0]; exact d4, by rw [u0]; exact d5, fun g hg => ?_, fun g hg => ?_, fun g hg => ?_, fun w hw => ?_, ?_⟩
  · rw [u0, hT2 83 0 (by unfold kT; omega) (by omega)]; exact d1
  · rw [u0, hT2 83 1 (by unfold kT; omega) (by omega)]; exact d2
  · rw [u0, hT2 83 2 (by unfold kT; omega) (by omega)]; exact d3
  · rw [u 1 g (by omega), u 2 g (by omega), u 3 g (by omega), u 4 g (by omega), hT2 84 g (by unfold kT; omega) (by omega), hT2 85 g (by unfold kT; omega) (by omega), hT2 86 g (by unfold kT; omega) (by omega), hT2 87 g (by unfold kT; omega) (by omega)]
    exact a4 g hg
  · rw [u 5 g (by omega), u 6 g (by omega), u 7 g (by omega), hT2 88 g (by unfold kT; omega) (by omega), hT2 89 g (by unfold kT; omega) (by omega), hT2 90 g (by unfold kT; omega) (by omega)]
    exact b4 g hg
  · rw [u 8 g (by omega), u 9 g (by omega), hT2 91 g (by unfold kT; omega) (by omega), hT2 92 g (by unfold kT; omega) (by omega)]
    exact c4 g hg
  · obtain ⟨l1, l2, l3⟩ := hL.2 w hw (by omega)
    unfold Lw
    rw [u 11 w (by omega), u 12 w (by omega), u 13 w (by omega), hT2 93 w (by unfold kT; omega) (by omega), hT2 94 w (by unfold kT; omega) (by omega), hT2 95 w (by unfold kT; omega) (by omega)]
    refine ⟨l1, l2, fun z => ?_⟩
    obtain ⟨x, y, m1, m2, m3, m4, -, m5⟩ := l3 z
    have y6 := m5.2.1
    exact ⟨x, y, m1, m2, m3, m4, Pg_fr m5 (fun i hi => ⟨u 14 i (by omega), u 15 i (by omega), hT2 96 i (by unfold kT; omega) (by omega), hT2 98 i (by unfold kT; omega) (by omega), hT2 99 i (by unfold kT; omega) (by omega)⟩)⟩
  · rw [u 10 0 (by omega), h79.2.2.2, f1]
    exact f2
/-- a text refused: all stays but the tape and the fault -/
theorem GR_rd (h : GR n m k d u t) (hr : ∀ a j, ¬ (a = 36 ∧ j = 3) → u'.2.2 a j = u.2.2 a j) (hr' : t'.2 = t.2) (hU : ∀ a j, ¬ (a = 0 ∧ j = 1) → ¬ (21 - d ≤ a ∧ a ≤ 21 - d + 16) → ¬ (36 ≤ a ∧ a ≤ 42 ∧ a ≠ 39) → u'.1 a j = u.1 a j) (hT : ∀ a j, ¬ rT a j → ¬ (a = 79 ∧ (j = 1 ∨ j = 6)) → t'.1 a j = t.1 a j) (hE : Tp u'.1 t'.1) (hF : Ft u'.1 t'.1) : GR n m k d u' t' := by
  obtain ⟨hp, hm, hd, h2, h3, hTd, hS, hs, hP, hN, hI, hUn, hG, -, -, hW⟩ := h
  have d1 : d = 2 ∨ d = 19 := hd
  have U1 : ∀ a, 39 ≤ a → ¬ (40 ≤ a ∧ a ≤ 42) → u'.1 a = u.1 a := fun a q r => funext (fun j => hU a j (by omega) (by omega) (by omega))
  have U0 : u'.1 0 8 = u.1 0 8 := hU _ _ (by omega) (by omega) (by omega)
  have T1 : ∀ a, a = 81 ∨ 102 ≤ a → t'.1 a = t.1 a := fun a q => funext (fun j => hT a j (by unfold rT; omega) (by omega))
  have T79 : ∀ j, 46 ≤ j → t'.1 79 j = t.1 79 j := fun j q => hT 79 j (by unfold rT; omega) (by omega)
  refine ⟨PL_fr hp (fun a j _ _ q => hr a j q), by rw [hr']; exact hm, hd, by rw [hr 0 2 (by omega)]; exact h2, by rw [hr 0 3 (by omega)]; exact h3, ?_, ?_, ?_, ?_, ?_, ?_, ?_, ?_, hE, hF, ?_⟩
  · exact Td_f2 hTd (fun a j q r => hU a j (by omega) (by omega) (by omega)) (fun j q r => hT 79 j (by unfold rT; omega) (by omega)) (fun a j q r => hT a j (by unfold rT; unfold kT at q; omega) (by omega))
  · exact Sc_fr hTd.1.1 hTd.1.2.1 hS (fun a j q r _ => hU a j (by omega) (by omega) (by omega)) (fun a j q r q1 q2 q3 => hT a j (by unfold rT; omega) (by omega))
  · rw [U1 43 (by omega) (by omega)]
    exact hs
  · exact SP_fr hP (fun g _ => hU _ _ (by omega) (by omega) (by omega))
  · rw [U1 43 (by omega) (by omega), hr']
    exact hN
  · rw [hr']
    unfold Im at hI ⊢
    unfold SP at hI ⊢
    simp (disch := omega) only [U0, U1, T1, T79]
    exact hI
  · unfold Un at hUn ⊢
    simp (disch := omega) only [U1, T1, T79]
    exact hUn
  · unfold Sg at hG ⊢
    unfold Se at hG ⊢
    simp (disch := omega) only [U1, T1, T79]
    exact hG
  · unfold Wd at hW ⊢
    simp (disch := omega) only [U1, T1]
    exact hW
theorem begin_r (hm : PM t.2.2) : ∃ t', F_X9_begin 79 t = some ((), t') ∧ t'.2.2 = t.2.2 ∧ t'.2.1 79 58 = (t.1 83 2).toInt64 ∧ (∀ a j, ¬ rsb 0 a j → ¬ (a = 79 ∧ 60 ≤ j ∧ j ≤ 76) → t'.1 a j = t.1 a j) ∧ (t'.1 79 70 = 0 ∧ t'.1 79 71 = -1 ∧ t'.1 79 74 = 0 ∧ t'.1 79 76 = 0) ∧ t'.1 112 0 = 0 ∧ (∀ g, g < 6 → t'.1 104 (6 * 0 + g) = t'.1 85 g ∧ t'.1 105 (6 * 0 + g) = t'.1 86 g ∧ t'.1 106 (6 * 0 + g) = nI g ∧ t'.1 107 (6 * 0 + g) = 1 ∧ t'.1 108 (6 * 0 + g) = 0) ∧ (∀ f, f < 8 → t'.1 109 (8 * 0 + f) = 0 ∧ t'.1 110 (8 * 0 + f) = 0 ∧ t'.1 111 (8 * 0 + f) = 0) := by
  obtain ⟨t1, a1, a2, a3, a4, a5, a6⟩ := first_t (t := t) (b := 0) hm (by omega)
  have a1' : F_X9_atFirst 79 (0 : Int32) t = some ((), t1) := a1
  obtain ⟨t2, ht2⟩ : ∃ t2, t2 = w_sL t1 79 58 ((t.1 83 2).toInt64) := ⟨_, rfl⟩
  have z2 : t2.2.2 = t.2.2 := by rw [ht2, sL_r, a2]
  have i2 : ∀ x j, t2.1 x j = t1.1 x j := fun x j => by rw [ht2, sL_i]
  have l2 : t2.2.1 79 58 = (t.1 83 2).toInt64 := by rw [ht2]; exact sL_eq _ _ _ _
  obtain ⟨t3, ht3⟩ : ∃ t3, t3 = w_sI (w_sI (w_sI (w_sI (tb t2) 79 70 0) 79 71 (-1)) 79 74 0) 79 76 0 := ⟨_, rfl⟩
  have n3 : ∀ x j, ¬ (x = 79 ∧ 60 ≤ j ∧ j ≤ 76) → t3.1 x j = t1.1 x j := fun x j q => by
    have g : ∀ (v : wSt) (i : Nat) (y : Int32), 60 ≤ i → i ≤ 76 → (w_sI v 79 i y).1 x j = v.1 x j := fun v i y h h' => if_neg (by omega)
    rw [ht3, g _ _ _ (by omega) (by omega), g _ _ _ (by omega) (by omega), g _ _ _ (by omega) (by omega), g _ _ _ (by omega) (by omega), tb_ne _ (by omega)]
    exact i2 x j
  have t83 : t1.1 83 2 = t.1 83 2 := a3 _ _ (by unfold rsb; omega)
  refine ⟨t3, ?_, by rw [ht3]; exact z2, by rw [ht3]; exact l2, fun x j q q' => by rw [n3 x j q']; exact a3 x j q, ⟨?_, ?_, ?_, ?_⟩, ?_, fun g hg => ?_, fun g hg => ?_⟩
  · unfold F_X9_begin
    rw [a1', wC_s, a2, qm21 hm, wR_83, wN_lit, wN_83 _ (by omega), t83, wB_eq, ← ht2, plain_t, wC_s, wB_eq, wB_eq, wB_eq, wB_eq, ← ht3]
  · rw [ht3, sI_ne2 _ _ _ _ _ _ (by decide), sI_ne2 _ _ _ _ _ _ (by decide), sI_ne2 _ _ _ _ _ _ (by decide), sI_eq]
  · rw [ht3, sI_ne2 _ _ _ _ _ _ (by decide), sI_ne2 _ _ _ _ _ _ (by decide), sI_eq]
  · rw [ht3, sI_ne2 _ _ _ _ _ _ (by decide), sI_eq]
  · rw [ht3, sI_eq]
  · rw [n3 _ _ (by omega)]
    exact a4
  · rw [n3 104 _ (by omega), n3 105 _ (by omega), n3 106 _ (by omega), n3 107 _ (by omega), n3 108 _ (by omega), n3 85 _ (by omega), n3 86 _ (by omega), a3 85 g (by unfold rsb; omega), a3 86 g (by unfold rsb; omega)]
    exact a5 g hg
  · rw [n3 _ _ (by omega), n3 _ _ (by omega), n3 _ _ (by omega)]
    exact a6 g hg
end

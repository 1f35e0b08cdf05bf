/-! numbers and names taken -/
section
variable {n s e i : Nat} {b ps : Nat → Nat} {u t u' t' : wSt}
theorem num_b {x y : Int32} (hp : PL u.2.2) (h0 : u.1 36 0 ≠ 0) : F_X2_takeNumber 36 x y u = some (u.1 38 2, u) := by
  have r2 : u.2.2 36 2 = 39 := by simp only [PL_u hp]
  unfold F_X2_takeNumber F_X2_takeNumber_j38 F_X2_takeNumber_j43
  rw [r2, wR_38, wB_eq, wR_38]
  by_cases h33 : u.1 38 0 = 33
  · rw [if_pos h33]
    by_cases a : u.1 38 2 < x
    · rw [if_pos a, wJ_inl, blame_b h0, wC_s, wJ_inl, goon_b h0, wC_s]
    · rw [if_neg a]
      by_cases c : u.1 38 2 ≤ y
      · rw [if_pos c, wJ_inr, wJ_inl, goon_b h0, wC_s]
      · rw [if_neg c, wJ_inl, blame_b h0, wC_s, wJ_inl, goon_b h0, wC_s]
  · rw [if_neg h33, blame_b h0, wC_s, wJ_inl, goon_b h0, wC_s]
theorem bl_ne {w : Int32} (hw : w ≠ 0) : (bl u w).1 36 0 ≠ 0 := by rw [bl_0]; exact hw
theorem num_rl {lo hi : Nat} (h : Rd n b ps s e u t) (hk : Tk ps s i u t) (hf : Nf u t) (hl : lo ≤ 99999) (hh : hi ≤ 99999) : ∃ (v : Int32) (u' : wSt) (r : Int32) (t' : wSt), F_X2_takeNumber 36 (nI lo) (nI hi) u = some (v, u') ∧ F_X9_number 79 (nI lo) (nI hi) t = some (r, t') ∧ uF u u' ∧ tF t t' ∧ ((r = 1 ∧ i < s ∧ (∃ q : Nat, lo ≤ q ∧ q ≤ hi ∧ v = nI q) ∧ t'.1 79 11 = v ∧ Tk ps s (i + 1) u' t' ∧ Nf u' t') ∨ (r = 0 ∧ Bd u' t')) := by
  have hp := h.1
  have r2 : u.2.2 36 2 = 39 := by simp only [PL_u hp]
  obtain ⟨k, hk0, hN⟩ := Tk_k hk
  have k36 := hN.1
  obtain ⟨f0, f4, f5⟩ := hf
  have e33 : (nI k = (33 : Int32)) = (k = 33) := nI_eqI (a := k) (b := 33) (by omega) (by omega)
  have n10 : ¬ (1 : Int32) = 0 := by decide
  have w2 : (2 : Int32) ≠ 0 := by decide
  have w1 : (1 : Int32) ≠ 0 := by decide
  have g2 := goon_b (u := bl u 2) (bl_ne w2)
  have g1 := goon_b (u := bl u 1) (bl_ne w1)
  unfold F_X2_takeNumber F_X2_takeNumber_j38 F_X2_takeNumber_j43 F_X9_number
  rw [r2, wR_38, wB_eq, wR_38, hk0]
  by_cases h33 : k = 33
  · obtain ⟨kr, v, v', hW, hw, v1, v2, hv⟩ := hN.2.2.2.2.1 h33
    have c1 : (nI v < nI lo) = (v < lo) := nI_ltE (by omega) (by omega)
    have c2 : (nI v ≤ nI hi) = (v ≤ hi) := nI_leE (by omega) (by omega)
    have c3 : (nI v' < nI lo) = (v' < lo) := nI_ltE (by omega) (by omega)
    have c4 : (nI hi < nI v') = (hi < v') := nI_ltE (by omega) (by omega)
    rw [if_pos (e33.mpr (by exact h33)), if_pos kr, hW]
    unfold F_X9_isIn
    rw [hw]
    by_cases a : v < lo
    · rw [if_pos (c1.mpr (by exact a)), if_pos (c3.mpr (by omega)), wJ_inl, blame_c hp f0, wC_s, wJ_inl, g2, wC_s, wP_s, if_pos rfl, wrong_g]
      exact ⟨_, _, _, _, rfl, rfl, bl_F, wr_F, Or.inr ⟨rfl, Bd_w hk w2⟩⟩
    · rw [if_neg (fun z => absurd (c1.mp z) (by exact a)), if_neg (fun z => absurd (c3.mp z) (by omega))]
      by_cases c : v ≤ hi
      · have hvv : v = v' := by omega
        have hi' := Tk_e h hk hk0 k36 (by omega)
        have tg1 : tG t (w_sI t 79 11 (nI v')) := tG_s (tG_rf t) (by unfold rT; omega)
        obtain ⟨u1, t1, a1, a2, a3, a4, a5, a6, a7⟩ := tok_rl (Rd_fr h (uG_rf e u) tg1) (Tk_fr (t' := w_sI t 79 11 (nI v')) hk (fun _ _ _ => rfl) (fun j q r => sI_ne2 _ _ _ _ _ _ (by omega))) hi'
        rw [if_pos (c2.mpr (by exact c)), if_neg (fun z => absurd (c4.mp z) (by omega)), wJ_inr, wJ_inl, goon_c hp f0 a1, wC_s, wP_s, if_neg n10, wB_eq, a2, wC_s]
        have tn : ∀ c j, ¬ (c = 79 ∧ 7 ≤ j ∧ j ≤ 11) → t1.1 c j = t.1 c j := fun c j q => by
          rw [a6 c j (by omega)]
          exact if_neg (by omega)
        refine ⟨_, u1, _, t1, rfl, rfl, ⟨a3, fun c j q r => a4 c j r⟩, ⟨a5, fun c j q => tn c j (by omega)⟩, Or.inl ⟨rfl, hi', ⟨v, by omega, c, rfl⟩, ?_, a7, ?_⟩⟩
        · rw [a6 79 11 (by omega), sI_eq, hvv]
        · exact ⟨by rw [a4 36 0 (by omega)]; exact f0, by rw [tn 79 4 (by omega)]; exact f4, by rw [tn 79 5 (by omega)]; exact f5⟩
      · rw [if_neg (fun z => absurd (c2.mp z) (by exact c)), if_pos (c4.mpr (by omega)), wJ_inl, blame_c hp f0, wC_s, wJ_inl, g2, wC_s, wP_s, if_pos rfl, wrong_g]
        exact ⟨_, _, _, _, rfl, rfl, bl_F, wr_F, Or.inr ⟨rfl, Bd_w hk w2⟩⟩
  · rw [if_neg (fun z => absurd (e33.mp z) (by exact h33)), if_neg (KN_3 hN h33), blame_c hp f0, wC_s, wJ_inl, g1, wC_s, wrong_g]
    exact ⟨_, _, _, _, rfl, rfl, bl_F, wr_F, Or.inr ⟨rfl, Bd_w hk w1⟩⟩
theorem name_rl {O o a : Nat} {x : Int32} (h : Rd n b ps s e u t) (hk : Tk ps s i u t) (hf : Nf u t) (hO : rT O (o + a)) (h79 : O ≠ 79) (hx : F_X9_find O (nI o) (nI a) (u.1 38 2) t = some x) (hx1 : x = -1 ∨ ∃ j : Nat, j ≤ 8 ∧ x = nI j) (hNn : ∀ K : Nat → Option (Int32 × wSt), wN (nI o + nI a) O K = K (o + a)) : ∃ (u' : wSt) (r : Int32) (t' : wSt), F_X2_takeNewName 36 x u = some (u.1 38 2, u') ∧ F_X9_newName 79 O (nI o) (nI a) t = some (r, t') ∧ uF u u' ∧ ((r = 1 ∧ i < s ∧ t'.1 O (o + a) = u.1 38 2 ∧ t'.2 = t.2 ∧ (∀ c j, ¬ (c = O ∧ j = o + a) → ¬ (c = 79 ∧ 7 ≤ j ∧ j ≤ 10) → t'.1 c j = t.1 c j) ∧ Tk ps s (i + 1) u' t' ∧ Nf u' t') ∨ (r = 0 ∧ Bd u' t' ∧ tF t t')) := by
  have hp := h.1
  have r2 : u.2.2 36 2 = 39 := by simp only [PL_u hp]
  obtain ⟨k, hk0, hN⟩ := Tk_k hk
  have k36 := hN.1
  obtain ⟨f0, f4, f5⟩ := hf
  have e34 : (nI k = (34 : Int32)) = (k = 34) := nI_eqI (a := k) (b := 34) (by omega) (by omega)
  have w3 : (3 : Int32) ≠ 0 := by decide
  have w1 : (1 : Int32) ≠ 0 := by decide
  have g3 := goon_b (u := bl u 3) (bl_ne w3)
  have g1 := goon_b (u := bl u 1) (bl_ne w1)
  unfold F_X2_takeNewName F_X2_takeNewName_j38 F_X9_newName
  rw [r2, wR_38, wB_eq, wR_38, hk0]
  by_cases h34 : k = 34
  · obtain ⟨kr, hw⟩ := hN.2.2.2.2.2.1 h34
    rw [if_pos (e34.mpr (by exact h34)), if_pos kr, hw, hx, wP_s]
    rcases hx1 with rfl | ⟨j, j8, rfl⟩
    · have hi' := Tk_e h hk hk0 k36 (by omega)
      obtain ⟨t0, ht0⟩ : ∃ t0, t0 = w_sI t O (o + a) (u.1 38 2) := ⟨_, rfl⟩
      have tg1 : tG t t0 := by rw [ht0]; exact tG_s (tG_rf t) hO
      obtain ⟨u1, t1, a1, a2, a3, a4, a5, a6, a7⟩ := tok_rl (Rd_fr h (uG_rf e u) tg1) (Tk_fr (t' := t0) hk (fun _ _ _ => rfl) (fun j q r => by rw [ht0]; exact sI_ne _ _ _ _ _ _ (fun z => h79 z.symm))) hi'
      rw [if_pos rfl, wJ_inl, goon_c hp f0 a1, wC_s, if_pos (by decide), wSI_eq, hNn, ← ht0, a2, wC_s]
      have tn : ∀ c j, ¬ (c = O ∧ j = o + a) → ¬ (c = 79 ∧ 7 ≤ j ∧ j ≤ 10) → t1.1 c j = t.1 c j := fun c j q r => by
        rw [a6 c j r, ht0]
        exact if_neg q
      refine ⟨u1, _, t1, rfl, rfl, ⟨a3, fun c j q r => a4 c j r⟩, Or.inl ⟨rfl, hi', ?_, by rw [a5, ht0]; rfl, tn, a7, ?_⟩⟩
      · rw [a6 O _ (by omega), ht0, sI_eq]
      · exact ⟨by rw [a4 36 0 (by omega)]; exact f0, by rw [tn 79 4 (by omega) (by omega)]; exact f4, by rw [tn 79 5 (by omega) (by omega)]; exact f5⟩
    · have ne : ¬ nI j = -1 := by rw [nI_neg (by omega)]; exact id
      rw [if_neg ne, blame_c hp f0, wC_s, wJ_inl, g3, wC_s, if_neg (by rw [nI_nn (by omega)]; exact id), wrong_g]
      exact ⟨_, _, _, rfl, rfl, bl_F, Or.inr ⟨rfl, Bd_w hk w3, wr_F⟩⟩
  · rw [if_neg (fun z => absurd (e34.mp z) (by exact h34)), if_neg (KN_2 hN h34), blame_c hp f0, wC_s, wJ_inl, g1, wC_s, wrong_g]
    exact ⟨_, _, _, rfl, rfl, bl_F, Or.inr ⟨rfl, Bd_w hk w1, wr_F⟩⟩
theorem gn_rl {a : Nat} {x : Int32} (hp : PL u.2.2) (hd : TC e) (e1 : u.1 e 1 = nI a) (a6 : a ≤ 6) (hG : ∀ g, g < a → t.1 84 (6 + g) = u.1 (e + 1) g) : ∃ y, F_X6_guestNamed e x u = some y ∧ F_X9_find 84 (6 : Int32) (nI a) x t = some y ∧ (y = -1 ∨ ∃ j : Nat, j < a ∧ y = nI j) := by
  have p7 := (PL_d hp hd).1
  have key : Rl (fun y z => y = z ∧ (y = -1 ∨ ∃ j : Nat, j < a ∧ y = nI j)) (F_X6_guestNamed e x u) (F_X9_find 84 (6 : Int32) (nI a) x t) := by
    unfold F_X6_guestNamed F_X9_find
    refine wL_rl (fun i x y => x = nI i ∧ y = nI i) _ a (by unfold wFu; omega) ?_ ⟨rfl, rfl⟩
    rintro i c d hi ⟨rfl, rfl⟩
    unfold F_X6_guestNamed_b2 F_X9_find_b3
    rw [e1]
    have ee := nI_leE (a := a) (b := i) (by omega) (by omega)
    by_cases hin : a ≤ i
    · right
      exact ⟨-1, -1, if_pos (ee.mpr (by exact hin)), if_pos (ee.mpr (by exact hin)), rfl, Or.inl rfl⟩
    · rw [if_neg (fun z => absurd (ee.mp z) (by exact hin)), if_neg (fun z => absurd (ee.mp z) (by exact hin)), p7, wR_d1 _ hd, wN_d1 _ hd (by omega), nI_Ladd, wN_84 _ (by omega), hG i (by omega)]
      by_cases z : u.1 (e + 1) i = x
      · right
        exact ⟨nI i, nI i, if_pos z, if_pos z, rfl, Or.inr ⟨i, by omega, rfl⟩⟩
      · left
        rw [if_neg z, wB_eq, nI_addL]
        exact ⟨_, _, rfl, rfl, by omega, rfl, rfl⟩
  obtain ⟨y, z, h1, h2, rfl, h3⟩ := key
  exact ⟨y, h1, h2, h3⟩
theorem fn_rl {a : Nat} {x : Int32} (hp : PL u.2.2) (hd : TC e) (e1 : u.1 e 2 = nI a) (a6 : a ≤ 8) (hG : ∀ g, g < a → t.1 88 (8 + g) = u.1 (e + 5) g) : ∃ y, F_X6_fruitNamed e x u = some y ∧ F_X9_find 88 (8 : Int32) (nI a) x t = some y ∧ (y = -1 ∨ ∃ j : Nat, j < a ∧ y = nI j) := by
  have p7 := (PL_d hp hd).2.2.2.2.1
  have key : Rl (fun y z => y = z ∧ (y = -1 ∨ ∃ j : Nat, j < a ∧ y = nI j)) (F_X6_fruitNamed e x u) (F_X9_find 88 (8 : Int32) (nI a) x t) := by
    unfold F_X6_fruitNamed F_X9_find
    refine wL_rl (fun i x y => x = nI i ∧ y = nI i) _ a (by unfold wFu; omega) ?_ ⟨rfl, rfl⟩
    rintro i c d hi ⟨rfl, rfl⟩
    unfold F_X6_fruitNamed_b2 F_X9_find_b3
    rw [e1]
    have ee := nI_leE (a := a) (b := i) (by omega) (by omega)
    by_cases hin : a ≤ i
    · right
      exact ⟨-1, -1, if_pos (ee.mpr (by exact hin)), if_pos (ee.mpr (by exact hin)), rfl, Or.inl rfl⟩
    · rw [if_neg (fun z => absurd (ee.mp z) (by exact hin)), if_neg (fun z => absurd (ee.mp z) (by exact hin)), p7, wR_d5 _ hd, wN_d5 _ hd (by omega), nI_Ladd, wN_88 _ (by omega), hG i (by omega)]
      by_cases z : u.1 (e + 5) i = x
      · right
        exact ⟨nI i, nI i, if_pos z, if_pos z, rfl, Or.inr ⟨i, by omega, rfl⟩⟩
      · left
        rw [if_neg z, wB_eq, nI_addL]
        exact ⟨_, _, rfl, rfl, by omega, rfl, rfl⟩
  obtain ⟨y, z, h1, h2, rfl, h3⟩ := key
  exact ⟨y, h1, h2, h3⟩
end

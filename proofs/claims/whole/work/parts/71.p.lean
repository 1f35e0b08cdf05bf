/-! what was seen -/
section
variable {n m k d c b B : Nat} {u t : wSt}
theorem known_rl (h : GR n m k d u t) : ∃ K q : Nat, K ≤ q ∧ q ≤ 24 ∧ u.1 70 0 = nI q ∧ t.1 79 70 = nI q ∧ F_X4_knownSize 70 u = some (nI K) ∧ F_X9_knownBy 79 t = some (nI K) ∧ (∀ i, i < q → Se n i u.1 t.1) := by
  obtain ⟨q, hq, e1, e2, e3, e4, e5⟩ := h.2.2.2.2.2.2.2.2.2.2.2.2.1
  unfold F_X4_knownSize F_X9_knownBy
  rw [e3]
  rcases e4 with e4 | ⟨p, hp, e4⟩
  · refine ⟨q, q, Nat.le_refl q, hq, e1, e2, ?_, ?_, e5⟩
    · rw [if_pos e4, e1]
    · rw [e4, if_neg (by decide), e2]
  · refine ⟨p, q, hp, hq, e1, e2, ?_, ?_, e5⟩
    · rw [e4, if_neg (by rw [nI_neg (by omega)]; exact id)]
    · rw [e4, if_pos (nI_pos' (by omega))]
theorem i_pm (r : Nat) : nI r + (-1 : Int32) = nI r - 1 := by rw [Int32.sub_eq_add_neg]
/-- both find which ones count -/
theorem sift_rl (h : GR n m k d u t) : ∃ (K q : Nat) (u1 t1 : wSt), K ≤ q ∧ q ≤ 24 ∧ F_X4_sift 70 u = some ((), u1) ∧ KC u u1 ∧ u1.2 = u.2 ∧ (∀ z : Int32, wJ (X := wSt) (wL (S := Int32 × wSt) (fun x => F_X9_sweets_b17 79 x.1 x.2) wFu ((0 : Int32), t)) (fun x => F_X9_sweets_j38 79 z x) = F_X9_sweets_j91 79 z t1) ∧ KT t t1 ∧ F_X4_knownSize 70 u1 = some (nI K) ∧ F_X9_knownBy 79 t1 = some (nI K) ∧ (∀ i, i < q → Se n i u1.1 t1.1) ∧ (∀ i, i < K → t1.1 115 i = bI (u1.1 76 i = 0) ∧ (u1.1 76 i = 0 ∨ u1.1 76 i = 1)) := by
  obtain ⟨K, q, hKq, hq, e1, e2, e3, e4, e5⟩ := known_rl h
  have n10 : ¬ (1 : Int32) = 0 := by decide
  have o0 : (0 : Int32) &&& 1 = 0 := by decide
  have o1 : (1 : Int32) &&& 1 = 1 := by decide
  have r7 : u.2.2 70 7 = 77 := by simp only [PL_u h.1]
  have r6 : u.2.2 70 6 = 76 := by simp only [PL_u h.1]
  have q72 : t.2.2 79 72 = 115 := by simp only [PM_u h.2.1]
  have q73 : t.2.2 79 73 = 116 := by simp only [PM_u h.2.1]
  have a1 : Ro (fun y => ∃ v : wSt, y = Sum.inl v ∧ v.2 = u.2 ∧ (∀ a j, a ≠ 76 → v.1 a j = u.1 a j) ∧ (∀ g, g < 24 → v.1 76 g = 0)) (wL (S := Int32 × wSt) (fun x => F_X4_sift_b2 70 x.1 x.2) wFu ((0 : Int32), u)) := by
    refine wL_ro (fun k x => ∃ v : wSt, x = (nI k, v) ∧ v.2 = u.2 ∧ (∀ a j, a ≠ 76 → v.1 a j = u.1 a j) ∧ (∀ g, g < k → v.1 76 g = 0)) _ 24 (by unfold wFu; omega) ?_ ⟨u, rfl, rfl, fun _ _ _ => rfl, fun g h => by omega⟩
    rintro k x hk ⟨v, rfl, hv2, hv0, hR⟩
    unfold F_X4_sift_b2
    dsimp only
    have e24 : ((24 : Int32) ≤ nI k) = (24 ≤ k) := nI_leE (a := 24) (b := k) (by omega) (by omega)
    by_cases h24 : k = 24
    · right
      subst h24
      exact ⟨.inl v, if_pos (by decide), v, rfl, hv2, hv0, hR⟩
    · left
      refine ⟨(nI (k + 1), w_sI v 76 k 0), ?_, by omega, _, rfl, hv2, fun a j q => ?_, fun g hg => ?_⟩
      · rw [if_neg (by rw [e24]; omega), hv2, r7, wR_76, wSZ_eq, wN_76 _ (by omega), o0, wB_eq, nI_addL]
      · rw [sI_ne _ _ _ _ _ _ q]
        exact hv0 a j q
      · by_cases hgk : g = k
        · subst hgk
          exact sI_eq _ _ _ _
        · rw [sI_ne2 _ _ _ _ _ _ hgk]
          exact hR g (by omega)
  obtain ⟨y, hy, v1, rfl, hv2, hv0, hvR⟩ := a1
  have a2 : Ro (fun y => ∃ v : wSt, y = Sum.inl v ∧ v.2 = t.2 ∧ (∀ a j, a ≠ 115 → v.1 a j = t.1 a j) ∧ (∀ g, g < K → v.1 115 g = 1)) (wL (S := Int32 × wSt) (fun x => F_X9_sweets_b17 79 x.1 x.2) wFu ((0 : Int32), t)) := by
    refine wL_ro (fun k x => ∃ v : wSt, x = (nI k, v) ∧ v.2 = t.2 ∧ (∀ a j, a ≠ 115 → v.1 a j = t.1 a j) ∧ (∀ g, g < k → v.1 115 g = 1)) _ K (by unfold wFu; omega) ?_ ⟨t, rfl, rfl, fun _ _ _ => rfl, fun g h => by omega⟩
    rintro k x hk ⟨v, rfl, hv2, hv0, hR⟩
    have hkn : F_X9_knownBy 79 v = some (nI K) := by
      rw [← e4]
      unfold F_X9_knownBy
      rw [hv0 _ _ (by decide), hv0 _ _ (by decide)]
    unfold F_X9_sweets_b17
    dsimp only
    rw [hkn, wP_s]
    have eK := nI_leE (a := K) (b := k) (by omega) (by omega)
    by_cases hKk : K ≤ k
    · right
      have : k = K := by omega
      subst this
      exact ⟨.inl v, if_pos (by rw [eK]; exact hKk), v, rfl, hv2, hv0, hR⟩
    · left
      refine ⟨(nI (k + 1), w_sI v 115 k 1), ?_, by omega, _, rfl, hv2, fun a j q => ?_, fun g hg => ?_⟩
      · rw [if_neg (by rw [eK]; exact hKk), hv2, q73, wR_115, wSZ_eq, wN_115 _ (by omega), o1, wB_eq, nI_addL]
      · rw [sI_ne _ _ _ _ _ _ q]
        exact hv0 a j q
      · by_cases hgk : g = k
        · subst hgk
          exact sI_eq _ _ _ _
        · rw [sI_ne2 _ _ _ _ _ _ hgk]
          exact hR g (by omega)
  obtain ⟨y, hy', w1, rfl, hw2, hw0, hwR⟩ := a2
  have key : Rl (fun x y => ∃ u1 t1, x = ((), u1) ∧ y = .inl t1 ∧ u1.2 = u.2 ∧ t1.2 = t.2 ∧ (∀ a j, a ≠ 76 → u1.1 a j = u.1 a j) ∧ (∀ a j, a ≠ 115 → t1.1 a j = t.1 a j) ∧ (∀ i, i < K → t1.1 115 i = bI (u1.1 76 i = 0) ∧ (u1.1 76 i = 0 ∨ u1.1 76 i = 1))) (wL (S := Int32 × wSt) (fun x => F_X4_sift_b28 70 x.1 x.2) wFu (nI K - 1, v1)) (wL (S := Int32 × wSt) (fun x => F_X9_sweets_b45 79 x.1 x.2) wFu (nI K - 1, w1)) := by
    refine wL_rl (fun j x y => ∃ u1 t1, x = (nI (K - j) - 1, u1) ∧ y = (nI (K - j) - 1, t1) ∧ u1.2 = u.2 ∧ t1.2 = t.2 ∧ (∀ a j, a ≠ 76 → u1.1 a j = u.1 a j) ∧ (∀ a j, a ≠ 115 → t1.1 a j = t.1 a j) ∧ (∀ i, i < K → t1.1 115 i = bI (u1.1 76 i = 0) ∧ (u1.1 76 i = 0 ∨ u1.1 76 i = 1))) _ K (by unfold wFu; omega) ?_ ⟨v1, w1, rfl, rfl, hv2, hw2, hv0, hw0, fun i hi => ⟨by rw [hwR i hi, hvR i (by omega)]; rfl, Or.inl (hvR i (by omega))⟩⟩
    rintro j x y hj ⟨u1, t1, rfl, rfl, b1, b2, b3, b4, b5⟩
    unfold F_X4_sift_b28 F_X9_sweets_b45 F_X4_sift_j63 F_X9_sweets_j85
    dsimp only
    by_cases hjK : j = K
    · right
      subst hjK
      rw [Nat.sub_self]
      exact ⟨_, _, if_pos (by decide), if_pos (by decide), u1, t1, rfl, rfl, b1, b2, b3, b4, b5⟩
    · left
      have hr : nI (K - j) - 1 = nI (K - j - 1) := nI_sub (b := 1) (by omega)
      have hr2 : nI (K - (j + 1)) - 1 = nI (K - j - 1) - 1 := by rw [show K - (j + 1) = K - j - 1 by omega]
      obtain ⟨i, hi⟩ : ∃ i, i = K - j - 1 := ⟨_, rfl⟩
      rw [hr, hr2, ← hi]
      have hiK : i < K := by omega
      have hin : ¬ nI i < 0 := by rw [nI_nn (by omega)]; exact id
      have c5 := b5 i hiK
      have eS := e5 i (by omega)
      rw [if_neg hin, if_neg hin, b1, r7, wR_76, wN_76 _ (by omega), b2, q73, wR_115, wN_115 _ (by omega)]
      have same : ∃ s' t', (some (Sum.inl (β := Unit × wSt) (nI i - 1, u1))) = some (.inl s') ∧ (some (Sum.inl (β := wSt ⊕ (Int32 × wSt)) (nI i - 1, t1))) = some (.inl t') ∧ j < K ∧ ∃ u1 t1, s' = (nI i - 1, u1) ∧ t' = (nI i - 1, t1) ∧ u1.2 = u.2 ∧ t1.2 = t.2 ∧ (∀ a j, a ≠ 76 → u1.1 a j = u.1 a j) ∧ (∀ a j, a ≠ 115 → t1.1 a j = t.1 a j) ∧ (∀ i, i < K → t1.1 115 i = bI (u1.1 76 i = 0) ∧ (u1.1 76 i = 0 ∨ u1.1 76 i = 1)) := ⟨_, _, rfl, rfl, by omega, u1, t1, rfl, rfl, b1, b2, b3, b4, b5⟩
      by_cases z : u1.1 76 i = 0
      · rw [if_pos z, c5.1, bI_t z, if_neg n10, r6, wR_75, wN_75 _ (by omega), b3 _ _ (by decide), q72, wR_114, nI_mulL, wN_114 _ (by omega), b4 _ _ (by decide)]
        rcases eS with ⟨f1, ⟨s1, hs1, hs2, f2⟩, -, -, f5, -⟩ | ⟨g, hg, f1, f2, f3⟩
        · rw [if_pos f1, f5, f2, if_pos (nI_pos' (by omega)), wJ_inl, wJ_inl, wB_eq, wB_eq, i_pm]
          exact same
        · have gn : ¬ nI g = (-1 : Int32) := by rw [nI_neg (by omega)]; exact id
          refine ⟨(nI i - 1, w_sI u1 76 g 1), (nI i - 1, w_sI t1 115 g 0), ?_, ?_, by omega, _, _, rfl, rfl, b1, b2, fun a j q => ?_, fun a j q => ?_, fun i' hi' => ?_⟩
          · rw [f1, if_neg gn, wR_76, wR_75, wN_75 _ (by omega), b3 _ _ (by decide), f1, wSZ_eq, wN_76 _ (by omega), o1, wJ_inl, wB_eq, i_pm]
          · rw [f2, if_neg (by decide), wR_115, wR_114, nI_addL, wN_114 _ (by omega), b4 _ _ (by decide), f3, wSZ_eq, wN_115 _ (by omega), o0, wJ_inl, wB_eq, i_pm]
          · rw [sI_ne _ _ _ _ _ _ q]
            exact b3 a j q
          · rw [sI_ne _ _ _ _ _ _ q]
            exact b4 a j q
          · by_cases hig : i' = g
            · subst hig
              rw [sI_eq, sI_eq]
              exact ⟨(bI_f n10).symm, Or.inr rfl⟩
            · rw [sI_ne2 _ _ _ _ _ _ hig, sI_ne2 _ _ _ _ _ _ hig]
              exact b5 i' hi'
      · rw [if_neg z, c5.1, bI_f z, if_pos rfl, wJ_inl, wJ_inl, wB_eq, wB_eq, i_pm]
        exact same
  obtain ⟨x, y, k1, k2, u1, t1, rfl, rfl, b1, b2, b3, b4, b5⟩ := key
  have kn1 : ∀ v : wSt, (∀ a j, a ≠ 76 → v.1 a j = u.1 a j) → F_X4_knownSize 70 v = some (nI K) := fun v hv => by
    rw [← e3]
    unfold F_X4_knownSize
    rw [hv _ _ (by decide), hv _ _ (by decide)]
  have kn2 : ∀ v : wSt, (∀ a j, a ≠ 115 → v.1 a j = t.1 a j) → F_X9_knownBy 79 v = some (nI K) := fun v hv => by
    rw [← e4]
    unfold F_X9_knownBy
    rw [hv _ _ (by decide), hv _ _ (by decide)]
  refine ⟨K, q, u1, t1, hKq, hq, ?_, ⟨fun a j _ => by rw [b1], fun a j q r => b3 a j (by omega)⟩, b1, fun z => ?_, ⟨by rw [b2], fun a j q => b4 a j (fun r => q (by unfold scr; omega)), by rw [b2], by rw [b2]⟩, kn1 u1 b3, kn2 t1 b4, fun i hi => ?_, b5⟩
  · unfold F_X4_sift F_X4_sift_j21
    rw [hy, wJ_inl, kn1 v1 hv0, wP_s, wB_eq, k1]
  · unfold F_X9_sweets_j38
    rw [hy', wJ_inl, kn2 w1 hw0, wP_s, wB_eq, k2, wJ_inl]
  · have := e5 i hi
    unfold Se at this ⊢
    simp (disch := decide) only [b3, b4]
    exact this
end

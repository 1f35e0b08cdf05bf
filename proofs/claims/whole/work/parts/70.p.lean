/-! a scene at the text's beginning -/
def bg1 (v : wSt) (c d k : Nat) : wSt := w_sI (w_sI (w_sI (w_sI v (c + 1) k (nI k)) (c + 2) k (v.1 (d + 2) k)) (c + 3) k (v.1 (d + 3) k)) (c + 4) k 0
def bg2 (v : wSt) (c k : Nat) : wSt := w_sI (w_sI v (c + 5) k 0) (c + 6) k 0
def bt1 (v : wSt) (b k : Nat) : wSt := w_sI (w_sI (w_sI (w_sI (w_sI v 104 (6 * b + k) (v.1 85 k)) 105 (6 * b + k) (v.1 86 k)) 106 (6 * b + k) (nI k)) 107 (6 * b + k) 1) 108 (6 * b + k) 0
def bt2 (v : wSt) (b k : Nat) : wSt := w_sI (w_sI (w_sI v 109 (8 * b + k) 0) 110 (8 * b + k) 0) 111 (8 * b + k) 0
def rsb (b a j : Nat) : Prop := (104 ≤ a ∧ a ≤ 108 ∧ 6 * b ≤ j ∧ j < 6 * b + 6) ∨ (109 ≤ a ∧ a ≤ 111 ∧ 8 * b ≤ j ∧ j < 8 * b + 8) ∨ (a = 112 ∧ j = b)
section
variable {n m k d c b B : Nat} {u t : wSt}
theorem begin_s (hp : PL u.2.2) (hc : SC c) (hd : TC d) : ∃ u', F_X3_begin c d u = some ((), u') ∧ u'.2 = u.2 ∧ (∀ a j, ¬ (c ≤ a ∧ a ≤ c + 6) → u'.1 a j = u.1 a j) ∧ u'.1 c 0 = 0 ∧ u'.1 c 1 = u.1 d 6 ∧ u'.1 c 2 = 0 ∧ u'.1 c 3 = 0 ∧ (∀ g, g < 6 → u'.1 (c + 1) g = nI g ∧ u'.1 (c + 2) g = u.1 (d + 2) g ∧ u'.1 (c + 3) g = u.1 (d + 3) g ∧ u'.1 (c + 4) g = 0) ∧ (∀ f, f < 8 → u'.1 (c + 5) f = 0 ∧ u'.1 (c + 6) f = 0) := by
  have c1 := SC_le hc
  have d1 := TC_le hd
  obtain ⟨u0, eu0⟩ : ∃ u0, u0 = w_sI (w_sI (w_sI (w_sI u c 0 0) c 1 (u.1 d 6)) c 2 0) c 3 0 := ⟨_, rfl⟩
  have z2 : u0.2 = u.2 := by rw [eu0]; rfl
  have z0 : ∀ a j, a ≠ c → u0.1 a j = u.1 a j := fun a j h => by
    rw [eu0, sI_ne _ _ _ _ _ _ h, sI_ne _ _ _ _ _ _ h, sI_ne _ _ _ _ _ _ h, sI_ne _ _ _ _ _ _ h]
  have k1 : Ro (fun y => ∃ v : wSt, y = Sum.inl v ∧ v.2 = u.2 ∧ (∀ a j, ¬ (c + 1 ≤ a ∧ a ≤ c + 4) → v.1 a j = u0.1 a j) ∧ (∀ g, g < 6 → v.1 (c + 1) g = nI g ∧ v.1 (c + 2) g = u.1 (d + 2) g ∧ v.1 (c + 3) g = u.1 (d + 3) g ∧ v.1 (c + 4) g = 0)) (wL (S := Int32 × wSt) (fun x => F_X3_begin_b25 c d x.1 x.2) wFu ((0 : Int32), u0)) := by
    refine wL_ro (fun k x => ∃ v : wSt, x = (nI k, v) ∧ v.2 = u.2 ∧ (∀ a j, ¬ (c + 1 ≤ a ∧ a ≤ c + 4) → v.1 a j = u0.1 a j) ∧ (∀ g, g < k → v.1 (c + 1) g = nI g ∧ v.1 (c + 2) g = u.1 (d + 2) g ∧ v.1 (c + 3) g = u.1 (d + 3) g ∧ v.1 (c + 4) g = 0)) _ 6 (by unfold wFu; omega) ?_ ⟨u0, rfl, z2, fun _ _ _ => rfl, fun g h => by omega⟩
    rintro k x hk ⟨v, rfl, hv2, hv0, hR⟩
    have hpv : PL v.2.2 := by rw [hv2]; exact hp
    unfold F_X3_begin_b25
    dsimp only
    have e6 : ((6 : Int32) ≤ nI k) = (6 ≤ k) := nI_leE (a := 6) (b := k) (by omega) (by omega)
    by_cases h6 : k = 6
    · right
      subst h6
      exact ⟨.inl v, if_pos (by decide), v, rfl, hv2, hv0, hR⟩
    · left
      have hk6 : k < 6 := by omega
      obtain ⟨p4, p5, p6, p7, -, -⟩ := PL_c hpv hc
      have d8 := (PL_d hpv hd).2.1
      have d9 := (PL_d hpv hd).2.2.1
      refine ⟨(nI (k + 1), bg1 v c d k), ?_, hk6, _, rfl, hv2, fun a j h => ?_, fun g hg => ?_⟩
      · unfold bg1
        rw [if_neg (by rw [e6]; omega), p4, wR_c1 _ hc, wSI_eq, wN_c1 _ hc hk6]
        rw [sI_r, p5, wR_c2 _ hc, d8, wR_d2 _ hd, wN_d2 _ hd hk6, wSI_eq, wN_c2 _ hc hk6, sI_ne _ _ _ _ _ _ (by omega)]
        rw [sI_r, sI_r, p6, wR_c3 _ hc, d9, wR_d3 _ hd, wN_d3 _ hd hk6, wSI_eq, wN_c3 _ hc hk6, sI_ne _ _ _ _ _ _ (by omega), sI_ne _ _ _ _ _ _ (by omega)]
        rw [sI_r, sI_r, sI_r, p7, wR_c4 _ hc, wSI_eq, wN_c4 _ hc hk6, wB_eq, nI_addL]
      · unfold bg1
        rw [sI_ne _ _ _ _ _ _ (by omega), sI_ne _ _ _ _ _ _ (by omega), sI_ne _ _ _ _ _ _ (by omega), sI_ne _ _ _ _ _ _ (by omega)]
        exact hv0 a j h
      · have e2 : v.1 (d + 2) k = u.1 (d + 2) k := by rw [hv0 _ _ (by omega)]; exact z0 _ _ (by omega)
        have e3 : v.1 (d + 3) k = u.1 (d + 3) k := by rw [hv0 _ _ (by omega)]; exact z0 _ _ (by omega)
        unfold bg1
        by_cases hgk : g = k
        · subst hgk
          refine ⟨?_, ?_, ?_, ?_⟩
          · rw [sI_ne _ _ _ _ _ _ (by omega), sI_ne _ _ _ _ _ _ (by omega), sI_ne _ _ _ _ _ _ (by omega), sI_eq]
          · rw [sI_ne _ _ _ _ _ _ (by omega), sI_ne _ _ _ _ _ _ (by omega), sI_eq, e2]
          · rw [sI_ne _ _ _ _ _ _ (by omega), sI_eq, e3]
          · rw [sI_eq]
        · have ne : ∀ (w : wSt) (a i : Nat) (x : Int32), (w_sI w a k x).1 i g = w.1 i g := fun w a i x => sI_ne2 _ _ _ _ _ _ hgk
          rw [ne, ne, ne, ne, ne, ne, ne, ne, ne, ne, ne, ne, ne, ne, ne, ne]
          exact hR g (by omega)
  obtain ⟨y, hy, v1, rfl, hv2, hv0, hR⟩ := k1
  have hp1 : PL v1.2.2 := by rw [hv2]; exact hp
  have k2 : Ro (fun y => ∃ v : wSt, y = ((), v) ∧ v.2 = u.2 ∧ (∀ a j, ¬ (c + 5 ≤ a ∧ a ≤ c + 6) → v.1 a j = v1.1 a j) ∧ (∀ f, f < 8 → v.1 (c + 5) f = 0 ∧ v.1 (c + 6) f = 0)) (wL (S := Int32 × wSt) (fun x => F_X3_begin_b77 c x.1 x.2) wFu ((0 : Int32), v1)) := by
    refine wL_ro (fun k x => ∃ v : wSt, x = (nI k, v) ∧ v.2 = u.2 ∧ (∀ a j, ¬ (c + 5 ≤ a ∧ a ≤ c + 6) → v.1 a j = v1.1 a j) ∧ (∀ f, f < k → v.1 (c + 5) f = 0 ∧ v.1 (c + 6) f = 0)) _ 8 (by unfold wFu; omega) ?_ ⟨v1, rfl, hv2, fun _ _ _ => rfl, fun g h => by omega⟩
    rintro k x hk ⟨v, rfl, hw2, hw0, hR⟩
    have hpv : PL v.2.2 := by rw [hw2]; exact hp
    unfold F_X3_begin_b77
    dsimp only
    have e8 : ((8 : Int32) ≤ nI k) = (8 ≤ k) := nI_leE (a := 8) (b := k) (by omega) (by omega)
    by_cases h8 : k = 8
    · right
      subst h8
      exact ⟨((), v), if_pos (by decide), v, rfl, hw2, hw0, hR⟩
    · left
      have hk8 : k < 8 := by omega
      obtain ⟨-, -, -, -, p8, p9⟩ := PL_c hpv hc
      refine ⟨(nI (k + 1), bg2 v c k), ?_, hk8, _, rfl, hw2, fun a j h => ?_, fun g hg => ?_⟩
      · unfold bg2
        rw [if_neg (by rw [e8]; omega), p8, wR_c5 _ hc, wSI_eq, wN_c5 _ hc hk8, sI_r, p9, wR_c6 _ hc, wSI_eq, wN_c6 _ hc hk8, wB_eq, nI_addL]
      · unfold bg2
        rw [sI_ne _ _ _ _ _ _ (by omega), sI_ne _ _ _ _ _ _ (by omega)]
        exact hw0 a j h
      · unfold bg2
        by_cases hgk : g = k
        · subst hgk
          exact ⟨by rw [sI_ne _ _ _ _ _ _ (by omega), sI_eq], by rw [sI_eq]⟩
        · have ne : ∀ (w : wSt) (a i : Nat) (x : Int32), (w_sI w a k x).1 i g = w.1 i g := fun w a i x => sI_ne2 _ _ _ _ _ _ hgk
          rw [ne, ne, ne, ne]
          exact hR g (by omega)
  obtain ⟨y, hy2, v2, rfl, hw2, hw0, hS⟩ := k2
  have wc : ∀ j, v2.1 c j = u0.1 c j := fun j => by rw [hw0 _ _ (by omega), hv0 _ _ (by omega)]
  refine ⟨v2, ?_, hw2, fun a j h => ?_, ?_, ?_, ?_, ?_, fun g hg => ?_, hS⟩
  · unfold F_X3_begin F_X3_begin_j75
    rw [wB_eq, wB_eq, wB_eq, wB_eq, sI_ne _ _ _ _ _ _ (show d ≠ c by omega), ← eu0, hy, wJ_inl, hy2]
  · rw [hw0 _ _ (by omega), hv0 _ _ (by omega), z0 _ _ (by omega)]
  · rw [wc, eu0, sI_ne2 _ _ _ _ _ _ (by decide), sI_ne2 _ _ _ _ _ _ (by decide), sI_ne2 _ _ _ _ _ _ (by decide), sI_eq]
  · rw [wc, eu0, sI_ne2 _ _ _ _ _ _ (by decide), sI_ne2 _ _ _ _ _ _ (by decide), sI_eq]
  · rw [wc, eu0, sI_ne2 _ _ _ _ _ _ (by decide), sI_eq]
  · rw [wc, eu0, sI_eq]
  · rw [hw0 _ _ (by omega), hw0 _ _ (by omega), hw0 _ _ (by omega), hw0 _ _ (by omega)]
    exact hR g hg
theorem first_t (hm : PM t.2.2) (hb : b < 2) : ∃ t', F_X9_atFirst 79 (nI b) t = some ((), t') ∧ t'.2 = t.2 ∧ (∀ a j, ¬ rsb b a j → t'.1 a j = t.1 a j) ∧ t'.1 112 b = 0 ∧ (∀ g, g < 6 → t'.1 104 (6 * b + g) = t.1 85 g ∧ t'.1 105 (6 * b + g) = t.1 86 g ∧ t'.1 106 (6 * b + g) = nI g ∧ t'.1 107 (6 * b + g) = 1 ∧ t'.1 108 (6 * b + g) = 0) ∧ (∀ f, f < 8 → t'.1 109 (8 * b + f) = 0 ∧ t'.1 110 (8 * b + f) = 0 ∧ t'.1 111 (8 * b + f) = 0) := by
  have o1 : (1 : Int32) &&& 1 = 1 := by decide
  have o0 : (0 : Int32) &&& 1 = 0 := by decide
  have k1 : Ro (fun y => ∃ v : wSt, y = Sum.inl v ∧ v.2 = t.2 ∧ (∀ a j, ¬ (104 ≤ a ∧ a ≤ 108 ∧ 6 * b ≤ j ∧ j < 6 * b + 6) → v.1 a j = t.1 a j) ∧ (∀ g, g < 6 → v.1 104 (6 * b + g) = t.1 85 g ∧ v.1 105 (6 * b + g) = t.1 86 g ∧ v.1 106 (6 * b + g) = nI g ∧ v.1 107 (6 * b + g) = 1 ∧ v.1 108 (6 * b + g) = 0)) (wL (S := Int32 × wSt) (fun x => F_X9_atFirst_b2 79 (nI b) x.1 x.2) wFu ((0 : Int32), t)) := by
    refine wL_ro (fun k x => ∃ v : wSt, x = (nI k, v) ∧ v.2 = t.2 ∧ (∀ a j, ¬ (104 ≤ a ∧ a ≤ 108 ∧ 6 * b ≤ j ∧ j < 6 * b + 6) → v.1 a j = t.1 a j) ∧ (∀ g, g < k → v.1 104 (6 * b + g) = t.1 85 g ∧ v.1 105 (6 * b + g) = t.1 86 g ∧ v.1 106 (6 * b + g) = nI g ∧ v.1 107 (6 * b + g) = 1 ∧ v.1 108 (6 * b + g) = 0)) _ 6 (by unfold wFu; omega) ?_ ⟨t, rfl, rfl, fun _ _ _ => rfl, fun g h => by omega⟩
    rintro k x hk ⟨v, rfl, hv2, hv0, hR⟩
    have hmv : PM v.2.2 := by rw [hv2]; exact hm
    unfold F_X9_atFirst_b2
    dsimp only
    have e6 : ((6 : Int32) ≤ nI k) = (6 ≤ k) := nI_leE (a := 6) (b := k) (by omega) (by omega)
    by_cases h6 : k = 6
    · right
      subst h6
      exact ⟨.inl v, if_pos (by decide), v, rfl, hv2, hv0, hR⟩
    · left
      have hk6 : k < 6 := by omega
      have q49 : v.2.2 79 49 = 105 := by simp only [PM_u hmv]
      have q50 : v.2.2 79 50 = 106 := by simp only [PM_u hmv]
      have q51 : v.2.2 79 51 = 107 := by simp only [PM_u hmv]
      have q52 : v.2.2 79 52 = 108 := by simp only [PM_u hmv]
      have q53 : v.2.2 79 53 = 109 := by simp only [PM_u hmv]
      have q23 : v.2.2 79 23 = 86 := by simp only [PM_u hmv]
      have q24 : v.2.2 79 24 = 87 := by simp only [PM_u hmv]
      have ix : (6 : Int32) * nI b + nI k = nI (6 * b + k) := by rw [nI_mulL, nI_add]
      refine ⟨(nI (k + 1), bt1 v b k), ?_, hk6, _, rfl, hv2, fun a j h => ?_, fun g hg => ?_⟩
      · unfold bt1
        rw [if_neg (by rw [e6]; omega), ix, q49, wR_104, q23, wR_85, wN_85 _ (by omega), wSI_eq, wN_104 _ (by omega)]
        rw [sI_r, q50, wR_105, q24, wR_86, wN_86 _ (by omega), wSI_eq, wN_105 _ (by omega), sI_ne _ _ _ _ _ _ (by decide)]
        rw [sI_r, sI_r, q51, wR_106, wSI_eq, wN_106 _ (by omega)]
        rw [sI_r, sI_r, sI_r, q52, wR_107, wSZ_eq, wN_107 _ (by omega), o1]
        rw [sI_r, sI_r, sI_r, sI_r, q53, wR_108, wSI_eq, wN_108 _ (by omega), wB_eq, nI_addL]
      · have ne : ∀ (w : wSt) (x : Nat) (y : Int32), 104 ≤ x → x ≤ 108 → (w_sI w x (6 * b + k) y).1 a j = w.1 a j := fun w x y h1 h2 => if_neg (by omega)
        unfold bt1
        rw [ne _ _ _ (by omega) (by omega), ne _ _ _ (by omega) (by omega), ne _ _ _ (by omega) (by omega), ne _ _ _ (by omega) (by omega), ne _ _ _ (by omega) (by omega)]
        exact hv0 a j h
      · have e2 : v.1 85 k = t.1 85 k := hv0 _ _ (by omega)
        have e3 : v.1 86 k = t.1 86 k := hv0 _ _ (by omega)
        unfold bt1
        by_cases hgk : g = k
        · subst hgk
          refine ⟨?_, ?_, ?_, ?_, ?_⟩
          · rw [sI_ne _ _ _ _ _ _ (by decide), sI_ne _ _ _ _ _ _ (by decide), sI_ne _ _ _ _ _ _ (by decide), sI_ne _ _ _ _ _ _ (by decide), sI_eq, e2]
          · rw [sI_ne _ _ _ _ _ _ (by decide), sI_ne _ _ _ _ _ _ (by decide), sI_ne _ _ _ _ _ _ (by decide), sI_eq, e3]
          · rw [sI_ne _ _ _ _ _ _ (by decide), sI_ne _ _ _ _ _ _ (by decide), sI_eq]
          · rw [sI_ne _ _ _ _ _ _ (by decide), sI_eq]
          · rw [sI_eq]
        · have ne : ∀ (w : wSt) (a i : Nat) (x : Int32), (w_sI w a (6 * b + k) x).1 i (6 * b + g) = w.1 i (6 * b + g) := fun w a i x => sI_ne2 _ _ _ _ _ _ (by omega)
          simp only [ne]
          exact hR g (by omega)
  obtain ⟨y, hy, v1, rfl, hv2, hv0, hR⟩ := k1
  have k2 : Ro (fun y => ∃ v : wSt, y = Sum.inl v ∧ v.2 = t.2 ∧ (∀ a j, ¬ (109 ≤ a ∧ a ≤ 111 ∧ 8 * b ≤ j ∧ j < 8 * b + 8) → v.1 a j = v1.1 a j) ∧ (∀ g, g < 8 → v.1 109 (8 * b + g) = 0 ∧ v.1 110 (8 * b + g) = 0 ∧ v.1 111 (8 * b + g) = 0)) (wL (S := Int32 × wSt) (fun x => F_X9_atFirst_b86 79 (nI b) x.1 x.2) wFu ((0 : Int32), v1)) := by
    refine wL_ro (fun k x => ∃ v : wSt, x = (nI k, v) ∧ v.2 = t.2 ∧ (∀ a j, ¬ (109 ≤ a ∧ a ≤ 111 ∧ 8 * b ≤ j ∧ j < 8 * b + 8) → v.1 a j = v1.1 a j) ∧ (∀ g, g < k → v.1 109 (8 * b + g) = 0 ∧ v.1 110 (8 * b + g) = 0 ∧ v.1 111 (8 * b + g) = 0)) _ 8 (by unfold wFu; omega) ?_ ⟨v1, rfl, hv2, fun _ _ _ => rfl, fun g h => by omega⟩
    rintro k x hk ⟨v, rfl, hw2, hw0, hR⟩
    have hmv : PM v.2.2 := by rw [hw2]; exact hm
    unfold F_X9_atFirst_b86
    dsimp only
    have e8 : ((8 : Int32) ≤ nI k) = (8 ≤ k) := nI_leE (a := 8) (b := k) (by omega) (by omega)
    by_cases h8 : k = 8
    · right
      subst h8
      exact ⟨.inl v, if_pos (by decide), v, rfl, hw2, hw0, hR⟩
    · left
      have hk8 : k < 8 := by omega
      have q54 : v.2.2 79 54 = 110 := by simp only [PM_u hmv]
      have q55 : v.2.2 79 55 = 111 := by simp only [PM_u hmv]
      have q56 : v.2.2 79 56 = 112 := by simp only [PM_u hmv]
      have ix : (8 : Int32) * nI b + nI k = nI (8 * b + k) := by rw [nI_mulL, nI_add]
      refine ⟨(nI (k + 1), bt2 v b k), ?_, hk8, _, rfl, hw2, fun a j h => ?_, fun g hg => ?_⟩
      · unfold bt2
        rw [if_neg (by rw [e8]; omega), ix, q54, wR_109, wSI_eq, wN_109 _ (by omega)]
        rw [sI_r, q55, wR_110, wSZ_eq, wN_110 _ (by omega), o0]
        rw [sI_r, sI_r, q56, wR_111, wSI_eq, wN_111 _ (by omega), wB_eq, nI_addL]
      · have ne : ∀ (w : wSt) (x : Nat) (y : Int32), 109 ≤ x → x ≤ 111 → (w_sI w x (8 * b + k) y).1 a j = w.1 a j := fun w x y h1 h2 => if_neg (by omega)
        unfold bt2
        rw [ne _ _ _ (by omega) (by omega), ne _ _ _ (by omega) (by omega), ne _ _ _ (by omega) (by omega)]
        exact hw0 a j h
      · unfold bt2
        by_cases hgk : g = k
        · subst hgk
          exact ⟨by rw [sI_ne _ _ _ _ _ _ (by decide), sI_ne _ _ _ _ _ _ (by decide), sI_eq], by rw [sI_ne _ _ _ _ _ _ (by decide), sI_eq], by rw [sI_eq]⟩
        · have ne : ∀ (w : wSt) (a i : Nat) (x : Int32), (w_sI w a (8 * b + k) x).1 i (8 * b + g) = w.1 i (8 * b + g) := fun w a i x => sI_ne2 _ _ _ _ _ _ (by omega)
          simp only [ne]
          exact hR g (by omega)
  obtain ⟨y, hy2, v2, rfl, hw2, hw0, hS⟩ := k2
  have hm2 : PM v2.2.2 := by rw [hw2]; exact hm
  have q57 : v2.2.2 79 57 = 113 := by simp only [PM_u hm2]
  refine ⟨w_sI v2 112 b 0, ?_, hw2, fun a j h => ?_, sI_eq _ _ _ _, fun g hg => ?_, fun f hf => ?_⟩
  · unfold F_X9_atFirst F_X9_atFirst_j84 F_X9_atFirst_j134
    rw [hy, wJ_inl, hy2, wJ_inl, q57, wR_112, wSI_eq, wN_112 _ hb]
  · unfold rsb at h
    rw [show (w_sI v2 112 b 0).1 a j = v2.1 a j from if_neg (by omega), hw0 _ _ (by omega), hv0 _ _ (by omega)]
  · rw [sI_ne _ _ _ _ _ _ (by decide), sI_ne _ _ _ _ _ _ (by decide), sI_ne _ _ _ _ _ _ (by decide), sI_ne _ _ _ _ _ _ (by decide), sI_ne _ _ _ _ _ _ (by decide), hw0 _ _ (by omega), hw0 _ _ (by omega), hw0 _ _ (by omega), hw0 _ _ (by omega), hw0 _ _ (by omega)]
    exact hR g hg
  · rw [sI_ne _ _ _ _ _ _ (by decide), sI_ne _ _ _ _ _ _ (by decide), sI_ne _ _ _ _ _ _ (by decide)]
    exact hS f hf
/-- the scene that both begin with -/
theorem Sc_begin {U T : Nat → Nat → Int32} (hT : Td n m k d U T) (h0 : U c 0 = 0) (h2 : U c 2 = 0) (h3 : U c 3 = 0) (hG : ∀ g, g < 6 → U (c + 1) g = nI g ∧ U (c + 2) g = U (d + 2) g ∧ U (c + 3) g = U (d + 3) g ∧ U (c + 4) g = 0) (hF : ∀ f, f < 8 → U (c + 5) f = 0 ∧ U (c + 6) f = 0) (t0 : T 112 b = 0) (tG : ∀ g, g < 6 → T 104 (6 * b + g) = T 85 g ∧ T 105 (6 * b + g) = T 86 g ∧ T 106 (6 * b + g) = nI g ∧ T 107 (6 * b + g) = 1 ∧ T 108 (6 * b + g) = 0) (tF : ∀ f, f < 8 → T 109 (8 * b + f) = 0 ∧ T 110 (8 * b + f) = 0 ∧ T 111 (8 * b + f) = 0) : Sc n m c b 98 U T := by
  obtain ⟨⟨n6, m8, -⟩, -, -, -, -, -, hg, -⟩ := hT
  refine ⟨⟨0, by omega, h0, t0⟩, fun g q => ?_, fun f q => ?_, fun g q => ?_, fun g q => ?_, fun g q => ?_, fun f q => ?_⟩
  · have a := hG g (by omega)
    have e := tG g (by omega)
    have z := hg g q
    rw [a.1, a.2.1, a.2.2.1, a.2.2.2, e.1, e.2.1, e.2.2.1, e.2.2.2.1, e.2.2.2.2, h2, z.2.1, z.2.2.1]
    exact ⟨rfl, rfl, rfl, rfl, (bI_t (bt_0 g)).symm⟩
  · have a := hF f (by omega)
    have e := tF f (by omega)
    rw [a.1, a.2, e.1, e.2.1, e.2.2, h3]
    exact ⟨rfl, rfl, (bI_f (by rw [bt_0]; decide)).symm⟩
  · exact ⟨g, by omega, (hG g (by omega)).1⟩
  · obtain ⟨h, hh, eh⟩ := (hg g q).2.2.2.2
    exact ⟨h, by omega, by rw [(hG g (by omega)).2.2.1]; exact eh, fun _ => hh⟩
  · rw [h2]
    exact bt_0 g
  · rw [h3]
    exact bt_0 f
end

/-! calls that look: the second -/
section
variable {n m k d c b B : Nat} {u t : wSt}

theorem M_hungriest (h : GR n m k d u t) : Q0 t (F_X8_hungriest 0 u) (F_X9_hungriest 79 t) := by
  unfold F_X9_hungriest
  obtain ⟨t0, et⟩ : ∃ t0, t0 = w_sI t 79 2 (0 : Int32) := ⟨_, rfl⟩
  have hK0 : KT t t0 := by rw [et]; exact KT_s (by unfold scr; omega)
  have h := GR_fr h (KC_rf u) hK0
  rw [wB_eq, ← et]
  have q52 : t0.2.2 79 52 = 108 := by simp only [PM_u h.2.1]
  have qr : t0.2.2 79 50 = 106 := by simp only [PM_u h.2.1]
  have r5 : u.2.2 0 5 = 44 := by simp only [PL_u h.1]
  have rc : u.2.2 43 6 = 47 := by simp only [PL_u h.1]
  obtain ⟨hp, hm, hd, h2, -, ⟨⟨n6, -⟩, ⟨e1, -⟩, ⟨e2, -⟩, -⟩, ⟨-, hS, -⟩, -⟩ := h
  have key : Rl (fun x y => y = (x, t0)) (F_X8_hungriest 0 u) (wL (S := Int32 × Int32) (fun x => F_X9_hungriest_b10 t0 79 x.1 x.2) wFu ((-2 : Int32), (0 : Int32))) := by
    unfold F_X8_hungriest
    refine wL_rl (fun i x y => ∃ a : Int32, x = (a, nI i) ∧ y = (a, nI i) ∧ (a = -2 ∨ ∃ g : Nat, g < n ∧ a = nI g)) _ n (by unfold wFu; omega) ?_ ⟨-2, rfl, rfl, Or.inl rfl⟩
    rintro i x y hi ⟨a, rfl, rfl, ha⟩
    unfold F_X8_hungriest_b5 F_X9_hungriest_b10
    dsimp only
    have e := nI_leE (a := n) (b := i) (by omega) (by omega)
    rw [h2, wR_d0 _ hd, e1, e2]
    by_cases hin : n ≤ i
    · right
      exact ⟨a, (a, t0), if_pos (by rw [e]; exact hin), if_pos (by rw [e]; exact hin), rfl⟩
    · left
      have hil : i < n := by omega
      have hne : ¬ nI n ≤ nI i := by rw [e]; exact hin
      have z := hS i hil
      simp only [Nat.mul_zero, Nat.zero_add] at z
      rw [if_neg hne, if_neg hne, r5, wR_43, faint_c (by omega), wP_s, q52, wR_107, wN_107 _ (by omega), z.2.2.2.2]
      unfold F_X8_hungriest_j56 F_X8_hungriest_j54 F_X9_hungriest_j51 F_X9_hungriest_j50 F_X9_hungriest_j46
      by_cases q : bt (u.1 43 2) i = true
      · have q' : ¬ (bt (u.1 43 2) i = false) := by rw [q]; decide
        refine ⟨(a, nI (i + 1)), (a, nI (i + 1)), ?_, ?_, hil, a, rfl, rfl, ha⟩
        · rw [bI_t q, if_neg (by decide)]
          repeat (first | rw [wB_eq] | rw [wC_s] | rw [wP_s] | rw [wJ_inl] | rw [wJ_inr])
          rw [nI_addL]
        · rw [bI_f q', if_pos rfl]
          repeat (first | rw [wB_eq] | rw [wC_s] | rw [wP_s] | rw [wJ_inl] | rw [wJ_inr])
          rw [nI_addL]
      · have q' : bt (u.1 43 2) i = false := by
          cases hq : bt (u.1 43 2) i
          · rfl
          · exact absurd hq q
        rcases ha with rfl | ⟨g, hg, rfl⟩
        · refine ⟨(nI i, nI (i + 1)), (nI i, nI (i + 1)), ?_, ?_, hil, nI i, rfl, rfl, Or.inr ⟨i, hil, rfl⟩⟩
          · rw [bI_f q, if_pos rfl, if_pos rfl]
            repeat (first | rw [wB_eq] | rw [wC_s] | rw [wP_s] | rw [wJ_inl] | rw [wJ_inr])
            rw [nI_addL]
          · rw [bI_t q', if_neg (by decide), if_pos (by decide)]
            repeat (first | rw [wB_eq] | rw [wC_s] | rw [wP_s] | rw [wJ_inl] | rw [wJ_inr])
            rw [nI_addL]
        · have zg := hS g hg
          simp only [Nat.mul_zero, Nat.zero_add] at zg
          have w1 : t0.1 105 i = u.1 46 i := z.2.2.1
          have w2 : t0.1 105 g = u.1 46 g := zg.2.2.1
          by_cases y1 : u.1 46 i ≤ u.1 46 g
          · refine ⟨(nI g, nI (i + 1)), (nI g, nI (i + 1)), ?_, ?_, hil, nI g, rfl, rfl, Or.inr ⟨g, hg, rfl⟩⟩
            · rw [bI_f q, if_pos rfl, if_neg (by rw [nI_neg2 (by omega)]; exact id), wR_43, rc, wR_46, wN_46 _ (by omega), wR_43, rc, wR_46, wN_46 _ (by omega), if_pos y1]
              repeat (first | rw [wB_eq] | rw [wC_s] | rw [wP_s] | rw [wJ_inl] | rw [wJ_inr])
              rw [nI_addL]
            · rw [bI_t q', if_neg (by decide), if_neg (by rw [nI_nn (by omega)]; exact id), qr, wR_105, wN_105 _ (by omega), wR_105, wN_105 _ (by omega), w1, w2, if_pos y1]
              repeat (first | rw [wB_eq] | rw [wC_s] | rw [wP_s] | rw [wJ_inl] | rw [wJ_inr])
              rw [nI_addL]
          · refine ⟨(nI i, nI (i + 1)), (nI i, nI (i + 1)), ?_, ?_, hil, nI i, rfl, rfl, Or.inr ⟨i, hil, rfl⟩⟩
            · rw [bI_f q, if_pos rfl, if_neg (by rw [nI_neg2 (by omega)]; exact id), wR_43, rc, wR_46, wN_46 _ (by omega), wR_43, rc, wR_46, wN_46 _ (by omega), if_neg y1]
              repeat (first | rw [wB_eq] | rw [wC_s] | rw [wP_s] | rw [wJ_inl] | rw [wJ_inr])
              rw [nI_addL]
            · rw [bI_t q', if_neg (by decide), if_neg (by rw [nI_nn (by omega)]; exact id), qr, wR_105, wN_105 _ (by omega), wR_105, wN_105 _ (by omega), w1, w2, if_neg y1]
              repeat (first | rw [wB_eq] | rw [wC_s] | rw [wP_s] | rw [wJ_inl] | rw [wJ_inr])
              rw [nI_addL]
  obtain ⟨x, y, a1, a2, rfl⟩ := key
  rw [a1, a2]
  exact ⟨x, t0, rfl, rfl, hK0⟩

theorem M_rudest (h : GR n m k d u t) : Q0 t (F_X8_rudest 0 u) (F_X9_rudest 79 t) := by
  unfold F_X9_rudest
  obtain ⟨t0, et⟩ : ∃ t0, t0 = w_sI t 79 2 (0 : Int32) := ⟨_, rfl⟩
  have hK0 : KT t t0 := by rw [et]; exact KT_s (by unfold scr; omega)
  have h := GR_fr h (KC_rf u) hK0
  rw [wB_eq, ← et]
  have q52 : t0.2.2 79 52 = 108 := by simp only [PM_u h.2.1]
  have qr : t0.2.2 79 49 = 105 := by simp only [PM_u h.2.1]
  have r5 : u.2.2 0 5 = 44 := by simp only [PL_u h.1]
  have rc : u.2.2 43 5 = 46 := by simp only [PL_u h.1]
  obtain ⟨hp, hm, hd, h2, -, ⟨⟨n6, -⟩, ⟨e1, -⟩, ⟨e2, -⟩, -⟩, ⟨-, hS, -⟩, -⟩ := h
  have key : Rl (fun x y => y = (x, t0)) (F_X8_rudest 0 u) (wL (S := Int32 × Int32) (fun x => F_X9_rudest_b10 t0 79 x.1 x.2) wFu ((-2 : Int32), (0 : Int32))) := by
    unfold F_X8_rudest
    refine wL_rl (fun i x y => ∃ a : Int32, x = (a, nI i) ∧ y = (a, nI i) ∧ (a = -2 ∨ ∃ g : Nat, g < n ∧ a = nI g)) _ n (by unfold wFu; omega) ?_ ⟨-2, rfl, rfl, Or.inl rfl⟩
    rintro i x y hi ⟨a, rfl, rfl, ha⟩
    unfold F_X8_rudest_b5 F_X9_rudest_b10
    dsimp only
    have e := nI_leE (a := n) (b := i) (by omega) (by omega)
    rw [h2, wR_d0 _ hd, e1, e2]
    by_cases hin : n ≤ i
    · right
      exact ⟨a, (a, t0), if_pos (by rw [e]; exact hin), if_pos (by rw [e]; exact hin), rfl⟩
    · left
      have hil : i < n := by omega
      have hne : ¬ nI n ≤ nI i := by rw [e]; exact hin
      have z := hS i hil
      simp only [Nat.mul_zero, Nat.zero_add] at z
      rw [if_neg hne, if_neg hne, r5, wR_43, faint_c (by omega), wP_s, q52, wR_107, wN_107 _ (by omega), z.2.2.2.2]
      unfold F_X8_rudest_j56 F_X8_rudest_j54 F_X9_rudest_j51 F_X9_rudest_j50 F_X9_rudest_j46
      by_cases q : bt (u.1 43 2) i = true
      · have q' : ¬ (bt (u.1 43 2) i = false) := by rw [q]; decide
        refine ⟨(a, nI (i + 1)), (a, nI (i + 1)), ?_, ?_, hil, a, rfl, rfl, ha⟩
        · rw [bI_t q, if_neg (by decide)]
          repeat (first | rw [wB_eq] | rw [wC_s] | rw [wP_s] | rw [wJ_inl] | rw [wJ_inr])
          rw [nI_addL]
        · rw [bI_f q', if_pos rfl]
          repeat (first | rw [wB_eq] | rw [wC_s] | rw [wP_s] | rw [wJ_inl] | rw [wJ_inr])
          rw [nI_addL]
      · have q' : bt (u.1 43 2) i = false := by
          cases hq : bt (u.1 43 2) i
          · rfl
          · exact absurd hq q
        rcases ha with rfl | ⟨g, hg, rfl⟩
        · refine ⟨(nI i, nI (i + 1)), (nI i, nI (i + 1)), ?_, ?_, hil, nI i, rfl, rfl, Or.inr ⟨i, hil, rfl⟩⟩
          · rw [bI_f q, if_pos rfl, if_pos rfl]
            repeat (first | rw [wB_eq] | rw [wC_s] | rw [wP_s] | rw [wJ_inl] | rw [wJ_inr])
            rw [nI_addL]
          · rw [bI_t q', if_neg (by decide), if_pos (by decide)]
            repeat (first | rw [wB_eq] | rw [wC_s] | rw [wP_s] | rw [wJ_inl] | rw [wJ_inr])
            rw [nI_addL]
        · have zg := hS g hg
          simp only [Nat.mul_zero, Nat.zero_add] at zg
          have w1 : t0.1 104 i = u.1 45 i := z.2.1
          have w2 : t0.1 104 g = u.1 45 g := zg.2.1
          by_cases y1 : u.1 45 g ≤ u.1 45 i
          · refine ⟨(nI g, nI (i + 1)), (nI g, nI (i + 1)), ?_, ?_, hil, nI g, rfl, rfl, Or.inr ⟨g, hg, rfl⟩⟩
            · rw [bI_f q, if_pos rfl, if_neg (by rw [nI_neg2 (by omega)]; exact id), wR_43, rc, wR_45, wN_45 _ (by omega), wR_43, rc, wR_45, wN_45 _ (by omega), if_pos y1]
              repeat (first | rw [wB_eq] | rw [wC_s] | rw [wP_s] | rw [wJ_inl] | rw [wJ_inr])
              rw [nI_addL]
            · rw [bI_t q', if_neg (by decide), if_neg (by rw [nI_nn (by omega)]; exact id), qr, wR_104, wN_104 _ (by omega), wR_104, wN_104 _ (by omega), w1, w2, if_pos y1]
              repeat (first | rw [wB_eq] | rw [wC_s] | rw [wP_s] | rw [wJ_inl] | rw [wJ_inr])
              rw [nI_addL]
          · refine ⟨(nI i, nI (i + 1)), (nI i, nI (i + 1)), ?_, ?_, hil, nI i, rfl, rfl, Or.inr ⟨i, hil, rfl⟩⟩
            · rw [bI_f q, if_pos rfl, if_neg (by rw [nI_neg2 (by omega)]; exact id), wR_43, rc, wR_45, wN_45 _ (by omega), wR_43, rc, wR_45, wN_45 _ (by omega), if_neg y1]
              repeat (first | rw [wB_eq] | rw [wC_s] | rw [wP_s] | rw [wJ_inl] | rw [wJ_inr])
              rw [nI_addL]
            · rw [bI_t q', if_neg (by decide), if_neg (by rw [nI_nn (by omega)]; exact id), qr, wR_104, wN_104 _ (by omega), wR_104, wN_104 _ (by omega), w1, w2, if_neg y1]
              repeat (first | rw [wB_eq] | rw [wC_s] | rw [wP_s] | rw [wJ_inl] | rw [wJ_inr])
              rw [nI_addL]
  obtain ⟨x, y, a1, a2, rfl⟩ := key
  rw [a1, a2]
  exact ⟨x, t0, rfl, rfl, hK0⟩

theorem M_marked (h : GR n m k d u t) : Q0 t (F_X8_marked 0 u) (F_X9_marked 79 t) := by
  unfold F_X9_marked
  obtain ⟨t0, et⟩ : ∃ t0, t0 = w_sI t 79 2 (0 : Int32) := ⟨_, rfl⟩
  have hK0 : KT t t0 := by rw [et]; exact KT_s (by unfold scr; omega)
  have h := GR_fr h (KC_rf u) hK0
  rw [wB_eq, ← et]
  have q54 : t0.2.2 79 54 = 110 := by simp only [PM_u h.2.1]
  have r5 : u.2.2 0 5 = 44 := by simp only [PL_u h.1]
  have r48 : u.2.2 43 8 = 49 := by simp only [PL_u h.1]
  obtain ⟨hp, hm, hd, h2, -, ⟨⟨-, m8, -⟩, ⟨-, e1, -⟩, ⟨-, e2, -⟩, -⟩, ⟨-, -, hS, -⟩, -⟩ := h
  have key : Rl (fun x y => y = (x, t0)) (F_X8_marked 0 u) (wL (S := Int32 × Int32) (fun x => F_X9_marked_b9 t0 79 x.1 x.2) wFu ((0 : Int32), (0 : Int32))) := by
    unfold F_X8_marked
    refine wL_rl (fun i x y => ∃ a : Int32, x = (a, nI i) ∧ y = (a, nI i)) _ m (by unfold wFu; omega) ?_ ⟨0, rfl, rfl⟩
    rintro i x y hi ⟨a, rfl, rfl⟩
    unfold F_X8_marked_b4 F_X9_marked_b9
    dsimp only
    have e := nI_leE (a := m) (b := i) (by omega) (by omega)
    rw [h2, wR_d0 _ hd, e1, e2]
    by_cases hin : m ≤ i
    · right
      exact ⟨a, (a, t0), if_pos (by rw [e]; exact hin), if_pos (by rw [e]; exact hin), rfl⟩
    · left
      have hil : i < m := by omega
      have hne : ¬ nI m ≤ nI i := by rw [e]; exact hin
      have z := hS i hil
      simp only [Nat.mul_zero, Nat.zero_add] at z
      rw [if_neg hne, if_neg hne, r5, wR_43, r48, wR_48, wN_48 _ (by omega), q54, wR_109, wN_109 _ (by omega), show t0.1 109 i = u.1 48 i from z.1]
      unfold F_X8_marked_j33 F_X9_marked_j34
      by_cases q : u.1 48 i ≤ 0
      · refine ⟨(a, nI (i + 1)), (a, nI (i + 1)), ?_, ?_, hil, a, rfl, rfl⟩
        · rw [if_pos q]
          repeat (first | rw [wB_eq] | rw [wC_s] | rw [wP_s] | rw [wJ_inl] | rw [wJ_inr])
          rw [nI_addL]
        · rw [if_pos q]
          repeat (first | rw [wB_eq] | rw [wC_s] | rw [wP_s] | rw [wJ_inl] | rw [wJ_inr])
          rw [nI_addL, Int32.or_zero]
      · refine ⟨(a ||| ((1 : Int32) <<< (nI i &&& 31)), nI (i + 1)), (a ||| ((1 : Int32) <<< (nI i &&& 31)), nI (i + 1)), ?_, ?_, hil, _, rfl, rfl⟩
        · rw [if_neg q]
          repeat (first | rw [wB_eq] | rw [wC_s] | rw [wP_s] | rw [wJ_inl] | rw [wJ_inr])
          rw [nI_addL]
        · rw [if_neg q]
          repeat (first | rw [wB_eq] | rw [wC_s] | rw [wP_s] | rw [wJ_inl] | rw [wJ_inr])
          rw [nI_addL]
  obtain ⟨x, y, a1, a2, rfl⟩ := key
  rw [a1, a2]
  exact ⟨x, t0, rfl, rfl, hK0⟩
theorem M_untouched (h : GR n m k d u t) : Q0 t (F_X8_untouched 0 u) (F_X9_untouched 79 t) := by
  unfold F_X9_untouched
  obtain ⟨t0, et⟩ : ∃ t0, t0 = w_sI t 79 2 (0 : Int32) := ⟨_, rfl⟩
  have hK0 : KT t t0 := by rw [et]; exact KT_s (by unfold scr; omega)
  have h := GR_fr h (KC_rf u) hK0
  rw [wB_eq, ← et]
  have q54 : t0.2.2 79 54 = 110 := by simp only [PM_u h.2.1]
  have q55 : t0.2.2 79 55 = 111 := by simp only [PM_u h.2.1]
  have r5 : u.2.2 0 5 = 44 := by simp only [PL_u h.1]
  have r48 : u.2.2 43 8 = 49 := by simp only [PL_u h.1]
  obtain ⟨hp, hm, hd, h2, -, ⟨⟨-, m8, -⟩, ⟨-, e1, -⟩, ⟨-, e2, -⟩, -⟩, ⟨-, -, hS, -⟩, -⟩ := h
  have key : Rl (fun x y => y = (x, t0)) (F_X8_untouched 0 u) (wL (S := Int32 × Int32) (fun x => F_X9_untouched_b9 t0 79 x.1 x.2) wFu ((0 : Int32), (0 : Int32))) := by
    unfold F_X8_untouched
    refine wL_rl (fun i x y => ∃ a : Int32, x = (a, nI i) ∧ y = (a, nI i)) _ m (by unfold wFu; omega) ?_ ⟨0, rfl, rfl⟩
    rintro i x y hi ⟨a, rfl, rfl⟩
    unfold F_X8_untouched_b4 F_X9_untouched_b9
    dsimp only
    have e := nI_leE (a := m) (b := i) (by omega) (by omega)
    rw [h2, wR_d0 _ hd, e1, e2]
    by_cases hin : m ≤ i
    · right
      exact ⟨a, (a, t0), if_pos (by rw [e]; exact hin), if_pos (by rw [e]; exact hin), rfl⟩
    · left
      have hil : i < m := by omega
      have hne : ¬ nI m ≤ nI i := by rw [e]; exact hin
      have z := hS i hil
      simp only [Nat.mul_zero, Nat.zero_add] at z
      rw [if_neg hne, if_neg hne, r5, wR_43, eaten_c (by omega), wP_s, q54, wR_109, wN_109 _ (by omega), show t0.1 109 i = u.1 48 i from z.1]
      unfold F_X8_untouched_j44 F_X9_untouched_j43 F_X9_untouched_j42
      have no : ∀ x, x = a ||| (0 : Int32) → x = a := fun x hx => by rw [hx, Int32.or_zero]
      by_cases q : bt (u.1 43 3) i = true
      · refine ⟨(a, nI (i + 1)), (a, nI (i + 1)), ?_, ?_, hil, a, rfl, rfl⟩
        · rw [bI_t q, if_neg (by decide)]
          repeat (first | rw [wB_eq] | rw [wC_s] | rw [wP_s] | rw [wJ_inl] | rw [wJ_inr])
          rw [nI_addL]
        · by_cases q2 : u.1 48 i = 0
          · rw [if_pos q2, q55, wR_110, wN_110 _ (by omega), z.2.2, bI_t q, if_neg (by decide)]
            repeat (first | rw [wB_eq] | rw [wC_s] | rw [wP_s] | rw [wJ_inl] | rw [wJ_inr])
            rw [nI_addL, Int32.or_zero]
          · rw [if_neg q2]
            repeat (first | rw [wB_eq] | rw [wC_s] | rw [wP_s] | rw [wJ_inl] | rw [wJ_inr])
            rw [nI_addL, Int32.or_zero]
      · by_cases q2 : u.1 48 i = 0
        · refine ⟨(a ||| ((1 : Int32) <<< (nI i &&& 31)), nI (i + 1)), (a ||| ((1 : Int32) <<< (nI i &&& 31)), nI (i + 1)), ?_, ?_, hil, _, rfl, rfl⟩
          · rw [bI_f q, if_pos rfl, wR_43, r48, wR_48, wN_48 _ (by omega), if_pos q2]
            repeat (first | rw [wB_eq] | rw [wC_s] | rw [wP_s] | rw [wJ_inl] | rw [wJ_inr])
            rw [nI_addL]
          · rw [if_pos q2, q55, wR_110, wN_110 _ (by omega), z.2.2, bI_f q, if_pos rfl]
            repeat (first | rw [wB_eq] | rw [wC_s] | rw [wP_s] | rw [wJ_inl] | rw [wJ_inr])
            rw [nI_addL]
        · refine ⟨(a, nI (i + 1)), (a, nI (i + 1)), ?_, ?_, hil, a, rfl, rfl⟩
          · rw [bI_f q, if_pos rfl, wR_43, r48, wR_48, wN_48 _ (by omega), if_neg q2]
            repeat (first | rw [wB_eq] | rw [wC_s] | rw [wP_s] | rw [wJ_inl] | rw [wJ_inr])
            rw [nI_addL]
          · rw [if_neg q2]
            repeat (first | rw [wB_eq] | rw [wC_s] | rw [wP_s] | rw [wJ_inl] | rw [wJ_inr])
            rw [nI_addL, Int32.or_zero]
  obtain ⟨x, y, a1, a2, rfl⟩ := key
  rw [a1, a2]
  exact ⟨x, t0, rfl, rfl, hK0⟩
theorem hear_rl {g : Nat} (hx : Cx n m k d c b B u t) (hg : g < n) : Rl Eq (F_X0_hearers 64 c (nI g) u) (F_X9_hearing 79 (nI b) (nI g) t) := by
  obtain ⟨n6, m8, -⟩ := Cx_b hx
  obtain ⟨h8, e1, -, e2, -⟩ := Cx_e hx
  have hd := hx.2.2.1
  unfold F_X0_hearers F_X9_hearing
  refine wL_rl (fun i x y => ∃ a : Int32, x = (a, nI i) ∧ y = (a, nI i)) _ n (by unfold wFu; omega) ?_ ⟨0, rfl, rfl⟩
  rintro i x y hi ⟨a, rfl, rfl⟩
  unfold F_X0_hearers_b5 F_X9_hearing_b5
  dsimp only
  have e := nI_leE (a := n) (b := i) (by omega) (by omega)
  rw [h8, wR_d0 _ hd, e1, e2]
  by_cases hin : n ≤ i
  · right
    exact ⟨a, a, if_pos (by rw [e]; exact hin), if_pos (by rw [e]; exact hin), rfl⟩
  · left
    have hil : i < n := by omega
    have hne : ¬ nI n ≤ nI i := by rw [e]; exact hin
    obtain ⟨r, r', f1, f2, rfl⟩ := hears_rl hx hil hg
    rw [if_neg hne, if_neg hne, f1, wP_s, f2, wP_s]
    unfold F_X0_hearers_j35 F_X9_hearing_j34
    by_cases q : r = 0
    · refine ⟨(a, nI (i + 1)), (a, nI (i + 1)), ?_, ?_, hil, a, rfl, rfl⟩
      · rw [if_pos q]
        repeat (first | rw [wB_eq] | rw [wC_s] | rw [wP_s] | rw [wJ_inl] | rw [wJ_inr])
        rw [nI_addL]
      · rw [if_pos q]
        repeat (first | rw [wB_eq] | rw [wC_s] | rw [wP_s] | rw [wJ_inl] | rw [wJ_inr])
        rw [nI_addL, Int32.or_zero]
    · refine ⟨(a ||| ((1 : Int32) <<< (nI i &&& 31)), nI (i + 1)), (a ||| ((1 : Int32) <<< (nI i &&& 31)), nI (i + 1)), ?_, ?_, hil, _, rfl, rfl⟩
      · rw [if_neg q]
        repeat (first | rw [wB_eq] | rw [wC_s] | rw [wP_s] | rw [wJ_inl] | rw [wJ_inr])
        rw [nI_addL]
      · rw [if_neg q]
        repeat (first | rw [wB_eq] | rw [wC_s] | rw [wP_s] | rw [wJ_inl] | rw [wJ_inr])
        rw [nI_addL]
end

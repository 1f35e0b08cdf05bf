/-! calls that look: by trials -/
section
variable {n m k d c b B : Nat} {u t : wSt}
/-- a small number, of both -/
theorem in_rng {x : Int32} {p : Nat} (hp : p < 2147483647) (h0 : ¬ x < 0) (h1 : ¬ nI p < x) : ∃ j : Nat, j ≤ p ∧ x = nI j := by
  obtain ⟨j, hj, rfl⟩ := nI_of' (x := x) (by rw [← i_nlt]; exact h0)
  rw [nI_ltE (by omega) hj] at h1
  exact ⟨j, by omega, rfl⟩
theorem TR_V {u' t' : wSt} {s : Nat} (h : GR n m k d u t) (hT : TR n m k d u t u' t' s) : Vw n m k d 57 1 u' t' ∧ Vw n m k d 43 0 u' t' ∧ (∀ g, bt (u'.1 43 2) g = true → bt (u'.1 57 2) g = true) := by
  have h' := GR_fr h hT.1 hT.2.1
  refine ⟨Cx_Vw hT.2.2.1 h'.2.2.2.1, GR_Vw h', fun g q => hT.2.2.2.2.2 g ?_⟩
  rw [hT.1.2 43 2 (by omega) (by omega)] at q
  exact q
theorem M_nextBite {x : Int32} (h : GR n m k d u t) : Q1 u t (F_X8_nextBite 0 x u) (F_X9_nextBite 79 x t) := by
  unfold F_X9_nextBite
  obtain ⟨t0, et⟩ : ∃ t0, t0 = w_sI t 79 2 (0 : Int32) := ⟨_, rfl⟩
  have hK0 : KT t t0 := by rw [et]; exact KT_s (by unfold scr; omega)
  have h := GR_fr h (KC_rf u) hK0
  rw [wB_eq, ← et]
  have n6 := h.2.2.2.2.2.1.1.1
  have n10 : ¬ (1 : Int32) = 0 := by decide
  unfold F_X8_nextBite F_X9_isIn
  by_cases x0 : x < 0
  · rw [if_pos x0, if_pos x0, wP_s, if_pos rfl]
    exact ⟨_, u, t0, rfl, rfl, KC_rf u, hK0⟩
  · rw [if_neg x0, if_neg x0]
    by_cases x1 : x ≤ 1
    · have x1' : ¬ (1 : Int32) < x := by rw [i_nlt]; exact x1
      obtain ⟨s, u1, t1, hs, b1, b2, b3, -⟩ := TR_0 h
      rw [if_pos x1, if_neg x1', wP_s, if_neg n10, b1, wC_s, b2, wC_s]
      have key : Rl (fun x y => (∃ u' t', x = .inr (-2, u') ∧ y = .inr (-2, t') ∧ KC u u' ∧ KT t0 t') ∨ (∃ (i r : Int32) (u' t' : wSt), x = .inl (i, r, u') ∧ y = .inl (i, t') ∧ t'.1 79 59 = r ∧ KC u u' ∧ KT t0 t')) (wL (S := Int32 × wSt) (fun x => F_X8_nextBite_b17 0 x.1 x.2) wFu ((1 : Int32), u1)) (wL (S := Int32 × wSt) (fun x => F_X9_nextBite_b22 79 x.1 x.2) wFu ((1 : Int32), t1)) := by
        refine wL_rl (fun i x y => ∃ u' t', x = (nI (i + 1), u') ∧ y = (nI (i + 1), t') ∧ TR n m k d u t0 u' t' (s + i)) _ 199 (by unfold wFu; omega) ?_ ⟨u1, t1, rfl, rfl, b3⟩
        rintro i x y hi ⟨u', t', rfl, rfl, hT⟩
        obtain ⟨r7, r9, r5⟩ := TR_p hT
        unfold F_X8_nextBite_b17 F_X9_nextBite_b22
        dsimp only
        have e1 : ((199 : Int32) < nI (i + 1)) = (199 < i + 1) := nI_ltE (a := 199) (b := i + 1) (by omega) (by omega)
        have e2 : ((200 : Int32) ≤ nI (i + 1)) = (200 ≤ i + 1) := nI_leE (a := 200) (b := i + 1) (by omega) (by omega)
        by_cases hi2 : 199 ≤ i
        · right
          exact ⟨_, _, if_pos (by rw [e1]; omega), if_pos (by rw [e2]; omega), Or.inl ⟨u', t', rfl, rfl, hT.1, hT.2.1⟩⟩
        · have c1 : ¬ (199 : Int32) < nI (i + 1) := by rw [e1]; omega
          have c2 : ¬ (200 : Int32) ≤ nI (i + 1) := by rw [e2]; omega
          obtain ⟨r, u2, t2, k1, k2, k4, k5, k3, -⟩ := TR_step hT (by omega)
          rw [if_neg c1, if_neg c2, r9, wR_64, r7, wR_57, k1, wC_s, k2, wC_s, k4]
          rcases k5 with rfl | ⟨g, hg, rfl⟩
          · left
            refine ⟨(nI (i + 1 + 1), u2), (nI (i + 1 + 1), t2), ?_, ?_, by omega, u2, t2, rfl, rfl, k3⟩
            · rw [if_pos rfl, wB_eq, nI_addL]
            · rw [if_pos (by decide), wB_eq, nI_addL]
          · right
            refine ⟨_, _, if_neg (by rw [nI_neg (by omega)]; exact id), if_neg (by rw [nI_nn (by omega)]; exact id), Or.inr ⟨_, _, u2, t2, rfl, rfl, k4, k3.1, k3.2.1⟩⟩
      obtain ⟨x2, y2, k1, k2, k3⟩ := key
      rw [k1, k2]
      unfold F_X8_nextBite_j41 F_X9_nextBite_j41
      rcases k3 with ⟨u', t', rfl, rfl, k4, k5⟩ | ⟨i, r, u', t', rfl, rfl, k6, k4, k5⟩
      · rw [wJ_inr, wJ_inr]
        exact ⟨_, u', t', rfl, rfl, k4, KT_tr hK0 k5⟩
      · rw [wJ_inl, wJ_inl, k6]
        by_cases z : x = 0
        · rw [if_pos z, if_pos z]
          exact ⟨_, u', t', rfl, rfl, k4, KT_tr hK0 k5⟩
        · rw [if_neg z, if_neg z]
          exact ⟨_, u', t', rfl, rfl, k4, KT_tr hK0 k5⟩
    · have x1' : (1 : Int32) < x := by rw [← i_nle]; exact x1
      rw [if_neg x1, if_pos x1', wP_s, if_pos rfl]
      exact ⟨_, u, t0, rfl, rfl, KC_rf u, hK0⟩
theorem grace_s (h : Vw n m k d 57 1 u t) : Rl (fun x y => x.2 = u ∧ y.2 = t ∧ x.1 = y.1) (wL (S := Int32 × Int32) (fun x => F_X8_grace_b33 u 0 x.1 x.2) wFu ((0 : Int32), (0 : Int32))) (wL (S := Int32 × Int32) (fun x => F_X9_grace_b31 t 79 x.1 x.2) wFu ((0 : Int32), (0 : Int32))) := by
  have q52 : t.2.2 79 52 = 108 := by simp only [PM_u h.2.1]
  have q49 : t.2.2 79 49 = 105 := by simp only [PM_u h.2.1]
  have r7 : u.2.2 0 7 = 58 := by simp only [PL_u h.1]
  have r55 : u.2.2 57 5 = 60 := by simp only [PL_u h.1]
  have n10 : ¬ (1 : Int32) = 0 := by decide
  obtain ⟨hp, hm, hd, hc, hb, h2, ⟨⟨n6, -⟩, ⟨e1, -⟩, ⟨e2, -⟩, -⟩, ⟨-, hS, -⟩⟩ := h
  refine wL_rl (fun i x y => ∃ a : Int32, x = (a, nI i) ∧ y = (a, nI i)) _ n (by unfold wFu; omega) ?_ ⟨0, rfl, rfl⟩
  rintro i x y hi ⟨a, rfl, rfl⟩
  unfold F_X8_grace_b33 F_X9_grace_b31 F_X8_grace_j67 F_X9_grace_j65
  dsimp only
  have e := nI_leE (a := n) (b := i) (by omega) (by omega)
  rw [h2, wR_d0 _ hd, e1, e2]
  by_cases hin : n ≤ i
  · right
    exact ⟨(a, u), (a, t), if_pos (by rw [e]; exact hin), if_pos (by rw [e]; exact hin), rfl, rfl, rfl⟩
  · left
    have hil : i < n := by omega
    have hne : ¬ nI n ≤ nI i := by rw [e]; exact hin
    have z := hS i hil
    rw [if_neg hne, if_neg hne, r7, wR_57, faint_c (by omega), wP_s, q52, wR_107, nI_Ladd, wN_107 _ (by omega), z.2.2.2.2]
    by_cases q : bt (u.1 57 2) i = true
    · refine ⟨(a, nI (i + 1)), (a, nI (i + 1)), ?_, ?_, hil, a, rfl, rfl⟩
      · rw [bI_t q, if_neg n10]
        repeat (first | rw [wB_eq] | rw [wC_s] | rw [wP_s] | rw [wJ_inl] | rw [wJ_inr])
        rw [nI_addL]
      · rw [bI_f (by rw [q]; decide), if_pos rfl]
        repeat (first | rw [wB_eq] | rw [wC_s] | rw [wP_s] | rw [wJ_inl] | rw [wJ_inr])
        rw [nI_addL, Int32.add_zero]
    · have q' : bt (u.1 57 2) i = false := by
        cases hq : bt (u.1 57 2) i
        · rfl
        · exact absurd hq q
      refine ⟨(a + u.1 59 i, nI (i + 1)), (a + u.1 59 i, nI (i + 1)), ?_, ?_, hil, _, rfl, rfl⟩
      · rw [bI_f q, if_pos rfl, wR_57, r55, wR_59, wN_59 _ (by omega)]
        repeat (first | rw [wB_eq] | rw [wC_s] | rw [wP_s] | rw [wJ_inl] | rw [wJ_inr])
        rw [nI_addL]
      · rw [bI_t q', if_neg n10, q49, wR_104, wN_104 _ (by omega), show t.1 104 (6 + i) = u.1 59 i from z.2.1]
        repeat (first | rw [wB_eq] | rw [wC_s] | rw [wP_s] | rw [wJ_inl] | rw [wJ_inr])
        rw [nI_addL]
theorem M_grace {x : Int32} (h : GR n m k d u t) : Q1 u t (F_X8_grace 0 x u) (F_X9_grace 79 x t) := by
  unfold F_X9_grace
  obtain ⟨t0, et⟩ : ∃ t0, t0 = w_sI t 79 2 (0 : Int32) := ⟨_, rfl⟩
  have hK0 : KT t t0 := by rw [et]; exact KT_s (by unfold scr; omega)
  have h := GR_fr h (KC_rf u) hK0
  rw [wB_eq, ← et]
  have n10 : ¬ (1 : Int32) = 0 := by decide
  unfold F_X8_grace F_X9_isIn
  by_cases x0 : x < 0
  · rw [if_pos x0, if_pos x0, wP_s, if_pos rfl]
    exact ⟨_, u, t0, rfl, rfl, KC_rf u, hK0⟩
  · rw [if_neg x0, if_neg x0]
    by_cases x1 : x ≤ 200
    · have x1' : ¬ (200 : Int32) < x := by rw [i_nlt]; exact x1
      obtain ⟨j, hj, rfl⟩ := in_rng (p := 200) (by omega) x0 x1'
      obtain ⟨s, u1, t1, hs, b1, b2, b3, -⟩ := TR_0 h
      obtain ⟨r7, r9, r5⟩ := TR_p b3
      obtain ⟨u2, t2, c1, c2, c3, -⟩ := TR_run (j := j) b3 (by omega) (by omega)
      obtain ⟨⟨x1, x2⟩, ⟨y1, y2⟩, k1, k2, k3, k4, k5⟩ := grace_s (TR_V h c3).1
      have k3 : x2 = u2 := k3
      have k4 : y2 = t2 := k4
      have k5 : x1 = y1 := k5
      subst k3 k4 k5
      rw [if_pos (by assumption), if_neg x1', wP_s, if_neg n10, b1, wC_s, b2, wC_s, r9, wR_64, r7, wR_57, c1, wC_s, c2, wC_s, k1, k2]
      exact ⟨_, _, _, rfl, rfl, c3.1, KT_tr hK0 c3.2.1⟩
    · have x1' : (200 : Int32) < x := by rw [← i_nle]; exact x1
      rw [if_neg x1, if_pos x1', wP_s, if_pos rfl]
      exact ⟨_, u, t0, rfl, rfl, KC_rf u, hK0⟩
theorem ahead_t {j : Nat} {w z : Int32} (h : GR n m k d u t) (hj : j ≤ 200) (hw : (w = 2 ∨ w = 3) → ∃ g : Nat, g < n ∧ z = nI g) : Q1 u t (F_X8_ahead_j42 0 u (nI j) w z) (F_X9_ahead_j45 79 t (nI j) w z) := by
  have n6 := h.2.2.2.2.2.1.1.1
  obtain ⟨s, u1, t1, hs, b1, b2, b3, -⟩ := TR_0 h
  obtain ⟨r7, r9, r5⟩ := TR_p b3
  obtain ⟨u2, t2, c1, c2, c3, -⟩ := TR_run (j := j) b3 (by omega) (by omega)
  obtain ⟨V1, V0, V2⟩ := TR_V h c3
  obtain ⟨r7', r9', r5'⟩ := TR_p c3
  have r56 : u2.2.2 57 6 = 61 := by simp only [PL_u V1.1]
  have r55 : u2.2.2 57 5 = 60 := by simp only [PL_u V1.1]
  have q50 : t2.2.2 79 50 = 106 := by simp only [PM_u V1.2.1]
  have q49 : t2.2.2 79 49 = 105 := by simp only [PM_u V1.2.1]
  have hS := V1.2.2.2.2.2.2.2.2.1
  have fin : ∀ r : Int32, Q1 u t (some (r, u2)) (some (r, t2)) := fun r => ⟨r, u2, t2, rfl, rfl, c3.1, c3.2.1⟩
  unfold F_X8_ahead_j42 F_X9_ahead_j45
  rw [b1, wC_s, b2, wC_s, r9, wR_64, r7, wR_57, c1, wC_s, c2, wC_s]
  by_cases w0 : w = 0
  · obtain ⟨p, q, p1, p2, rfl⟩ := bites_s V1
    obtain ⟨p', q', p1', p2', rfl⟩ := bites_s V0
    have p2 : F_X9_bitesAll 79 (1 : Int32) t2 = some p := p2
    have p2' : F_X9_bitesAll 79 (0 : Int32) t2 = some p' := p2'
    rw [if_pos w0, if_pos w0, r7', wR_57, p1, wP_s, r5', wR_43, p1', wP_s, p2, wP_s, p2', wP_s]
    exact fin _
  · rw [if_neg w0, if_neg w0]
    by_cases w1 : w = 1
    · obtain ⟨r, a, b, f1, f2, f3, rfl⟩ := fallen_s V1 V0 V2
      rw [if_pos w1, if_pos w1, f1, wP_s, f2, wP_s, f3, wP_s]
      exact fin _
    · rw [if_neg w1, if_neg w1]
      by_cases w2 : w = 2
      · obtain ⟨g, hg, rfl⟩ := hw (Or.inl w2)
        rw [if_pos w2, if_pos w2, r7', wR_57, r56, wR_60, wN_60 _ (by omega), q50, wR_105, nI_Ladd, wN_105 _ (by omega), show t2.1 105 (6 + g) = u2.1 60 g from (hS g hg).2.2.1]
        exact fin _
      · rw [if_neg w2, if_neg w2]
        by_cases w3 : w = 3
        · obtain ⟨g, hg, rfl⟩ := hw (Or.inr w3)
          rw [if_pos w3, if_pos w3, r7', wR_57, r55, wR_59, wN_59 _ (by omega), q49, wR_104, nI_Ladd, wN_104 _ (by omega), show t2.1 104 (6 + g) = u2.1 59 g from (hS g hg).2.1]
          exact fin _
        · obtain ⟨p, q, p1, p2, rfl⟩ := fed_s V1
          obtain ⟨p', q', p1', p2', rfl⟩ := fed_s V0
          have p2 : F_X9_fedAll 79 (1 : Int32) t2 = some p := p2
          have p2' : F_X9_fedAll 79 (0 : Int32) t2 = some p' := p2'
          rw [if_neg w3, if_neg w3, r7', wR_57, p1, wP_s, r5', wR_43, p1', wP_s, p2, wP_s, p2', wP_s]
          exact fin _
theorem M_ahead {x w z : Int32} (h : GR n m k d u t) : Q1 u t (F_X8_ahead 0 x w z u) (F_X9_ahead 79 x w z t) := by
  unfold F_X9_ahead
  obtain ⟨t0, et⟩ : ∃ t0, t0 = w_sI t 79 2 (0 : Int32) := ⟨_, rfl⟩
  have hK0 : KT t t0 := by rw [et]; exact KT_s (by unfold scr; omega)
  have h := GR_fr h (KC_rf u) hK0
  rw [wB_eq, ← et]
  have n10 : ¬ (1 : Int32) = 0 := by decide
  have fin : Q1 u t (some ((-1 : Int32), u)) (some ((-1 : Int32), t0)) := ⟨_, u, t0, rfl, rfl, KC_rf u, hK0⟩
  have go : ∀ o o' : Option (Int32 × wSt), Q1 u t0 o o' → Q1 u t o o' := fun o o' ⟨r, u', t', q1, q2, q3, q4⟩ => ⟨r, u', t', q1, q2, q3, KT_tr hK0 q4⟩
  obtain ⟨r, a1, a2, a3⟩ := isG (x := z) (GR_Vw h)
  unfold F_X8_ahead F_X9_isIn
  by_cases x0 : x < 0
  · rw [if_pos x0, if_pos x0, wP_s, if_pos rfl]
    exact fin
  · rw [if_neg x0, if_neg x0]
    by_cases x1 : (200 : Int32) < x
    · rw [if_pos x1, if_pos x1, wP_s, if_pos rfl]
      exact fin
    · obtain ⟨j, hj, rfl⟩ := in_rng (p := 200) (by omega) x0 x1
      rw [if_neg x1, if_neg x1, wP_s, if_neg n10]
      by_cases w0 : w < 0
      · rw [if_pos w0, if_pos w0, wP_s, if_pos rfl]
        exact fin
      · rw [if_neg w0, if_neg w0]
        by_cases w4 : w ≤ 4
        · have w4' : ¬ (4 : Int32) < w := by rw [i_nlt]; exact w4
          rw [if_pos w4, if_neg w4', wP_s, if_neg n10]
          unfold F_X8_ahead_j32 F_X9_ahead_j35
          rw [a1, wP_s, a2, wP_s]
          by_cases w2 : w = 2
          · rw [if_pos w2, wJ_inl, wJ_inl]
            rcases a3 with rfl | ⟨rfl, g, hg, rfl⟩
            · rw [if_pos rfl, if_pos rfl, wJ_inr, wJ_inr]
              exact fin
            · rw [if_neg n10, if_neg n10, wJ_inl, wJ_inl]
              exact go _ _ (ahead_t h hj (fun _ => ⟨g, hg, rfl⟩))
          · rw [if_neg w2]
            by_cases w3 : w = 3
            · rw [if_pos w3, wJ_inl, wJ_inl]
              rcases a3 with rfl | ⟨rfl, g, hg, rfl⟩
              · rw [if_pos rfl, if_pos rfl, wJ_inr, wJ_inr]
                exact fin
              · rw [if_neg n10, if_neg n10, wJ_inl, wJ_inl]
                exact go _ _ (ahead_t h hj (fun _ => ⟨g, hg, rfl⟩))
            · rw [if_neg w3, wJ_inr, wJ_inr, wJ_inl, wJ_inl]
              exact go _ _ (ahead_t h hj (fun q => by rcases q with q | q; exact absurd q w2; exact absurd q w3))
        · have w4' : (4 : Int32) < w := by rw [← i_nle]; exact w4
          rw [if_neg w4, if_pos w4', wP_s, if_pos rfl]
          exact fin
end

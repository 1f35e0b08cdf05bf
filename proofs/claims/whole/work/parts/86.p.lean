/-! how many fall by a seating -/
section
variable {n m k d st c : Nat} {u t : wSt}
def CN (n : Nat) (u v : wSt) : Nat := cnt (bt (v.1 57 2)) n - cnt (bt (u.1 43 2)) n
theorem cnt_mono {p q : Nat → Bool} {j : Nat} (h : ∀ i, q i = true → p i = true) : cnt q j ≤ cnt p j := by
  have := cnt_diff (p := p) (q := q) (j := j) (fun i _ => h i)
  omega
theorem CN_e {v w : wSt} {s : Nat} (h : GR n m k d u t) (hT : TR n m k d u t v w s) : F_X8_fallenInTrial 0 v = some (nI (CN n u v)) ∧ (∃ x y, F_X9_fainted 79 (1 : Int32) w = some x ∧ F_X9_fainted 79 (0 : Int32) w = some y ∧ x - y = nI (CN n u v)) ∧ CN n u v ≤ 6 := by
  obtain ⟨h1, h0, hm⟩ := TR_V h hT
  have n6 := h1.2.2.2.2.2.2.1.1.1
  obtain ⟨r, x, y, e1, e2, e3, e4⟩ := fallen_s h1 h0 hm
  have f1 : F_X9_fainted 79 (1 : Int32) w = some (nI (cnt (bt (v.1 57 2)) n)) := fainted_s h1
  have f0 : F_X9_fainted 79 (0 : Int32) w = some (nI (cnt (bt (v.1 43 2)) n)) := fainted_s h0
  have e43 : v.1 43 2 = u.1 43 2 := hT.1.2 43 2 (by omega) (by omega)
  have le : cnt (bt (v.1 43 2)) n ≤ cnt (bt (v.1 57 2)) n := cnt_mono hm
  have l6 := cnt_le (bt (v.1 57 2)) n
  have hx : x = nI (cnt (bt (v.1 57 2)) n) := Option.some.inj (e2.symm.trans f1)
  have hy : y = nI (cnt (bt (v.1 43 2)) n) := Option.some.inj (e3.symm.trans f0)
  have hxy : x - y = nI (CN n u v) := by
    unfold CN
    rw [hx, hy, nI_sub le, e43]
  refine ⟨by rw [e1, e4, hxy], ⟨x, y, e2, e3, hxy⟩, by unfold CN; omega⟩
theorem FBL {bd s : Nat} {u3 t3 : wSt} (h : GR n m k d u t) (hbd : bd ≤ 7) (s9 : s ≤ 9000) (tr3 : TR n m k d u t u3 t3 s) (z3 : u3.1 57 2 = u.1 43 2) (fr3 : ∀ a i, 66 ≤ a → u3.1 a i = u.1 a i) : Rl (fun y z => ∃ (v v' w : wSt) (r : Nat), y = (nI r, v) ∧ z = ((), w) ∧ r ≤ 6 ∧ TR n m k d u t v' w (s + 40) ∧ (r < bd → r = CN n u v') ∧ (¬ r < bd → bd ≤ CN n u v') ∧ KC u v ∧ (∀ a i, 66 ≤ a → v.1 a i = u.1 a i)) (wL (S := Int32 × Int32 × wSt) (fun x => F_X8_fallenBySeating_b42 (nI bd) 0 x.1 x.2.1 x.2.2) wFu ((0 : Int32), (0 : Int32), u3)) (wL (S := Int32 × wSt) (fun x => F_X9_goMany_b2 (40 : Int32) 79 x.1 x.2) wFu ((0 : Int32), t3)) := by
  refine wL_ex (fun j x y => ∃ (v w : wSt) (r : Nat), x = (nI r, nI j, v) ∧ y = (nI j, w) ∧ TR n m k d u t v w (s + j) ∧ r = CN n u v ∧ (∀ a i, 66 ≤ a → v.1 a i = u.1 a i)) (fun j y x => ∃ (v v' w : wSt) (r : Nat), y = (nI r, v) ∧ bd ≤ r ∧ r ≤ 6 ∧ x = (nI j, w) ∧ TR n m k d u t v' w (s + j) ∧ r ≤ CN n u v' ∧ KC u v ∧ (∀ a i, 66 ≤ a → v.1 a i = u.1 a i)) _ 40 (by unfold wFu; omega) ?_ ?_ ⟨u3, t3, 0, rfl, rfl, tr3, by unfold CN; rw [z3]; omega, fr3⟩
  · rintro j x y hj ⟨v, w, r, rfl, rfl, hT, hr, hf⟩
    have hr6 : r ≤ 6 := by rw [hr]; exact (CN_e h hT).2.2
    have e40 : ((40 : Int32) ≤ nI j) = (40 ≤ j) := nI_leE (a := 40) (b := j) (by omega) (by omega)
    have eb : (nI bd ≤ nI r) = (bd ≤ r) := nI_leE (by omega) (by omega)
    unfold F_X8_fallenBySeating_b42 F_X9_goMany_b2
    dsimp only
    by_cases h40 : 40 ≤ j
    · right; left
      have : j = 40 := by omega
      subst this
      rw [if_pos (by rw [e40]; exact h40), if_pos (by rw [e40]; exact h40)]
      exact ⟨_, _, rfl, rfl, v, v, w, r, rfl, rfl, hr6, hT, fun _ => hr, fun q => by omega, hT.1, hf⟩
    · have n40 : ¬ (40 : Int32) ≤ nI j := by rw [e40]; exact h40
      by_cases hbr : bd ≤ r
      · right; right
        rw [if_neg n40, if_pos (by rw [eb]; exact hbr)]
        exact ⟨_, rfl, v, v, w, r, rfl, hbr, hr6, rfl, hT, by omega, hT.1, hf⟩
      · left
        obtain ⟨r7, r9, r5⟩ := TR_p hT
        obtain ⟨x, v2, w2, k1, k2, -, -, k5, k6⟩ := TR_step hT (by omega)
        rw [if_neg n40, if_neg n40, if_neg (by rw [eb]; exact hbr), r9, wR_64, r7, wR_57, k1, wC_s, (CN_e h k5).1, wP_s, wB_eq, k2, wC_s, wB_eq, nI_addL]
        exact ⟨_, _, rfl, rfl, by omega, v2, w2, _, rfl, rfl, k5, rfl, fun a i q => by rw [k6.2.1.2 a i (by omega) (by omega)]; exact hf a i q⟩
  · rintro j y x hj ⟨v, v', w, r, rfl, hbr, hr6, rfl, hT, hr, hK, hf⟩
    have e40 : ((40 : Int32) ≤ nI j) = (40 ≤ j) := nI_leE (a := 40) (b := j) (by omega) (by omega)
    unfold F_X9_goMany_b2
    dsimp only
    by_cases h40 : 40 ≤ j
    · right
      have : j = 40 := by omega
      subst this
      rw [if_pos (by rw [e40]; exact h40)]
      exact ⟨_, rfl, v, v', w, r, rfl, rfl, hr6, hT, fun q => by omega, fun q => by omega, hK, hf⟩
    · left
      obtain ⟨x, v2, w2, k1, k2, -, -, k5, k6⟩ := TR_step hT (by omega)
      rw [if_neg (by rw [e40]; exact h40), k2, wC_s, wB_eq, nI_addL]
      have mo : CN n u v' ≤ CN n u v2 := by
        have := cnt_mono (j := n) (p := bt (v2.1 57 2)) (q := bt (v'.1 57 2)) k6.2.2.2
        unfold CN
        omega
      exact ⟨_, rfl, by omega, v, v2, w2, r, rfl, hbr, hr6, rfl, k5, by omega, hK, hf⟩
theorem FB {bd : Nat} (h : GR n m k d u t) (hst : st < n) (hc : c < fct (n - 1)) (hs : ∀ g, g < n → (u.1 44 g = 0 ↔ g = st)) (hS : SQ n st c u) (hbd : bd ≤ 7) : ∃ (N r : Nat) (u' t1 t2 t3 t4 : wSt) (x y : Int32), F_X8_fallenBySeating 0 (nI bd) u = some (nI r, u') ∧ F_X9_layTried 79 t = some ((), t1) ∧ t1.1 79 12 = nI n ∧ F_X9_layRow 79 (nI c) (nI (n - 1)) ((1 : Int32) <<< (nI st &&& 31)) t1 = some ((), t2) ∧ wL (S := Int32 × wSt) (fun x => F_X9_table_b120 79 x.1 x.2) wFu ((1 : Int32), t2) = some (.inl t3) ∧ F_X9_goMany 79 (40 : Int32) t3 = some ((), t4) ∧ F_X9_fainted 79 (1 : Int32) t4 = some x ∧ F_X9_fainted 79 (0 : Int32) t4 = some y ∧ x - y = nI N ∧ N ≤ 6 ∧ r ≤ 6 ∧ (r < bd → r = N) ∧ (¬ r < bd → bd ≤ N) ∧ KC u u' ∧ KT t t4 ∧ ∀ j, u'.1 77 j = u.1 77 j ∧ u'.1 78 j = u.1 78 j := by
  have n6 := h.2.2.2.2.2.1.1.1
  obtain ⟨s, u1, t1, s9, a1, a2, a3, a4, a5, -⟩ := TR_0 h
  obtain ⟨u1', b1, -, b3⟩ := start_77 h
  have e1 : u1' = u1 := by
    have := b1.symm.trans a1
    exact congrArg Prod.snd (Option.some.inj this)
  subst e1
  have hm1 : PM t1.2.2 := a3.2.2.1.2.1
  have q69 : t1.2.2 79 69 = 114 := by simp only [PM_u hm1]
  obtain ⟨t2, c1, c2, c3, c4⟩ := row_e (t := t1) q69 n6 hst hc
  have tr2 := TR_113 a3 c2 c3
  have g2 := GR_fr h tr2.1 tr2.2.1
  have t112 : t1.1 79 12 = nI n := by rw [← c3 79 12 (by decide)]; exact g2.2.2.2.2.2.1.2.2.1.1
  have hS1 : SQ n st c u1' := ⟨by rw [b3 77 0 (by omega)]; exact hS.1, fun j hj => by rw [b3 77 _ (by omega)]; exact hS.2 j hj⟩
  have z58 : u1'.1 58 st = 0 := by
    have := a5 1 st (by omega) (by omega) (by omega)
    rw [show (57 + 1 : Nat) = 58 from rfl] at this
    rw [this]
    exact (hs st hst).mpr rfl
  have s1 := seat_c (c := c) g2.1 g2.2.2.2.1 g2.2.2.1 g2.2.2.2.2.2.1.2.1.1 n6 hst hc hS1 z58
  have s2 := seat_t (t1 := t2) (c := c) (st := st) g2.2.1 g2.2.2.2.2.2.1.2.2.1.1 n6 hst hc c4
  have tr3 := TR_sq (j := n - 1) n6 hst hc tr2 (by omega)
  obtain ⟨u3, hu3⟩ : ∃ u3, u3 = csq n st c u1' (n - 1) := ⟨_, rfl⟩
  obtain ⟨t3, ht3⟩ : ∃ t3, t3 = tsq n st c t2 (n - 1) := ⟨_, rfl⟩
  rw [← hu3] at s1 tr3
  rw [← ht3] at s2 tr3
  have fr3 : ∀ a i, 66 ≤ a → u3.1 a i = u.1 a i := fun a i w => by rw [hu3, csq_ne.2 a i (by omega)]; exact b3 a i w
  have z3 : u3.1 57 2 = u.1 43 2 := by rw [hu3, csq_ne.2 57 2 (by omega)]; exact a4 2 (by omega)
  have key := FBL h hbd s9 tr3 z3 fr3
  obtain ⟨y, z, f1, f2, v, v', w, r, rfl, rfl, hr6, hT, o1, o2, hK, hf⟩ := key
  obtain ⟨-, ⟨x, y, k2, k3, k4⟩, k5⟩ := CN_e h hT
  refine ⟨CN n u v', r, v, t1, t2, t3, w, x, y, ?_, a2, t112, c1, s2, f2, k2, k3, k4, k5, hr6, o1, o2, hK, hT.2.1, fun j => ⟨hf 77 j (by omega), hf 78 j (by omega)⟩⟩
  unfold F_X8_fallenBySeating F_X8_fallenBySeating_j38
  rw [b1, wC_s, s1, wJ_inl, f1]
end

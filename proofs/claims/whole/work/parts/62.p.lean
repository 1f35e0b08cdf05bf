/-! trials -/
section
variable {n m k d c b B : Nat} {u t : wSt}
theorem bites_s (h : Vw n m k d c b u t) : Rl Eq (F_X8_bitesIn 0 c u) (F_X9_bitesAll 79 (nI b) t) := by
  have q53 : t.2.2 79 53 = 109 := by simp only [PM_u h.2.1]
  obtain ⟨hp, hm, hd, hc, hb, h2, ⟨⟨n6, -⟩, ⟨e1, -⟩, ⟨e2, -⟩, -⟩, ⟨-, hS, -⟩⟩ := h
  have p7 := (PL_c hp hc).2.2.2.1
  unfold F_X8_bitesIn F_X9_bitesAll
  refine wL_rl (fun i x y => ∃ a : Int32, x = (a, nI i) ∧ y = (a, nI i)) _ n (by unfold wFu; omega) ?_ ⟨0, rfl, rfl⟩
  rintro i x y hi ⟨a, rfl, rfl⟩
  unfold F_X8_bitesIn_b4 F_X9_bitesAll_b4
  dsimp only
  have e := nI_leE (a := n) (b := i) (by omega) (by omega)
  rw [h2, wR_d0 _ hd, e1, e2]
  by_cases hin : n ≤ i
  · right
    exact ⟨a, a, if_pos (by rw [e]; exact hin), if_pos (by rw [e]; exact hin), rfl⟩
  · left
    have hil : i < n := by omega
    have hne : ¬ nI n ≤ nI i := by rw [e]; exact hin
    refine ⟨(a + u.1 (c + 4) i, nI (i + 1)), (a + u.1 (c + 4) i, nI (i + 1)), ?_, ?_, hil, _, rfl, rfl⟩
    · rw [if_neg hne, p7, wR_c4 _ hc, wN_c4 _ hc (by omega), wB_eq, wB_eq, nI_addL]
    · rw [if_neg hne, q53, wR_108, nI_mulL, nI_add, wN_108 _ (by omega), wB_eq, wB_eq, nI_addL, (hS i hil).2.2.2.1]
theorem fed_s (h : Vw n m k d c b u t) : Rl Eq (F_X8_fedIn 0 c u) (F_X9_fedAll 79 (nI b) t) := by
  have q56 : t.2.2 79 56 = 112 := by simp only [PM_u h.2.1]
  obtain ⟨hp, hm, hd, hc, hb, h2, ⟨⟨n6, m8, -⟩, ⟨-, e1, -⟩, ⟨-, e2, -⟩, -⟩, ⟨-, -, hS, -⟩⟩ := h
  have p9 := (PL_c hp hc).2.2.2.2.2
  unfold F_X8_fedIn F_X9_fedAll
  refine wL_rl (fun i x y => ∃ a : Int32, x = (a, nI i) ∧ y = (a, nI i)) _ m (by unfold wFu; omega) ?_ ⟨0, rfl, rfl⟩
  rintro i x y hi ⟨a, rfl, rfl⟩
  unfold F_X8_fedIn_b4 F_X9_fedAll_b4
  dsimp only
  have e := nI_leE (a := m) (b := i) (by omega) (by omega)
  rw [h2, wR_d0 _ hd, e1, e2]
  by_cases hin : m ≤ i
  · right
    exact ⟨a, a, if_pos (by rw [e]; exact hin), if_pos (by rw [e]; exact hin), rfl⟩
  · left
    have hil : i < m := by omega
    have hne : ¬ nI m ≤ nI i := by rw [e]; exact hin
    refine ⟨(a + u.1 (c + 6) i, nI (i + 1)), (a + u.1 (c + 6) i, nI (i + 1)), ?_, ?_, hil, _, rfl, rfl⟩
    · rw [if_neg hne, p9, wR_c6 _ hc, wN_c6 _ hc (by omega), wB_eq, wB_eq, nI_addL]
    · rw [if_neg hne, q56, wR_111, nI_mulL, nI_add, wN_111 _ (by omega), wB_eq, wB_eq, nI_addL, (hS i hil).2.1]
theorem fainted_s (h : Vw n m k d c b u t) : F_X9_fainted 79 (nI b) t = some (nI (cnt (bt (u.1 c 2)) n)) := by
  have q52 : t.2.2 79 52 = 108 := by simp only [PM_u h.2.1]
  obtain ⟨hp, hm, hd, hc, hb, h2, ⟨⟨n6, -⟩, ⟨e1, -⟩, ⟨e2, -⟩, -⟩, ⟨-, hS, -⟩⟩ := h
  have key : Ro (fun y => y = nI (cnt (bt (u.1 c 2)) n)) (F_X9_fainted 79 (nI b) t) := by
    unfold F_X9_fainted
    refine wL_ro (fun i x => x = (nI (cnt (bt (u.1 c 2)) i), nI i)) _ n (by unfold wFu; omega) ?_ rfl
    rintro i x hi rfl
    unfold F_X9_fainted_b4 F_X9_fainted_j32
    dsimp only
    have e := nI_leE (a := n) (b := i) (by omega) (by omega)
    rw [e2]
    by_cases hin : n ≤ i
    · right
      have : i = n := by omega
      subst this
      exact ⟨_, if_pos (by rw [e]; exact hin), rfl⟩
    · left
      have hil : i < n := by omega
      have hne : ¬ nI n ≤ nI i := by rw [e]; exact hin
      refine ⟨(nI (cnt (bt (u.1 c 2)) (i + 1)), nI (i + 1)), ?_, hil, rfl⟩
      rw [if_neg hne, q52, wR_107, nI_mulL, nI_add, wN_107 _ (by omega), (hS i hil).2.2.2.2, show cnt (bt (u.1 c 2)) (i + 1) = cnt (bt (u.1 c 2)) i + (if bt (u.1 c 2) i = true then 1 else 0) from rfl]
      by_cases q : bt (u.1 c 2) i = true
      · rw [bI_f (by rw [q]; decide), if_pos rfl, if_pos q]
        repeat (first | rw [wB_eq] | rw [wC_s] | rw [wP_s] | rw [wJ_inl] | rw [wJ_inr])
        rw [nI_addL, nI_addL]
      · have q' : bt (u.1 c 2) i = false := by
          cases hq : bt (u.1 c 2) i
          · rfl
          · exact absurd hq q
        rw [bI_t q', if_neg (by decide), if_neg q]
        repeat (first | rw [wB_eq] | rw [wC_s] | rw [wP_s] | rw [wJ_inl] | rw [wJ_inr])
        rw [nI_addL, nI_addL]
  obtain ⟨y, h1, rfl⟩ := key
  exact h1
theorem cnt_diff {p q : Nat → Bool} {j : Nat} (h : ∀ i, i < j → q i = true → p i = true) : cnt (fun i => p i && !(q i)) j + cnt q j = cnt p j := by
  induction j with
  | zero => rfl
  | succ j ih =>
    have e1 : cnt (fun i => p i && !(q i)) (j + 1) = cnt (fun i => p i && !(q i)) j + (if (p j && !(q j)) = true then 1 else 0) := rfl
    have e2 : cnt q (j + 1) = cnt q j + (if q j = true then 1 else 0) := rfl
    have e3 : cnt p (j + 1) = cnt p j + (if p j = true then 1 else 0) := rfl
    have := ih (fun i hi => h i (by omega))
    have hj := h j (by omega)
    rw [e1, e2, e3]
    cases hp : p j <;> cases hq : q j <;> simp_all <;> omega
theorem cnt_0 {p : Nat → Bool} {j : Nat} : cnt p j = 0 ↔ ∀ i, i < j → p i = false := by
  induction j with
  | zero => exact ⟨fun _ i hi => by omega, fun _ => rfl⟩
  | succ j ih =>
    have e3 : cnt p (j + 1) = cnt p j + (if p j = true then 1 else 0) := rfl
    rw [e3]
    constructor
    · intro h i hi
      have h1 : cnt p j = 0 := by omega
      by_cases hij : i = j
      · subst hij
        cases hp : p i
        · rfl
        · rw [hp] at h; simp at h
      · exact ih.mp h1 i (by omega)
    · intro h
      rw [ih.mpr (fun i hi => h i (by omega)), h j (by omega)]
      rfl
/-- how many more have fainted in the trial -/
theorem fallen_s (h1 : Vw n m k d 57 1 u t) (h0 : Vw n m k d 43 0 u t) (hm : ∀ g, bt (u.1 43 2) g = true → bt (u.1 57 2) g = true) : ∃ r x y, F_X8_fallenInTrial 0 u = some r ∧ F_X9_fainted 79 (1 : Int32) t = some x ∧ F_X9_fainted 79 (0 : Int32) t = some y ∧ r = x - y := by
  have f1 : F_X9_fainted 79 (1 : Int32) t = some (nI (cnt (bt (u.1 57 2)) n)) := fainted_s h1
  have f0 : F_X9_fainted 79 (0 : Int32) t = some (nI (cnt (bt (u.1 43 2)) n)) := fainted_s h0
  refine ⟨_, _, _, ?_, f1, f0, rfl⟩
  have r7 : u.2.2 0 7 = 58 := by simp only [PL_u h1.1]
  have r5 : u.2.2 0 5 = 44 := by simp only [PL_u h1.1]
  have n6 := h1.2.2.2.2.2.2.1.1.1
  have hz := h1.2.2.2.2.2.2.2.2.2.2.2.2.1
  have hb : ∀ g, g < 32 → bt (u.1 57 2 &&& (u.1 43 2 ^^^ (-1 : Int32))) g = (bt (u.1 57 2) g && !(bt (u.1 43 2) g)) := fun g hg => by rw [bt_and, bt_not hg]
  unfold F_X8_fallenInTrial
  rw [r7, wR_57, r5, wR_43, bc_of (fun g g1 g2 => by rw [hb g g2, hz g (by omega)]; rfl), wP_s]
  have e1 : cnt (bt (u.1 57 2 &&& (u.1 43 2 ^^^ (-1 : Int32)))) 8 = cnt (fun i => bt (u.1 57 2) i && !(bt (u.1 43 2) i)) n := by
    rw [cnt_more (k := n) (by omega) (fun i q1 q2 => by rw [hb i (by omega), hz i q1]; rfl)]
    exact cnt_congr (fun i hi => hb i (by omega))
  have e2 := cnt_diff (p := bt (u.1 57 2)) (q := bt (u.1 43 2)) (j := n) (fun i _ q => hm i q)
  have e3 := cnt_le (fun i => bt (u.1 57 2) i && !(bt (u.1 43 2) i)) n
  have e4 := cnt_le (bt (u.1 43 2)) n
  rw [e1, nI_sub (by omega)]
  congr 2
  omega
def TR (n m k d : Nat) (u t u' t' : wSt) (s : Nat) : Prop := KC u u' ∧ KT t t' ∧ Cx n m k d 57 1 98 u' t' ∧ t'.1 79 60 = 0 ∧ u'.1 57 0 = nI s ∧ (∀ g, bt (u.1 43 2) g = true → bt (u'.1 57 2) g = true)
theorem TR_0 (h : GR n m k d u t) : ∃ (s : Nat) (u1 t1 : wSt), s ≤ 9000 ∧ F_X8_startTrial 0 u = some ((), u1) ∧ F_X9_layTried 79 t = some ((), t1) ∧ TR n m k d u t u1 t1 s ∧ (∀ j, j < 4 → u1.1 57 j = u.1 43 j) ∧ (∀ i j, 1 ≤ i → i ≤ 4 → j < 6 → u1.1 (57 + i) j = u.1 (43 + i) j) ∧ Fl u1.1 t1.1 ∧ (∀ j, u1.1 64 j = (cb u d 0).1 64 j) := by
  obtain ⟨u1, t1, a1, a2, a3, a4, a5, a6, a7, a8, a9, a10⟩ := GR_trial h
  obtain ⟨s, hs, es⟩ := h.2.2.2.2.2.2.2.1
  exact ⟨s, u1, t1, hs, a1, a2, ⟨a3, a4, a7, a5, by rw [a8 0 (by omega)]; exact es, fun g q => by rw [a8 2 (by omega)]; exact q⟩, a8, a9, a6, a10⟩
theorem TR_p {u' t' : wSt} {s : Nat} (h : TR n m k d u t u' t' s) : u'.2.2 0 7 = 58 ∧ u'.2.2 0 9 = 65 ∧ u'.2.2 0 5 = 44 := ⟨by simp only [PL_u h.2.2.1.1], by simp only [PL_u h.2.2.1.1], by simp only [PL_u h.2.2.1.1]⟩
theorem TR_ST {u' t' u2 t2 : wSt} {s s2 : Nat} (h : TR n m k d u t u' t' s) (hS : ST n m k d 57 1 u' t' u2 t2) (h0 : u2.1 57 0 = nI s2) : TR n m k d u t u2 t2 s2 :=
  ⟨KC_tr h.1 (KC_FC hS.2.1), KT_tr h.2.1 (KT_FR hS.2.2.1 h.2.2.2.1), hS.1, (hS.2.2.1.2.1 79 60 (n60 1) (by omega)).trans h.2.2.2.1, h0, fun g q => hS.2.2.2 g (h.2.2.2.2.2 g q)⟩
theorem TR_step {u' t' : wSt} {s : Nat} (h : TR n m k d u t u' t' s) (hs : s < 20000) : ∃ (r : Int32) (u2 t2 : wSt), F_X0_goOn 64 57 u' = some (r, u2) ∧ F_X9_stepGoes 79 (1 : Int32) t' = some ((), t2) ∧ t2.1 79 59 = r ∧ (r = -1 ∨ ∃ g, g < n ∧ r = nI g) ∧ TR n m k d u t u2 t2 (s + 1) ∧ ST n m k d 57 1 u' t' u2 t2 := by
  obtain ⟨⟨r, u2⟩, ⟨r', t2⟩, a1, a2, a3, a4, a5, a6⟩ := step_rl h.2.2.1 h.2.2.2.2.1 hs
  exact ⟨r, u2, t2, a1, a2, a3.symm, a4, TR_ST h a6 a5, a6⟩
theorem TR_run {u' t' : wSt} {s j : Nat} (h : TR n m k d u t u' t' s) (hs : s + j ≤ 20000) (hj : j < 2000) : ∃ (u2 t2 : wSt), F_X0_run 64 57 (nI j) u' = some ((), u2) ∧ F_X9_goMany 79 (nI j) t' = some ((), t2) ∧ TR n m k d u t u2 t2 (s + j) ∧ ST n m k d 57 1 u' t' u2 t2 := by
  obtain ⟨⟨r, u2⟩, ⟨r', t2⟩, a1, a2, a3, a4⟩ := run_rl h.2.2.1 h.2.2.2.2.1 hs hj
  exact ⟨u2, t2, a1, a2, TR_ST h a3 a4, a3⟩
theorem i_lt2 {j p : Nat} (hj : j < 2147483648) (hp : p < 2147483648) : (nI p < nI j) = (p < j) := nI_ltE hp hj
theorem M_swoon {x : Int32} (h : GR n m k d u t) : Q1 u t (F_X8_swoon 0 x u) (F_X9_swoon 79 x t) := by
  unfold F_X9_swoon
  obtain ⟨t0, et⟩ : ∃ t0, t0 = w_sI t 79 2 (0 : Int32) := ⟨_, rfl⟩
  have hK0 : KT t t0 := by rw [et]; exact KT_s (by unfold scr; omega)
  have h := GR_fr h (KC_rf u) hK0
  rw [wB_eq, ← et]
  obtain ⟨r, a1, a2, a3⟩ := isG (x := x) (GR_Vw h)
  unfold F_X8_swoon
  rw [a1, wP_s, a2, wP_s]
  rcases a3 with rfl | ⟨rfl, g, hg, rfl⟩
  · rw [if_pos rfl, if_pos rfl]
    exact ⟨_, u, t0, rfl, rfl, KC_rf u, hK0⟩
  · have n10 : ¬ (1 : Int32) = 0 := by decide
    have n6 := h.2.2.2.2.2.1.1.1
    obtain ⟨s, u1, t1, hs, b1, b2, b3, -⟩ := TR_0 h
    rw [if_neg n10, if_neg n10, b1, wC_s, b2, wC_s]
    have key : Rl (fun x y => x.1 = y.1 ∧ KC u x.2 ∧ KT t0 y.2) (wL (S := Int32 × wSt) (fun x => F_X8_swoon_b16 0 (nI g) x.1 x.2) wFu ((0 : Int32), u1)) (wL (S := Int32 × wSt) (fun x => F_X9_swoon_b21 79 (nI g) x.1 x.2) wFu ((0 : Int32), t1)) := by
      refine wL_rl (fun i x y => ∃ u' t', x = (nI i, u') ∧ y = (nI i, t') ∧ TR n m k d u t0 u' t' (s + i)) _ 200 (by unfold wFu; omega) ?_ ⟨u1, t1, rfl, rfl, b3⟩
      rintro i x y hi ⟨u', t', rfl, rfl, hT⟩
      obtain ⟨r7, r9, r5⟩ := TR_p hT
      have q52 : t'.2.2 79 52 = 108 := by simp only [PM_u hT.2.2.1.2.1]
      have hF := hT.2.2.1.2.2.2.2.2.2.2.2.1.2.1 g hg
      unfold F_X8_swoon_b16 F_X9_swoon_b21
      dsimp only
      have e1 : ((199 : Int32) < nI i) = (199 < i) := nI_ltE (a := 199) (b := i) (by omega) (by omega)
      have e2 : ((200 : Int32) ≤ nI i) = (200 ≤ i) := nI_leE (a := 200) (b := i) (by omega) (by omega)
      by_cases hi2 : 200 ≤ i
      · right
        exact ⟨(-2, u'), (-2, t'), if_pos (by rw [e1]; omega), if_pos (by rw [e2]; omega), rfl, hT.1, hT.2.1⟩
      · have c1 : ¬ (199 : Int32) < nI i := by rw [e1]; omega
        have c2 : ¬ (200 : Int32) ≤ nI i := by rw [e2]; omega
        rw [if_neg c1, if_neg c2, r7, wR_57, faint_c (by omega), wP_s, q52, wR_107, nI_Ladd, wN_107 _ (by omega), hF.2.2.2.2]
        by_cases q : bt (u'.1 57 2) g = true
        · right
          have q' : ¬ (bt (u'.1 57 2) g = false) := by rw [q]; decide
          refine ⟨(nI i, u'), (nI i, t'), ?_, ?_, rfl, hT.1, hT.2.1⟩
          · rw [bI_t q, if_neg n10]
          · rw [bI_f q', if_pos rfl]
        · left
          have q' : bt (u'.1 57 2) g = false := by
            cases hq : bt (u'.1 57 2) g
            · rfl
            · exact absurd hq q
          obtain ⟨r, u2, t2, k1, k2, -, -, k3, -⟩ := TR_step hT (by omega)
          refine ⟨(nI (i + 1), u2), (nI (i + 1), t2), ?_, ?_, by omega, u2, t2, rfl, rfl, k3⟩
          · rw [bI_f q, if_pos rfl, r9, wR_64, wR_57, k1, wC_s, wB_eq, nI_addL]
          · rw [bI_t q', if_neg n10, k2, wC_s, wB_eq, nI_addL]
    obtain ⟨⟨x1, x2⟩, ⟨y1, y2⟩, k1, k2, k3, k4, k5⟩ := key
    have k3 : x1 = y1 := k3
    subst k3
    exact ⟨x1, x2, y2, k1, k2, k4, KT_tr hK0 k5⟩
theorem M_eatenIn {x : Int32} (h : GR n m k d u t) : Q1 u t (F_X8_eatenIn 0 x u) (F_X9_eatenIn 79 x t) := by
  unfold F_X9_eatenIn
  obtain ⟨t0, et⟩ : ∃ t0, t0 = w_sI t 79 2 (0 : Int32) := ⟨_, rfl⟩
  have hK0 : KT t t0 := by rw [et]; exact KT_s (by unfold scr; omega)
  have h := GR_fr h (KC_rf u) hK0
  rw [wB_eq, ← et]
  obtain ⟨r, a1, a2, a3⟩ := isF (x := x) (GR_Vw h)
  unfold F_X8_eatenIn
  rw [a1, wP_s, a2, wP_s]
  rcases a3 with rfl | ⟨rfl, g, hg, rfl⟩
  · rw [if_pos rfl, if_pos rfl]
    exact ⟨_, u, t0, rfl, rfl, KC_rf u, hK0⟩
  · have n10 : ¬ (1 : Int32) = 0 := by decide
    have m8 := h.2.2.2.2.2.1.1.2.1
    obtain ⟨s, u1, t1, hs, b1, b2, b3, -⟩ := TR_0 h
    rw [if_neg n10, if_neg n10, b1, wC_s, b2, wC_s]
    have key : Rl (fun x y => x.1 = y.1 ∧ KC u x.2 ∧ KT t0 y.2) (wL (S := Int32 × wSt) (fun x => F_X8_eatenIn_b16 0 (nI g) x.1 x.2) wFu ((0 : Int32), u1)) (wL (S := Int32 × wSt) (fun x => F_X9_eatenIn_b21 79 (nI g) x.1 x.2) wFu ((0 : Int32), t1)) := by
      refine wL_rl (fun i x y => ∃ u' t', x = (nI i, u') ∧ y = (nI i, t') ∧ TR n m k d u t0 u' t' (s + i)) _ 200 (by unfold wFu; omega) ?_ ⟨u1, t1, rfl, rfl, b3⟩
      rintro i x y hi ⟨u', t', rfl, rfl, hT⟩
      obtain ⟨r7, r9, r5⟩ := TR_p hT
      have q55 : t'.2.2 79 55 = 111 := by simp only [PM_u hT.2.2.1.2.1]
      have hF := hT.2.2.1.2.2.2.2.2.2.2.2.1.2.2.1 g hg
      unfold F_X8_eatenIn_b16 F_X9_eatenIn_b21
      dsimp only
      have e1 : ((199 : Int32) < nI i) = (199 < i) := nI_ltE (a := 199) (b := i) (by omega) (by omega)
      have e2 : ((200 : Int32) ≤ nI i) = (200 ≤ i) := nI_leE (a := 200) (b := i) (by omega) (by omega)
      by_cases hi2 : 200 ≤ i
      · right
        exact ⟨(-2, u'), (-2, t'), if_pos (by rw [e1]; omega), if_pos (by rw [e2]; omega), rfl, hT.1, hT.2.1⟩
      · have c1 : ¬ (199 : Int32) < nI i := by rw [e1]; omega
        have c2 : ¬ (200 : Int32) ≤ nI i := by rw [e2]; omega
        rw [if_neg c1, if_neg c2, r7, wR_57, eaten_c (by omega), wP_s, q55, wR_110, nI_Ladd, wN_110 _ (by omega), hF.2.2]
        by_cases q : bt (u'.1 57 3) g = true
        · right
          refine ⟨(nI i, u'), (nI i, t'), ?_, ?_, rfl, hT.1, hT.2.1⟩
          · rw [bI_t q, if_neg n10]
          · rw [bI_t q, if_neg n10]
        · left
          obtain ⟨r, u2, t2, k1, k2, -, -, k3, -⟩ := TR_step hT (by omega)
          refine ⟨(nI (i + 1), u2), (nI (i + 1), t2), ?_, ?_, by omega, u2, t2, rfl, rfl, k3⟩
          · rw [bI_f q, if_pos rfl, r9, wR_64, wR_57, k1, wC_s, wB_eq, nI_addL]
          · rw [bI_f q, if_pos rfl, k2, wC_s, wB_eq, nI_addL]
    obtain ⟨⟨x1, x2⟩, ⟨y1, y2⟩, k1, k2, k3, k4, k5⟩ := key
    have k3 : x1 = y1 := k3
    subst k3
    exact ⟨x1, x2, y2, k1, k2, k4, KT_tr hK0 k5⟩
theorem sit_0 {x y : Int32} (hn : n ≤ 6) : ((((1 : Int32) <<< (nI n &&& 31)) - 1) &&& ((x ||| y) ^^^ (-1 : Int32)) = 0) ↔ cnt (sitB x y) n = 0 := by
  have hb : ∀ g, g < 32 → bt ((((1 : Int32) <<< (nI n &&& 31)) - 1) &&& ((x ||| y) ^^^ (-1 : Int32))) g = (decide (g < n) && sitB x y g) := by
    intro g hg
    rw [bt_and, bt_mask (by omega) hg, bt_not hg]
    rfl
  rw [cnt_0]
  constructor
  · intro h i hi
    have := hb i (by omega)
    rw [h, bt_0] at this
    simpa [hi] using this.symm
  · intro h
    apply bt_ext
    intro g hg
    rw [hb g hg, bt_0]
    by_cases hgn : g < n
    · rw [h g hgn]; simp
    · simp [hgn]
theorem M_hold (h : GR n m k d u t) : Q1 u t (F_X8_hold 0 u) (F_X9_hold 79 t) := by
  unfold F_X9_hold
  obtain ⟨t0, et⟩ : ∃ t0, t0 = w_sI t 79 2 (0 : Int32) := ⟨_, rfl⟩
  have hK0 : KT t t0 := by rw [et]; exact KT_s (by unfold scr; omega)
  have h := GR_fr h (KC_rf u) hK0
  rw [wB_eq, ← et]
  have n6 := h.2.2.2.2.2.1.1.1
  obtain ⟨s, u1, t1, hs, b1, b2, b3, -⟩ := TR_0 h
  unfold F_X8_hold
  rw [b1, wC_s, b2, wC_s]
  have key : Rl (fun x y => x.1 = y.1 ∧ KC u x.2 ∧ KT t0 y.2) (wL (S := Int32 × wSt) (fun x => F_X8_hold_b6 0 x.1 x.2) wFu ((0 : Int32), u1)) (wL (S := Int32 × wSt) (fun x => F_X9_hold_b11 79 x.1 x.2) wFu ((0 : Int32), t1)) := by
    refine wL_rl (fun i x y => ∃ u' t', x = (nI i, u') ∧ y = (nI i, t') ∧ TR n m k d u t0 u' t' (s + i)) _ 1000 (by unfold wFu; omega) ?_ ⟨u1, t1, rfl, rfl, b3⟩
    rintro i x y hi ⟨u', t', rfl, rfl, hT⟩
    obtain ⟨r7, r9, r5⟩ := TR_p hT
    unfold F_X8_hold_b6 F_X9_hold_b11
    dsimp only
    have e1 : ((999 : Int32) < nI i) = (999 < i) := nI_ltE (a := 999) (b := i) (by omega) (by omega)
    by_cases hi2 : 999 < i
    · right
      exact ⟨(-2, u'), (-2, t'), if_pos (by rw [e1]; omega), if_pos (by rw [e1]; omega), rfl, hT.1, hT.2.1⟩
    · have c1 : ¬ (999 : Int32) < nI i := by rw [e1]; omega
      have hmany : F_X9_thereMany 79 (1 : Int32) t' = some (nI (cnt (sitB (u'.1 57 2) (u'.1 64 5)) n)) := many_r hT.2.2.1
      have hle := cnt_le (sitB (u'.1 57 2) (u'.1 64 5)) n
      rw [if_neg c1, if_neg c1, r9, wR_64, r7, wR_57, sitting_c hT.2.2.1, wP_s, hmany, wP_s]
      have z := sit_0 (x := u'.1 57 2) (y := u'.1 64 5) n6
      have z2 : (nI (cnt (sitB (u'.1 57 2) (u'.1 64 5)) n) = 0) = (cnt (sitB (u'.1 57 2) (u'.1 64 5)) n = 0) := nI_eqI (b := 0) (by omega) (by omega)
      by_cases q : cnt (sitB (u'.1 57 2) (u'.1 64 5)) n = 0
      · right
        exact ⟨(nI i, u'), (nI i, t'), if_pos (z.mpr q), if_pos (by rw [z2]; exact q), rfl, hT.1, hT.2.1⟩
      · left
        obtain ⟨r, u2, t2, k1, k2, -, -, k3, -⟩ := TR_step hT (by omega)
        refine ⟨(nI (i + 1), u2), (nI (i + 1), t2), ?_, ?_, by omega, u2, t2, rfl, rfl, k3⟩
        · rw [if_neg (fun w => q (z.mp w)), wR_64, wR_57, k1, wC_s, wB_eq, nI_addL]
        · rw [if_neg (by rw [z2]; exact q), k2, wC_s, wB_eq, nI_addL]
  obtain ⟨⟨x1, x2⟩, ⟨y1, y2⟩, k1, k2, k3, k4, k5⟩ := key
  have k3 : x1 = y1 := k3
  subst k3
  exact ⟨x1, x2, y2, k1, k2, k4, KT_tr hK0 k5⟩
end

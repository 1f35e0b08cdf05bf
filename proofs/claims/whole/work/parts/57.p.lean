/-! looking at a scene; runs -/
def Vw (n m k d c b : Nat) (u t : wSt) : Prop := PL u.2.2 ∧ PM t.2.2 ∧ TC d ∧ SC c ∧ b < 2 ∧ u.2.2 0 2 = d + 1 ∧ Td n m k d u.1 t.1 ∧ Sc n m c b 98 u.1 t.1
section
variable {n m k d c b B : Nat} {u t : wSt}
theorem GR_Vw (h : GR n m k d u t) : Vw n m k d 43 0 u t := ⟨h.1, h.2.1, h.2.2.1, Or.inl rfl, by omega, h.2.2.2.1, h.2.2.2.2.2.1, h.2.2.2.2.2.2.1⟩
theorem Cx_Vw (h : Cx n m k d c b 98 u t) (h2 : u.2.2 0 2 = d + 1) : Vw n m k d c b u t := ⟨h.1, h.2.1, h.2.2.1, h.2.2.2.1, h.2.2.2.2.1, h2, h.2.2.2.2.2.2.1, h.2.2.2.2.2.2.2.2.1⟩
theorem Cx_fl {u' t' : wSt} (h : Cx n m k d c b B u t) (hr : u'.2.2 = u.2.2) (hu : ∀ a j, a ≠ 64 → u'.1 a j = u.1 a j) (hr' : t'.2.2 = t.2.2) (ht : ∀ a j, ¬ (a = 79 ∧ 60 ≤ j ∧ j ≤ 68) → t'.1 a j = t.1 a j) (hF : Fl u'.1 t'.1) (hN : Nm c u' t') : Cx n m k d c b B u' t' := by
  obtain ⟨hp, hm, hd, hc, hb, h8, hT, -, hS, -, hB⟩ := h
  have d1 := TC_le hd
  have c1 := SC_le hc
  exact ⟨by rw [hr]; exact hp, by rw [hr']; exact hm, hd, hc, hb, by rw [hr]; exact h8, Td_fr hT (fun a j q r => hu a j (by omega)) (fun j q r => ht _ _ (by omega)) (fun a j q r => ht _ _ (by omega)), hF, Sc_fr hT.1.1 hT.1.2.1 hS (fun a j q r _ => hu a j (by omega)) (fun a j q r _ _ _ => ht _ _ (by omega)), hN, hB⟩
theorem plain_c (h : GR n m k d u t) : F_X8_plainCourse 0 u = some (64, cb u d 0) := by
  obtain ⟨hp, -, hd, h2, -⟩ := h
  have r9 : u.2.2 0 9 = 65 := by simp only [PL_u hp]
  have r9' : (cb u d 0).2.2 0 9 = 65 := r9
  unfold F_X8_plainCourse
  rw [r9, wR_64, h2, wR_d0 _ hd, begin_c, wC_s, r9', wR_64]
theorem cb_Fl (u t : wSt) (d : Nat) : Fl (cb u d 0).1 (tb t).1 := ⟨Or.inl ⟨rfl, rfl, rfl⟩, rfl, rfl, rfl, rfl, rfl, rfl, Or.inl rfl⟩
theorem Cx_plain (h : GR n m k d u t) : Cx n m k d 43 0 98 (cb u d 0) (tb t) := by
  obtain ⟨hp, hm, hd, h2, -, hT, hS, -⟩ := GR_fr h (cb_KC u d 0) (tb_KT t)
  exact ⟨hp, hm, hd, Or.inl rfl, by omega, rfl, hT, cb_Fl u t d, hS, fun q => absurd q (by show ¬ ((0 : Int32) = 1); decide), by omega⟩
theorem Sc_b01 {x : Int32} {p : Prop} [Decidable p] (h : x = bI p) : x &&& 1 = bI p := by rw [h]; exact bI_and1
/-- a trial begun -/
theorem GR_trial (h : GR n m k d u t) : ∃ u1 t1, F_X8_startTrial 0 u = some ((), u1) ∧ F_X9_layTried 79 t = some ((), t1) ∧ KC u u1 ∧ KT t t1 ∧ t1.1 79 60 = 0 ∧ Fl u1.1 t1.1 ∧ Cx n m k d 57 1 98 u1 t1 ∧ (∀ j, j < 4 → u1.1 57 j = u.1 43 j) ∧ (∀ i j, 1 ≤ i → i ≤ 4 → j < 6 → u1.1 (57 + i) j = u.1 (43 + i) j) ∧ (∀ j, u1.1 64 j = (cb u d 0).1 64 j) := by
  have h0 := h
  obtain ⟨hp, hm, hd, h2, h3, hT, hS, hs, -⟩ := h
  have hpb : PL (cb u d 0).2.2 := PL_fr hp (fun a j q _ _ => (cb_KC u d 0).1 a j q)
  obtain ⟨u1, f1, f2, f3, f4, f5, f6⟩ := take_c (a := 57) (b := 43) hpb (Or.inr (Or.inr rfl)) (Or.inl rfl) (by decide)
  obtain ⟨t', g1, g2, g3, g4, g5⟩ := lay_t hm
  have hKC : KC u u1 := KC_tr (cb_KC u d 0) ⟨fun a j _ => by rw [f2], fun a j q r => f3 a j (by omega)⟩
  have hKT : KT t (tb t') := KT_tr g2 (tb_KT t')
  have r7 : (cb u d 0).2.2 0 7 = 58 := by simp only [PL_u hpb]
  have r5 : (cb u d 0).2.2 0 5 = 44 := by simp only [PL_u hpb]
  have cbne : ∀ a j, a ≠ 64 → (cb u d 0).1 a j = u.1 a j := fun a j q => by
    unfold cb
    rw [sI_ne _ _ _ _ _ _ q, sI_ne _ _ _ _ _ _ q, sI_ne _ _ _ _ _ _ q, sI_ne _ _ _ _ _ _ q, sI_ne _ _ _ _ _ _ q, sI_ne _ _ _ _ _ _ q, sI_ne _ _ _ _ _ _ q]
    rfl
  have k1 : ∀ j, j < 4 → u1.1 57 j = u.1 43 j := fun j q => (f4 j q).trans (cbne _ _ (by decide))
  have k2 : ∀ i j, 1 ≤ i → i ≤ 4 → j < 6 → u1.1 (57 + i) j = u.1 (43 + i) j := fun i j a b c => (f5 i j a b c).trans (cbne _ _ (by omega))
  have k3 : ∀ i j, 5 ≤ i → i ≤ 6 → j < 8 → u1.1 (57 + i) j = u.1 (43 + i) j := fun i j a b c => (f6 i j a b c).trans (cbne _ _ (by omega))
  have kF : ∀ j, u1.1 64 j = (cb u d 0).1 64 j := fun j => f3 64 j (by omega)
  have hFl : Fl u1.1 (tb t').1 := Fl_fr (cb_Fl u t' d) kF (fun _ _ _ => rfl)
  have tbn : ∀ a j, a ≠ 79 → (tb t').1 a j = t'.1 a j := fun a j q => tb_ne t' (by omega)
  have hGR := GR_fr h0 hKC hKT
  obtain ⟨hp1, hm1, -, -, -, hT1, -⟩ := hGR
  refine ⟨u1, tb t', ?_, g1, hKC, hKT, rfl, hFl, ⟨hp1, hm1, hd, Or.inr (Or.inr rfl), by omega, by rw [f2]; rfl, hT1, hFl, ?_, fun q => ?_, by omega⟩, k1, k2, kF⟩
  · unfold F_X8_startTrial
    rw [plain_c h0, wC_s, wG_pos (by decide), r7, wR_57, r5, wR_43, f1, wC_s]
  · obtain ⟨⟨s, hs1, es, es'⟩, hG, hF, h4, h5, h6, h7⟩ := hS
    have n6 := hT.1.1
    have m8 := hT.1.2.1
    refine ⟨⟨s, hs1, by rw [k1 0 (by omega)]; exact es, by rw [tbn _ _ (by decide), g5]; exact es'⟩, fun g hg => ?_, fun f hf => ?_, fun g hg => ?_, fun g hg => ?_, fun g hg => ?_, fun f hf => ?_⟩
    · have z := hG g hg
      have y := g3 g (by omega)
      simp only [Nat.mul_zero, Nat.zero_add] at z
      rw [Nat.mul_one, tbn _ _ (by decide), tbn _ _ (by decide), tbn _ _ (by decide), tbn _ _ (by decide), tbn _ _ (by decide), y.1, y.2.1, y.2.2.1, y.2.2.2.1, y.2.2.2.2, k1 2 (by omega), k2 1 g (by omega) (by omega) (by omega), k2 2 g (by omega) (by omega) (by omega), k2 3 g (by omega) (by omega) (by omega), k2 4 g (by omega) (by omega) (by omega)]
      exact ⟨z.1, z.2.1, z.2.2.1, z.2.2.2.1, Sc_b01 z.2.2.2.2⟩
    · have z := hF f hf
      have y := g4 f (by omega)
      simp only [Nat.mul_zero, Nat.zero_add] at z
      rw [Nat.mul_one, tbn _ _ (by decide), tbn _ _ (by decide), tbn _ _ (by decide), y.1, y.2.1, y.2.2, k1 3 (by omega), k3 5 f (by omega) (by omega) (by omega), k3 6 f (by omega) (by omega) (by omega)]
      exact ⟨z.1, z.2.1, Sc_b01 z.2.2⟩
    · rw [k2 1 g (by omega) (by omega) (by omega)]
      exact h4 g hg
    · rw [k2 3 g (by omega) (by omega) (by omega), k1 2 (by omega)]
      exact h5 g hg
    · rw [k1 2 (by omega)]
      exact h6 g hg
    · rw [k1 3 (by omega)]
      exact h7 f hf
  · rw [kF 0] at q
    exact absurd q (by show ¬ ((0 : Int32) = 1); decide)
theorem run_rl {s j : Nat} (hx : Cx n m k d c 1 98 u t) (hs : u.1 c 0 = nI s) (hj : s + j ≤ 20000) (hj2 : j < 2000) : Rl (fun x y => ST n m k d c 1 u t x.2 y.2 ∧ x.2.1 c 0 = nI (s + j)) (F_X0_run 64 c (nI j) u) (F_X9_goMany 79 (nI j) t) := by
  unfold F_X0_run F_X9_goMany
  refine wL_rl (fun i x y => ∃ u' t', x = (nI i, u') ∧ y = (nI i, t') ∧ ST n m k d c 1 u t u' t' ∧ u'.1 c 0 = nI (s + i)) _ j (by unfold wFu; omega) ?_ ⟨u, t, rfl, rfl, ST_rf hx, hs⟩
  rintro i x y hi ⟨u', t', rfl, rfl, hS, h0⟩
  unfold F_X0_run_b2 F_X9_goMany_b2
  have e := nI_leE (a := j) (b := i) (by omega) (by omega)
  by_cases hij : j ≤ i
  · right
    have : i = j := by omega
    subst this
    refine ⟨((), u'), ((), t'), if_pos (by rw [e]; exact hij), if_pos (by rw [e]; exact hij), hS, h0⟩
  · left
    obtain ⟨⟨r, u2⟩, ⟨r', t2⟩, a1, a2, -, -, a3, a4⟩ := step_rl hS.1 h0 (by omega)
    have a2 : F_X9_stepGoes 79 (1 : Int32) t' = some (r', t2) := a2
    refine ⟨(nI (i + 1), u2), (nI (i + 1), t2), ?_, ?_, by omega, u2, t2, rfl, rfl, ST_tr hS a4, a3⟩
    · dsimp only
      rw [if_neg (by rw [e]; exact hij), a1, wC_s, wB_eq, nI_addL]
    · dsimp only
      rw [if_neg (by rw [e]; exact hij), a2, wC_s, wB_eq, nI_addL]
/-! who and what there is -/
theorem isG {x : Int32} (h : Vw n m k d c b u t) : ∃ r : Int32, F_X8_isGuest 0 x u = some r ∧ F_X9_isGuest 79 x t = some r ∧ (r = 0 ∨ (r = 1 ∧ ∃ g : Nat, g < n ∧ x = nI g)) := by
  obtain ⟨hp, hm, hd, hc, hb, h2, ⟨⟨n6, -⟩, ⟨e1, -⟩, ⟨e2, -⟩, -⟩, -⟩ := h
  unfold F_X8_isGuest F_X9_isGuest
  by_cases q : x < 0
  · exact ⟨0, if_pos q, if_pos q, Or.inl rfl⟩
  · rw [if_neg q, if_neg q, h2, wR_d0 _ hd, e1, e2]
    by_cases q2 : nI n ≤ x
    · exact ⟨0, if_pos q2, if_pos q2, Or.inl rfl⟩
    · refine ⟨1, if_neg q2, if_neg q2, Or.inr ⟨rfl, ?_⟩⟩
      exact nI_below (by omega) (by rw [← i_nlt]; exact q) (by rw [← i_nle]; exact q2)
theorem isF {x : Int32} (h : Vw n m k d c b u t) : ∃ r : Int32, F_X8_isFruit 0 x u = some r ∧ F_X9_isFruit 79 x t = some r ∧ (r = 0 ∨ (r = 1 ∧ ∃ g : Nat, g < m ∧ x = nI g)) := by
  obtain ⟨hp, hm, hd, hc, hb, h2, ⟨⟨n6, m8, -⟩, ⟨-, e1, -⟩, ⟨-, e2, -⟩, -⟩, -⟩ := h
  unfold F_X8_isFruit F_X9_isFruit
  by_cases q : x < 0
  · exact ⟨0, if_pos q, if_pos q, Or.inl rfl⟩
  · rw [if_neg q, if_neg q, h2, wR_d0 _ hd, e1, e2]
    by_cases q2 : nI m ≤ x
    · exact ⟨0, if_pos q2, if_pos q2, Or.inl rfl⟩
    · refine ⟨1, if_neg q2, if_neg q2, Or.inr ⟨rfl, ?_⟩⟩
      exact nI_below (by omega) (by rw [← i_nlt]; exact q) (by rw [← i_nle]; exact q2)
theorem two {x y : Int32} (h : Vw n m k d c b u t) : ∃ r : Int32, F_X8_areTwoGuests 0 x y u = some r ∧ F_X9_areTwo 79 x y t = some r ∧ (r = 0 ∨ (r = 1 ∧ ∃ g i : Nat, g < n ∧ i < n ∧ g ≠ i ∧ x = nI g ∧ y = nI i)) := by
  have n6 := h.2.2.2.2.2.2.1.1.1
  obtain ⟨r1, a1, a2, a3⟩ := isG (x := x) h
  obtain ⟨r2, b1, b2, b3⟩ := isG (x := y) h
  unfold F_X8_areTwoGuests F_X9_areTwo
  rw [a1, a2, b1, b2, wP_s, wP_s]
  rcases a3 with rfl | ⟨rfl, g, hg, rfl⟩
  · exact ⟨0, if_pos rfl, if_pos rfl, Or.inl rfl⟩
  · rw [if_neg (by decide)]
    rcases b3 with rfl | ⟨rfl, i, hi, rfl⟩
    · exact ⟨0, if_pos rfl, if_pos rfl, Or.inl rfl⟩
    · rw [if_neg (by decide)]
      by_cases q : nI g = nI i
      · exact ⟨0, if_pos q, if_pos q, Or.inl rfl⟩
      · exact ⟨1, if_neg q, if_neg q, Or.inr ⟨rfl, g, i, hg, hi, fun e => q (by rw [e]), rfl, rfl⟩⟩
theorem faint_c {g : Nat} (hg : g < 32) : F_X3_hasFainted c (nI g) u = some (bI (bt (u.1 c 2) g = true)) := by
  unfold F_X3_hasFainted
  rw [bt_sh hg]
  by_cases q : bt (u.1 c 2) g = true
  · rw [bI_t q, if_neg (by decide)]
  · rw [bI_f q, if_pos rfl]
theorem there_c {x : Int32} (h : Vw n m k d 43 b u t) : ∃ r r' : Int32, F_X8_isThere 0 x u = some r ∧ F_X9_isGuest 79 x t = some r' ∧ ((r = 0 ∧ (r' = 0 ∨ ∃ g : Nat, g < n ∧ x = nI g ∧ r' = 1 ∧ bt (u.1 43 2) g = true)) ∨ (r = 1 ∧ r' = 1 ∧ ∃ g : Nat, g < n ∧ x = nI g ∧ bt (u.1 43 2) g = false)) := by
  have n6 := h.2.2.2.2.2.2.1.1.1
  obtain ⟨r1, a1, a2, a3⟩ := isG (x := x) h
  have r5 : u.2.2 0 5 = 44 := by simp only [PL_u h.1]
  unfold F_X8_isThere
  rw [a1, wP_s, r5, wR_43]
  rcases a3 with rfl | ⟨rfl, g, hg, rfl⟩
  · exact ⟨0, 0, if_pos rfl, a2, Or.inl ⟨rfl, Or.inl rfl⟩⟩
  · rw [if_neg (by decide), faint_c (by omega), wP_s]
    by_cases q : bt (u.1 43 2) g = true
    · refine ⟨0, 1, ?_, a2, Or.inl ⟨rfl, Or.inr ⟨g, hg, rfl, rfl, q⟩⟩⟩
      rw [bI_t q, if_neg (by decide)]
    · refine ⟨1, 1, ?_, a2, Or.inr ⟨rfl, rfl, g, hg, rfl, ?_⟩⟩
      · rw [bI_f q, if_pos rfl]
      · cases hq : bt (u.1 43 2) g
        · rfl
        · exact absurd hq q
end

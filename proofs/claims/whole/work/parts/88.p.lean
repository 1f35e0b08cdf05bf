/-! table, whole -/
section
variable {n m k d st c : Nat} {u t : wSt}
theorem tab_loop (h : GR n m k d u t) (hst : st < n) (hs : ∀ g, g < n → (u.1 44 g = 0 ↔ g = st)) (hS : SQ n st 0 u) : Rl (fun y z => ∃ (bd b : Nat) (v w : wSt), y = Sum.inl (nI bd, v) ∧ z = Sum.inl (nI b, nI bd, w) ∧ b < fct (n - 1) ∧ BQ n st b v ∧ KC u v ∧ KT t w) (wL (S := Int32 × Int32 × Int32 × wSt) (fun x => F_X8_table_b44 0 x.1 x.2.1 x.2.2.1 x.2.2.2) wFu ((7 : Int32), (1 : Int32), (0 : Int32), u)) (wL (S := Int32 × Int32 × Int32 × wSt) (fun x => F_X9_table_b84 79 (nI st) x.1 x.2.1 x.2.2.1 x.2.2.2) wFu ((-1 : Int32), (0 : Int32), (0 : Int32), t)) := by
  have n6 := h.2.2.2.2.2.1.1.1
  obtain ⟨-, fp, f120⟩ := rows_e (t := t) (j := n - 1) (by omega)
  refine wL_rl (fun c x y => ∃ (fw an be f9 : Int32) (v w : wSt) (bd : Nat), x = (fw, an, nI c, v) ∧ y = (be, f9, nI c, w) ∧ KC u v ∧ KT t w ∧ bd ≤ 7 ∧ fw = nI bd ∧ (c < fct (n - 1) → an = 1 ∧ SQ n st c v) ∧ (¬ c < fct (n - 1) → an = 0) ∧ ((c = 0 ∧ be < 0 ∧ bd = 7) ∨ (∃ b : Nat, be = nI b ∧ b < c ∧ f9 = nI bd ∧ BQ n st b v))) _ (fct (n - 1)) (by unfold wFu; omega) ?_ ⟨7, 1, -1, 0, u, t, 7, rfl, rfl, KC_rf u, KT_rf t, by omega, rfl, fun _ => ⟨rfl, hS⟩, fun q => by omega, Or.inl ⟨rfl, by decide, rfl⟩⟩
  rintro c x y hc ⟨fw, an, be, f9, v, w, bd, rfl, rfl, hK, hKT, hbd, hfw, a1, a2, hb⟩
  have g := GR_fr h hK hKT
  by_cases hcF : c < fct (n - 1)
  · left
    obtain ⟨q1, q2⟩ := a1 hcF
    have hs' : ∀ g, g < n → (v.1 44 g = 0 ↔ g = st) := fun g hg => by
      rw [hK.2 44 g (by omega) (by omega)]
      exact hs g hg
    obtain ⟨f, b, an', u', t', e1, e2, f7, hb1, hB, b1, b2, k1, k2⟩ := tab_step g hst hcF hs' q2 hbd q1 hfw (hb.imp (fun q => q.2) id)
    exact ⟨_, _, e1, e2, hcF, nI f, an', nI b, nI f, u', t', f, rfl, rfl, KC_tr hK k1, KT_tr hKT k2, f7, rfl, b1, b2, Or.inr ⟨b, rfl, hb1, rfl, hB⟩⟩
  · right
    have hce : c = fct (n - 1) := by omega
    have an0 := a2 hcF
    have h12 : w.1 79 12 = nI n := g.2.2.2.2.2.1.2.2.1.1
    have hn1 : nI n - (1 : Int32) = nI (n - 1) := nI_sub (a := n) (b := 1) (by omega)
    obtain ⟨ro, -, -⟩ := rows_e (t := w) (j := n - 1) (by omega)
    rcases hb with ⟨q, -⟩ | ⟨b, q1, q2, q3, q4⟩
    · omega
    · refine ⟨_, _, ?_, ?_, bd, b, v, w, rfl, rfl, by omega, q4, hK, hKT⟩
      · unfold F_X8_table_b44
        dsimp only
        by_cases z : (120 : Int32) ≤ nI c
        · rw [if_pos z, hfw]
        · rw [if_neg z, if_pos an0, hfw]
      · unfold F_X9_table_b84
        dsimp only
        rw [h12, hn1, ro, wP_s, if_pos (by rw [nI_leE (by omega) (by omega)]; omega), q1, q3]
theorem stay_t (h : GR n m k d u t) (hst : st < n) (hs : ∀ g, g < n → (u.1 44 g = 0 ↔ g = st)) : wL (S := Int32 × Int32) (fun x => F_X9_table_b47 t 79 x.1 x.2) wFu ((0 : Int32), (0 : Int32)) = some (.inl (nI st)) := by
  have n6 := h.2.2.2.2.2.1.1.1
  have h12 : t.1 79 12 = nI n := h.2.2.2.2.2.1.2.2.1.1
  have q51 : t.2.2 79 51 = 107 := by simp only [PM_u h.2.1]
  obtain ⟨o1, -⟩ := Sc_old h.2.2.2.2.2.2.1
  have key : Ro (fun y => y = Sum.inl (nI st)) (wL (S := Int32 × Int32) (fun x => F_X9_table_b47 t 79 x.1 x.2) wFu ((0 : Int32), (0 : Int32))) := by
    refine wL_ro (fun k x => x = (if st < k then nI st else 0, nI k)) _ n (by unfold wFu; omega) ?_ rfl
    rintro k x hk rfl
    have en : (nI n ≤ nI k) = (n ≤ k) := nI_leE (by omega) (by omega)
    unfold F_X9_table_b47 F_X9_table_j69
    dsimp only
    rw [h12]
    by_cases hkn : n ≤ k
    · right
      rw [if_pos (by rw [en]; exact hkn), if_pos (by omega)]
      exact ⟨_, rfl, rfl⟩
    · left
      rw [if_neg (by rw [en]; exact hkn), q51, wR_106, wN_106 _ (by omega), (o1 k (by omega)).1]
      by_cases hks : k = st
      · rw [if_pos ((hs k (by omega)).mpr hks), wJ_inl, wB_eq, nI_addL]
        exact ⟨_, rfl, by omega, by rw [if_pos (show st < k + 1 by omega), hks]⟩
      · rw [if_neg (fun e => hks ((hs k (by omega)).mp e)), wJ_inl, wB_eq, nI_addL]
        refine ⟨_, rfl, by omega, ?_⟩
        by_cases q : st < k
        · rw [if_pos q, if_pos (show st < k + 1 by omega)]
        · rw [if_neg q, if_neg (show ¬ st < k + 1 by omega)]
  obtain ⟨y, e, rfl⟩ := key
  exact e
theorem tab_go {j : Nat} (h : GR n m k d u t) (hn : 0 < n) (hj : j = 6 ∨ (j < 6 ∧ j < n)) : Q1 u t (F_X8_table_j32 0 u (nI j)) (F_X9_table_j34 t 79 (nI j)) := by
  have n6 := h.2.2.2.2.2.1.1.1
  have h12 : t.1 79 12 = nI n := h.2.2.2.2.2.1.2.2.1.1
  obtain ⟨st, hst, hs⟩ := stays_ex h.2.2.2.2.2.2.2.2.1 n6 hn
  obtain ⟨u4, a1, a2, a3, a4⟩ := first_e h hst hs
  have kc4 : KC u u4 := KC_77 a2 a3
  have g4 := GR_fr h kc4 (KT_rf t)
  have hs4 : ∀ g, g < n → (u4.1 44 g = 0 ↔ g = st) := fun g hg => by
    rw [a3 44 g (by decide)]
    exact hs g hg
  obtain ⟨y, z, b1, b2, bd, b, v, w, rfl, rfl, hb, hB, hK, hKT⟩ := tab_loop g4 hst hs4 a4
  have g := GR_fr g4 hK hKT
  have h12w : w.1 79 12 = nI n := g.2.2.2.2.2.1.2.2.1.1
  have hn1 : nI n - (1 : Int32) = nI (n - 1) := nI_sub (a := n) (b := 1) (by omega)
  have q69 : w.2.2 79 69 = 114 := by simp only [PM_u g.2.1]
  obtain ⟨w', c1, c2, c3, c4⟩ := row_e (t := w) q69 n6 hst hb
  have q69' : w'.2.2 79 69 = 114 := by rw [c2]; exact q69
  have r13 : v.2.2 0 13 = 79 := by simp only [PL_u g.1]
  have n0 : ¬ nI n = 0 := by
    rw [show (nI n = (0 : Int32)) = (n = 0) from nI_eqI (a := n) (b := 0) (by omega) (by omega)]
    omega
  have e6 : (nI j = (6 : Int32)) = (j = 6) := nI_eqI (a := j) (b := 6) (by omega) (by omega)
  have e0 : (nI j = (0 : Int32)) = (j = 0) := nI_eqI (a := j) (b := 0) (by omega) (by omega)
  unfold F_X8_table_j32 F_X9_table_j34 F_X8_table_j97 F_X9_table_j76 F_X9_table_j200
  rw [a1, wC_s, b1, wJ_inl, h12, if_neg n0, stay_t h hst hs, wJ_inl, b2, wJ_inl, h12w, hn1, c1, wC_s]
  have KCv := KC_tr kc4 hK
  have KTw := KT_tr hKT (KT_113 c2 c3)
  by_cases j6 : j = 6
  · rw [if_pos (by rw [e6]; exact j6), if_pos (by rw [e6]; exact j6)]
    exact ⟨_, v, w', rfl, rfl, KCv, KTw⟩
  · have hjn : j < n := by omega
    have z6 : ¬ nI j = 6 := by rw [e6]; exact j6
    rw [if_neg z6, if_neg z6, r13, wR_78, wN_78 _ (by omega)]
    by_cases j0 : j = 0
    · rw [if_pos (by rw [e0]; exact j0), j0, hB.1]
      exact ⟨_, v, w', rfl, rfl, KCv, KTw⟩
    · obtain ⟨i, rfl⟩ : ∃ i, j = i + 1 := ⟨j - 1, by omega⟩
      have es : nI (i + 1) - (1 : Int32) = nI i := by
        have := nI_sub (a := i + 1) (b := 1) (by omega)
        rw [Nat.add_sub_cancel] at this
        exact this
      rw [if_neg (by rw [e0]; exact j0), q69', wR_113, es, wN_113 _ (by omega), hB.2 i hjn, c4 i hjn]
      exact ⟨_, v, w', rfl, rfl, KCv, KTw⟩
theorem next_0 (h : GR 0 m k d u t) : ∃ u', F_X8_nextSeating 0 u = some (0, u') ∧ KC u u' := by
  have ag : AG u d 0 u (cT 0 0 0) := ⟨rfl, fun _ _ _ => rfl, rfl, rfl, rfl, fun j hj => by omega⟩
  have hk : (F_X8_nextSeating 0 (cT 0 0 0)).map (fun q => q.1) = some 0 := by decide +kernel
  rcases next_rp (A0_of h) ag with ⟨e1, e2⟩ | ⟨⟨r, x⟩, ⟨r', y⟩, e1, e2, er, hA⟩
  · rw [e2] at hk
    cases hk
  · have er : r = r' := er
    rw [e2] at hk
    have : r' = 0 := Option.some.inj hk
    rw [er, this] at e1
    exact ⟨x, e1, KC_77 hA.1 hA.2.1⟩
theorem tab_0 (h : GR 0 m k d u t) : ∃ v, F_X8_table_j32 0 u (6 : Int32) = some (0, v) ∧ KC u v := by
  have hd := h.2.2.1
  have d1 := TC_le hd
  have un : ∀ v, KC u v → v.2.2 0 2 = d + 1 ∧ v.1 d 1 = nI 0 := fun v hv => by
    have g := GR_fr h hv (KT_rf t)
    exact ⟨g.2.2.2.1, g.2.2.2.2.2.1.2.1.1⟩
  have z0 : nI 0 ≤ (0 : Int32) := by decide
  have f1 : F_X8_firstSeating 0 u = some ((), u) := by
    have key : Ro (fun y => y = ((), u)) (F_X8_firstSeating 0 u) := by
      unfold F_X8_firstSeating
      refine wL_ro (fun k x => x = ((1 : Int32), (0 : Int32), u)) _ 0 (by unfold wFu; omega) ?_ rfl
      rintro k x hk rfl
      right
      obtain ⟨p1, p2⟩ := un u (KC_rf u)
      unfold F_X8_firstSeating_b4
      dsimp only
      rw [p1, wR_d0 _ hd, p2, if_pos z0]
      exact ⟨_, rfl, rfl⟩
    obtain ⟨y, e, rfl⟩ := key
    exact e
  have f2 : ∃ v, F_X8_fallenBySeating 0 (7 : Int32) u = some (0, v) ∧ KC u v := by
    obtain ⟨s, u1, t1, s9, a1, a2, a3, a4, a5, -⟩ := TR_0 h
    obtain ⟨u1', b1, -, b3⟩ := start_77 h
    have e1 : u1' = u1 := by
      have := b1.symm.trans a1
      exact congrArg Prod.snd (Option.some.inj this)
    subst e1
    have s1 : wL (S := Int32 × wSt) (fun x => F_X8_fallenBySeating_b6 0 x.1 x.2) wFu ((0 : Int32), u1') = some (.inl u1') := by
      have key : Ro (fun y => y = Sum.inl u1') (wL (S := Int32 × wSt) (fun x => F_X8_fallenBySeating_b6 0 x.1 x.2) wFu ((0 : Int32), u1')) := by
        refine wL_ro (fun k x => x = ((0 : Int32), u1')) _ 0 (by unfold wFu; omega) ?_ rfl
        rintro k x hk rfl
        right
        obtain ⟨p1, p2⟩ := un u1' a3.1
        unfold F_X8_fallenBySeating_b6
        dsimp only
        rw [p1, wR_d0 _ hd, p2, if_pos z0]
        exact ⟨_, rfl, rfl⟩
      obtain ⟨y, e, rfl⟩ := key
      exact e
    obtain ⟨y, z, k1, -, v, v', w, r, rfl, -, r6, -, o1, -, hK, -⟩ := FBL (bd := 7) h (by omega) s9 a3 (a4 2 (by omega)) b3
    have r0 : r = 0 := (o1 (by omega)).trans (by unfold CN; rfl)
    subst r0
    refine ⟨v, ?_, hK⟩
    unfold F_X8_fallenBySeating F_X8_fallenBySeating_j38
    rw [b1, wC_s, s1, wJ_inl]
    exact k1
  have f3 : Ro (fun y => ∃ v, y = Sum.inl ((0 : Int32), v) ∧ KC u v) (wL (S := Int32 × Int32 × Int32 × wSt) (fun x => F_X8_table_b44 0 x.1 x.2.1 x.2.2.1 x.2.2.2) wFu ((7 : Int32), (1 : Int32), (0 : Int32), u)) := by
    refine wL_ro (fun k x => (k = 0 ∧ x = ((7 : Int32), (1 : Int32), (0 : Int32), u)) ∨ (k = 1 ∧ ∃ v, x = ((0 : Int32), (0 : Int32), (1 : Int32), v) ∧ KC u v)) _ 1 (by unfold wFu; omega) ?_ (Or.inl ⟨rfl, rfl⟩)
    rintro k x hk (⟨rfl, rfl⟩ | ⟨rfl, v, rfl, hv⟩)
    · left
      obtain ⟨v, e, hv⟩ := f2
      have g := GR_fr h hv (KT_rf t)
      have r12 : v.2.2 0 12 = 78 := by simp only [PL_u g.1]
      have r13 : v.2.2 0 13 = 79 := by simp only [PL_u g.1]
      have g2 := GR_fr g (cp78_KC (u := v)) (KT_rf t)
      obtain ⟨u', e', hk'⟩ := next_0 g2
      have y1 : ¬ (120 : Int32) ≤ 0 := by decide
      have y2 : ¬ (1 : Int32) = 0 := by decide
      have y3 : ¬ (7 : Int32) ≤ 0 := by decide
      unfold F_X8_table_b44 F_X8_table_j86
      dsimp only
      rw [if_neg y1, if_neg y2, e, wC_s, if_neg y3, r12, wR_77, r13, wR_78, wCP_6 _ (by decide) (by decide), wJ_inl]
      have e' : F_X8_nextSeating 0 (w_cp v 77 0 78 0 6) = some (0, u') := e'
      rw [e', wC_s, wB_eq]
      exact ⟨_, rfl, by omega, Or.inr ⟨rfl, u', rfl, KC_tr hv (KC_tr cp78_KC hk')⟩⟩
    · right
      have y1 : ¬ (120 : Int32) ≤ 1 := by decide
      unfold F_X8_table_b44
      dsimp only
      rw [if_neg y1, if_pos rfl]
      exact ⟨_, rfl, v, rfl, hv⟩
  obtain ⟨y, e, v, rfl, hv⟩ := f3
  refine ⟨v, ?_, hv⟩
  unfold F_X8_table_j32 F_X8_table_j97
  rw [f1, wC_s, e, wJ_inl, if_pos rfl]
theorem M_table {x : Int32} (h : GR n m k d u t) : Q1 u t (F_X8_table 0 x u) (F_X9_table 79 x t) := by
  unfold F_X9_table
  obtain ⟨t0, et⟩ : ∃ t0, t0 = w_sI t 79 2 (0 : Int32) := ⟨_, rfl⟩
  have hK0 : KT t t0 := by rw [et]; exact KT_s (by unfold scr; omega)
  have h := GR_fr h (KC_rf u) hK0
  rw [wB_eq, ← et]
  have n10 : ¬ (1 : Int32) = 0 := by decide
  have hd := h.2.2.1
  have p1 : u.2.2 0 2 = d + 1 := h.2.2.2.1
  have p3 : u.1 d 1 = nI n := h.2.2.2.2.2.1.2.1.1
  have h12 : t0.1 79 12 = nI n := h.2.2.2.2.2.1.2.2.1.1
  have n6 := h.2.2.2.2.2.1.1.1
  unfold F_X8_table F_X9_isIn
  by_cases x0 : x < 0
  · rw [if_pos x0, if_pos x0, wP_s, if_pos rfl]
    exact ⟨_, u, t0, rfl, rfl, KC_rf u, hK0⟩
  · rw [if_neg x0, if_neg x0]
    by_cases x1 : x ≤ 6
    · have x1' : ¬ (6 : Int32) < x := by rw [i_nlt]; exact x1
      obtain ⟨j, hj, rfl⟩ := in_rng (p := 6) (by omega) x0 x1'
      have e6 : ((6 : Int32) ≤ nI j) = (6 ≤ j) := nI_leE (a := 6) (b := j) (by omega) (by omega)
      have en : (nI j < nI n) = (j < n) := nI_ltE (by omega) (by omega)
      have fin : (j = 6 ∨ (j < 6 ∧ j < n)) → Q1 u t (F_X8_table_j32 0 u (nI j)) (F_X9_table_j34 t0 79 (nI j)) := fun hq => by
        by_cases hn : 0 < n
        · obtain ⟨r, u', t', q1, q2, q3, q4⟩ := tab_go h hn hq
          exact ⟨r, u', t', q1, q2, q3, KT_tr hK0 q4⟩
        · have hz : n = 0 := by omega
          subst hz
          have hj6 : j = 6 := by omega
          subst hj6
          obtain ⟨v, q1, q2⟩ := tab_0 h
          refine ⟨0, v, t0, q1, ?_, q2, hK0⟩
          unfold F_X9_table_j34
          rw [h12, if_pos (by decide)]
      rw [if_pos x1, if_neg x1', wP_s, if_neg n10]
      by_cases j6 : 6 ≤ j
      · rw [if_pos (by rw [e6]; exact j6), if_pos (by rw [e6]; exact j6), wJ_inl, wJ_inl]
        exact fin (by omega)
      · rw [if_neg (by rw [e6]; exact j6), if_neg (by rw [e6]; exact j6), p1, wR_d0 _ hd, p3, h12]
        by_cases hjn : j < n
        · rw [if_pos (by rw [en]; exact hjn), wJ_inl, if_pos (by rw [en]; exact hjn), wJ_inl]
          exact fin (by omega)
        · rw [if_neg (by rw [en]; exact hjn), wJ_inr, if_neg (by rw [en]; exact hjn), wJ_inr]
          exact ⟨_, u, t0, rfl, rfl, KC_rf u, hK0⟩
    · have x1' : (6 : Int32) < x := by rw [← i_nle]; exact x1
      rw [if_neg x1, if_pos x1', wP_s, if_pos rfl]
      exact ⟨_, u, t0, rfl, rfl, KC_rf u, hK0⟩
end

/-! whom to send away -/
theorem sh_n {n : Nat} (h : n ≤ 6) : (1 : Int32) <<< (nI n &&& 31) = nI (2 ^ n) ∧ 2 ^ n ≤ 64 := by
  have : ∀ n : Fin 7, (1 : Int32) <<< (nI n.1 &&& 31) = nI (2 ^ n.1) ∧ 2 ^ n.1 ≤ 64 := by decide
  exact this ⟨n, by omega⟩
theorem bt_64 {a g : Nat} (ha : a < 64) (hg : 6 ≤ g) : bt (nI a) g = false := by
  by_cases h : g < 32
  · have : ∀ a : Fin 64, ∀ g : Fin 32, 6 ≤ g.1 → bt (nI a.1) g.1 = false := by decide +kernel
    exact this ⟨a, ha⟩ ⟨g, h⟩ hg
  · exact bt_ge (by omega)
section
variable {n m k d c b B : Nat} {u t : wSt}
theorem bc_64 {a : Nat} (ha : a < 64) : F_J6_bitCount_0f7a4 (nI a) u = some (nI (cnt (bt (nI a)) 6)) := by
  rw [bc_of (fun g h1 h2 => bt_64 ha (by omega)), cnt_more (k := 6) (by omega) (fun i h1 h2 => bt_64 ha h1)]
theorem many_64 {x : Int32} : F_X9_manyOf x t = some (nI (cnt (bt x) 6)) := by
  have key : Ro (fun y => y = nI (cnt (bt x) 6)) (F_X9_manyOf x t) := by
    unfold F_X9_manyOf
    refine wL_ro (fun i y => y = (nI (cnt (bt x) i), nI i)) _ 6 (by unfold wFu; omega) ?_ rfl
    rintro i y hi rfl
    unfold F_X9_manyOf_b4
    dsimp only
    have e : ((6 : Int32) ≤ nI i) = (6 ≤ i) := nI_leE (a := 6) (b := i) (by omega) (by omega)
    by_cases h6 : 6 ≤ i
    · right
      have : i = 6 := by omega
      subst this
      exact ⟨_, if_pos (by rw [e]; exact h6), rfl⟩
    · left
      refine ⟨(nI (cnt (bt x) (i + 1)), nI (i + 1)), ?_, by omega, rfl⟩
      rw [if_neg (by rw [e]; exact h6), wB_eq, wB_eq, bt_sh (by omega), nI_addL, show cnt (bt x) (i + 1) = cnt (bt x) i + (if bt x i = true then 1 else 0) from rfl]
      by_cases q : bt x i = true
      · rw [bI_t q, if_pos q, nI_addL]
      · rw [bI_f q, if_neg q, nI_addL]
  obtain ⟨y, h1, rfl⟩ := key
  exact h1
theorem there_t (h : Vw n m k d 43 0 u t) : ∃ x : Int32, F_X9_thereBits 79 t = some x ∧ ∀ g, g < 32 → bt x g = (decide (g < n) && !(bt (u.1 43 2) g)) := by
  have q52 : t.2.2 79 52 = 108 := by simp only [PM_u h.2.1]
  have n10 : ¬ (1 : Int32) = 0 := by decide
  obtain ⟨hp, hm, hd, hc, hb, h2, ⟨⟨n6, -⟩, ⟨e1, -⟩, ⟨e2, -⟩, -⟩, ⟨-, hS, -⟩⟩ := h
  have key : Ro (fun x => ∀ g, g < 32 → bt x g = (decide (g < n) && !(bt (u.1 43 2) g))) (F_X9_thereBits 79 t) := by
    unfold F_X9_thereBits
    refine wL_ro (fun i x => ∃ a : Int32, x = (a, nI i) ∧ ∀ g, g < 32 → bt a g = (decide (g < i) && !(bt (u.1 43 2) g))) _ n (by unfold wFu; omega) ?_ ⟨0, rfl, fun g hg => by rw [bt_0]; simp⟩
    rintro i x hi ⟨a, rfl, ha⟩
    unfold F_X9_thereBits_b4 F_X9_thereBits_j29
    dsimp only
    have e := nI_leE (a := n) (b := i) (by omega) (by omega)
    rw [e2]
    by_cases hin : n ≤ i
    · right
      have : i = n := by omega
      subst this
      exact ⟨a, if_pos (by rw [e]; exact hin), ha⟩
    · left
      have hil : i < n := by omega
      have z := (hS i hil).2.2.2.2
      simp only [Nat.mul_zero, Nat.zero_add] at z
      rw [if_neg (by rw [e]; exact hin), q52, wR_107, wN_107 _ (by omega), z]
      by_cases q : bt (u.1 43 2) i = true
      · refine ⟨(a, nI (i + 1)), ?_, hil, a, rfl, fun g hg => ?_⟩
        · rw [bI_f (by rw [q]; decide), if_pos rfl]
          repeat (first | rw [wB_eq] | rw [wC_s] | rw [wP_s] | rw [wJ_inl] | rw [wJ_inr])
          rw [nI_addL, Int32.or_zero]
        · rw [ha g hg]
          by_cases hgi : g = i
          · subst hgi
            rw [q]
            simp
          · have : (g < i + 1) ↔ (g < i) := by omega
            simp [this]
      · have q' : bt (u.1 43 2) i = false := by
          cases hq : bt (u.1 43 2) i
          · rfl
          · exact absurd hq q
        refine ⟨(a ||| ((1 : Int32) <<< (nI i &&& 31)), nI (i + 1)), ?_, hil, _, rfl, fun g hg => ?_⟩
        · rw [bI_t q', if_neg n10]
          repeat (first | rw [wB_eq] | rw [wC_s] | rw [wP_s] | rw [wJ_inl] | rw [wJ_inr])
          rw [nI_addL]
        · rw [bt_set (by omega), ha g hg]
          by_cases hgi : g = i
          · subst hgi
            rw [q']
            simp
          · have : (g < i + 1) ↔ (g < i) := by omega
            simp [this, hgi]
  obtain ⟨x, h1, h2⟩ := key
  exact ⟨x, h1, h2⟩
theorem there_eq (h : Vw n m k d 43 0 u t) {y : Int32} (hy : y = 0) : F_X9_thereBits 79 t = some ((((1 : Int32) <<< (nI n &&& 31)) - 1) &&& ((u.1 43 2 ||| y) ^^^ (-1 : Int32))) := by
  obtain ⟨x, h1, h2⟩ := there_t h
  have n6 := h.2.2.2.2.2.2.1.1.1
  rw [h1]
  congr 1
  apply bt_ext
  intro g hg
  rw [h2 g hg, bt_and, bt_mask (by omega) hg, bt_not hg, bt_or, hy, bt_0, Bool.or_false]
theorem isCalm_rl {a : Nat} (h : GR n m k d u t) : Q1 u t (F_X8_isCalmWithout 0 (nI a) u) (F_X9_isCalm 79 (nI a) t) := by
  have n6 := h.2.2.2.2.2.1.1.1
  obtain ⟨s, u1, t1, hs, b1, b2, b3, -, -, b6, b7⟩ := TR_0 h
  obtain ⟨r7, r9, r5⟩ := TR_p b3
  obtain ⟨m0, m1, m2, m3, m4, m5, m6, m7⟩ := b6
  have l0 : u1.1 64 0 = 0 := (b7 0).trans rfl
  have ne2 : ∀ (x : Int32) (j : Nat), j ≠ 5 → (w_sI u1 64 5 x).1 64 j = u1.1 64 j := fun x j q => sI_ne2 _ _ _ _ _ _ q
  have nt2 : ∀ (x : Int32) (a j : Nat), ¬ (a = 79 ∧ j = 66) → (w_sI t1 79 66 x).1 a j = t1.1 a j := fun x a j q => if_neg q
  have hT : TR n m k d u t (w_sI u1 64 5 (nI a)) (w_sI t1 79 66 (nI a)) s := by
    refine TR_fl b3 rfl (fun a j q => sI_ne _ _ _ _ _ _ q) rfl (fun a j q => nt2 _ _ _ (by omega)) ⟨?_, ?_, ?_, ?_, ?_, ?_, ?_, ?_⟩ (by rw [ne2 _ _ (by decide), l0]; decide)
    · rw [ne2 _ _ (by decide), nt2 _ _ _ (by omega), nt2 _ _ _ (by omega)]; exact m0
    · rw [ne2 _ _ (by decide), nt2 _ _ _ (by omega)]; exact m1
    · rw [ne2 _ _ (by decide), nt2 _ _ _ (by omega)]; exact m2
    · rw [ne2 _ _ (by decide), nt2 _ _ _ (by omega)]; exact m3
    · rw [ne2 _ _ (by decide), nt2 _ _ _ (by omega)]; exact m4
    · rw [sI_eq, sI_eq]
    · rw [ne2 _ _ (by decide), nt2 _ _ _ (by omega)]; exact m6
    · rw [ne2 _ _ (by decide), ne2 _ _ (by decide), nt2 _ _ _ (by omega)]; exact m7
  unfold F_X8_isCalmWithout F_X9_isCalm
  rw [b1, wC_s, b2, wC_s, r9, wR_64, wB_eq, wB_eq]
  have key : Rl (fun x y => x.1 = y.1 ∧ KC u x.2 ∧ KT t y.2) (wL (S := Int32 × wSt) (fun x => F_X8_isCalmWithout_b14 0 x.1 x.2) wFu ((0 : Int32), w_sI u1 64 5 (nI a))) (wL (S := Int32 × wSt) (fun x => F_X9_isCalm_b11 79 x.1 x.2) wFu ((0 : Int32), w_sI t1 79 66 (nI a))) := by
    refine wL_rl (fun i x y => ∃ u' t', x = (nI i, u') ∧ y = (nI i, t') ∧ TR n m k d u t u' t' (s + i)) _ 30 (by unfold wFu; omega) ?_ ⟨_, _, rfl, rfl, hT⟩
    rintro i x y hi ⟨u', t', rfl, rfl, hT⟩
    obtain ⟨r7, r9, r5⟩ := TR_p hT
    unfold F_X8_isCalmWithout_b14 F_X9_isCalm_b11
    dsimp only
    have e1 : ((30 : Int32) ≤ nI i) = (30 ≤ i) := nI_leE (a := 30) (b := i) (by omega) (by omega)
    by_cases hi2 : 30 ≤ i
    · right
      exact ⟨(1, u'), (1, t'), if_pos (by rw [e1]; omega), if_pos (by rw [e1]; omega), rfl, hT.1, hT.2.1⟩
    · have c1 : ¬ (30 : Int32) ≤ nI i := by rw [e1]; omega
      obtain ⟨r, u2, t2, k1, k2, k4, k5, k3, -⟩ := TR_step hT (by omega)
      rw [if_neg c1, if_neg c1, r9, wR_64, r7, wR_57, k1, wC_s, k2, wC_s, k4]
      rcases k5 with rfl | ⟨g, hg, rfl⟩
      · left
        refine ⟨(nI (i + 1), u2), (nI (i + 1), t2), ?_, ?_, by omega, u2, t2, rfl, rfl, k3⟩
        · rw [if_pos rfl, wB_eq, nI_addL]
        · rw [if_pos (by decide), wB_eq, nI_addL]
      · right
        exact ⟨_, _, if_neg (by rw [nI_neg (by omega)]; exact id), if_neg (by rw [nI_nn (by omega)]; exact id), rfl, k3.1, k3.2.1⟩
  obtain ⟨⟨x1, x2⟩, ⟨y1, y2⟩, k1, k2, k3, k4, k5⟩ := key
  have k3 : x1 = y1 := k3
  subst k3
  exact ⟨x1, x2, y2, k1, k2, k4, k5⟩
/-- one set looked at: whether it comes into question -/
theorem fewer_rl {a : Nat} {bv : Int32} (ha : a < 64) (hb : bv = -2 ∨ ∃ b : Nat, b < 64 ∧ bv = nI b) : ∃ r : Int32, F_X8_isFewer (nI a) bv u = some r ∧ ((r = 1 ∧ ∀ (Y : Type) (z : Y), wJ (X := Unit) (if bv < 0 then (some (.inl ())) else (wP (F_X9_manyOf (nI a) t) (fun (i19 : Int32) => wP (F_X9_manyOf bv t) (fun (i20 : Int32) => if i19 < i20 then (some (.inl ())) else (some (.inr z)))))) (fun x => (none : Option Y)) = none ∧ ∀ K : Unit → Option Y, wJ (X := Unit) (if bv < 0 then (some (.inl ())) else (wP (F_X9_manyOf (nI a) t) (fun (i19 : Int32) => wP (F_X9_manyOf bv t) (fun (i20 : Int32) => if i19 < i20 then (some (.inl ())) else (some (.inr z)))))) K = K ()) ∨ (r = 0 ∧ ∀ (Y : Type) (z : Y) (K : Unit → Option Y), wJ (X := Unit) (if bv < 0 then (some (.inl ())) else (wP (F_X9_manyOf (nI a) t) (fun (i19 : Int32) => wP (F_X9_manyOf bv t) (fun (i20 : Int32) => if i19 < i20 then (some (.inl ())) else (some (.inr z)))))) K = some z)) := by
  unfold F_X8_isFewer
  rcases hb with rfl | ⟨b, hb, rfl⟩
  · refine ⟨1, if_pos rfl, Or.inl ⟨rfl, fun Y z => ?_⟩⟩
    rw [if_pos (by decide)]
    exact ⟨rfl, fun K => wJ_inl _ _⟩
  · rw [if_neg (by rw [nI_neg2 (by omega)]; exact id), bc_64 ha, wP_s, bc_64 hb, wP_s, many_64, many_64]
    have l1 := cnt_le (bt (nI a)) 6
    have l2 := cnt_le (bt (nI b)) 6
    generalize cnt (bt (nI a)) 6 = p at l1
    generalize cnt (bt (nI b)) 6 = q at l2
    have e1 := nI_leE (a := q) (b := p) (by omega) (by omega)
    have e2 := nI_ltE (a := p) (b := q) (by omega) (by omega)
    by_cases h : q ≤ p
    · refine ⟨0, if_pos (by rw [e1]; exact h), Or.inr ⟨rfl, fun Y z K => ?_⟩⟩
      rw [if_neg (by rw [nI_nn (by omega)]; exact id), wP_s, wP_s, if_neg (by rw [e2]; omega), wJ_inr]
    · refine ⟨1, if_neg (by rw [e1]; exact h), Or.inl ⟨rfl, fun Y z => ?_⟩⟩
      rw [if_neg (by rw [nI_nn (by omega)]; exact id), wP_s, wP_s, if_pos (by rw [e2]; omega)]
      exact ⟨rfl, fun K => wJ_inl _ _⟩
theorem M_calm (h : GR n m k d u t) : Q1 u t (F_X8_calm 0 u) (F_X9_calm 79 t) := by
  unfold F_X9_calm
  obtain ⟨t0, et⟩ : ∃ t0, t0 = w_sI t 79 2 (0 : Int32) := ⟨_, rfl⟩
  have hK0 : KT t t0 := by rw [et]; exact KT_s (by unfold scr; omega)
  have h := GR_fr h (KC_rf u) hK0
  rw [wB_eq, ← et]
  have n10 : ¬ (1 : Int32) = 0 := by decide
  have n6 := h.2.2.2.2.2.1.1.1
  have hC := Cx_plain h
  have hc := plain_c h
  have hKC := cb_KC u d 0
  have r5' : (cb u d 0).2.2 0 5 = 44 := by simp only [PL_u hC.1]
  have hth := there_eq (GR_Vw (GR_fr h hKC (KT_rf t0))) (y := (cb u d 0).1 64 5) rfl
  obtain ⟨X, hX⟩ : ∃ X, X = (((1 : Int32) <<< (nI n &&& 31)) - 1) &&& (((cb u d 0).1 43 2 ||| (cb u d 0).1 64 5) ^^^ (-1 : Int32)) := ⟨_, rfl⟩
  obtain ⟨s1, s2⟩ := sh_n n6
  unfold F_X8_calm
  rw [hc, wC_s, wG_pos (by decide), r5', wR_43, sitting_c hC, wP_s, hth, wP_s, ← hX]
  have key : Rl (fun x y => ∃ u' t', x = (y.elim (fun q => q.1) (fun q => q.1), u') ∧ (∃ r, y = .inl (r, t')) ∧ KC u u' ∧ KT t0 t') (wL (S := Int32 × Int32 × wSt) (fun x => F_X8_calm_b17 0 X x.1 x.2.1 x.2.2) wFu ((-2 : Int32), (0 : Int32), cb u d 0)) (wL (S := Int32 × Int32 × wSt) (fun x => F_X9_calm_b15 79 X x.1 x.2.1 x.2.2) wFu ((-2 : Int32), (0 : Int32), t0)) := by
    refine wL_rl (fun a x y => ∃ bv u' t', x = (bv, nI a, u') ∧ y = (bv, nI a, t') ∧ (bv = -2 ∨ ∃ b : Nat, b < 64 ∧ bv = nI b) ∧ KC u u' ∧ KT t0 t') _ (2 ^ n) (by unfold wFu; omega) ?_ ⟨-2, _, t0, rfl, rfl, Or.inl rfl, hKC, KT_rf t0⟩
    rintro a x y ha ⟨bv, u', t', rfl, rfl, hbv, hk1, hk2⟩
    have h1 := GR_fr h hk1 hk2
    have h1' := h1
    obtain ⟨-, -, hd, h2, -, ⟨-, ⟨e1, -⟩, ⟨e2, -⟩, -⟩, -⟩ := h1'
    unfold F_X8_calm_b17 F_X9_calm_b15 F_X8_calm_j43 F_X8_calm_j68 F_X9_calm_j61 F_X9_calm_j51
    dsimp only
    rw [h2, wR_d0 _ hd, e1, e2, s1]
    have e := nI_leE (a := 2 ^ n) (b := a) (by omega) (by omega)
    by_cases hin : 2 ^ n ≤ a
    · right
      exact ⟨_, _, if_pos (by rw [e]; exact hin), if_pos (by rw [e]; exact hin), u', t', rfl, ⟨bv, rfl⟩, hk1, hk2⟩
    · left
      have hne : ¬ nI (2 ^ n) ≤ nI a := by rw [e]; exact hin
      rw [if_neg hne, if_neg hne]
      have skip : ∃ s' t'', (some (Sum.inl (β := Int32 × wSt) (bv, nI (a + 1), u'))) = some (.inl s') ∧ (some (Sum.inl (β := (Int32 × wSt) ⊕ (Int32 × wSt)) (bv, nI (a + 1), t'))) = some (.inl t'') ∧ a < 2 ^ n ∧ ∃ bv u' t', s' = (bv, nI (a + 1), u') ∧ t'' = (bv, nI (a + 1), t') ∧ (bv = -2 ∨ ∃ b : Nat, b < 64 ∧ bv = nI b) ∧ KC u u' ∧ KT t0 t' := ⟨_, _, rfl, rfl, by omega, bv, u', t', rfl, rfl, hbv, hk1, hk2⟩
      by_cases q : (nI a &&& (X ^^^ (-1 : Int32))) = 0
      · rw [if_pos q, if_pos q, wJ_inl, if_neg n10]
        obtain ⟨r, f1, f2⟩ := fewer_rl (u := u') (t := t') (a := a) (bv := bv) (by omega) hbv
        rw [f1, wP_s]
        rcases f2 with ⟨rfl, f2⟩ | ⟨rfl, f2⟩
        · rw [if_neg n10, (f2 _ _).2]
          obtain ⟨r, u2, t2, c1, c2, c3, c4⟩ := isCalm_rl (a := a) h1
          rw [c1, wC_s, c2, wC_s]
          by_cases r0 : r = 0
          · refine ⟨(bv, nI (a + 1), u2), (bv, nI (a + 1), t2), ?_, ?_, by omega, bv, u2, t2, rfl, rfl, hbv, KC_tr hk1 c3, KT_tr hk2 c4⟩
            · rw [if_pos r0]
              repeat (first | rw [wB_eq] | rw [wC_s] | rw [wP_s] | rw [wJ_inl] | rw [wJ_inr])
              rw [nI_addL]
            · rw [if_pos r0]
              repeat (first | rw [wB_eq] | rw [wC_s] | rw [wP_s] | rw [wJ_inl] | rw [wJ_inr])
              rw [nI_addL]
          · refine ⟨(nI a, nI (a + 1), u2), (nI a, nI (a + 1), t2), ?_, ?_, by omega, nI a, u2, t2, rfl, rfl, Or.inr ⟨a, by omega, rfl⟩, KC_tr hk1 c3, KT_tr hk2 c4⟩
            · rw [if_neg r0]
              repeat (first | rw [wB_eq] | rw [wC_s] | rw [wP_s] | rw [wJ_inl] | rw [wJ_inr])
              rw [nI_addL]
            · rw [if_neg r0]
              repeat (first | rw [wB_eq] | rw [wC_s] | rw [wP_s] | rw [wJ_inl] | rw [wJ_inr])
              rw [nI_addL]
        · rw [if_pos rfl, f2]
          rw [wJ_inl, wJ_inl, wB_eq, wB_eq, nI_addL]
          exact skip
      · rw [if_neg q, if_neg q, wJ_inl, if_pos rfl, wJ_inl, wJ_inl, wB_eq, wB_eq, nI_addL]
        exact skip
  obtain ⟨x, y, k1, k2, u', t', k3, ⟨r, rfl⟩, k4, k5⟩ := key
  have k3 : x = (r, u') := k3
  subst k3
  unfold F_X9_calm_j67
  rw [k1, k2, wJ_inl, plain_t, wC_s]
  exact ⟨r, u', tb t', rfl, rfl, k4, KT_tr hK0 (KT_tr k5 (tb_KT t'))⟩
end

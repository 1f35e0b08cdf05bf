/-! chain, part, bestFed -/
section
variable {n m k d c b B : Nat} {u t : wSt}
/-- both there -/
theorem areOn_rl {x y : Int32} (h : GR n m k d u t) : ∃ r1 r2 r : Int32, F_X8_isThere 0 x u = some r1 ∧ F_X8_isThere 0 y u = some r2 ∧ F_X9_areOn 79 x y t = some r ∧ ((r = 0 ∧ (r1 = 0 ∨ (r1 = 1 ∧ r2 = 0))) ∨ (r = 1 ∧ r1 = 1 ∧ r2 = 1 ∧ ∃ p q : Nat, p < n ∧ q < n ∧ x = nI p ∧ y = nI q ∧ bt (u.1 43 2) p = false ∧ bt (u.1 43 2) q = false)) := by
  have n6 := h.2.2.2.2.2.1.1.1
  have n10 : ¬ (1 : Int32) = 0 := by decide
  have q52 : t.2.2 79 52 = 108 := by simp only [PM_u h.2.1]
  have hS := h.2.2.2.2.2.2.1.2.1
  have zz : ∀ g, g < n → t.1 107 g = bI (bt (u.1 43 2) g = false) := fun g hg => by
    have z := (hS g hg).2.2.2.2
    simp only [Nat.mul_zero, Nat.zero_add] at z
    exact z
  obtain ⟨r1, r1', a1, a2, a3⟩ := there_c (x := x) (GR_Vw h)
  obtain ⟨r2, r2', b1, b2, b3⟩ := there_c (x := y) (GR_Vw h)
  unfold F_X9_areOn
  rw [a1, b1, a2, b2, wP_s]
  rcases a3 with ⟨rfl, rfl | ⟨p, hp, rfl, rfl, hp2⟩⟩ | ⟨rfl, rfl, p, hp, rfl, hp2⟩
  · exact ⟨_, _, 0, rfl, rfl, if_pos rfl, Or.inl ⟨rfl, Or.inl rfl⟩⟩
  · refine ⟨_, _, 0, rfl, rfl, ?_, Or.inl ⟨rfl, Or.inl rfl⟩⟩
    rw [if_neg n10, wP_s]
    by_cases w : r2' = 0
    · rw [if_pos w]
    · rw [if_neg w, q52, wR_107, wN_107 _ (by omega), zz p hp, bI_f (by rw [hp2]; decide), if_pos rfl]
  · rw [if_neg n10, wP_s]
    rcases b3 with ⟨rfl, rfl | ⟨q, hq, rfl, rfl, hq2⟩⟩ | ⟨rfl, rfl, q, hq, rfl, hq2⟩
    · exact ⟨_, _, 0, rfl, rfl, if_pos rfl, Or.inl ⟨rfl, Or.inr ⟨rfl, rfl⟩⟩⟩
    · refine ⟨_, _, 0, rfl, rfl, ?_, Or.inl ⟨rfl, Or.inr ⟨rfl, rfl⟩⟩⟩
      rw [if_neg n10, q52, wR_107, wN_107 _ (by omega), zz p hp, bI_t hp2, if_neg n10, wR_107, wN_107 _ (by omega), zz q hq, bI_f (by rw [hq2]; decide), if_pos rfl]
    · refine ⟨_, _, 1, rfl, rfl, ?_, Or.inr ⟨rfl, rfl, rfl, p, q, hp, hq, rfl, rfl, hp2, hq2⟩⟩
      rw [if_neg n10, q52, wR_107, wN_107 _ (by omega), zz p hp, bI_t hp2, if_neg n10, wR_107, wN_107 _ (by omega), zz q hq, bI_t hq2, if_neg n10]
/-- with those of a sent away, plain otherwise -/
theorem Cx_away {a : Int32} (h : GR n m k d u t) : Cx n m k d 43 0 98 (w_sI (cb u d 0) 64 5 a) (w_sI (tb t) 79 66 a) := by
  refine Cx_fl (Cx_plain h) rfl (fun x j q => sI_ne _ _ _ _ _ _ q) rfl (fun x j q => if_neg (by omega)) ⟨Or.inl ⟨rfl, rfl, rfl⟩, rfl, rfl, rfl, rfl, rfl, rfl, Or.inl rfl⟩ (fun q => absurd q (by show ¬ ((0 : Int32) = 1); decide))
theorem passed_rl {p q a : Nat} (h : GR n m k d u t) (hp : p < n) (hq : q < n) (hpa : bt (nI a) p = false) : ∃ r : Int32, (r = -2 ∨ ∃ j : Nat, j < 6 ∧ r = nI j) ∧ F_X8_passedOn 0 (nI p) (nI q) (nI a) u = some (r, cb u d 0) ∧ F_X9_linksOf 79 (nI p) (nI q) (w_sI (tb t) 79 66 (nI a)) = some r := by
  obtain ⟨r, r1, r2, r3⟩ := links_rl (a := a) (Cx_plain h) (show (cb u d 0).2.2 0 2 = d + 1 by rw [(cb_KC u d 0).1 0 2 (by omega)]; exact h.2.2.2.1) rfl (Cx_away h) hp hq hpa
  refine ⟨r, r1, ?_, r3⟩
  unfold F_X8_passedOn
  rw [plain_c h, wC_s, wG_pos (by decide), wB_eq]
  exact r2
theorem M_chain {x y : Int32} (h : GR n m k d u t) : Q1 u t (F_X8_chain 0 x y u) (F_X9_chain 79 x y t) := by
  unfold F_X9_chain
  obtain ⟨t0, et⟩ : ∃ t0, t0 = w_sI t 79 2 (0 : Int32) := ⟨_, rfl⟩
  have hK0 : KT t t0 := by rw [et]; exact KT_s (by unfold scr; omega)
  have h := GR_fr h (KC_rf u) hK0
  rw [wB_eq, ← et]
  have n10 : ¬ (1 : Int32) = 0 := by decide
  have h1 := GR_fr h (KC_rf u) (tb_KT t0)
  have hK1 := KT_tr hK0 (tb_KT t0)
  obtain ⟨r1, r2, r, a1, a2, a3, a4⟩ := areOn_rl (x := x) (y := y) h1
  unfold F_X8_chain
  rw [plain_t, wC_s, a3, wP_s, a1, wP_s, a2]
  rcases a4 with ⟨rfl, rfl | ⟨rfl, rfl⟩⟩ | ⟨rfl, rfl, rfl, p, q, hp, hq, rfl, rfl, hp2, hq2⟩
  · rw [if_pos rfl, if_pos rfl]
    exact ⟨_, u, _, rfl, rfl, KC_rf u, hK1⟩
  · rw [if_neg n10, wP_s, if_pos rfl, if_pos rfl]
    exact ⟨_, u, _, rfl, rfl, KC_rf u, hK1⟩
  · obtain ⟨r, r1, r2, r3⟩ := passed_rl (a := 0) h hp hq (bt_0 p)
    have e : w_sI (tb t0) 79 66 (nI 0) = tb t0 := by
      refine Prod.ext (funext fun a => funext fun j => ?_) rfl
      show (if a = 79 ∧ j = 66 then nI 0 else (tb t0).1 a j) = (tb t0).1 a j
      by_cases q : a = 79 ∧ j = 66
      · rw [if_pos q, q.1, q.2]
        rfl
      · rw [if_neg q]
    rw [e] at r3
    have r2 : F_X8_passedOn 0 (nI p) (nI q) (0 : Int32) u = some (r, cb u d 0) := r2
    rw [if_neg n10, wP_s, if_neg n10, r2, wC_s, if_neg n10, r3, wP_s]
    exact ⟨_, _, _, rfl, rfl, cb_KC u d 0, hK1⟩
theorem M_part {x y : Int32} (h : GR n m k d u t) : Q1 u t (F_X8_part 0 x y u) (F_X9_part 79 x y t) := by
  unfold F_X9_part
  obtain ⟨t0, et⟩ : ∃ t0, t0 = w_sI t 79 2 (0 : Int32) := ⟨_, rfl⟩
  have hK0 : KT t t0 := by rw [et]; exact KT_s (by unfold scr; omega)
  have h := GR_fr h (KC_rf u) hK0
  rw [wB_eq, ← et]
  have n10 : ¬ (1 : Int32) = 0 := by decide
  have n6 := h.2.2.2.2.2.1.1.1
  have hc := plain_c h
  have hC := Cx_plain h
  have hKC := cb_KC u d 0
  have r5' : (cb u d 0).2.2 0 5 = 44 := by simp only [PL_u hC.1]
  obtain ⟨r1, r2, r, a1, a2, a3, a4⟩ := areOn_rl (x := x) (y := y) h
  unfold F_X8_part
  rw [a3, wP_s, a1, wP_s, a2]
  rcases a4 with ⟨rfl, rfl | ⟨rfl, rfl⟩⟩ | ⟨rfl, rfl, rfl, p, q, hp, hq, rfl, rfl, hp2, hq2⟩
  · rw [if_pos rfl, if_pos rfl]
    exact ⟨_, u, _, rfl, rfl, KC_rf u, hK0⟩
  · rw [if_neg n10, wP_s, if_pos rfl, if_pos rfl]
    exact ⟨_, u, _, rfl, rfl, KC_rf u, hK0⟩
  · rw [if_neg n10, wP_s, if_neg n10, if_neg n10]
    by_cases hpq : nI p = nI q
    · rw [if_pos hpq, if_pos hpq]
      exact ⟨_, u, _, rfl, rfl, KC_rf u, hK0⟩
    · have hth := there_eq (GR_Vw (GR_fr h hKC (tb_KT t0))) (y := (cb u d 0).1 64 5) rfl
      rw [if_neg hpq, if_neg hpq, hc, wC_s, wG_pos (by decide), r5', wR_43, sitting_c hC, wP_s, plain_t, wC_s, hth, wP_s, wB_eq, wB_eq]
      obtain ⟨X, hX⟩ : ∃ X, X = ((((1 : Int32) <<< (nI n &&& 31)) - 1) &&& (((cb u d 0).1 43 2 ||| (cb u d 0).1 64 5) ^^^ (-1 : Int32))) &&& ((((1 : Int32) <<< (nI p &&& 31)) ||| ((1 : Int32) <<< (nI q &&& 31))) ^^^ (-1 : Int32)) := ⟨_, rfl⟩
      rw [← hX]
      have hXp : bt X p = false := by
        rw [hX, bt_and, bt_not (by omega), bt_or, bt_one (by omega) (by omega)]
        simp
      obtain ⟨s1, s2⟩ := sh_n n6
      have key : Rl (fun x y => ∃ r u' t', x = (r, u') ∧ y = .inl (r, t') ∧ KC u u' ∧ KT t0 t') (wL (S := Int32 × Int32 × wSt) (fun x => F_X8_part_b52 0 X (nI p) (nI q) x.1 x.2.1 x.2.2) wFu ((-2 : Int32), (0 : Int32), cb u d 0)) (wL (S := Int32 × Int32 × wSt) (fun x => F_X9_part_b47 79 X (nI p) (nI q) x.1 x.2.1 x.2.2) wFu ((-2 : Int32), (0 : Int32), tb t0)) := by
        refine wL_rl (fun a x y => ∃ bv u' t', x = (bv, nI a, u') ∧ y = (bv, nI a, t') ∧ (bv = -2 ∨ ∃ b : Nat, b < 64 ∧ bv = nI b) ∧ KC u u' ∧ (t' = tb t0 ∨ ∃ v, t' = w_sI (tb t0) 79 66 v)) _ (2 ^ n) (by unfold wFu; omega) ?_ ⟨-2, _, _, rfl, rfl, Or.inl rfl, hKC, Or.inl rfl⟩
        rintro a x y ha ⟨bv, u', t', rfl, rfl, hbv, hk1, hk2⟩
        have hk3 : KT t0 t' := by
          rcases hk2 with rfl | ⟨v, rfl⟩
          · exact tb_KT t0
          · exact KT_tr (tb_KT t0) (KT_s (sc79 (by omega)))
        have hk4 : ∀ v, w_sI t' 79 66 v = w_sI (tb t0) 79 66 v := by
          intro v
          rcases hk2 with rfl | ⟨v', rfl⟩
          · rfl
          · exact sI_sI
        have h1 := GR_fr h hk1 hk3
        have h1' := h1
        obtain ⟨-, -, hd, h2, -, ⟨-, ⟨e1, -⟩, ⟨e2, -⟩, -⟩, -⟩ := h1'
        unfold F_X8_part_b52 F_X9_part_b47 F_X8_part_j81 F_X8_part_j113 F_X9_part_j107 F_X9_part_j88
        dsimp only
        rw [h2, wR_d0 _ hd, e1, e2, s1]
        have e := nI_leE (a := 2 ^ n) (b := a) (by omega) (by omega)
        by_cases hin : 2 ^ n ≤ a
        · right
          exact ⟨_, _, if_pos (by rw [e]; exact hin), if_pos (by rw [e]; exact hin), bv, u', t', rfl, rfl, hk1, hk3⟩
        · left
          have hne : ¬ nI (2 ^ n) ≤ nI a := by rw [e]; exact hin
          rw [if_neg hne, if_neg hne]
          have skip : ∃ s' t'', (some (Sum.inl (β := Int32 × wSt) (bv, nI (a + 1), u'))) = some (.inl s') ∧ (some (Sum.inl (β := (Int32 × wSt) ⊕ (Int32 × wSt)) (bv, nI (a + 1), t'))) = some (.inl t'') ∧ a < 2 ^ n ∧ ∃ bv u' t', s' = (bv, nI (a + 1), u') ∧ t'' = (bv, nI (a + 1), t') ∧ (bv = -2 ∨ ∃ b : Nat, b < 64 ∧ bv = nI b) ∧ KC u u' ∧ (t' = tb t0 ∨ ∃ v, t' = w_sI (tb t0) 79 66 v) := ⟨_, _, rfl, rfl, by omega, bv, u', t', rfl, rfl, hbv, hk1, hk2⟩
          by_cases w : (nI a &&& (X ^^^ (-1 : Int32))) = 0
          · have hpa : bt (nI a) p = false := by
              have w2 := congrArg (fun z => bt z p) w
              simp only [bt_and, bt_not (show p < 32 by omega), hXp, bt_0] at w2
              simpa using w2
            rw [if_pos w, if_pos w, wJ_inl, if_neg n10]
            obtain ⟨r, f1, f2⟩ := fewer_rl (u := u') (t := t') (a := a) (bv := bv) (by omega) hbv
            rw [f1, wP_s]
            rcases f2 with ⟨rfl, f2⟩ | ⟨rfl, f2⟩
            · rw [if_neg n10, (f2 _ _).2]
              obtain ⟨r, c0, c1, -⟩ := passed_rl (a := a) h1 hp hq hpa
              obtain ⟨r', d0, d1, d2⟩ := passed_rl (a := a) (GR_fr h hk1 (KT_rf t0)) hp hq hpa
              have hr : r' = r := by
                rw [c1] at d1
                exact (congrArg Prod.fst (Option.some.inj d1)).symm
              subst hr
              rw [c1, wC_s, wB_eq, hk4, d2, wP_s]
              rcases c0 with rfl | ⟨j, hj, rfl⟩
              · refine ⟨(nI a, nI (a + 1), cb u' d 0), (nI a, nI (a + 1), w_sI (tb t0) 79 66 (nI a)), ?_, ?_, by omega, nI a, _, _, rfl, rfl, Or.inr ⟨a, by omega, rfl⟩, KC_tr hk1 (cb_KC u' d 0), Or.inr ⟨_, rfl⟩⟩
                · rw [if_pos rfl]
                  repeat (first | rw [wB_eq] | rw [wC_s] | rw [wP_s] | rw [wJ_inl] | rw [wJ_inr])
                  rw [nI_addL]
                · rw [if_neg (by decide)]
                  repeat (first | rw [wB_eq] | rw [wC_s] | rw [wP_s] | rw [wJ_inl] | rw [wJ_inr])
                  rw [nI_addL]
              · refine ⟨(bv, nI (a + 1), cb u' d 0), (bv, nI (a + 1), w_sI (tb t0) 79 66 (nI a)), ?_, ?_, by omega, bv, _, _, rfl, rfl, hbv, KC_tr hk1 (cb_KC u' d 0), Or.inr ⟨_, rfl⟩⟩
                · rw [if_neg (by rw [nI_neg2 (by omega)]; exact id)]
                  repeat (first | rw [wB_eq] | rw [wC_s] | rw [wP_s] | rw [wJ_inl] | rw [wJ_inr])
                  rw [nI_addL]
                · rw [if_pos (nI_pos' (by omega))]
                  repeat (first | rw [wB_eq] | rw [wC_s] | rw [wP_s] | rw [wJ_inl] | rw [wJ_inr])
                  rw [nI_addL]
            · rw [if_pos rfl, f2]
              rw [wJ_inl, wJ_inl, wB_eq, wB_eq, nI_addL]
              exact skip
          · rw [if_neg w, if_neg w, wJ_inl, if_pos rfl, wJ_inl, wJ_inl, wB_eq, wB_eq, nI_addL]
            exact skip
      obtain ⟨x, y, k1, k2, r, u', t', rfl, rfl, k4, k5⟩ := key
      unfold F_X9_part_j113
      rw [k1, k2, wJ_inl, plain_t, wC_s]
      exact ⟨r, u', tb t', rfl, rfl, k4, KT_tr hK0 (KT_tr k5 (tb_KT t'))⟩
/-! whom praise feeds best -/
theorem feeds_rl {g f : Nat} (hx : Cx n m k d 43 0 98 u t) (hg : g < n) (hf : f < m) : ∃ (S : Nat) (u' t' : wSt), S ≤ 1000 ∧ F_X0_wouldFeed 64 43 (nI g) (nI f) u = some (nI S, u') ∧ F_X9_feeds 79 (nI g) (nI f) t = some (nI S, t') ∧ QC u u' ∧ LR t t' := by
  obtain ⟨n6, m8, -⟩ := Cx_b hx
  obtain ⟨p, u', t', hp, f1, f2, f3, f4⟩ := praiseOf_rl hx hg hf
  have f2 : F_X9_praiseOf 79 (0 : Int32) (nI g) (nI f) t = some (nI p, t') := f2
  have hC := Cx_q hx f3 f4
  obtain ⟨h8, e1, -, e2, -⟩ := Cx_e hC
  have hd := hC.2.2.1
  have q50 : t'.2.2 79 50 = 106 := by simp only [PM_u hC.2.1]
  have r6 : u'.2.2 43 6 = 47 := by simp only [PL_u hC.1]
  have hS := hC.2.2.2.2.2.2.2.2.1
  have key : Rl (fun x y => ∃ S : Nat, S ≤ 1000 ∧ x = (nI S, u') ∧ y = (nI S, t')) (wL (S := Int32 × Int32) (fun x => F_X0_wouldFeed_b15 u' 64 43 (nI g) (nI p) x.1 x.2) wFu ((0 : Int32), (0 : Int32))) (wL (S := Int32 × Int32) (fun x => F_X9_feeds_b14 t' 79 (nI g) (nI p) x.1 x.2) wFu ((0 : Int32), (0 : Int32))) := by
    refine wL_rl (fun i x y => ∃ S : Nat, S ≤ 101 * i ∧ x = (nI S, nI i) ∧ y = (nI S, nI i)) _ n (by unfold wFu; omega) ?_ ⟨0, by omega, rfl, rfl⟩
    rintro i x y hi ⟨S, hS1, rfl, rfl⟩
    unfold F_X0_wouldFeed_b15 F_X9_feeds_b14 F_X0_wouldFeed_j55 F_X9_feeds_j62
    dsimp only
    have e := nI_leE (a := n) (b := i) (by omega) (by omega)
    rw [h8, wR_d0 _ hd, e1, e2]
    by_cases hin : n ≤ i
    · right
      exact ⟨_, _, if_pos (by rw [e]; exact hin), if_pos (by rw [e]; exact hin), S, by omega, rfl, rfl⟩
    · left
      have hil : i < n := by omega
      have hne : ¬ nI n ≤ nI i := by rw [e]; exact hin
      obtain ⟨r, r', a1, a2, rfl⟩ := hears_rl hC hil hg
      have a2 : F_X9_hears 79 (0 : Int32) (nI i) (nI g) t' = some r := a2
      rw [if_neg hne, if_neg hne, a1, wP_s, a2, wP_s]
      by_cases r0 : r = 0
      · refine ⟨(nI S, nI (i + 1)), (nI S, nI (i + 1)), ?_, ?_, hil, S, by omega, rfl, rfl⟩
        · rw [if_pos r0]
          repeat (first | rw [wB_eq] | rw [wC_s] | rw [wP_s] | rw [wJ_inl] | rw [wJ_inr])
          rw [nI_addL]
        · rw [if_pos r0]
          repeat (first | rw [wB_eq] | rw [wC_s] | rw [wP_s] | rw [wJ_inl] | rw [wJ_inr])
          rw [nI_addL, nI_addL, Nat.add_zero]
      · obtain ⟨H, hH, eH, -⟩ := hS.2.2.2.2.1 i hil
        have eH : u'.1 46 i = nI H := eH
        have z := (hS.2.1 i hil).2.2.1
        simp only [Nat.mul_zero, Nat.zero_add] at z
        have z : t'.1 105 i = nI H := z.trans eH
        obtain ⟨l, hl, el, hl2⟩ := w_min_n (p := p) (h := H) hp (by omega)
        have e3 := nI_leE (a := H) (b := p) (by omega) hp
        refine ⟨(nI (S + l), nI (i + 1)), (nI (S + l), nI (i + 1)), ?_, ?_, hil, S + l, by omega, rfl, rfl⟩
        · rw [if_neg r0, r6, wR_46, wN_46 _ (by omega), eH, el]
          repeat (first | rw [wB_eq] | rw [wC_s] | rw [wP_s] | rw [wJ_inl] | rw [wJ_inr])
          rw [nI_add, nI_addL]
        · rw [if_neg r0, q50, wR_105, wN_105 _ (by omega), z]
          rcases hl2 with ⟨w, rfl⟩ | ⟨w, rfl⟩
          · rw [if_pos (by rw [e3]; exact w), wR_105, wN_105 _ (by omega), z]
            repeat (first | rw [wB_eq] | rw [wC_s] | rw [wP_s] | rw [wJ_inl] | rw [wJ_inr])
            rw [nI_add, nI_addL]
          · rw [if_neg (by rw [e3]; exact w)]
            repeat (first | rw [wB_eq] | rw [wC_s] | rw [wP_s] | rw [wJ_inl] | rw [wJ_inr])
            rw [nI_add, nI_addL]
  obtain ⟨x, y, k1, k2, S, hS1, rfl, rfl⟩ := key
  refine ⟨S, u', t', hS1, ?_, ?_, f3, f4⟩
  · unfold F_X0_wouldFeed
    rw [f1, wC_s, k1]
  · unfold F_X9_feeds
    rw [f2, wC_s, k2]
theorem M_bestFed {x : Int32} (h : GR n m k d u t) : Q1 u t (F_X8_bestFed 0 x u) (F_X9_bestFed 79 x t) := by
  unfold F_X9_bestFed
  obtain ⟨t0, et⟩ : ∃ t0, t0 = w_sI t 79 2 (0 : Int32) := ⟨_, rfl⟩
  have hK0 : KT t t0 := by rw [et]; exact KT_s (by unfold scr; omega)
  have h := GR_fr h (KC_rf u) hK0
  rw [wB_eq, ← et]
  have n10 : ¬ (1 : Int32) = 0 := by decide
  have n6 := h.2.2.2.2.2.1.1.1
  have m8 := h.2.2.2.2.2.1.1.2.1
  have hc := plain_c h
  have hC := Cx_plain h
  have hKC := cb_KC u d 0
  have r5' : (cb u d 0).2.2 0 5 = 44 := by simp only [PL_u hC.1]
  have r9' : (cb u d 0).2.2 0 9 = 65 := by simp only [PL_u hC.1]
  have h02 : (cb u d 0).2.2 0 2 = d + 1 := by rw [(cb_KC u d 0).1 0 2 (by omega)]; exact h.2.2.2.1
  obtain ⟨s, hs, es⟩ := h.2.2.2.2.2.2.2.1
  have es1 : (cb u d 0).1 43 0 = nI s := by rw [(cb_KC u d 0).2 43 0 (by omega) (by omega)]; exact es
  unfold F_X8_bestFed F_X9_isIn
  by_cases x0 : x < 0
  · rw [if_pos x0, if_pos x0, wP_s, if_pos rfl]
    exact ⟨_, u, t0, rfl, rfl, KC_rf u, hK0⟩
  · rw [if_neg x0, if_neg x0]
    by_cases x1 : x ≤ 1
    · have x1' : ¬ (1 : Int32) < x := by rw [i_nlt]; exact x1
      rw [if_pos x1, if_neg x1', wP_s, if_neg n10, hc, wC_s, wG_pos (by decide), r9', wR_64, r5', wR_43, top_c hC es1 (by omega), wP_s, plain_t, wC_s]
      obtain ⟨F, hF⟩ : ∃ F : Int32, F = (if m = 0 then -1 else nI (s % m)) := ⟨_, rfl⟩
      rw [← hF]
      have key : Rl (fun x y => ∃ b M u' t', x = .inl (b, M, u') ∧ y = .inl (b, M, t') ∧ KC u u' ∧ KT t0 t') (wL (S := Int32 × Int32 × Int32 × wSt) (fun x => F_X8_bestFed_b38 0 F x.1 x.2.1 x.2.2.1 x.2.2.2) wFu ((-2 : Int32), (-2 : Int32), (0 : Int32), cb u d 0)) (wL (S := Int32 × Int32 × Int32 × wSt) (fun x => F_X9_bestFed_b29 79 x.1 x.2.1 x.2.2.1 x.2.2.2) wFu ((-2 : Int32), (-2 : Int32), (0 : Int32), tb t0)) := by
        refine wL_rl (fun i x y => ∃ b M u' t', x = (b, M, nI i, u') ∧ y = (b, M, nI i, t') ∧ ((b = -2 ∧ M = -2) ∨ ∃ b' M' : Nat, b' < n ∧ M' ≤ 1000 ∧ b = nI b' ∧ M = nI M') ∧ QC (cb u d 0) u' ∧ LR (tb t0) t') _ n (by unfold wFu; omega) ?_ ⟨-2, -2, _, _, rfl, rfl, Or.inl ⟨rfl, rfl⟩, QC_rf _, LR_rf _⟩
        rintro i x y hi ⟨b, M, u', t', rfl, rfl, hbM, hq1, hq2⟩
        have hC' := Cx_q hC hq1 hq2
        obtain ⟨h8, e1, e3, e2, e4⟩ := Cx_e hC'
        have hd := hC'.2.2.1
        have h02' : u'.2.2 0 2 = d + 1 := by rw [hq1.1]; exact h02
        have r5 : u'.2.2 0 5 = 44 := by simp only [PL_u hC'.1]
        have r9 : u'.2.2 0 9 = 65 := by simp only [PL_u hC'.1]
        have q52 : t'.2.2 79 52 = 108 := by simp only [PM_u hC'.2.1]
        have q57 : t'.2.2 79 57 = 113 := by simp only [PM_u hC'.2.1]
        have hS := hC'.2.2.2.2.2.2.2.2.1
        have k1 : KC u u' := KC_tr hKC (KC_QC hq1)
        have k2 : KT t0 t' := KT_tr (tb_KT t0) (KT_LR hq2)
        unfold F_X8_bestFed_b38 F_X9_bestFed_b29 F_X8_bestFed_j105 F_X9_bestFed_j76 F_X9_bestFed_j102 F_X9_bestFed_j96
        dsimp only
        have e := nI_leE (a := n) (b := i) (by omega) (by omega)
        rw [h02', wR_d0 _ hd, e1, e2, e4]
        by_cases hin : n ≤ i
        · right
          exact ⟨_, _, if_pos (by rw [e]; exact hin), if_pos (by rw [e]; exact hin), b, M, u', t', rfl, rfl, k1, k2⟩
        · have hil : i < n := by omega
          have hne : ¬ nI n ≤ nI i := by rw [e]; exact hin
          rw [if_neg hne, if_neg hne]
          have em : (nI m ≤ 0) = (m ≤ 0) := nI_leE (a := m) (b := 0) (by omega) (by omega)
          by_cases m0 : m = 0
          · right
            rw [if_pos m0] at hF
            exact ⟨_, _, if_pos hF, if_pos (by rw [em]; omega), b, M, u', t', rfl, rfl, k1, k2⟩
          · left
            rw [if_neg m0] at hF
            have hf : s % m < m := Nat.mod_lt _ (by omega)
            have hFn : ¬ F = -1 := by rw [hF, nI_neg (by omega)]; exact id
            have em0 : ¬ nI m = 0 := by rw [show (nI m = 0) = (m = 0) from nI_eqI (a := m) (b := 0) (by omega) (by omega)]; exact m0
            have z := (hS.2.1 i hil).2.2.2.2
            simp only [Nat.mul_zero, Nat.zero_add] at z
            rw [if_neg hFn, if_neg (by rw [em]; omega), r5, wR_43, faint_c (by omega), wP_s, q52, wR_107, wN_107 _ (by omega), z]
            by_cases q : bt (u'.1 43 2) i = true
            · refine ⟨(b, M, nI (i + 1), u'), (b, M, nI (i + 1), t'), ?_, ?_, hil, b, M, u', t', rfl, rfl, hbM, hq1, hq2⟩
              · rw [bI_t q, if_neg n10]
                repeat (first | rw [wB_eq] | rw [wC_s] | rw [wP_s] | rw [wJ_inl] | rw [wJ_inr])
                rw [nI_addL]
              · rw [bI_f (by rw [q]; decide), if_pos rfl, wJ_inl]
                dsimp only
                rw [if_pos (by decide)]
                repeat (first | rw [wB_eq] | rw [wC_s] | rw [wP_s] | rw [wJ_inl] | rw [wJ_inr])
                rw [nI_addL]
            · have q' : bt (u'.1 43 2) i = false := by
                cases hq : bt (u'.1 43 2) i
                · rfl
                · exact absurd hq q
              obtain ⟨S, u2, t2, hS1, g1, g2, g3, g4⟩ := feeds_rl hC' hil hf
              obtain ⟨S', u3, t3, hS1', g1', g2', g3', g4'⟩ := feeds_rl (Cx_q hC' g3 (LR_rf t')) hil hf
              have hSS : nI S' = nI S := by
                rw [g2] at g2'
                exact (congrArg Prod.fst (Option.some.inj g2')).symm
              rw [hSS] at g1'
              have est : t'.1 112 0 = nI s := by
                obtain ⟨s', -, w1, w2⟩ := hS.1
                rw [w2, ← w1, hq1.2 43 0 (by decide)]
                exact es1
              have hrem : w_rem (t'.1 112 0) (nI m) = nI (s % m) := by rw [est, rem_nI (by omega) (by omega)]
              have r5u : u2.2.2 0 5 = 44 := by rw [g3.1]; exact r5
              have r9u : u2.2.2 0 9 = 65 := by rw [g3.1]; exact r9
              have hSn : ¬ nI S < 0 := by rw [nI_nn (by omega)]; exact id
              rw [bI_f q, if_pos rfl, r9, wR_64, wR_43, hF, g1, wC_s, bI_t q', if_neg n10, q57, wR_112, wN_lit, wN_112 _ (by omega), wG_pos em0, hrem, g2, wC_s, wJ_inl, if_neg hSn]
              rcases hbM with ⟨rfl, rfl⟩ | ⟨b', M', hb', hM', rfl, rfl⟩
              · have w1 : ¬ nI S ≤ (-2 : Int32) := by
                  rw [Int32.le_iff_toInt_le, nI_toInt (by omega), show (-2 : Int32).toInt = -2 from by decide]
                  omega
                refine ⟨(nI i, nI S, nI (i + 1), u3), (nI i, nI S, nI (i + 1), t2), ?_, ?_, hil, nI i, nI S, u3, t2, rfl, rfl, Or.inr ⟨i, S, hil, hS1, rfl, rfl⟩, QC_tr hq1 (QC_tr g3 g3'), LR_tr hq2 g4⟩
                · rw [if_neg w1, r9u, wR_64, r5u, wR_43, g1']
                  repeat (first | rw [wB_eq] | rw [wC_s] | rw [wP_s] | rw [wJ_inl] | rw [wJ_inr])
                  rw [nI_addL]
                · rw [if_pos (by decide)]
                  repeat (first | rw [wB_eq] | rw [wC_s] | rw [wP_s] | rw [wJ_inl] | rw [wJ_inr])
                  rw [nI_addL]
              · have w1 := nI_leE (a := S) (b := M') (by omega) (by omega)
                have w2 := nI_ltE (a := M') (b := S) (by omega) (by omega)
                by_cases w : S ≤ M'
                · refine ⟨(nI b', nI M', nI (i + 1), u2), (nI b', nI M', nI (i + 1), t2), ?_, ?_, hil, _, _, u2, t2, rfl, rfl, Or.inr ⟨b', M', hb', hM', rfl, rfl⟩, QC_tr hq1 g3, LR_tr hq2 g4⟩
                  · rw [if_pos (by rw [w1]; exact w)]
                    repeat (first | rw [wB_eq] | rw [wC_s] | rw [wP_s] | rw [wJ_inl] | rw [wJ_inr])
                    rw [nI_addL]
                  · rw [if_neg (by rw [nI_nn (by omega)]; exact id), if_neg (by rw [w2]; omega)]
                    repeat (first | rw [wB_eq] | rw [wC_s] | rw [wP_s] | rw [wJ_inl] | rw [wJ_inr])
                    rw [nI_addL]
                · refine ⟨(nI i, nI S, nI (i + 1), u3), (nI i, nI S, nI (i + 1), t2), ?_, ?_, hil, nI i, nI S, u3, t2, rfl, rfl, Or.inr ⟨i, S, hil, hS1, rfl, rfl⟩, QC_tr hq1 (QC_tr g3 g3'), LR_tr hq2 g4⟩
                  · rw [if_neg (by rw [w1]; exact w), r9u, wR_64, r5u, wR_43, g1']
                    repeat (first | rw [wB_eq] | rw [wC_s] | rw [wP_s] | rw [wJ_inl] | rw [wJ_inr])
                    rw [nI_addL]
                  · rw [if_neg (by rw [nI_nn (by omega)]; exact id), if_pos (by rw [w2]; omega)]
                    repeat (first | rw [wB_eq] | rw [wC_s] | rw [wP_s] | rw [wJ_inl] | rw [wJ_inr])
                    rw [nI_addL]
      obtain ⟨x2, y2, k1, k2, b, M, u', t', rfl, rfl, k3, k4⟩ := key
      unfold F_X8_bestFed_j111 F_X9_bestFed_j108
      rw [k1, k2, wJ_inl, wJ_inl]
      by_cases w : x = 0
      · rw [if_pos w, if_pos w]
        exact ⟨_, u', t', rfl, rfl, k3, KT_tr hK0 k4⟩
      · rw [if_neg w, if_neg w]
        exact ⟨_, u', t', rfl, rfl, k3, KT_tr hK0 k4⟩
    · have x1' : (1 : Int32) < x := by rw [← i_nle]; exact x1
      rw [if_neg x1, if_pos x1', wP_s, if_pos rfl]
      exact ⟨_, u, t0, rfl, rfl, KC_rf u, hK0⟩
end

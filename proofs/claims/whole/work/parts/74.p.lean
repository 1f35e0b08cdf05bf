/-! see, strike, go -/
section
variable {n m k d c b B : Nat} {u t : wSt}
/-- what a sight changes in the class -/
def pu (u : wSt) (q : Nat) (a b c e f : Int32) : wSt := w_sI (w_sI (w_sI (w_sI (w_sI (w_sI u 71 q a) 72 q b) 73 q c) 74 q e) 75 q f) 70 0 (nI (q + 1))
def no (t : wSt) (q : Nat) (a b c e : Int32) : wSt := w_sI (w_sI (w_sI (w_sI (w_sI t 114 (4 * q) a) 114 (4 * q + 1) b) 114 (4 * q + 2) c) 114 (4 * q + 3) e) 79 70 (nI (q + 1))
theorem put_c {q : Nat} {a b c e f : Int32} (hp : PL u.2.2) (hq : u.1 70 0 = nI q) (hq2 : q < 24) (he : e = 0 ∨ e = 1) : F_X4_put 70 a b c e f u = some (nI q, pu u q a b c e f) := by
  have r2 : u.2.2 70 2 = 72 := by simp only [PL_u hp]
  have r3 : u.2.2 70 3 = 73 := by simp only [PL_u hp]
  have r4 : u.2.2 70 4 = 74 := by simp only [PL_u hp]
  have r5 : u.2.2 70 5 = 75 := by simp only [PL_u hp]
  have r6 : u.2.2 70 6 = 76 := by simp only [PL_u hp]
  have e24 : (nI q < (24 : Int32)) = (q < 24) := nI_ltE (a := q) (b := 24) (by omega) (by omega)
  have ea : e &&& 1 = e := by rcases he with rfl | rfl <;> decide
  have ne : ∀ (v : wSt) (i j : Nat) (x : Int32), i ≠ 70 → (w_sI v i j x).1 70 0 = v.1 70 0 := fun v i j x h => sI_ne _ _ _ _ _ _ (fun w => h w.symm)
  unfold F_X4_put pu
  rw [hq, if_pos (by rw [e24]; exact hq2), r2, wR_71, wSI_eq, wN_71 _ hq2]
  rw [sI_r, r3, wR_72, ne _ _ _ _ (by decide), hq, wSI_eq, wN_72 _ hq2]
  rw [sI_r, sI_r, r4, wR_73, ne _ _ _ _ (by decide), ne _ _ _ _ (by decide), hq, wSI_eq, wN_73 _ hq2]
  rw [sI_r, sI_r, sI_r, r5, wR_74, ne _ _ _ _ (by decide), ne _ _ _ _ (by decide), ne _ _ _ _ (by decide), hq, wSZ_eq, wN_74 _ hq2, ea]
  rw [sI_r, sI_r, sI_r, sI_r, r6, wR_75, ne _ _ _ _ (by decide), ne _ _ _ _ (by decide), ne _ _ _ _ (by decide), ne _ _ _ _ (by decide), hq, wSI_eq, wN_75 _ hq2]
  rw [wB_eq, sI_eq, ne _ _ _ _ (by decide), ne _ _ _ _ (by decide), ne _ _ _ _ (by decide), ne _ _ _ _ (by decide), ne _ _ _ _ (by decide), hq, nI_addL]
  have : nI (q + 1) - (1 : Int32) = nI q := by
    have := nI_sub (a := q + 1) (b := 1) (by omega)
    rw [Nat.add_sub_cancel] at this
    exact this
  rw [this]
theorem noted_t {q : Nat} {a b c e : Int32} (hm : PM t.2.2) (hq : t.1 79 70 = nI q) (hq2 : q < 24) : F_X9_noted 79 a b c e t = some (nI q, no t q a b c e) := by
  have q72 : t.2.2 79 72 = 115 := by simp only [PM_u hm]
  have ne : ∀ (v : wSt) (j : Nat) (x : Int32), (w_sI v 114 j x).1 79 70 = v.1 79 70 := fun v j x => sI_ne _ _ _ _ _ _ (by decide)
  have i1 : nI (4 * q) + (1 : Int32) = nI (4 * q + 1) := nI_addL (4 * q) 1
  have i2 : nI (4 * q) + (2 : Int32) = nI (4 * q + 2) := nI_addL (4 * q) 2
  have i3 : nI (4 * q) + (3 : Int32) = nI (4 * q + 3) := nI_addL (4 * q) 3
  unfold F_X9_noted no
  rw [hq, q72, wR_114, nI_mulL, wSI_eq, wN_114 _ (by omega)]
  rw [sI_r, q72, wR_114, ne, hq, nI_mulL, i1, wSI_eq, wN_114 _ (by omega)]
  rw [sI_r, sI_r, q72, wR_114, ne, ne, hq, nI_mulL, i2, wSI_eq, wN_114 _ (by omega)]
  rw [sI_r, sI_r, sI_r, q72, wR_114, ne, ne, ne, hq, nI_mulL, i3, wSI_eq, wN_114 _ (by omega)]
  rw [wB_eq, ne, ne, ne, ne, hq, nI_addL, sI_eq]
  have : nI (q + 1) - (1 : Int32) = nI q := by
    have := nI_sub (a := q + 1) (b := 1) (by omega)
    rw [Nat.add_sub_cancel] at this
    exact this
  rw [this]
theorem sight_GR {q : Nat} {a b c e f a' b' c' e' : Int32} (h : GR n m k d u t) (hq : u.1 70 0 = nI q) (hq' : t.1 79 70 = nI q) (hq2 : q < 24) (hN : ∀ (U T : Nat → Nat → Int32), U 71 q = a → U 72 q = b → U 73 q = c → U 74 q = e → U 75 q = f → T 114 (4 * q) = a' → T 114 (4 * q + 1) = b' → T 114 (4 * q + 2) = c' → T 114 (4 * q + 3) = e' → Se n q U T) : GR n m k d (pu u q a b c e f) (no t q a' b' c' e') := by
  have h' := h
  obtain ⟨-, -, -, -, -, -, hS, hs, hP, hNu, hI, hU, ⟨q0, hq0, e1, e2, e3, e4, e5⟩, -⟩ := h'
  have hqq : q0 = q := by
    have := e1.symm.trans hq
    rw [nI_eqI (by omega) (by omega)] at this
    exact this
  subst hqq
  have un : ∀ x j, ¬ ((70 ≤ x ∧ x ≤ 75) ∧ (x = 70 → j = 0) ∧ (x ≠ 70 → j = q0)) → (pu u q0 a b c e f).1 x j = u.1 x j := fun x j w => by
    have g : ∀ (v : wSt) (i j' : Nat) (y : Int32), ¬ (x = i ∧ j = j') → (w_sI v i j' y).1 x j = v.1 x j := fun v i j' y h => if_neg h
    unfold pu
    rw [g _ _ _ _ (by omega), g _ _ _ _ (by omega), g _ _ _ _ (by omega), g _ _ _ _ (by omega), g _ _ _ _ (by omega), g _ _ _ _ (by omega)]
  have tn : ∀ x j, ¬ ((x = 79 ∧ j = 70) ∨ (x = 114 ∧ 4 * q0 ≤ j ∧ j ≤ 4 * q0 + 3)) → (no t q0 a' b' c' e').1 x j = t.1 x j := fun x j w => by
    have g : ∀ (v : wSt) (i j' : Nat) (y : Int32), ¬ (x = i ∧ j = j') → (w_sI v i j' y).1 x j = v.1 x j := fun v i j' y h => if_neg h
    unfold no
    rw [g _ _ _ _ (by omega), g _ _ _ _ (by omega), g _ _ _ _ (by omega), g _ _ _ _ (by omega), g _ _ _ _ (by omega)]
  have uf : ∀ x, ¬ (70 ≤ x ∧ x ≤ 75) → (pu u q0 a b c e f).1 x = u.1 x := fun x w => funext (fun j => un x j (by omega))
  have tf : ∀ x, x ≠ 79 → x ≠ 114 → (no t q0 a' b' c' e').1 x = t.1 x := fun x w w' => funext (fun j => tn x j (by omega))
  refine GR_upd h (fun _ _ _ => rfl) rfl (fun x j w _ => un x j (by omega)) (fun j w _ => tn 79 j (by omega)) (fun x j w r => tn x j (by omega)) (Sc_fr h.2.2.2.2.2.1.1.1 h.2.2.2.2.2.1.1.2.1 hS (fun x j w r _ => un x j (by omega)) (fun x j w r _ _ _ => tn x j (by omega))) (by rw [un 43 0 (by omega)]; exact hs) (SP_fr hP (fun g _ => un _ _ (by omega))) (by rw [un 43 1 (by omega)]; exact hNu) (Im_fr hI (un _ _ (by omega)) (fun x w r => uf x (by omega)) (tn _ _ (by omega)) (fun x w r => tf x (by omega) (by omega))) (Un_fr hU (uf _ (by omega)) (uf _ (by omega)) (un _ _ (by omega)) (fun x w r => uf x (by omega)) (tn _ _ (by omega)) (tf _ (by decide) (by decide))) ⟨q0 + 1, by omega, sI_eq _ _ _ _, sI_eq _ _ _ _, ?_, ?_, fun i hi => ?_⟩
  · rw [un 70 1 (by omega), tn 79 71 (by omega)]
    exact e3
  · rw [un 70 1 (by omega)]
    rcases e4 with e4 | ⟨p, hp, e4⟩
    · exact Or.inl e4
    · exact Or.inr ⟨p, by omega, e4⟩
  · by_cases hiq : i = q0
    · subst hiq
      refine hN _ _ ?_ ?_ ?_ ?_ ?_ ?_ ?_ ?_ ?_
      · unfold pu
        rw [sI_ne _ _ _ _ _ _ (by decide), sI_ne _ _ _ _ _ _ (by decide), sI_ne _ _ _ _ _ _ (by decide), sI_ne _ _ _ _ _ _ (by decide), sI_ne _ _ _ _ _ _ (by decide), sI_eq]
      · unfold pu
        rw [sI_ne _ _ _ _ _ _ (by decide), sI_ne _ _ _ _ _ _ (by decide), sI_ne _ _ _ _ _ _ (by decide), sI_ne _ _ _ _ _ _ (by decide), sI_eq]
      · unfold pu
        rw [sI_ne _ _ _ _ _ _ (by decide), sI_ne _ _ _ _ _ _ (by decide), sI_ne _ _ _ _ _ _ (by decide), sI_eq]
      · unfold pu
        rw [sI_ne _ _ _ _ _ _ (by decide), sI_ne _ _ _ _ _ _ (by decide), sI_eq]
      · unfold pu
        rw [sI_ne _ _ _ _ _ _ (by decide), sI_eq]
      · unfold no
        rw [sI_ne _ _ _ _ _ _ (by decide), sI_ne2 _ _ _ _ _ _ (by omega), sI_ne2 _ _ _ _ _ _ (by omega), sI_ne2 _ _ _ _ _ _ (by omega), sI_eq]
      · unfold no
        rw [sI_ne _ _ _ _ _ _ (by decide), sI_ne2 _ _ _ _ _ _ (by omega), sI_ne2 _ _ _ _ _ _ (by omega), sI_eq]
      · unfold no
        rw [sI_ne _ _ _ _ _ _ (by decide), sI_ne2 _ _ _ _ _ _ (by omega), sI_eq]
      · unfold no
        rw [sI_ne _ _ _ _ _ _ (by decide), sI_eq]
    · have hiq2 : i < q0 := by omega
      have := e5 i hiq2
      clear hs e4 hS hU hI hP
      unfold Se at this ⊢
      rw [un 71 i (by omega), un 72 i (by omega), un 73 i (by omega), un 74 i (by omega), un 75 i (by omega), tn 114 (4 * i) (by omega), tn 114 (4 * i + 1) (by omega), tn 114 (4 * i + 2) (by omega), tn 114 (4 * i + 3) (by omega)]
      exact this
theorem M_see {x y z w : Int32} (h : GR n m k d u t) (hw : w = 0 ∨ w = 1) : QM (F_X8_see 0 x y z w u) (F_X9_see 79 x y z w t) := by
  unfold F_X9_see
  obtain ⟨t0, et⟩ : ∃ t0, t0 = w_sI t 79 2 (0 : Int32) := ⟨_, rfl⟩
  have hK0 : KT t t0 := by rw [et]; exact KT_s (by unfold scr; omega)
  have h := GR_fr h (KC_rf u) hK0
  rw [wB_eq, ← et]
  have n10 : ¬ (1 : Int32) = 0 := by decide
  have fin : QM (some ((-1 : Int32), u)) (some ((-1 : Int32), t0)) := ⟨_, u, t0, rfl, rfl, n, m, k, d, h⟩
  have r11 : u.2.2 0 11 = 71 := by simp only [PL_u h.1]
  obtain ⟨r, a1, a2, a3⟩ := isG (x := y) (GR_Vw h)
  obtain ⟨q, hq, e1, e2, -⟩ := h.2.2.2.2.2.2.2.2.2.2.2.2.1
  have e24 : (nI q = (24 : Int32)) = (q = 24) := nI_eqI (a := q) (b := 24) (by omega) (by omega)
  have e24' : (nI q < (24 : Int32)) = (q < 24) := nI_ltE (a := q) (b := 24) (by omega) (by omega)
  have nn : ∀ {x : Int32}, ¬ x < 1 → ¬ x < 0 := fun {x} w => by
    rw [Int32.lt_iff_toInt_lt] at w ⊢
    rw [show (1 : Int32).toInt = 1 from by decide] at w
    rw [show (0 : Int32).toInt = 0 from by decide]
    omega
  unfold F_X8_see F_X9_isIn
  rw [a1, wP_s, a2, wP_s, e2, r11, wR_70]
  by_cases q24 : q = 24
  · rw [if_pos (show nI q = 24 by rw [e24]; exact q24)]
    have hput : ∀ a b c e f, F_X4_put 70 a b c e f u = some (-1, u) := fun a b c e f => by
      unfold F_X4_put
      rw [e1]
      exact if_neg (by rw [e24']; omega)
    rw [hput, wC_s]
    by_cases x0 : x < 1
    · rw [if_pos x0]
      exact fin
    rw [if_neg x0]
    by_cases x9 : (99 : Int32) < x
    · rw [if_pos x9]
      exact fin
    rw [if_neg x9]
    by_cases r0 : r = 0
    · rw [if_pos r0]
      exact fin
    rw [if_neg r0]
    by_cases z0 : z < 0
    · rw [if_pos z0]
      exact fin
    rw [if_neg z0]
    by_cases z9 : z ≤ 99
    · rw [if_pos z9]
      exact fin
    rw [if_neg z9]
    exact fin
  · rw [if_neg (show ¬ nI q = 24 by rw [e24]; exact q24)]
    by_cases x0 : x < 1
    · rw [if_pos x0, if_pos x0, wP_s, if_pos rfl]
      exact fin
    rw [if_neg x0, if_neg x0]
    by_cases x9 : (99 : Int32) < x
    · rw [if_pos x9, if_pos x9, wP_s, if_pos rfl]
      exact fin
    rw [if_neg x9, if_neg x9, wP_s, if_neg n10]
    rcases a3 with rfl | ⟨rfl, g, hg, rfl⟩
    · rw [if_pos rfl, if_pos rfl]
      exact fin
    rw [if_neg n10, if_neg n10]
    by_cases z0 : z < 0
    · rw [if_pos z0, if_pos z0, wP_s, if_pos rfl]
      exact fin
    rw [if_neg z0, if_neg z0]
    by_cases z9 : z ≤ 99
    · have z9' : ¬ (99 : Int32) < z := by rw [i_nlt]; exact z9
      obtain ⟨s, hs, rfl⟩ := in_rng (p := 99) (by omega) (nn x0) x9
      have hs1 : 1 ≤ s := by
        rw [show (nI s < 1) = (s < 1) from nI_ltE (a := s) (b := 1) (by omega) (by omega)] at x0
        omega
      have ew : wJ (X := Int32) (if w = 0 then (some (.inl (0 : Int32))) else (some (.inl (1 : Int32)))) (fun x => F_X9_see_j60 79 (nI s) (nI g) z t0 x) = F_X9_see_j60 79 (nI s) (nI g) z t0 w := by
        rcases hw with rfl | rfl
        · rw [if_pos rfl, wJ_inl]
        · rw [if_neg n10, wJ_inl]
      unfold F_X9_see_j60 at ew
      unfold F_X9_see_j60
      rw [if_pos z9, if_neg z9', wP_s, if_neg n10, put_c h.1 e1 (by omega) hw, wC_s, ew, noted_t h.2.1 e2 (by omega), wC_s]
      refine ⟨_, _, _, rfl, rfl, n, m, k, d, sight_GR h e1 e2 (by omega) (fun U T u1 u2 u3 u4 u5 t1 t2 t3 t4 => Or.inl ⟨u5, ⟨s, hs1, hs, u1⟩, ⟨g, hg, u2⟩, by rw [u4]; exact hw, by rw [t1, u1], by rw [t2, u2], by rw [t3, u3], by rw [t4, u4]⟩)⟩
    · have z9' : (99 : Int32) < z := by rw [← i_nle]; exact z9
      rw [if_neg z9, if_pos z9', wP_s, if_pos rfl]
      exact fin
theorem M_strike {x : Int32} (h : GR n m k d u t) : QM (F_X8_strike 0 x u) (F_X9_strike 79 x t) := by
  unfold F_X9_strike
  obtain ⟨t0, et⟩ : ∃ t0, t0 = w_sI t 79 2 (0 : Int32) := ⟨_, rfl⟩
  have hK0 : KT t t0 := by rw [et]; exact KT_s (by unfold scr; omega)
  have h := GR_fr h (KC_rf u) hK0
  rw [wB_eq, ← et]
  have fin : QM (some ((-1 : Int32), u)) (some ((-1 : Int32), t0)) := ⟨_, u, t0, rfl, rfl, n, m, k, d, h⟩
  have r11 : u.2.2 0 11 = 71 := by simp only [PL_u h.1]
  obtain ⟨q, hq, e1, e2, -⟩ := h.2.2.2.2.2.2.2.2.2.2.2.2.1
  have e24 : (nI q = (24 : Int32)) = (q = 24) := nI_eqI (a := q) (b := 24) (by omega) (by omega)
  have e24' : (nI q < (24 : Int32)) = (q < 24) := nI_ltE (a := q) (b := 24) (by omega) (by omega)
  unfold F_X8_strike
  rw [e2, r11, wR_70, e1, wR_70]
  by_cases q24 : q = 24
  · rw [if_pos (show nI q = 24 by rw [e24]; exact q24)]
    have hput : ∀ a b c e f, F_X4_put 70 a b c e f u = some (-1, u) := fun a b c e f => by
      unfold F_X4_put
      rw [e1]
      exact if_neg (by rw [e24']; omega)
    rw [hput, wC_s]
    by_cases x0 : x < 0
    · rw [if_pos x0]
      exact fin
    rw [if_neg x0]
    by_cases x1 : x < nI q
    · rw [if_pos x1]
      exact fin
    rw [if_neg x1]
    exact fin
  · rw [if_neg (show ¬ nI q = 24 by rw [e24]; exact q24)]
    by_cases x0 : x < 0
    · rw [if_pos x0, if_pos x0]
      exact fin
    rw [if_neg x0, if_neg x0]
    by_cases x1 : x < nI q
    · obtain ⟨j, hj, rfl⟩ := nI_below (n := q) (by omega) (by rw [← i_nlt]; exact x0) x1
      rw [if_pos x1, if_pos x1, put_c h.1 e1 (by omega) (Or.inl rfl), wC_s, noted_t h.2.1 e2 (by omega), wC_s]
      exact ⟨_, _, _, rfl, rfl, n, m, k, d, sight_GR h e1 e2 (by omega) (fun U T u1 u2 u3 u4 u5 t1 t2 t3 t4 => Or.inr ⟨j, hj, u5, t1, t2⟩)⟩
    · rw [if_neg x1, if_neg x1]
      exact fin
theorem go_rl {s j : Nat} (hx : Cx n m k d 43 0 98 u t) (hs : u.1 43 0 = nI s) (hj : s + j ≤ 20000) (hj2 : j < 2000) : Rl (fun x y => ∃ t', y = .inl t' ∧ ST n m k d 43 0 u t x.2 t' ∧ x.2.1 43 0 = nI (s + j) ∧ (j = 0 → x.2 = u ∧ t' = t)) (F_X0_run 64 43 (nI j) u) (wL (S := Int32 × wSt) (fun x => F_X9_go_b43 (nI j) 79 x.1 x.2) wFu ((0 : Int32), t)) := by
  unfold F_X0_run
  refine wL_rl (fun i x y => ∃ u' t', x = (nI i, u') ∧ y = (nI i, t') ∧ ST n m k d 43 0 u t u' t' ∧ u'.1 43 0 = nI (s + i) ∧ (i = 0 → u' = u ∧ t' = t)) _ j (by unfold wFu; omega) ?_ ⟨u, t, rfl, rfl, ST_rf hx, hs, fun _ => ⟨rfl, rfl⟩⟩
  rintro i x y hi ⟨u', t', rfl, rfl, hS, h0, hz⟩
  unfold F_X0_run_b2 F_X9_go_b43
  dsimp only
  have e := nI_leE (a := j) (b := i) (by omega) (by omega)
  by_cases hij : j ≤ i
  · right
    have : i = j := by omega
    subst this
    exact ⟨((), u'), .inl t', if_pos (by rw [e]; exact hij), if_pos (by rw [e]; exact hij), t', rfl, hS, h0, hz⟩
  · left
    obtain ⟨⟨r, u2⟩, ⟨r', t2⟩, a1, a2, -, -, a3, a4⟩ := step_rl hS.1 h0 (by omega)
    have a2 : F_X9_stepGoes 79 (0 : Int32) t' = some (r', t2) := a2
    refine ⟨(nI (i + 1), u2), (nI (i + 1), t2), ?_, ?_, by omega, u2, t2, rfl, rfl, ST_tr hS a4, a3, fun w => by omega⟩
    · rw [if_neg (by rw [e]; exact hij), a1, wC_s, wB_eq, nI_addL]
    · rw [if_neg (by rw [e]; exact hij), a2, wC_s, wB_eq, nI_addL]
theorem M_go {x : Int32} (h : GR n m k d u t) : QM (F_X8_go 0 x u) (F_X9_go 79 x t) := by
  unfold F_X9_go
  obtain ⟨t0, et⟩ : ∃ t0, t0 = w_sI t 79 2 (0 : Int32) := ⟨_, rfl⟩
  have hK0 : KT t t0 := by rw [et]; exact KT_s (by unfold scr; omega)
  have h := GR_fr h (KC_rf u) hK0
  rw [wB_eq, ← et]
  have n10 : ¬ (1 : Int32) = 0 := by decide
  have fin : QM (some ((-1 : Int32), u)) (some ((-1 : Int32), t0)) := ⟨_, u, t0, rfl, rfl, n, m, k, d, h⟩
  have r5 : u.2.2 0 5 = 44 := by simp only [PL_u h.1]
  have r9 : u.2.2 0 9 = 65 := by simp only [PL_u h.1]
  have q57 : t0.2.2 79 57 = 113 := by simp only [PM_u h.2.1]
  have h' := h
  obtain ⟨hp, hm, hd, h2, -, hT, hS, ⟨s, hs, es⟩, hP, hN, hI, hU, hG, -⟩ := h'
  have est : t0.1 112 0 = nI s := by
    obtain ⟨s', -, w1, w2⟩ := hS.1
    rw [w2, ← w1]
    exact es
  unfold F_X8_go F_X9_isIn
  by_cases x0 : x < 0
  · rw [if_pos x0, if_pos x0, wP_s, if_pos rfl]
    exact fin
  rw [if_neg x0, if_neg x0]
  by_cases x2 : (200 : Int32) < x
  · rw [if_pos x2, if_pos x2, wP_s, if_pos rfl]
    exact fin
  obtain ⟨j, hj, rfl⟩ := in_rng (p := 200) (by omega) x0 x2
  rw [if_neg x2, if_neg x2, wP_s, if_neg n10, r5, wR_43, es, q57, wR_112, wN_lit, wN_112 _ (by omega), est, nI_add]
  have e9 : (nI (s + j) ≤ (9000 : Int32)) = (s + j ≤ 9000) := nI_leE (a := s + j) (b := 9000) (by omega) (by omega)
  by_cases h9 : s + j ≤ 9000
  · have cp : PL (cb u d 1).2.2 := PL_fr h.1 (fun a j q _ _ => (cb_KC u d 1).1 a j q)
    have r5' : (cb u d 1).2.2 0 5 = 44 := by simp only [PL_u cp]
    have r9' : (cb u d 1).2.2 0 9 = 65 := by simp only [PL_u cp]
    have hC : Cx n m k d 43 0 98 (cb u d 1) (w_sI (tb t0) 79 60 1) := by
      refine ⟨cp, hm, hd, Or.inl rfl, by omega, rfl, ?_, ⟨Or.inr (Or.inl ⟨rfl, rfl, rfl⟩), rfl, rfl, rfl, rfl, rfl, rfl, Or.inl rfl⟩, ?_, fun _ => ?_, by omega⟩
      · have d1 := TC_le hd
        exact Td_fr hT (fun a j q r => (cb_KC u d 1).2 a j (by omega) (by omega)) (fun j q r => by rw [sI_ne2 _ _ _ _ _ _ (by omega), tb_ne t0 (by omega)]) (fun a j q r => by rw [sI_ne _ _ _ _ _ _ (by omega), tb_ne t0 (by omega)])
      · exact Sc_fr hT.1.1 hT.1.2.1 hS (fun a j q r _ => (cb_KC u d 1).2 a j (by omega) (by omega)) (fun a j q r _ _ _ => by rw [sI_ne _ _ _ _ _ _ (by omega), tb_ne t0 (by omega)])
      · show t0.2.1 79 58 = ((cb u d 1).1 43 1).toInt64 ∧ 0 ≤ (cb u d 1).1 43 1
        rw [(cb_KC u d 1).2 43 1 (by omega) (by omega)]
        exact hN
    have es1 : (cb u d 1).1 43 0 = nI s := by rw [(cb_KC u d 1).2 43 0 (by omega) (by omega)]; exact es
    obtain ⟨⟨x1, u2⟩, y, a1, a2, t2, rfl, a3, a4, a5⟩ := go_rl (j := j) hC es1 (by omega) (by omega)
    have a3 : ST n m k d 43 0 (cb u d 1) (w_sI (tb t0) 79 60 1) u2 t2 := a3
    have a4 : u2.1 43 0 = nI (s + j) := a4
    have a5 : j = 0 → u2 = cb u d 1 ∧ t2 = w_sI (tb t0) 79 60 1 := a5
    have up : PL u2.2.2 := a3.1.1
    have r10 : u2.2.2 0 10 = 67 := by simp only [PL_u up]
    have r5u : u2.2.2 0 5 = 44 := by simp only [PL_u up]
    have q57' : t2.2.2 79 57 = 113 := by simp only [PM_u a3.1.2.1]
    have est2 : t2.1 112 0 = nI (s + j) := by
      obtain ⟨s', -, w1, w2⟩ := a3.1.2.2.2.2.2.2.2.2.1.1
      rw [w2, ← w1]
      exact a4
    have ej : (nI j ≤ 0) = (j ≤ 0) := nI_leE (a := j) (b := 0) (by omega) (by omega)
    rw [if_pos (by rw [e9]; exact h9), if_pos (by rw [e9]; exact h9), r9, wR_64, h2, wR_d0 _ hd, begin_c, wC_s, r9', wR_64, r5', wR_43, a1, wC_s, plain_t, wC_s, wB_eq, a2, wJ_inl]
    unfold F_X8_go_j64 F_X9_go_j59 F_X9_go_j77
    rw [wB_eq]
    by_cases j0 : j = 0
    · obtain ⟨b1, b2⟩ := a5 j0
      rw [if_pos (by rw [ej]; omega), if_pos (by rw [ej]; omega), wJ_inl, wJ_inl, r5u, wR_43, a4, wB_eq, sI_r, sI_r, q57', wR_112, wN_lit, wN_112 _ (by omega), sI_ne _ _ _ _ _ _ (by decide), sI_ne _ _ _ _ _ _ (by decide), est2]
      refine ⟨_, _, _, rfl, rfl, n, m, k, d, GR_fr h (u' := u2) (by rw [b1]; exact cb_KC u d 1) ⟨?_, fun a i w => ?_, ?_, ?_⟩⟩
      · show t2.2.2 = t0.2.2
        rw [b2]
        rfl
      · have w60 : ¬ (a = 79 ∧ 60 ≤ i ∧ i ≤ 68) := fun r => w (by rw [r.1]; exact sc79 (by omega))
        show (if a = 79 ∧ i = 74 then (w_sI t2 79 60 0).1 79 74 else (if a = 79 ∧ i = 60 then 0 else t2.1 a i)) = t0.1 a i
        have e1 : ∀ a i, ¬ (a = 79 ∧ 60 ≤ i ∧ i ≤ 68) → t2.1 a i = t0.1 a i := fun a i w => by
          rw [b2, show (w_sI (tb t0) 79 60 1).1 a i = (tb t0).1 a i from if_neg (by omega), tb_ne t0 w]
        by_cases w1 : a = 79 ∧ i = 74
        · rw [if_pos w1, w1.1, w1.2, sI_ne2 _ _ _ _ _ _ (by decide), e1 _ _ (by omega)]
        · rw [if_neg w1, if_neg (by omega), e1 a i w60]
      · show t2.2.1 79 58 = t0.2.1 79 58
        rw [b2]
        rfl
      · show t2.2.1 79 79 = t0.2.1 79 79
        rw [b2]
        rfl
    · rw [if_neg (by rw [ej]; omega), if_neg (by rw [ej]; omega), r10, wR_66, wB_eq, wJ_inl, wJ_inl, sI_r, r5u, wR_43, sI_ne _ _ _ _ _ _ (by decide), a4, wB_eq, sI_r, sI_r, q57', wR_112, wN_lit, wN_112 _ (by omega), sI_ne _ _ _ _ _ _ (by decide), sI_ne _ _ _ _ _ _ (by decide), est2]
      refine ⟨_, _, _, rfl, rfl, n, m, k, d, ?_⟩
      have un : ∀ a i, ¬ (a = 66 ∧ i = 0) → (w_sI u2 66 0 0).1 a i = u2.1 a i := fun a i w => if_neg w
      have uc : ∀ a i, ¬ (43 ≤ a ∧ a ≤ 49 ∧ a ≠ 44) → ¬ (64 ≤ a ∧ a ≤ 65) → u2.1 a i = u.1 a i := fun a i w w2 => by
        rw [a3.2.1.2 a i (by omega) (by omega)]
        unfold cb
        rw [sI_ne _ _ _ _ _ _ (by omega), sI_ne _ _ _ _ _ _ (by omega), sI_ne _ _ _ _ _ _ (by omega), sI_ne _ _ _ _ _ _ (by omega), sI_ne _ _ _ _ _ _ (by omega), sI_ne _ _ _ _ _ _ (by omega), sI_ne _ _ _ _ _ _ (by omega)]
        rfl
      have tn : ∀ a i, ¬ (a = 79 ∧ (i = 60 ∨ i = 74)) → (w_sI (w_sI t2 79 60 0) 79 74 0).1 a i = t2.1 a i := fun a i w => by
        rw [show (w_sI (w_sI t2 79 60 0) 79 74 0).1 a i = (w_sI t2 79 60 0).1 a i from if_neg (by omega)]
        exact if_neg (by omega)
      have tc : ∀ a i, ¬ rsc 0 a i → ¬ (a = 79 ∧ (59 ≤ i ∧ i ≤ 68)) → t2.1 a i = t0.1 a i := fun a i w w2 => by
        rw [a3.2.2.1.2.1 a i w (by omega), show (w_sI (tb t0) 79 60 1).1 a i = (tb t0).1 a i from if_neg (by omega), tb_ne t0 (by omega)]
      have h64 : u2.1 64 0 = 1 := by rw [a3.2.1.2 64 0 (by omega) (by decide)]; rfl
      have hNm := a3.1.2.2.2.2.2.2.2.2.2.1 h64
      refine GR_upd h (fun a i w => ?_) ?_ (fun a i w _ => by rw [un _ _ (by omega)]; exact uc a i (by omega) (by omega)) (fun i w _ => by rw [tn _ _ (by omega)]; exact tc _ _ (by unfold rsc; omega) (by omega)) (fun a i w r => by rw [tn _ _ (by omega)]; exact tc _ _ (by unfold rsc; omega) (by omega)) (Sc_fr hT.1.1 hT.1.2.1 a3.1.2.2.2.2.2.2.2.2.1 (fun a i w r _ => un a i (by omega)) (fun a i w r _ _ _ => tn a i (by omega))) ⟨s + j, h9, by rw [un _ _ (by omega)]; exact a4⟩ (SP_fr hP (fun g _ => by rw [un _ _ (by omega)]; exact uc 44 g (by omega) (by omega))) ?_ ?_ (Un_0 (sI_eq _ _ _ _) (sI_eq _ _ _ _)) ?_
      · show u2.2.2 a i = u.2.2 a i
        rw [a3.2.1.1]
        exact (cb_KC u d 1).1 a i w
      · show t2.2.2 = t0.2.2
        rw [a3.2.2.1.1]
        rfl
      · rw [un 43 1 (by omega)]
        exact hNm
      · show Im n m (w_sI u2 66 0 0).1 (w_sI (w_sI t2 79 60 0) 79 74 0).1 (t2.2.1 79 79)
        rw [a3.2.2.1.2.2.1]
        exact Im_fr hI (by rw [un _ _ (by omega)]; exact uc _ _ (by omega) (by omega)) (fun a w r => funext (fun i => by rw [un _ _ (by omega)]; exact uc _ _ (by omega) (by omega))) (by rw [tn _ _ (by omega)]; exact tc _ _ (by unfold rsc; omega) (by omega)) (fun a w r => funext (fun i => by rw [tn _ _ (by omega)]; exact tc _ _ (by unfold rsc; omega) (by omega)))
      · exact Sg_fr hG (fun a w r => funext (fun i => by rw [un _ _ (by omega)]; exact uc _ _ (by omega) (by omega))) (by rw [tn _ _ (by omega)]; exact tc _ _ (by unfold rsc; omega) (by omega)) (by rw [tn _ _ (by omega)]; exact tc _ _ (by unfold rsc; omega) (by omega)) (funext (fun i => by rw [tn _ _ (by omega)]; exact tc _ _ (by unfold rsc; omega) (by omega)))
  · rw [if_neg (by rw [e9]; exact h9), if_neg (by rw [e9]; exact h9)]
    exact fin
end

/-! over how many it comes; who must be left out -/
def orr (p : Nat → Bool) : Nat → Bool
  | 0 => false
  | k + 1 => orr p k || p k
theorem orr_congr {p q : Nat → Bool} {k : Nat} (h : ∀ i, i < k → p i = q i) : orr p k = orr q k := by
  induction k with
  | zero => rfl
  | succ k ih => unfold orr; rw [ih (fun i hi => h i (by omega)), h k (by omega)]
theorem orr_and (p : Nat → Bool) (b : Bool) (k : Nat) : orr (fun i => p i && b) k = (orr p k && b) := by
  induction k with
  | zero => cases b <;> rfl
  | succ k ih =>
    show (orr (fun i => p i && b) k || (p k && b)) = ((orr p k || p k) && b)
    rw [ih]
    cases orr p k <;> cases p k <;> cases b <;> rfl
theorem orr_f {p : Nat → Bool} {k : Nat} (h : ∀ i, i < k → p i = false) : orr p k = false := by
  induction k with
  | zero => rfl
  | succ k ih => unfold orr; rw [ih (fun i hi => h i (by omega)), h k (by omega)]; rfl
def FV (x y : Int32) (n : Nat) : Int32 := w_min (w_abs (x - y)) (nI n - w_abs (x - y))
/-- whether one hears another one -/
def HV (u : wSt) (n d c i g : Nat) : Bool := !(decide (i = g)) && (!(bt (u.1 c 2 ||| u.1 64 5) i) && (!(bt (u.1 c 2 ||| u.1 64 5) g) && (!(decide (u.1 64 3 = 0)) || decide (FV (u.1 (c + 1) i) (u.1 (c + 1) g) n ≤ u.1 d 4))))
section
variable {n m k d c b B : Nat} {u t : wSt}
theorem sits_cc {g : Nat} (hg : g < 32) : F_X0_sits 64 c (nI g) u = some (bI (bt (u.1 c 2 ||| u.1 64 5) g = false)) := by
  unfold F_X0_sits
  rw [bt_sh hg]
  cases q : bt (u.1 c 2 ||| u.1 64 5) g
  · rfl
  · rfl
theorem far_c {i g : Nat} (hx : Cx n m k d c b B u t) (hi : i < n) (hg : g < n) : F_X0_seatsBetween 64 c (nI i) (nI g) u = some (FV (u.1 (c + 1) i) (u.1 (c + 1) g) n) := by
  obtain ⟨n6, m8, -⟩ := Cx_b hx
  obtain ⟨h8, e1, -, -, -⟩ := Cx_e hx
  have hd := hx.2.2.1
  have hc := hx.2.2.2.1
  have p4 := (PL_c hx.1 hc).1
  unfold F_X0_seatsBetween FV
  rw [p4, wR_c1 _ hc, wN_c1 _ hc (by omega), wR_c1 _ hc, wN_c1 _ hc (by omega), wB_eq, h8, wR_d0 _ hd, e1]
theorem hears_e {i g : Nat} (hx : Cx n m k d c b B u t) (hi : i < n) (hg : g < n) : F_X0_hears 64 c (nI i) (nI g) u = some (bI (HV u n d c i g = true)) := by
  obtain ⟨n6, m8, -⟩ := Cx_b hx
  obtain ⟨h8, e1, -, -, -⟩ := Cx_e hx
  have hd := hx.2.2.1
  have e : (nI i = nI g) = (i = g) := nI_eqI (by omega) (by omega)
  unfold F_X0_hears HV
  rw [sits_cc (by omega), sits_cc (by omega), far_c hx hi hg, wP_s, wP_s]
  by_cases q : i = g
  · rw [if_pos (by rw [e]; exact q)]
    simp [q, bI]
  · rw [if_neg (by rw [e]; exact q)]
    cases q1 : bt (u.1 c 2 ||| u.1 64 5) i
    · rw [bI_t rfl, if_neg (by decide)]
      cases q2 : bt (u.1 c 2 ||| u.1 64 5) g
      · rw [bI_t rfl, if_neg (by decide)]
        by_cases q3 : u.1 64 3 = 0
        · rw [if_pos q3, wP_s, h8, wR_d0 _ hd]
          by_cases q4 : FV (u.1 (c + 1) i) (u.1 (c + 1) g) n ≤ u.1 d 4
          · rw [if_neg (by rw [i_nlt]; exact q4)]
            simp [q, q4, bI]
          · rw [if_pos (by rw [← i_nle]; exact q4)]
            simp [q, q3, q4, bI]
        · rw [if_neg q3]
          simp [q, q3, bI]
      · rw [bI_f (by decide), if_pos rfl]
        simp [bI]
    · rw [bI_f (by decide), if_pos rfl]
      simp [bI]
theorem hearers_e {g : Nat} (hx : Cx n m k d c b B u t) (hg : g < n) : ∃ x : Int32, F_X0_hearers 64 c (nI g) u = some x ∧ ∀ i, i < 32 → bt x i = (decide (i < n) && HV u n d c i g) := by
  obtain ⟨n6, m8, -⟩ := Cx_b hx
  obtain ⟨h8, e1, -, e2, -⟩ := Cx_e hx
  have hd := hx.2.2.1
  have key : Ro (fun x => ∀ i, i < 32 → bt x i = (decide (i < n) && HV u n d c i g)) (F_X0_hearers 64 c (nI g) u) := by
    unfold F_X0_hearers
    refine wL_ro (fun j x => ∃ a : Int32, x = (a, nI j) ∧ ∀ i, i < 32 → bt a i = (decide (i < j) && HV u n d c i g)) _ n (by unfold wFu; omega) ?_ ⟨0, rfl, fun i hi => by rw [bt_0]; simp⟩
    rintro j x hj ⟨a, rfl, ha⟩
    unfold F_X0_hearers_b5 F_X0_hearers_j35
    dsimp only
    have e := nI_leE (a := n) (b := j) (by omega) (by omega)
    rw [h8, wR_d0 _ hd, e1]
    by_cases hin : n ≤ j
    · right
      have : j = n := by omega
      subst this
      exact ⟨a, if_pos (by rw [e]; exact hin), ha⟩
    · left
      have hjl : j < n := by omega
      rw [if_neg (by rw [e]; exact hin), hears_e hx hjl hg, wP_s]
      cases q : HV u n d c j g
      · refine ⟨(a, nI (j + 1)), ?_, hjl, a, rfl, fun i hi => ?_⟩
        · rw [bI_f (by decide), if_pos rfl]
          repeat (first | rw [wB_eq] | rw [wC_s] | rw [wP_s] | rw [wJ_inl] | rw [wJ_inr])
          rw [nI_addL]
        · rw [ha i hi]
          by_cases hij : i = j
          · subst hij
            rw [q]
            simp
          · have : (i < j + 1) ↔ (i < j) := by omega
            simp [this]
      · refine ⟨(a ||| ((1 : Int32) <<< (nI j &&& 31)), nI (j + 1)), ?_, hjl, _, rfl, fun i hi => ?_⟩
        · rw [bI_t rfl, if_neg (by decide)]
          repeat (first | rw [wB_eq] | rw [wC_s] | rw [wP_s] | rw [wJ_inl] | rw [wJ_inr])
          rw [nI_addL]
        · rw [bt_set (by omega), ha i hi]
          by_cases hij : i = j
          · subst hij
            rw [q]
            simp
          · have : (i < j + 1) ↔ (i < j) := by omega
            simp [this, hij]
  obtain ⟨x, h1, h2⟩ := key
  exact ⟨x, h1, h2⟩
/-- with some sent away -/
theorem HV_a {a : Int32} {i g : Nat} (h0 : u.1 64 5 = 0) (hc : SC c) (hd : TC d) : HV (w_sI u 64 5 a) n d c i g = (HV u n d c i g && (!(bt a i) && !(bt a g))) := by
  have c1 := SC_le hc
  have d1 := TC_le hd
  unfold HV
  rw [sI_eq, sI_ne _ _ _ _ _ _ (by omega), sI_ne2 _ _ _ _ _ _ (by decide), sI_ne _ _ _ _ _ _ (by omega), sI_ne _ _ _ _ _ _ (by omega), sI_ne _ _ _ _ _ _ (by omega), h0, bt_or, bt_or, bt_or, bt_or, bt_0, bt_0]
  cases decide (i = g) <;> cases bt (u.1 c 2) i <;> cases bt (u.1 c 2) g <;> cases bt a i <;> cases bt a g <;> simp
theorem isOf_t {x : Int32} {g : Nat} (hg : g < 32) : F_X9_isOf x (nI g) t = some (bI (bt x g = true)) := by
  unfold F_X9_isOf
  rw [bt_sh hg]
  cases q : bt x g
  · rfl
  · rfl
theorem with_c {R : Int32} (hx : Cx n m k d 43 b B u t) (h2 : u.2.2 0 2 = d + 1) : ∃ x : Int32, F_X8_withHearers 0 R u = some x ∧ ∀ i, i < 32 → bt x i = (bt R i || orr (fun g => bt R g && (decide (i < n) && HV u n d 43 i g)) n) := by
  obtain ⟨n6, m8, -⟩ := Cx_b hx
  obtain ⟨h8, e1, -, e2, -⟩ := Cx_e hx
  have hd := hx.2.2.1
  have r9 : u.2.2 0 9 = 65 := by simp only [PL_u hx.1]
  have r5 : u.2.2 0 5 = 44 := by simp only [PL_u hx.1]
  have key : Ro (fun x => ∀ i, i < 32 → bt x i = (bt R i || orr (fun g => bt R g && (decide (i < n) && HV u n d 43 i g)) n)) (F_X8_withHearers 0 R u) := by
    unfold F_X8_withHearers
    refine wL_ro (fun j x => ∃ a : Int32, x = (a, nI j) ∧ ∀ i, i < 32 → bt a i = (bt R i || orr (fun g => bt R g && (decide (i < n) && HV u n d 43 i g)) j)) _ n (by unfold wFu; omega) ?_ ⟨R, rfl, fun i hi => by show bt R i = (bt R i || false); simp⟩
    rintro j x hj ⟨a, rfl, ha⟩
    unfold F_X8_withHearers_b4 F_X8_withHearers_j38
    dsimp only
    have e := nI_leE (a := n) (b := j) (by omega) (by omega)
    rw [h2, wR_d0 _ hd, e1]
    by_cases hin : n ≤ j
    · right
      have : j = n := by omega
      subst this
      exact ⟨a, if_pos (by rw [e]; exact hin), ha⟩
    · left
      have hjl : j < n := by omega
      rw [if_neg (by rw [e]; exact hin), bt_sh (by omega)]
      cases q : bt R j
      · refine ⟨(a, nI (j + 1)), ?_, hjl, a, rfl, fun i hi => ?_⟩
        · rw [bI_f (by decide), if_pos rfl]
          repeat (first | rw [wB_eq] | rw [wC_s] | rw [wP_s] | rw [wJ_inl] | rw [wJ_inr])
          rw [nI_addL]
        · rw [ha i hi]
          show _ = (bt R i || (orr (fun g => bt R g && (decide (i < n) && HV u n d 43 i g)) j || (bt R j && (decide (i < n) && HV u n d 43 i j))))
          rw [q]
          simp
      · obtain ⟨y, y1, y2⟩ := hearers_e hx hjl
        refine ⟨(a ||| y, nI (j + 1)), ?_, hjl, _, rfl, fun i hi => ?_⟩
        · rw [bI_t rfl, if_neg (by decide), r9, wR_64, r5, wR_43, y1]
          repeat (first | rw [wB_eq] | rw [wC_s] | rw [wP_s] | rw [wJ_inl] | rw [wJ_inr])
          rw [nI_addL]
        · rw [bt_or, ha i hi, y2 i hi]
          show _ = (bt R i || (orr (fun g => bt R g && (decide (i < n) && HV u n d 43 i g)) j || (bt R j && (decide (i < n) && HV u n d 43 i j))))
          rw [q, Bool.true_and, Bool.or_assoc]
  obtain ⟨x, h1, h2⟩ := key
  exact ⟨x, h1, h2⟩
theorem with_t {R : Int32} (hx : Cx n m k d 43 0 B u t) : ∃ x : Int32, wL (S := Int32 × Int32) (fun x => F_X9_linksOf_b31 t 79 R x.1 x.2) wFu (R, (0 : Int32)) = some (.inl x) ∧ ∀ i, i < 32 → bt x i = (bt R i || orr (fun g => bt R g && (decide (i < n) && HV u n d 43 i g)) n) := by
  obtain ⟨n6, m8, -⟩ := Cx_b hx
  obtain ⟨h8, e1, -, e2, -⟩ := Cx_e hx
  have key : Ro (fun y => ∃ x : Int32, y = .inl x ∧ ∀ i, i < 32 → bt x i = (bt R i || orr (fun g => bt R g && (decide (i < n) && HV u n d 43 i g)) n)) (wL (S := Int32 × Int32) (fun x => F_X9_linksOf_b31 t 79 R x.1 x.2) wFu (R, (0 : Int32))) := by
    refine wL_ro (fun j x => ∃ a : Int32, x = (a, nI j) ∧ ∀ i, i < 32 → bt a i = (bt R i || orr (fun g => bt R g && (decide (i < n) && HV u n d 43 i g)) j)) _ n (by unfold wFu; omega) ?_ ⟨R, rfl, fun i hi => by show bt R i = (bt R i || false); simp⟩
    rintro j x hj ⟨a, rfl, ha⟩
    unfold F_X9_linksOf_b31 F_X9_linksOf_j62
    dsimp only
    have e := nI_leE (a := n) (b := j) (by omega) (by omega)
    rw [e2]
    by_cases hin : n ≤ j
    · right
      have : j = n := by omega
      subst this
      exact ⟨.inl a, if_pos (by rw [e]; exact hin), a, rfl, ha⟩
    · left
      have hjl : j < n := by omega
      rw [if_neg (by rw [e]; exact hin), isOf_t (by omega), wP_s]
      cases q : bt R j
      · refine ⟨(a, nI (j + 1)), ?_, hjl, a, rfl, fun i hi => ?_⟩
        · rw [bI_f (by decide), if_pos rfl]
          repeat (first | rw [wB_eq] | rw [wC_s] | rw [wP_s] | rw [wJ_inl] | rw [wJ_inr])
          rw [nI_addL, Int32.or_zero]
        · rw [ha i hi]
          show _ = (bt R i || (orr (fun g => bt R g && (decide (i < n) && HV u n d 43 i g)) j || (bt R j && (decide (i < n) && HV u n d 43 i j))))
          rw [q]
          simp
      · obtain ⟨y, y1, y2⟩ := hearers_e hx hjl
        obtain ⟨y', y'', z1, z2, rfl⟩ := hear_rl hx hjl
        rw [y1] at z1
        cases z1
        have z2 : F_X9_hearing 79 (0 : Int32) (nI j) t = some y := z2
        refine ⟨(a ||| y, nI (j + 1)), ?_, hjl, _, rfl, fun i hi => ?_⟩
        · rw [bI_t rfl, if_neg (by decide), z2]
          repeat (first | rw [wB_eq] | rw [wC_s] | rw [wP_s] | rw [wJ_inl] | rw [wJ_inr])
          rw [nI_addL]
        · rw [bt_or, ha i hi, y2 i hi]
          show _ = (bt R i || (orr (fun g => bt R g && (decide (i < n) && HV u n d 43 i g)) j || (bt R j && (decide (i < n) && HV u n d 43 i j))))
          rw [q, Bool.true_and, Bool.or_assoc]
  obtain ⟨y, h1, x, rfl, h2⟩ := key
  exact ⟨x, h1, h2⟩
/-- the two ways: u, t plain; ta with those of a sent away -/
theorem links_rl {p q a : Nat} {ta : wSt} (hx : Cx n m k d 43 0 98 u t) (h2 : u.2.2 0 2 = d + 1) (h0 : u.1 64 5 = 0) (hxa : Cx n m k d 43 0 98 (w_sI u 64 5 (nI a)) ta) (hp : p < n) (hq : q < n) (hpa : bt (nI a) p = false) : ∃ r : Int32, (r = -2 ∨ ∃ j : Nat, j < 6 ∧ r = nI j) ∧ wL (S := Int32 × Int32) (fun x => F_X8_passedOn_b13 u (nI q) 0 (nI a) x.1 x.2) wFu ((1 : Int32) <<< (nI p &&& 31), (0 : Int32)) = some (r, u) ∧ F_X9_linksOf 79 (nI p) (nI q) ta = some r := by
  obtain ⟨n6, m8, -⟩ := Cx_b hx
  have hd := hx.2.2.1
  have key : Rl (fun x y => x = (y, u) ∧ (y = -2 ∨ ∃ j : Nat, j < 6 ∧ y = nI j)) (wL (S := Int32 × Int32) (fun x => F_X8_passedOn_b13 u (nI q) 0 (nI a) x.1 x.2) wFu ((1 : Int32) <<< (nI p &&& 31), (0 : Int32))) (wL (S := Int32 × Int32) (fun x => F_X9_linksOf_b7 (nI q) ta 79 x.1 x.2) wFu ((1 : Int32) <<< (nI p &&& 31), (0 : Int32))) := by
    refine wL_rl (fun j x y => ∃ R : Int32, x = (R, nI j) ∧ y = (R, nI j) ∧ ∀ g, g < 32 → bt R g = true → bt (nI a) g = false) _ 6 (by unfold wFu; omega) ?_ ⟨_, rfl, rfl, fun g hg w => ?_⟩
    · rintro j x y hj ⟨R, rfl, rfl, hR⟩
      unfold F_X8_passedOn_b13 F_X9_linksOf_b7 F_X9_linksOf_j71
      dsimp only
      have e : ((6 : Int32) ≤ nI j) = (6 ≤ j) := nI_leE (a := 6) (b := j) (by omega) (by omega)
      by_cases h6 : 6 ≤ j
      · right
        exact ⟨(-2, u), -2, if_pos (by rw [e]; exact h6), if_pos (by rw [e]; exact h6), rfl, Or.inl rfl⟩
      · have h6' : ¬ (6 : Int32) ≤ nI j := by rw [e]; exact h6
        rw [if_neg h6', if_neg h6', bt_sh (by omega), isOf_t (by omega), wP_s]
        cases w : bt R q
        · left
          obtain ⟨x1, x2, x3⟩ := with_c (R := R) hx h2
          obtain ⟨y1, y2, y3⟩ := with_t (R := R) hxa
          have hxy : x1 &&& (nI a ^^^ (-1 : Int32)) = y1 := by
            apply bt_ext
            intro g hg
            rw [bt_and, bt_not hg, x3 g hg, y3 g hg]
            have e1 : orr (fun g' => bt R g' && (decide (g < n) && HV (w_sI u 64 5 (nI a)) n d 43 g g')) n = (orr (fun g' => bt R g' && (decide (g < n) && HV u n d 43 g g')) n && !(bt (nI a) g)) := by
              rw [← orr_and]
              apply orr_congr
              intro i hi
              rw [HV_a h0 (Or.inl rfl) hd]
              cases w1 : bt R i
              · rfl
              · rw [hR i (by omega) w1]
                cases decide (g < n) <;> cases HV u n d 43 g i <;> cases bt (nI a) g <;> rfl
            rw [e1]
            cases w1 : bt R g
            · simp
            · rw [hR g hg w1]
              simp
          refine ⟨(y1, nI (j + 1)), (y1, nI (j + 1)), ?_, ?_, by omega, y1, rfl, rfl, fun g hg w1 => ?_⟩
          · rw [bI_f (by decide), if_pos rfl, x2, wP_s, wB_eq, wB_eq, hxy, nI_addL]
          · rw [bI_f (by decide), if_pos rfl, y2, wJ_inl, wB_eq, nI_addL]
          · rw [← hxy, bt_and, bt_not hg] at w1
            cases w2 : bt (nI a) g
            · rfl
            · rw [w2] at w1
              simp at w1
        · right
          exact ⟨(nI j, u), nI j, by rw [bI_t rfl, if_neg (by decide)], by rw [bI_t rfl, if_neg (by decide)], rfl, Or.inr ⟨j, by omega, rfl⟩⟩
    · rw [bt_one (by omega) hg] at w
      have : g = p := by simpa using w
      rw [this]
      exact hpa
  obtain ⟨x, y, k1, k2, rfl, k3⟩ := key
  refine ⟨y, k3, k1, ?_⟩
  unfold F_X9_linksOf
  rw [wB_eq]
  exact k2
end

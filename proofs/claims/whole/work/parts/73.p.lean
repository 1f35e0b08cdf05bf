/-! calls that change: frames; count, see, strike, known, go -/
theorem Im_fr {n m : Nat} {U T U' T' : Nat → Nat → Int32} {D : Int64} (h : Im n m U T D) (e0 : U' 0 8 = U 0 8) (hU : ∀ a, 50 ≤ a → a ≤ 56 → U' a = U a) (e1 : T' 79 76 = T 79 76) (hT : ∀ a, 117 ≤ a → a ≤ 118 → T' a = T a) : Im n m U' T' D := by
  unfold Im SP at h ⊢
  simp (disch := omega) only [e0, e1, hU, hT]
  exact h
theorem Un_fr {n : Nat} {U T U' T' : Nat → Nat → Int32} (h : Un n U T) (h4 : U' 44 = U 44) (h6 : U' 46 = U 46) (e2 : U' 43 2 = U 43 2) (hU : ∀ a, 66 ≤ a → a ≤ 69 → U' a = U a) (e1 : T' 79 74 = T 79 74) (hT : T' 116 = T 116) : Un n U' T' := by
  unfold Un at h ⊢
  simp (disch := omega) only [h4, h6, e2, hU, e1, hT]
  exact h
theorem Un_0 {n : Nat} {U T : Nat → Nat → Int32} (h1 : U 66 0 = 0) (h2 : T 79 74 = 0) : Un n U T := ⟨0, by omega, h1, h2, fun _ g => U 44 g, fun _ g => U 46 g, fun _ => U 43 2, fun g _ => ⟨rfl, rfl⟩, rfl, fun j hj => by omega, fun j hj => by omega⟩
theorem Sg_fr {n : Nat} {U T U' T' : Nat → Nat → Int32} (h : Sg n U T) (hU : ∀ a, 70 ≤ a → a ≤ 75 → U' a = U a) (e1 : T' 79 70 = T 79 70) (e2 : T' 79 71 = T 79 71) (hT : T' 114 = T 114) : Sg n U' T' := by
  unfold Sg Se at h ⊢
  simp (disch := omega) only [hU, e1, e2, hT]
  exact h
theorem GR_upd {n m k d : Nat} {u t u' t' : wSt} (h : GR n m k d u t) (hr : ∀ a j, ¬ (a = 64 ∧ j = 8) → u'.2.2 a j = u.2.2 a j) (hr' : t'.2.2 = t.2.2) (hU : ∀ a j, a ≤ 42 → ¬ (a = 0 ∧ j = 8) → u'.1 a j = u.1 a j) (h79 : ∀ j, j ≤ 15 → j ≠ 2 → t'.1 79 j = t.1 79 j) (hT : ∀ a j, 80 ≤ a → a ≤ 99 → t'.1 a j = t.1 a j) (hS : Sc n m 43 0 98 u'.1 t'.1) (hs : ∃ s : Nat, s ≤ 9000 ∧ u'.1 43 0 = nI s) (hP : SP n 43 u'.1) (hN : t'.2.1 79 58 = (u'.1 43 1).toInt64 ∧ 0 ≤ u'.1 43 1) (hI : Im n m u'.1 t'.1 (t'.2.1 79 79)) (hUn : Un n u'.1 t'.1) (hSg : Sg n u'.1 t'.1) : GR n m k d u' t' := by
  obtain ⟨hp, hm, hd, h2, h3, hTd, -, -, -, -, -, -, -, hE, hF, hW⟩ := h
  have d1 := TC_le hd
  refine ⟨PL_fr hp (fun a j q _ _ => hr a j q), by rw [hr']; exact hm, hd, by rw [hr 0 2 (by omega)]; exact h2, by rw [hr 0 3 (by omega)]; exact h3, ?_, hS, hs, hP, hN, hI, hUn, hSg, ?_, ?_, ?_⟩
  · exact Td_fr hTd (fun a j q r => hU a j (by omega) (by omega)) (fun j q r => h79 j (by omega) (by omega)) (fun a j q r => hT a j (by omega) (by omega))
  · have e1 : u'.1 1 = u.1 1 := funext (fun j => hU 1 j (by omega) (by omega))
    have e2 : t'.1 80 = t.1 80 := funext (fun j => hT 80 j (by omega) (by omega))
    unfold Tp at hE ⊢
    rw [hU 0 1 (by omega) (by omega), h79 1 (by omega) (by omega), e1, e2]
    exact hE
  · unfold Ft at hF ⊢
    rw [h79 4 (by omega) (by omega), h79 5 (by omega) (by omega), hU 36 0 (by omega) (by omega), hU 36 1 (by omega) (by omega)]
    exact hF
  · have e1 : u'.1 39 = u.1 39 := funext (fun j => hU 39 j (by omega) (by omega))
    have e2 : t'.1 81 = t.1 81 := funext (fun j => hT 81 j (by omega) (by omega))
    unfold Wd at hW ⊢
    rw [e1, e2]
    exact hW
/-- a call that changes: the same answer, and again the relation -/
def QM {α : Type} (o o' : Option (α × wSt)) : Prop := ∃ (r : α) (u' t' : wSt), o = some (r, u') ∧ o' = some (r, t') ∧ ∃ n m k d, GR n m k d u' t'
section
variable {n m k d c b B : Nat} {u t : wSt}
theorem QM_1 {α : Type} {o o' : Option (α × wSt)} (h : GR n m k d u t) (hq : Q1 u t o o') : QM o o' := by
  obtain ⟨r, u', t', a, b, c, e⟩ := hq
  exact ⟨r, u', t', a, b, n, m, k, d, GR_fr h c e⟩
theorem cnt_not (p : Nat → Bool) (j : Nat) : cnt (fun i => !(p i)) j + cnt p j = j := by
  induction j with
  | zero => rfl
  | succ j ih =>
    have e1 : cnt (fun i => !(p i)) (j + 1) = cnt (fun i => !(p i)) j + (if (!(p j)) = true then 1 else 0) := rfl
    have e2 : cnt p (j + 1) = cnt p j + (if p j = true then 1 else 0) := rfl
    rw [e1, e2]
    cases p j <;> simp <;> omega
theorem hungry_s (h : GR n m k d u t) : Rl (fun x y => y = (x, t)) (F_X8_hungerNow 0 u) (wL (S := Int32 × Int32) (fun x => F_X9_count_b163 t 79 x.1 x.2) wFu ((0 : Int32), (0 : Int32))) := by
  have q52 : t.2.2 79 52 = 108 := by simp only [PM_u h.2.1]
  have q50 : t.2.2 79 50 = 106 := by simp only [PM_u h.2.1]
  have r5 : u.2.2 0 5 = 44 := by simp only [PL_u h.1]
  have r46 : u.2.2 43 6 = 47 := by simp only [PL_u h.1]
  have n10 : ¬ (1 : Int32) = 0 := by decide
  obtain ⟨hp, hm, hd, h2, -, ⟨⟨n6, -⟩, ⟨e1, -⟩, ⟨e2, -⟩, -⟩, ⟨-, hS, -⟩, -⟩ := h
  unfold F_X8_hungerNow
  refine wL_rl (fun i x y => ∃ a : Int32, x = (a, nI i) ∧ y = (a, nI i)) _ n (by unfold wFu; omega) ?_ ⟨0, rfl, rfl⟩
  rintro i x y hi ⟨a, rfl, rfl⟩
  unfold F_X8_hungerNow_b4 F_X9_count_b163 F_X8_hungerNow_j40 F_X9_count_j191
  dsimp only
  have e := nI_leE (a := n) (b := i) (by omega) (by omega)
  rw [h2, wR_d0 _ hd, e1, e2]
  by_cases hin : n ≤ i
  · right
    exact ⟨a, (a, t), if_pos (by rw [e]; exact hin), if_pos (by rw [e]; exact hin), rfl⟩
  · left
    have hil : i < n := by omega
    have hne : ¬ nI n ≤ nI i := by rw [e]; exact hin
    have z := hS i hil
    simp only [Nat.mul_zero, Nat.zero_add] at z
    rw [if_neg hne, if_neg hne, r5, wR_43, faint_c (by omega), wP_s, q52, wR_107, wN_107 _ (by omega), z.2.2.2.2]
    by_cases q : bt (u.1 43 2) i = true
    · refine ⟨(a + 0, nI (i + 1)), (a + 0, nI (i + 1)), ?_, ?_, hil, _, rfl, rfl⟩
      · rw [bI_t q, if_neg n10]
        repeat (first | rw [wB_eq] | rw [wC_s] | rw [wP_s] | rw [wJ_inl] | rw [wJ_inr])
        rw [nI_addL]
      · rw [bI_f (by rw [q]; decide), if_pos rfl]
        repeat (first | rw [wB_eq] | rw [wC_s] | rw [wP_s] | rw [wJ_inl] | rw [wJ_inr])
        rw [nI_addL]
    · have q' : bt (u.1 43 2) i = false := by
        cases hq : bt (u.1 43 2) i
        · rfl
        · exact absurd hq q
      refine ⟨(a + u.1 46 i, nI (i + 1)), (a + u.1 46 i, nI (i + 1)), ?_, ?_, hil, _, rfl, rfl⟩
      · rw [bI_f q, if_pos rfl, wR_43, r46, wR_46, wN_46 _ (by omega)]
        repeat (first | rw [wB_eq] | rw [wC_s] | rw [wP_s] | rw [wJ_inl] | rw [wJ_inr])
        rw [nI_addL]
      · rw [bI_t q', if_neg n10, q50, wR_105, wN_105 _ (by omega), show t.1 105 i = u.1 46 i from z.2.2.1]
        repeat (first | rw [wB_eq] | rw [wC_s] | rw [wP_s] | rw [wJ_inl] | rw [wJ_inr])
        rw [nI_addL]
theorem eat_s (h : GR n m k d u t) : wL (S := Int32 × Int32) (fun x => F_X9_count_b122 t 79 x.1 x.2) wFu ((0 : Int32), (0 : Int32)) = some (nI (cnt (bt (u.1 43 3)) m), t) := by
  have q55 : t.2.2 79 55 = 111 := by simp only [PM_u h.2.1]
  have n10 : ¬ (1 : Int32) = 0 := by decide
  obtain ⟨hp, hm, hd, h2, -, ⟨⟨n6, m8, -⟩, -, ⟨-, e2, -⟩, -⟩, ⟨-, -, hS, -⟩, -⟩ := h
  have key : Ro (fun y => y = (nI (cnt (bt (u.1 43 3)) m), t)) (wL (S := Int32 × Int32) (fun x => F_X9_count_b122 t 79 x.1 x.2) wFu ((0 : Int32), (0 : Int32))) := by
    refine wL_ro (fun i x => x = (nI (cnt (bt (u.1 43 3)) i), nI i)) _ m (by unfold wFu; omega) ?_ rfl
    rintro i x hi rfl
    unfold F_X9_count_b122 F_X9_count_j145
    dsimp only
    have e := nI_leE (a := m) (b := i) (by omega) (by omega)
    rw [e2]
    by_cases hin : m ≤ i
    · right
      have : i = m := by omega
      subst this
      exact ⟨_, if_pos (by rw [e]; exact hin), rfl⟩
    · left
      have hil : i < m := by omega
      have z := hS i hil
      simp only [Nat.mul_zero, Nat.zero_add] at z
      refine ⟨(nI (cnt (bt (u.1 43 3)) (i + 1)), nI (i + 1)), ?_, hil, rfl⟩
      rw [if_neg (by rw [e]; exact hin), q55, wR_110, wN_110 _ (by omega), z.2.2, show cnt (bt (u.1 43 3)) (i + 1) = cnt (bt (u.1 43 3)) i + (if bt (u.1 43 3) i = true then 1 else 0) from rfl]
      by_cases q : bt (u.1 43 3) i = true
      · rw [bI_t q, if_neg n10, if_pos q]
        repeat (first | rw [wB_eq] | rw [wC_s] | rw [wP_s] | rw [wJ_inl] | rw [wJ_inr])
        rw [nI_addL, nI_addL]
      · rw [bI_f q, if_pos rfl, if_neg q]
        repeat (first | rw [wB_eq] | rw [wC_s] | rw [wP_s] | rw [wJ_inl] | rw [wJ_inr])
        rw [nI_addL, nI_addL]
  obtain ⟨y, h1, rfl⟩ := key
  exact h1
theorem M_count {x : Int32} (h : GR n m k d u t) : Q1 u t (F_X8_count 0 x u) (F_X9_count 79 x t) := by
  unfold F_X9_count
  obtain ⟨t0, et⟩ : ∃ t0, t0 = w_sI t 79 2 (0 : Int32) := ⟨_, rfl⟩
  have hK0 : KT t t0 := by rw [et]; exact KT_s (by unfold scr; omega)
  have h := GR_fr h (KC_rf u) hK0
  rw [wB_eq, ← et]
  have fin : ∀ r : Int32, Q1 u t (some (r, u)) (some (r, t0)) := fun r => ⟨r, u, t0, rfl, rfl, KC_rf u, hK0⟩
  have r5 : u.2.2 0 5 = 44 := by simp only [PL_u h.1]
  have r10 : u.2.2 0 10 = 67 := by simp only [PL_u h.1]
  have r11 : u.2.2 0 11 = 71 := by simp only [PL_u h.1]
  have q57 : t0.2.2 79 57 = 113 := by simp only [PM_u h.2.1]
  have V := GR_Vw h
  have h' := h
  obtain ⟨hp, hm, hd, h2, -, ⟨⟨n6, m8, -⟩, ⟨e1, e2, e3⟩, ⟨f1, f2, f3⟩, -, -, -, -, -, -, -, f15⟩, hS, ⟨s, hs, es⟩, -, -, -, ⟨qq, -, w1, w2, -⟩, ⟨qs, -, v1, v2, -⟩, -⟩ := h'
  have p16 := (PL_d hp hd).2.2.2.2.2.2.2.2.2.1
  unfold F_X8_count
  by_cases x0 : x = 0
  · rw [if_pos x0, if_pos x0, h2, wR_d0 _ hd, e1, f1]
    exact fin _
  rw [if_neg x0, if_neg x0]
  by_cases x1 : x = 1
  · rw [if_pos x1, if_pos x1, h2, wR_d0 _ hd, e2, f2]
    exact fin _
  rw [if_neg x1, if_neg x1]
  by_cases x2 : x = 2
  · rw [if_pos x2, if_pos x2, h2, wR_d0 _ hd, e3, f3]
    exact fin _
  rw [if_neg x2, if_neg x2]
  by_cases x3 : x = 3
  · rw [if_pos x3, if_pos x3, h2, wR_d0 _ hd, p16, wR_d10 _ hd, f15]
    exact fin _
  rw [if_neg x3, if_neg x3]
  by_cases x4 : x = 4
  · obtain ⟨s', -, g1, g2⟩ := hS.1
    rw [if_pos x4, if_pos x4, r5, wR_43, g1, q57, wR_112, wN_lit, wN_112 _ (by omega), g2]
    exact fin _
  rw [if_neg x4, if_neg x4]
  by_cases x5 : x = 5
  · have hC := Cx_plain h
    have r5' : (cb u d 0).2.2 0 5 = 44 := by simp only [PL_u hC.1]
    have hf : F_X9_fainted 79 (0 : Int32) t0 = some (nI (cnt (bt (u.1 43 2)) n)) := fainted_s V
    have e43 : (cb u d 0).1 43 2 = u.1 43 2 := (cb_KC u d 0).2 43 2 (by omega) (by omega)
    have hb : cnt (sitB ((cb u d 0).1 43 2) ((cb u d 0).1 64 5)) n = cnt (fun i => !(bt (u.1 43 2) i)) n := cnt_congr (fun i _ => by
      unfold sitB
      rw [bt_or, show (cb u d 0).1 64 5 = 0 from rfl, bt_0, Bool.or_false, e43])
    have hcn := cnt_not (bt (u.1 43 2)) n
    rw [if_pos x5, if_pos x5, plain_c h, wC_s, wG_pos (by decide), r5', wR_43, sitting_c hC, wP_s, sitting_bc n6, wP_s, hf, wP_s, f1, hb, nI_sub (by omega), show cnt (fun i => !(bt (u.1 43 2) i)) n = n - cnt (bt (u.1 43 2)) n by omega]
    exact ⟨_, _, t0, rfl, rfl, cb_KC u d 0, hK0⟩
  rw [if_neg x5, if_neg x5]
  by_cases x6 : x = 6
  · obtain ⟨p, q, p1, p2, rfl⟩ := bites_s V
    have p2 : F_X9_bitesAll 79 (0 : Int32) t0 = some p := p2
    rw [if_pos x6, if_pos x6, r5, wR_43, p1, wP_s, p2, wP_s]
    exact fin _
  rw [if_neg x6, if_neg x6]
  by_cases x7 : x = 7
  · have hz := hS.2.2.2.2.2.2
    rw [if_pos x7, if_pos x7, r5, wR_43, bc_of (fun g g1 g2 => hz g (by omega)), wP_s, eat_s h, cnt_more (k := m) m8 (fun i i1 i2 => hz i i1)]
    exact fin _
  rw [if_neg x7, if_neg x7]
  by_cases x8 : x = 8
  · obtain ⟨p, q, p1, p2, rfl⟩ := fed_s V
    have p2 : F_X9_fedAll 79 (0 : Int32) t0 = some p := p2
    rw [if_pos x8, if_pos x8, r5, wR_43, p1, wP_s, p2, wP_s]
    exact fin _
  rw [if_neg x8, if_neg x8]
  by_cases x9 : x = 9
  · obtain ⟨p, q, p1, p2, rfl⟩ := hungry_s h
    rw [if_pos x9, if_pos x9, p1, wP_s, p2]
    exact fin _
  rw [if_neg x9, if_neg x9]
  by_cases x10 : x = 10
  · rw [if_pos x10, if_pos x10, r11, wR_70, v1, v2]
    exact fin _
  rw [if_neg x10, if_neg x10]
  by_cases x11 : x = 11
  · obtain ⟨K, q, -, -, -, -, k1, k2, -⟩ := known_rl h
    rw [if_pos x11, if_pos x11, r11, wR_70, k1, wP_s, k2, wP_s]
    exact fin _
  rw [if_neg x11, if_neg x11]
  by_cases x12 : x = 12
  · rw [if_pos x12, if_pos x12, r10, wR_66, w1, w2]
    exact fin _
  rw [if_neg x12, if_neg x12]
  exact fin _
theorem M_known {x : Int32} (h : GR n m k d u t) : QM (F_X8_known 0 x u) (F_X9_known 79 x t) := by
  unfold F_X9_known
  obtain ⟨t0, et⟩ : ∃ t0, t0 = w_sI t 79 2 (0 : Int32) := ⟨_, rfl⟩
  have hK0 : KT t t0 := by rw [et]; exact KT_s (by unfold scr; omega)
  have h := GR_fr h (KC_rf u) hK0
  rw [wB_eq, ← et]
  have r11 : u.2.2 0 11 = 71 := by simp only [PL_u h.1]
  have h' := h
  obtain ⟨-, -, -, -, -, -, hS, hs, hP, hN, hI, hU, ⟨q, hq, e1, e2, e3, e4, e5⟩, -⟩ := h'
  unfold F_X8_known F_X9_isIn
  by_cases x0 : x < -1
  · rw [if_pos x0, if_pos x0, wP_s, if_pos rfl]
    exact ⟨_, u, t0, rfl, rfl, n, m, k, d, h⟩
  · rw [if_neg x0, if_neg x0, r11, wR_70, e1, e2]
    by_cases x1 : x ≤ nI q
    · have x1' : ¬ nI q < x := by rw [i_nlt]; exact x1
      rw [if_pos x1, if_neg x1', wP_s, if_neg (by decide), wR_70, wB_eq, wB_eq]
      refine ⟨1, _, _, rfl, rfl, n, m, k, d, ?_⟩
      have un : ∀ a j, ¬ (a = 70 ∧ j = 1) → (w_sI u 70 1 x).1 a j = u.1 a j := fun a j q => if_neg q
      have tn : ∀ a j, ¬ (a = 79 ∧ j = 71) → (w_sI t0 79 71 x).1 a j = t0.1 a j := fun a j q => if_neg q
      have uf : ∀ a, a ≠ 70 → (w_sI u 70 1 x).1 a = u.1 a := fun a q => funext (fun j => un a j (by omega))
      have tf : ∀ a, a ≠ 79 → (w_sI t0 79 71 x).1 a = t0.1 a := fun a q => funext (fun j => tn a j (by omega))
      refine GR_upd h (fun _ _ _ => rfl) rfl (fun a j q _ => un a j (by omega)) (fun j q _ => tn 79 j (by omega)) (fun a j q r => tn a j (by omega)) (Sc_fr h.2.2.2.2.2.1.1.1 h.2.2.2.2.2.1.1.2.1 hS (fun a j q r _ => un a j (by omega)) (fun a j q r _ _ _ => tn a j (by omega))) (by rw [un 43 0 (by omega)]; exact hs) (SP_fr hP (fun g _ => un _ _ (by omega))) (by rw [un 43 1 (by omega)]; exact hN) (Im_fr hI (un _ _ (by omega)) (fun a q r => uf a (by omega)) (tn _ _ (by omega)) (fun a q r => tf a (by omega))) (Un_fr hU (uf _ (by decide)) (uf _ (by decide)) (un _ _ (by omega)) (fun a q r => uf a (by omega)) (tn _ _ (by omega)) (tf _ (by decide))) ⟨q, hq, ?_, ?_, ?_, ?_, fun i hi => ?_⟩
      · rw [un _ _ (by omega)]
        exact e1
      · rw [tn _ _ (by omega)]
        exact e2
      · rw [sI_eq, sI_eq]
      · rw [sI_eq]
        by_cases xm : x = -1
        · exact Or.inl xm
        · right
          have x00 : ¬ x < 0 := by
            intro w
            apply xm
            rw [Int32.lt_iff_toInt_lt] at w x0
            rw [show (0 : Int32).toInt = 0 from by decide] at w
            rw [show (-1 : Int32).toInt = -1 from by decide] at x0
            apply Int32.toInt_inj.mp
            rw [show (-1 : Int32).toInt = -1 from by decide]
            omega
          exact in_rng (by omega) x00 x1'
      · have := e5 i hi
        unfold Se at this ⊢
        rw [uf 71 (by decide), uf 72 (by decide), uf 73 (by decide), uf 74 (by decide), uf 75 (by decide), tf 114 (by decide)]
        exact this
    · have x1' : nI q < x := by rw [← i_nle]; exact x1
      rw [if_neg x1, if_pos x1', wP_s, if_pos rfl]
      exact ⟨_, u, t0, rfl, rfl, n, m, k, d, h⟩
end

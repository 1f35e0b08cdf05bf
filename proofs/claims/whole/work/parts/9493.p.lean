/-! a law under way: signs put down -/
def uB (e w p : Nat) (u u' : wSt) : Prop := u'.2 = u.2 ∧ ∀ a j, ¬ (a = 36 ∧ j = 8) → ¬ (a = e + 10 ∧ j = 0) → ¬ (a = e + 13 ∧ j = w) → ¬ ((a = e + 14 ∨ a = e + 15) ∧ p ≤ j) → u'.1 a j = u.1 a j
def tB (p : Nat) (t t' : wSt) : Prop := t'.2 = t.2 ∧ ∀ a j, ¬ (a = 79 ∧ (j = 19 ∨ j = 40 ∨ j = 41)) → a ≠ 101 → ¬ ((a = 96 ∨ a = 98 ∨ a = 99) ∧ 64 + p ≤ j) → t'.1 a j = t.1 a j
theorem p36_9 {R : Nat → Nat → Nat} (h : PL R) : R 36 9 = 38 := by simp only [PL_u h]
theorem qm38 {R : Nat → Nat → Nat} (h : PM R) : R 79 38 = 101 := by simp only [PM_u h]
section
variable {e w p c K m x : Nat} {S L r L' : List Nat} {u t t1 : wSt} {A B C : Int32}
theorem Lg_bind (hd : TC e) (h : Lg e w p c K (x :: r) L u t) (hx : x ≠ 0) (z1 : t1.2 = t.2) (f1 : ∀ a j, ¬ (a = 79 ∧ (j = 40 ∨ j = 41)) → t1.1 a j = t.1 a j) (h40 : t1.1 79 40 = nI r.length) (hN : Nd (nI (kc x)) 0 A B C K L (K :: L')) (hH : Hr L' t.1) : Lg e w p c (K + 1) r (K :: L') (w_sI (ad u e w K (nI (kc x)) 0) 36 8 (nI r.length)) (gw t1 K L'.length A B C) := by
  have d1 := TC_le hd
  obtain ⟨⟨k1, k2, k3, k4⟩, ⟨w3, h5⟩, ⟨s1, s2, s3⟩, ⟨l1, l2⟩, ⟨c1, c2⟩, ⟨q1, q2, q3⟩, hP, ⟨a1, a2, a3, a4, a5⟩⟩ := h
  have nO : nOp (x :: r) = 1 + nOp r := by
    show (if x = 0 then 0 else 1) + nOp r = _
    rw [if_neg hx]
  have nP : nPa (x :: r) = nPa r := by
    show (if x = 0 then 1 else 0) + nPa r = _
    rw [if_neg hx, Nat.zero_add]
  rw [nO] at c1
  rw [nP] at q1 q2 q3
  obtain ⟨u', hu'⟩ : ∃ u', u' = w_sI (ad u e w K (nI (kc x)) 0) 36 8 (nI r.length) := ⟨_, rfl⟩
  obtain ⟨t', ht'⟩ : ∃ t', t' = gw t1 K L'.length A B C := ⟨_, rfl⟩
  have UF : ∀ a j, ¬ ((a = e + 14 ∨ a = e + 15) ∧ j = K) → ¬ (a = e + 10 ∧ j = 0) → ¬ (a = e + 13 ∧ j = w) → ¬ (a = 36 ∧ j = 8) → u'.1 a j = u.1 a j := fun a j y1 y2 y3 y4 => by
    rw [hu', show ∀ (v : wSt) (x : Int32), (w_sI v 36 8 x).1 a j = v.1 a j from fun _ _ => if_neg y4]
    exact ad_n y1 y2 y3
  have TF : ∀ a j, ¬ ((a = 96 ∨ a = 98 ∨ a = 99) ∧ j = 64 + K) → ¬ (a = 101 ∧ j = L'.length) → ¬ (a = 79 ∧ (j = 19 ∨ j = 40 ∨ j = 41)) → t'.1 a j = t.1 a j := fun a j y1 y2 y3 => by
    rw [ht', gw_n y1 y2 (by omega)]
    exact f1 a j (by omega)
  have av := ad_v (u := u) (e := e) (w := w) (K := K) (X := nI (kc x)) (Y := 0)
  have gv := gw_v (t := t1) (K := K) (h := L'.length) (A := A) (B := B) (C := C)
  have u8 : ∀ a j, a ≠ 36 → u'.1 a j = (ad u e w K (nI (kc x)) 0).1 a j := fun a j y => by rw [hu']; exact sI_ne _ _ _ _ _ _ y
  rw [← hu', ← ht']
  rw [← ht'] at gv
  refine ⟨⟨?_, gv.2.2.2.2.2, ?_, ?_⟩, ⟨w3, ?_⟩, ⟨?_, ?_, ?_⟩, ⟨gv.2.2.2.2.1, gv.2.2.2.1, ?_⟩, ⟨by omega, c2⟩, ⟨?_, ?_, q3⟩, ?_, ⟨?_, ?_, ?_, ?_, ?_⟩⟩
  · rw [u8 _ _ (by omega)]; exact av.2.2.1
  · rw [UF _ _ (by omega) (by omega) (by omega) (by omega)]; exact k3
  · rw [TF _ _ (by omega) (by omega) (by omega)]; exact k4
  · rw [UF _ _ (by omega) (by omega) (by omega) (by omega)]; exact h5
  · rw [hu']; exact sI_eq _ _ _ _
  · rw [ht', gw_n (by omega) (by omega) (by omega)]; exact h40
  · exact Wr_fr r s3.2.2.2 (fun j hj => ⟨UF _ _ (by omega) (by omega) (by omega) (by omega), TF _ _ (by omega) (by omega) (by omega)⟩)
  · exact Hr_fr L' hH (fun j hj => TF _ _ (by omega) (by omega) (by omega))
  · rw [UF _ _ (by omega) (by omega) (by omega) (by omega)]; exact q1
  · rw [TF _ _ (by omega) (by omega) (by omega)]; exact q2
  · refine LgP_add hP (fun i hi => ⟨UF _ _ (by omega) (by omega) (by omega) (by omega), UF _ _ (by omega) (by omega) (by omega) (by omega)⟩) (fun i hi => ⟨TF _ _ (by omega) (by omega) (by omega), TF _ _ (by omega) (by omega) (by omega), TF _ _ (by omega) (by omega) (by omega)⟩) ?_
    rw [u8 _ _ (by omega), u8 _ _ (by omega), av.1, av.2.1, gv.1, gv.2.1, gv.2.2.1]
    exact hN
  · rw [UF _ _ (by omega) (by omega) (by omega) (by omega)]; exact a1
  · rw [TF _ _ (by omega) (by omega) (by omega)]; exact a2
  · rw [UF _ _ (by omega) (by omega) (by omega) (by omega)]; exact a3
  · rw [u8 _ _ (by omega)]; exact av.2.2.2
  · rw [TF _ _ (by omega) (by omega) (by omega)]; exact a5
theorem pd_1 (hp : PL u.2.2) (hd : TC e) (p3 : u.2.2 36 3 = e + 1) (h : Lg e w p c K (x :: r) L u t) (hm : m ≤ rk x) (m1 : 1 ≤ m) : F_X2_putDownFrom_b0 36 (nI m) u = some (.inl (w_sI (ad u e w K (nI (kc x)) 0) 36 8 (nI r.length))) := by
  have d1 := TC_le hd
  have hl := Lg_len h
  have pd16 := (PL_d hp hd).2.2.2.2.2.2.2.2.2.1
  have r6 := rk_le x
  obtain ⟨⟨k1, k2, k3, k4⟩, ⟨w3, h5⟩, ⟨s1, s2, s3⟩, ⟨l1, l2⟩, ⟨c1, c2⟩, ⟨q1, q2, q3⟩, hP, ⟨a1, a2, a3, a4, a5⟩⟩ := h
  have lw := lw_c (S := x :: r) hp s1 hl.1 s3
  have lw' : F_X2_lastWaiting 36 u = some (nI (kc x)) := lw
  have x0 : x ≠ 0 := by
    intro z
    rw [z] at hm
    have : rk 0 = 0 := rfl
    omega
  have nO : nOp (x :: r) = 1 + nOp r := by
    show (if x = 0 then 0 else 1) + nOp r = _
    rw [if_neg x0]
  have s1' : u.1 36 8 = nI (r.length + 1) := s1
  have e0 : (nI (r.length + 1) ≤ (0 : Int32)) = (r.length + 1 ≤ 0) := nI_leE (a := r.length + 1) (b := 0) (by have := hl.1; rw [List.length_cons] at this; omega) (by omega)
  have em : (nI (rk x) < nI m) = (rk x < m) := nI_ltE (by omega) (by omega)
  have es : nI (r.length + 1) - (1 : Int32) = nI r.length := nI_sub (a := r.length + 1) (b := 1) (by omega)
  unfold F_X2_putDownFrom_b0
  rw [s1', if_neg (fun z => absurd (e0.mp z) (by omega)), lw', wP_s, bind_o s3.1, wP_s, if_neg (fun z => absurd (em.mp z) (by omega)), p3, wR_d0 _ hd, pd16, wR_d10 _ hd, wP_s, h5, add_c hp hd k1 (by omega) w3, wC_s, wB_eq, ad_n (by omega) (by omega) (by omega), s1', es]
theorem bd_1 (hm' : PM t.2.2) (hd : TC e) (h : Lg e w p c K (x :: r) L u t) (hW : L.length = nBi (x :: r) + 1) (hm : m ≤ rk x) (m1 : 1 ≤ m) : ∃ t' L', F_X9_bind_b0 79 (nI m) t = some (.inl t') ∧ Lg e w p c (K + 1) r (K :: L') (w_sI (ad u e w K (nI (kc x)) 0) 36 8 (nI r.length)) t' ∧ (K :: L').length = nBi r + 1 ∧ t'.2 = t.2 ∧ (∀ a j, ¬ ((a = 96 ∨ a = 98 ∨ a = 99) ∧ j = 64 + K) → a ≠ 101 → ¬ (a = 79 ∧ (j = 19 ∨ j = 40 ∨ j = 41)) → t'.1 a j = t.1 a j) := by
  have d1 := TC_le hd
  have hl := Lg_len h
  have r6 := rk_le x
  have hLg := h
  obtain ⟨⟨k1, k2, k3, k4⟩, ⟨w3, h5⟩, ⟨s1, s2, s3⟩, ⟨l1, l2⟩, ⟨c1, c2⟩, ⟨q1, q2, q3⟩, hP, -⟩ := h
  have x0 : x ≠ 0 := by
    intro z
    rw [z] at hm
    have : rk 0 = 0 := rfl
    omega
  have nO : nOp (x :: r) = 1 + nOp r := by
    show (if x = 0 then 0 else 1) + nOp r = _
    rw [if_neg x0]
  have nB : nBi (x :: r) = (if 3 ≤ x then 1 else 0) + nBi r := rfl
  have hx : okS x := s3.1
  unfold okS at hx
  have hlr : r.length + 1 ≤ 72 := hl.1
  have s2' : t.1 79 40 = nI (r.length + 1) := s2
  have e0 : (nI (r.length + 1) ≤ (0 : Int32)) = (r.length + 1 ≤ 0) := nI_leE (a := r.length + 1) (b := 0) (by omega) (by omega)
  have em : (nI (rk x) < nI m) = (rk x < m) := nI_ltE (by omega) (by omega)
  have es : nI (r.length + 1) - (1 : Int32) = nI r.length := nI_sub (a := r.length + 1) (b := 1) (by omega)
  obtain ⟨t0, ht0⟩ : ∃ t0, t0 = w_sI t 79 40 (nI r.length) := ⟨_, rfl⟩
  have z0 : t0.2 = t.2 := by rw [ht0]; rfl
  have f0 : ∀ a j, ¬ (a = 79 ∧ j = 40) → t0.1 a j = t.1 a j := fun a j y => by rw [ht0]; exact if_neg y
  have g40 : t0.1 79 40 = nI r.length := by rw [ht0]; exact sI_eq _ _ _ _
  have x2 : (nI x = (2 : Int32)) = (x = 2) := nI_eqI (a := x) (b := 2) (by omega) (by omega)
  unfold F_X9_bind_b0 F_X9_bind_j58
  rw [s2', if_neg (fun z => absurd (e0.mp z) (by omega)), qm38 hm', wR_100, es, wN_100 _ (by omega), s3.2.2.1, rank_t (by omega), wP_s, if_neg (fun z => absurd (em.mp z) (by omega)), wB_eq, ← ht0, z0, qm38 hm', wR_100, g40, wN_100 _ (by omega), f0 100 _ (by omega), s3.2.2.1, wB_eq]
  cases L with
  | nil => exact absurd hW (by rw [List.length_nil]; omega)
  | cons b L1 =>
    have hW' : L1.length + 1 = nBi (x :: r) + 1 := hW
    by_cases q2' : x = 2
    · have nB2 : nBi (x :: r) = nBi r := by rw [nB, if_neg (by omega)]; omega
      have l1' : t0.1 79 41 = nI (L1.length + 1) := by rw [f0 _ _ (by omega)]; exact l1
      obtain ⟨t1, ht1⟩ : ∃ t1, t1 = w_sI t0 79 41 (nI L1.length) := ⟨_, rfl⟩
      have z1 : t1.2 = t.2 := by rw [ht1]; exact z0
      have f1 : ∀ a j, ¬ (a = 79 ∧ (j = 40 ∨ j = 41)) → t1.1 a j = t.1 a j := fun a j y => by
        rw [ht1, show ∀ (v : wSt) (x : Int32), (w_sI v 79 41 x).1 a j = v.1 a j from fun _ _ => if_neg (by omega)]
        exact f0 a j (by omega)
      rw [if_pos (x2.mpr q2'), wJ_inl, drop_t (by rw [z0]; exact hm') l1' (by omega), wC_s, ← ht1, f0 101 _ (by omega), l2.1, grown_t (by rw [z1]; exact hm') (K := K) (h := L1.length) (by rw [f1 _ _ (by omega)]; exact k2) (by omega) (by rw [ht1]; exact sI_eq _ _ _ _) (by omega), wC_s]
      refine ⟨_, L1, rfl, Lg_bind hd hLg x0 z1 f1 (by rw [ht1, sI_ne2 _ _ _ _ _ _ (by decide)]; exact g40) ?_ l2.2, by rw [List.length_cons]; omega, z1, fun a j y1 y2 y3 => by rw [gw_n y1 (fun z => y2 z.1) (by omega)]; exact f1 a j (by omega)⟩
      exact Or.inr (Or.inr (Or.inl ⟨b, L1, rfl, by rw [q2']; rfl, by rw [q2']; rfl, rfl, rfl⟩))
    · have hx3 : 3 ≤ x ∧ x < 15 := by omega
      have nB2 : nBi (x :: r) = 1 + nBi r := by rw [nB, if_pos hx3.1]
      cases L1 with
      | nil => exact absurd hW' (by rw [List.length_nil]; omega)
      | cons a L2 =>
        have hW2 : L2.length + 1 + 1 = nBi (x :: r) + 1 := hW
        have l1' : t0.1 79 41 = nI (L2.length + 1 + 1) := by rw [f0 _ _ (by omega)]; exact l1
        have lb : t0.1 101 (L2.length + 1) = nI b := by rw [f0 _ _ (by omega)]; exact l2.1
        obtain ⟨t9, ht9⟩ : ∃ t9, t9 = w_sI t0 79 41 (nI (L2.length + 1)) := ⟨_, rfl⟩
        have z9 : t9.2 = t.2 := by rw [ht9]; exact z0
        have la : t9.1 101 L2.length = nI a := by rw [ht9, sI_ne _ _ _ _ _ _ (by decide), f0 _ _ (by omega)]; exact l2.2.1
        obtain ⟨t1, ht1⟩ : ∃ t1, t1 = w_sI t9 79 41 (nI L2.length) := ⟨_, rfl⟩
        have z1 : t1.2 = t.2 := by rw [ht1]; exact z9
        have f1 : ∀ a j, ¬ (a = 79 ∧ (j = 40 ∨ j = 41)) → t1.1 a j = t.1 a j := fun a j y => by
          rw [ht1, show ∀ (v : wSt) (x : Int32), (w_sI v 79 41 x).1 a j = v.1 a j from fun _ _ => if_neg (by omega), ht9, show ∀ (v : wSt) (x : Int32), (w_sI v 79 41 x).1 a j = v.1 a j from fun _ _ => if_neg (by omega)]
          exact f0 a j (by omega)
        rw [if_neg (fun z => absurd (x2.mp z) q2'), drop_t (by rw [z0]; exact hm') l1' (by omega), wC_s, ← ht9, lb, wJ_inl]
        dsimp only
        rw [drop_t (by rw [z9]; exact hm') (m := L2.length) (by rw [ht9]; exact sI_eq _ _ _ _) (by omega), wC_s, ← ht1, la, grown_t (by rw [z1]; exact hm') (K := K) (h := L2.length) (by rw [f1 _ _ (by omega)]; exact k2) (by omega) (by rw [ht1]; exact sI_eq _ _ _ _) (by omega), wC_s]
        refine ⟨_, L2, rfl, Lg_bind hd hLg x0 z1 f1 (by rw [ht1, sI_ne2 _ _ _ _ _ _ (by decide), ht9, sI_ne2 _ _ _ _ _ _ (by decide)]; exact g40) ?_ l2.2.2, by rw [List.length_cons]; omega, z1, fun a j y1 y2 y3 => by rw [gw_n y1 (fun z => y2 z.1) (by omega)]; exact f1 a j (by omega)⟩
        refine Or.inr (Or.inr (Or.inr ⟨b, a, L2, rfl, ⟨x, hx3.1, hx3.2, ?_, rfl⟩, rfl, rfl, rfl⟩))
        unfold kc
        rw [if_neg x0, if_neg q2']
theorem bind_rl (hp : PL u.2.2) (hm' : PM t.2.2) (hd : TC e) (p3 : u.2.2 36 3 = e + 1) (h : Lg e w p c K S L u t) (hW : L.length = nBi S + 1) (hh : ∃ r, L = (K - 1) :: r) (hpK : p < K) (m1 : 1 ≤ m) (m6 : m ≤ 6) : ∃ (u' t' : wSt) (K' : Nat) (S' L' : List Nat), F_X2_putDownFrom 36 (nI m) u = some ((), u') ∧ F_X9_bind 79 (nI m) t = some ((), t') ∧ uB e w p u u' ∧ tB p t t' ∧ Lg e w p c K' S' L' u' t' ∧ L'.length = nBi S' + 1 ∧ (∃ r, L' = (K' - 1) :: r) ∧ p < K' ∧ rk (S'.headD 0) < m ∧ nPa S' = nPa S := by
  have d1 := TC_le hd
  have hl := Lg_len h
  have key : Rl (fun y z => ∃ (u' t' : wSt) (K' : Nat) (S' L' : List Nat), y = ((), u') ∧ z = ((), t') ∧ uB e w p u u' ∧ tB p t t' ∧ Lg e w p c K' S' L' u' t' ∧ L'.length = nBi S' + 1 ∧ (∃ r, L' = (K' - 1) :: r) ∧ p < K' ∧ rk (S'.headD 0) < m ∧ nPa S' = nPa S) (F_X2_putDownFrom 36 (nI m) u) (F_X9_bind 79 (nI m) t) := by
    unfold F_X2_putDownFrom F_X9_bind
    refine wL_rl (fun k u' t' => ∃ (K' : Nat) (S' L' : List Nat), S'.length + k = S.length ∧ uB e w p u u' ∧ tB p t t' ∧ Lg e w p c K' S' L' u' t' ∧ L'.length = nBi S' + 1 ∧ (∃ r, L' = (K' - 1) :: r) ∧ p < K' ∧ nPa S' = nPa S) _ S.length (by have := hl.1; unfold wFu; omega) ?_ ⟨K, S, L, by omega, ⟨rfl, fun _ _ _ _ _ _ => rfl⟩, ⟨rfl, fun _ _ _ _ _ => rfl⟩, h, hW, hh, hpK, rfl⟩
    rintro k v w' hk ⟨K1, S1, L1, n1, uB1, tB1, hL1, hW1, hh1, hp1, hn1⟩
    have hpv : PL v.2.2 := by rw [uB1.1]; exact hp
    have hmv : PM w'.2.2 := by rw [tB1.1]; exact hm'
    have p3v : v.2.2 36 3 = e + 1 := by rw [uB1.1]; exact p3
    have hl1 := Lg_len hL1
    cases S1 with
    | nil =>
      right
      have s1 : v.1 36 8 = nI 0 := hL1.2.2.1.1
      have s2 : w'.1 79 40 = nI 0 := hL1.2.2.1.2.1
      refine ⟨((), v), ((), w'), ?_, ?_, v, w', K1, [], L1, rfl, rfl, uB1, tB1, hL1, hW1, hh1, hp1, ?_, hn1⟩
      · unfold F_X2_putDownFrom_b0
        rw [s1]
        exact if_pos (by decide)
      · unfold F_X9_bind_b0
        rw [s2]
        exact if_pos (by decide)
      · have : rk 0 = 0 := rfl
        show rk 0 < m
        omega
    | cons x r =>
      by_cases hx : rk x < m
      · right
        have r6 := rk_le x
        have hlr : r.length + 1 ≤ 72 := hl1.1
        have s1' : v.1 36 8 = nI (r.length + 1) := hL1.2.2.1.1
        have s2' : w'.1 79 40 = nI (r.length + 1) := hL1.2.2.1.2.1
        have s3 := hL1.2.2.1.2.2
        have hx' : okS x := s3.1
        unfold okS at hx'
        have lw' : F_X2_lastWaiting 36 v = some (nI (kc x)) := lw_c (S := x :: r) hpv hL1.2.2.1.1 hl1.1 s3
        have e0 : (nI (r.length + 1) ≤ (0 : Int32)) = (r.length + 1 ≤ 0) := nI_leE (a := r.length + 1) (b := 0) (by omega) (by omega)
        have em : (nI (rk x) < nI m) = (rk x < m) := nI_ltE (by omega) (by omega)
        have es : nI (r.length + 1) - (1 : Int32) = nI r.length := nI_sub (a := r.length + 1) (b := 1) (by omega)
        refine ⟨((), v), ((), w'), ?_, ?_, v, w', K1, x :: r, L1, rfl, rfl, uB1, tB1, hL1, hW1, hh1, hp1, hx, hn1⟩
        · unfold F_X2_putDownFrom_b0
          rw [s1', if_neg (fun z => absurd (e0.mp z) (by omega)), lw', wP_s, bind_o s3.1, wP_s, if_pos (em.mpr hx)]
        · unfold F_X9_bind_b0
          rw [s2', if_neg (fun z => absurd (e0.mp z) (by omega)), qm38 hmv, wR_100, es, wN_100 _ (by omega), s3.2.2.1, rank_t (by omega), wP_s, if_pos (em.mpr hx)]
      · left
        have n1' : r.length + 1 + k = S.length := n1
        have b1 := pd_1 hpv hd p3v hL1 (m := m) (by omega) m1
        obtain ⟨t', L', b2, b3, b4, b5, b6⟩ := bd_1 hmv hd hL1 hW1 (m := m) (by omega) m1
        have x0 : x ≠ 0 := by
          intro z
          rw [z] at hx
          have : rk 0 = 0 := rfl
          omega
        refine ⟨_, t', b1, b2, by omega, K1 + 1, r, K1 :: L', by omega, ⟨uB1.1, fun a j y1 y2 y3 y4 => ?_⟩, ⟨b5.trans tB1.1, fun a j y1 y2 y3 => ?_⟩, b3, b4, ⟨L', rfl⟩, by omega, ?_⟩
        · rw [show ∀ (v : wSt) (x : Int32), (w_sI v 36 8 x).1 a j = v.1 a j from fun _ _ => if_neg y1, ad_n (by omega) y2 y3]
          exact uB1.2 a j y1 y2 y3 y4
        · rw [b6 a j (by omega) y2 y1]
          exact tB1.2 a j y1 y2 y3
        · rw [← hn1]
          show nPa r = (if x = 0 then 1 else 0) + nPa r
          rw [if_neg x0, Nat.zero_add]
  obtain ⟨y, z, h1, h2, u', t', K', S', L', rfl, rfl, h3⟩ := key
  exact ⟨u', t', K', S', L', h1, h2, h3⟩
end

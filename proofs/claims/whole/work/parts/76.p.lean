/-! seating, feeding, waking; undone -/
section
variable {n m k d c b B : Nat} {u t : wSt}
theorem GR_deed {u' t' : wSt} (h : GR n m k d u t) (hr : u'.2 = u.2) (hr' : t'.2 = t.2) (hU : ∀ a j, ¬ (a = 44 ∨ a = 46 ∨ (a = 43 ∧ j = 2) ∨ (66 ≤ a ∧ a ≤ 69)) → u'.1 a j = u.1 a j) (hT : ∀ a j, ¬ (a = 105 ∨ a = 106 ∨ a = 107 ∨ a = 116 ∨ (a = 79 ∧ j = 74)) → t'.1 a j = t.1 a j) (hg : ∀ g, g < n → t'.1 106 g = u'.1 44 g ∧ t'.1 105 g = u'.1 46 g ∧ t'.1 107 g = bI (bt (u'.1 43 2) g = false)) (hP : SP n 43 u'.1) (hh : ∀ g, g < n → ∃ h : Nat, h ≤ 101 ∧ u'.1 46 g = nI h ∧ (bt (u'.1 43 2) g = false → h ≤ 98)) (h2 : ∀ g, n ≤ g → bt (u'.1 43 2) g = false) (hUn : Un n u'.1 t'.1) : GR n m k d u' t' := by
  have n6 := h.2.2.2.2.2.1.1.1
  have hS := h.2.2.2.2.2.2.1
  obtain ⟨o1, o2⟩ := Sc_old hS
  have hI := h.2.2.2.2.2.2.2.2.2.2.1
  have hG := h.2.2.2.2.2.2.2.2.2.2.2.2.1
  have hs := h.2.2.2.2.2.2.2.1
  have hN := h.2.2.2.2.2.2.2.2.2.1
  refine GR_upd h (fun a j _ => by rw [hr]) (by rw [hr']) (fun a j w _ => hU a j (by omega)) (fun j w _ => hT 79 j (by omega)) (fun a j w r => hT a j (by omega)) (Sc_new hS (hU _ _ (by omega)) (hT _ _ (by omega)) (fun g q => ?_) (fun f q => ?_) (fun g q => ?_) hh h2 (fun f q => ?_)) (by rw [hU 43 0 (by omega)]; exact hs) hP (by rw [hU 43 1 (by omega), hr']; exact hN) ?_ hUn (Sg_fr hG (fun a w r => funext (fun j => hU a j (by omega))) (hT _ _ (by omega)) (hT _ _ (by omega)) (funext (fun j => hT _ _ (by omega))))
  · have z := o1 g q
    have y := hg g q
    rw [hU 45 g (by omega), hU 47 g (by omega), hT 104 g (by omega), hT 108 g (by omega)]
    exact ⟨y.1, z.2.1, y.2.1, z.2.2.2.1, y.2.2⟩
  · rw [hU 48 f (by omega), hU 49 f (by omega), hU 43 3 (by omega), hT 109 f (by omega), hT 110 f (by omega), hT 111 f (by omega)]
    exact o2 f q
  · obtain ⟨s, hs, es⟩ := hP.1 g q
    exact ⟨s, by omega, es⟩
  · rw [hU 43 3 (by omega)]
    exact hS.2.2.2.2.2.2 f q
  · rw [hr']
    exact Im_fr hI (hU _ _ (by omega)) (fun a w r => funext (fun j => hU a j (by omega))) (hT _ _ (by omega)) (fun a w r => funext (fun j => hT a j (by omega)))
theorem swap_c {i j : Nat} (hp : PL u.2.2) (hi : i < 6) (hj : j < 6) : F_X3_changeSeats 43 (nI i) (nI j) u = some ((), w_sI (w_sI u 44 i (u.1 44 j)) 44 j (u.1 44 i)) := by
  have r4 : u.2.2 43 4 = 45 := by simp only [PL_u hp]
  unfold F_X3_changeSeats
  rw [r4, wR_44, wN_44 _ hi, wB_eq, wR_44, wR_44, wN_44 _ hj, wSI_eq, wN_44 _ hi, sI_r, r4, wR_44, wSI_eq, wN_44 _ hj]
theorem SP_swap {U U' : Nat → Nat → Int32} {i j : Nat} (h : SP n 43 U) (hi : i < n) (hj : j < n) (hij : i ≠ j) (hU : ∀ g, g < n → U' 44 g = if g = i then U 44 j else if g = j then U 44 i else U 44 g) : SP n 43 U' := by
  refine ⟨fun g hg => ?_, fun g g' hg hg' e => ?_⟩
  · show ∃ s : Nat, s < n ∧ U' 44 g = nI s
    rw [hU g hg]
    by_cases w1 : g = i
    · rw [if_pos w1]
      exact h.1 j hj
    · rw [if_neg w1]
      by_cases w2 : g = j
      · rw [if_pos w2]
        exact h.1 i hi
      · rw [if_neg w2]
        exact h.1 g hg
  · have e : U' 44 g = U' 44 g' := e
    have inj : ∀ a b, a < n → b < n → U 44 a = U 44 b → a = b := h.2
    rw [hU g hg, hU g' hg'] at e
    by_cases w1 : g = i
    · rw [if_pos w1] at e
      by_cases v1 : g' = i
      · omega
      · rw [if_neg v1] at e
        by_cases v2 : g' = j
        · rw [if_pos v2] at e
          have := inj j i hj hi e
          omega
        · rw [if_neg v2] at e
          have := inj j g' hj hg' e
          omega
    · rw [if_neg w1] at e
      by_cases w2 : g = j
      · rw [if_pos w2] at e
        by_cases v1 : g' = i
        · rw [if_pos v1] at e
          have := inj i j hi hj e
          omega
        · rw [if_neg v1] at e
          by_cases v2 : g' = j
          · omega
          · rw [if_neg v2] at e
            have := inj i g' hi hg' e
            omega
      · rw [if_neg w2] at e
        by_cases v1 : g' = i
        · rw [if_pos v1] at e
          have := inj g j hg hj e
          omega
        · rw [if_neg v1] at e
          by_cases v2 : g' = j
          · rw [if_pos v2] at e
            have := inj g i hg hi e
            omega
          · rw [if_neg v2] at e
            exact inj g g' hg hg' e
theorem bI_01 {x : Int32} {p : Prop} [Decidable p] (h : x = bI p) : (if x = 0 then (0 : Int32) else 1) = bI p := by
  by_cases q : p
  · rw [h, bI_t q]; decide
  · rw [h, bI_f q]; decide
theorem d_eq {q δ δ' : Nat} (h : (δ = 0 ∧ q < 20) ∨ (δ = 1 ∧ q = 20)) (h' : (δ' = 0 ∧ q < 20) ∨ (δ' = 1 ∧ q = 20)) : δ' = δ := by omega
theorem M_seat {x y : Int32} (h : GR n m k d u t) : QM (F_X8_seat 0 x y u) (F_X9_seat 79 x y t) := by
  unfold F_X9_seat
  obtain ⟨t0, et⟩ : ∃ t0, t0 = w_sI t 79 2 (0 : Int32) := ⟨_, rfl⟩
  have hK0 : KT t t0 := by rw [et]; exact KT_s (by unfold scr; omega)
  have h := GR_fr h (KC_rf u) hK0
  rw [wB_eq, ← et]
  obtain ⟨r, a1, a2, a3⟩ := two (x := x) (y := y) (GR_Vw h)
  unfold F_X8_seat
  rw [a1, wP_s, a2, wP_s]
  rcases a3 with rfl | ⟨rfl, i, j, hi, hj, hij, rfl, rfl⟩
  · rw [if_pos rfl, if_pos rfl]
    exact ⟨_, u, t0, rfl, rfl, n, m, k, d, h⟩
  · have n10 : ¬ (1 : Int32) = 0 := by decide
    have n6 := h.2.2.2.2.2.1.1.1
    have hS := h.2.2.2.2.2.2.1
    obtain ⟨o1, o2⟩ := Sc_old hS
    have hP := h.2.2.2.2.2.2.2.2.1
    have hUn := h.2.2.2.2.2.2.2.2.2.2.2.1
    obtain ⟨q, hq, q1, q2, -⟩ := hUn
    have hUn := h.2.2.2.2.2.2.2.2.2.2.2.1
    have r5 : u.2.2 0 5 = 44 := by simp only [PL_u h.1]
    obtain ⟨u1, eu1⟩ : ∃ u1, u1 = w_sI (w_sI u 44 i (u.1 44 j)) 44 j (u.1 44 i) := ⟨_, rfl⟩
    have u1n : ∀ a l, a ≠ 44 → u1.1 a l = u.1 a l := fun a l w => by rw [eu1, sI_ne _ _ _ _ _ _ w, sI_ne _ _ _ _ _ _ w]
    have u14 : ∀ g, u1.1 44 g = if g = i then u.1 44 j else if g = j then u.1 44 i else u.1 44 g := fun g => by
      rw [eu1, sI_row]
      by_cases w2 : g = j
      · rw [if_pos w2, if_neg (by omega), if_pos w2]
      · rw [if_neg w2, sI_row]
        by_cases w1 : g = i
        · rw [if_pos w1, if_pos w1]
        · rw [if_neg w1, if_neg w1, if_neg w2]
    have u12 : u1.2 = u.2 := by rw [eu1]; rfl
    have hp1 : PL u1.2.2 := by rw [u12]; exact h.1
    have r10 : u1.2.2 0 10 = 67 := by simp only [PL_u hp1]
    obtain ⟨u2, δ, b1, b2, b3, b4, b5, b6, b7, b8, b9⟩ := put7 (e := 0) (a := nI i) (b := nI j) hp1 (by rw [u1n 66 0 (by decide)]; exact q1) hq
    obtain ⟨t1, δ', c1, c2, c3, c4, c5, c6, c7⟩ := rem9 h.2.1 q2 hq
    rw [d_eq b1 c1] at c5 c6 c7
    have hm1 : PM t1.2.2 := by rw [c3]; exact h.2.1
    have q51 : t1.2.2 79 51 = 107 := by simp only [PM_u hm1]
    obtain ⟨t2, et2⟩ : ∃ t2, t2 = w_sI (w_sI t1 106 i (t1.1 106 j)) 106 j (t1.1 106 i) := ⟨_, rfl⟩
    have t2n : ∀ a l, a ≠ 106 → t2.1 a l = t1.1 a l := fun a l w => by rw [et2, sI_ne _ _ _ _ _ _ w, sI_ne _ _ _ _ _ _ w]
    have t24 : ∀ g, t2.1 106 g = if g = i then t1.1 106 j else if g = j then t1.1 106 i else t1.1 106 g := fun g => by
      rw [et2, sI_row]
      by_cases w2 : g = j
      · rw [if_pos w2, if_neg (by omega), if_pos w2]
      · rw [if_neg w2, sI_row]
        by_cases w1 : g = i
        · rw [if_pos w1, if_pos w1]
        · rw [if_neg w1, if_neg w1, if_neg w2]
    rw [if_neg n10, if_neg n10, r5, wR_43, swap_c h.1 (by omega) (by omega), wC_s, ← eu1, r10, wR_66, b2, wC_s, c2, wC_s, q51, wR_106, wN_106 _ (by omega), wB_eq, wR_106, wR_106, wN_106 _ (by omega), wSI_eq, wN_106 _ (by omega), sI_r, q51, wR_106, wSI_eq, wN_106 _ (by omega), ← et2]
    have u24 : ∀ g, u2.1 44 g = if g = i then u.1 44 j else if g = j then u.1 44 i else u.1 44 g := fun g => by rw [b4 44 g (by omega)]; exact u14 g
    have u2o : ∀ a l, ¬ (a = 44) → ¬ (66 ≤ a ∧ a ≤ 69) → u2.1 a l = u.1 a l := fun a l w1 w2 => by rw [b4 a l w2, u1n a l w1]
    refine ⟨1, u2, t2, rfl, rfl, n, m, k, d, GR_deed h (b3.trans u12) (by rw [et2]; exact c3) (fun a l w => u2o a l (by omega) (by omega)) (fun a l w => by rw [t2n a l (by omega)]; exact c4 a l (by omega)) (fun g hg => ?_) (SP_swap hP hi hj hij (fun g _ => u24 g)) (fun g hg => ?_) (fun g hg => ?_) (Un_put n6 hUn q1 b1 b5 (fun a l w1 w2 w3 => by rw [b6 a l w1 w2 w3, u1n _ _ (by omega)]) (by rw [t2n _ _ (by decide)]; exact c5) (fun l hl => by rw [t2n _ _ (by decide)]; exact c6 l hl) (fun g hg => ?_) ?_)⟩
    · rw [t24 g, u24 g, t2n 105 g (by decide), t2n 107 g (by decide), c4 106 j (by omega), c4 106 i (by omega), c4 106 g (by omega), c4 105 g (by omega), c4 107 g (by omega), u2o 46 g (by omega) (by omega), u2o 43 2 (by omega) (by omega), (o1 g hg).1, (o1 i hi).1, (o1 j hj).1]
      exact ⟨rfl, (o1 g hg).2.2.1, (o1 g hg).2.2.2.2⟩
    · rw [u2o 46 g (by omega) (by omega), u2o 43 2 (by omega) (by omega)]
      exact hS.2.2.2.2.1 g hg
    · rw [u2o 43 2 (by omega) (by omega)]
      exact hS.2.2.2.2.2.1 g hg
    · have z := c7 g (by omega)
      rw [t2n _ _ (by decide), t2n _ _ (by decide), t2n _ _ (by decide), z.1, z.2.1, z.2.2]
      exact ⟨(o1 g hg).1, (o1 g hg).2.2.1, bI_01 (o1 g hg).2.2.2.2⟩
    · refine Or.inl ⟨i, j, hi, hj, hij, b7, b8, b9, fun g hg => ?_, fun g hg => (u2o 46 g (by omega) (by omega)).symm, (u2o 43 2 (by omega) (by omega)).symm⟩
      rw [u24 j, u24 i, u24 g]
      by_cases w1 : g = i
      · rw [if_pos w1, if_neg (by omega), if_pos rfl, w1]
      · rw [if_neg w1]
        by_cases w2 : g = j
        · rw [if_pos w2, if_pos rfl, w2]
        · rw [if_neg w2, if_neg w1, if_neg w2]
theorem max_sub {H Y : Nat} (hH : H < 1000) (hY : Y < 1000) : w_max 0 (nI H - nI Y) = if nI H ≤ nI Y then 0 else nI (H - Y) := by
  rw [max0_e]
  have e := nI_leE (a := H) (b := Y) (by omega) (by omega)
  have et : (nI H - nI Y).toInt = (H : Int) - (Y : Int) := by
    rw [i_sub (by rw [nI_toInt (by omega), nI_toInt (by omega)]; omega) (by rw [nI_toInt (by omega), nI_toInt (by omega)]; omega), nI_toInt (by omega), nI_toInt (by omega)]
  by_cases w : H ≤ Y
  · rw [if_pos (show nI H ≤ nI Y by rw [e]; exact w)]
    by_cases w2 : H = Y
    · subst w2
      rw [nI_sub (Nat.le_refl H), Nat.sub_self]
      decide
    · rw [if_neg]
      rw [Int32.le_iff_toInt_le, et, show (0 : Int32).toInt = 0 from by decide]
      omega
  · rw [if_neg (show ¬ nI H ≤ nI Y by rw [e]; exact w), if_pos, nI_sub (by omega)]
    rw [Int32.le_iff_toInt_le, et, show (0 : Int32).toInt = 0 from by decide]
    omega
theorem M_bread {x y : Int32} (h : GR n m k d u t) : QM (F_X8_bread 0 x y u) (F_X9_bread 79 x y t) := by
  unfold F_X9_bread
  obtain ⟨t0, et⟩ : ∃ t0, t0 = w_sI t 79 2 (0 : Int32) := ⟨_, rfl⟩
  have hK0 : KT t t0 := by rw [et]; exact KT_s (by unfold scr; omega)
  have h := GR_fr h (KC_rf u) hK0
  rw [wB_eq, ← et]
  have n10 : ¬ (1 : Int32) = 0 := by decide
  have n6 := h.2.2.2.2.2.1.1.1
  have fin : QM (some ((-1 : Int32), u)) (some ((-1 : Int32), t0)) := ⟨_, u, t0, rfl, rfl, n, m, k, d, h⟩
  obtain ⟨r, r', a1, a2, a3⟩ := there_c (x := x) (GR_Vw h)
  have q52 : t0.2.2 79 52 = 108 := by simp only [PM_u h.2.1]
  have hS := h.2.2.2.2.2.2.1
  obtain ⟨o1, o2⟩ := Sc_old hS
  unfold F_X8_bread F_X9_isIn
  rw [a1, wP_s, a2, wP_s]
  rcases a3 with ⟨rfl, rfl | ⟨g, hg, rfl, rfl, hq⟩⟩ | ⟨rfl, rfl, g, hg, rfl, hb⟩
  · rw [if_pos rfl, if_pos rfl]
    exact fin
  · rw [if_pos rfl, if_neg n10, q52, wR_107, wN_107 _ (by omega), (o1 g hg).2.2.2.2, bI_f (by rw [hq]; decide), if_pos rfl]
    exact fin
  rw [if_neg n10, if_neg n10, q52, wR_107, wN_107 _ (by omega), (o1 g hg).2.2.2.2, bI_t hb, if_neg n10]
  by_cases y0 : y < 1
  · rw [if_pos y0, if_pos y0, wP_s, if_pos rfl]
    exact fin
  rw [if_neg y0, if_neg y0]
  by_cases y9 : y ≤ 99
  · have y9' : ¬ (99 : Int32) < y := by rw [i_nlt]; exact y9
    have y00 : ¬ y < 0 := by
      rw [Int32.lt_iff_toInt_lt] at y0 ⊢
      rw [show (1 : Int32).toInt = 1 from by decide] at y0
      rw [show (0 : Int32).toInt = 0 from by decide]
      omega
    obtain ⟨Y, hY, rfl⟩ := in_rng (p := 99) (by omega) y00 y9'
    obtain ⟨H, hH1, eH, hH2⟩ := hS.2.2.2.2.1 g hg
    have hH := hH2 hb
    have eH : u.1 46 g = nI H := eH
    have hP := h.2.2.2.2.2.2.2.2.1
    have hUn := h.2.2.2.2.2.2.2.2.2.2.2.1
    obtain ⟨q, hq, q1, q2, -⟩ := hUn
    have hUn := h.2.2.2.2.2.2.2.2.2.2.2.1
    have r5 : u.2.2 0 5 = 44 := by simp only [PL_u h.1]
    have r10 : u.2.2 0 10 = 67 := by simp only [PL_u h.1]
    have r46 : u.2.2 43 6 = 47 := by simp only [PL_u h.1]
    obtain ⟨u1, δ, b1, b2, b3, b4, b5, b6, b7, b8, b9⟩ := put7 (e := 1) (a := nI g) (b := nI H) h.1 q1 hq
    obtain ⟨t1, δ', c1, c2, c3, c4, c5, c6, c7⟩ := rem9 h.2.1 q2 hq
    rw [d_eq b1 c1] at c5 c6 c7
    have hp1 : PL u1.2.2 := by rw [b3]; exact h.1
    have hm1 : PM t1.2.2 := by rw [c3]; exact h.2.1
    have r5' : u1.2.2 0 5 = 44 := by simp only [PL_u hp1]
    have r46' : u1.2.2 43 6 = 47 := by simp only [PL_u hp1]
    have q50 : t1.2.2 79 50 = 106 := by simp only [PM_u hm1]
    have e46 : u1.1 46 g = nI H := by rw [b4 46 g (by omega)]; exact eH
    have e105 : t1.1 105 g = nI H := by rw [c4 105 g (by omega), (o1 g hg).2.2.1]; exact eH
    obtain ⟨R, hR, hR2⟩ : ∃ R : Nat, R ≤ H ∧ (if nI H ≤ nI Y then 0 else nI (H - Y)) = nI R := by
      split
      · exact ⟨0, by omega, rfl⟩
      · exact ⟨H - Y, by omega, rfl⟩
    rw [if_pos y9, if_neg y9', wP_s, if_neg n10, r10, wR_66, r5, wR_43, r46, wR_46, wN_46 _ (by omega), eH, b2, wC_s, r5', wR_43, r46', wR_46, wR_43, r46', wR_46, wN_46 _ (by omega), e46, max_sub (by omega) (by omega), hR2, wSI_eq, wN_46 _ (by omega), sI_r, r5', wR_43, r46', wR_46, wN_46 _ (by omega), sI_eq, c2, wC_s, q50, wR_105, wR_105, wN_105 _ (by omega), e105]
    have tail : wJ (X := Int32 × wSt) (if nI H ≤ nI Y then (some (.inl ((0 : Int32), t1))) else (wR 106 14 (fun o19 => wN (nI g) o19 (fun j20 => some (.inl (((t1.1 o19 j20) - nI Y), t1)))))) (fun x => F_X9_bread_j65 105 (nI g) 79 x.1 x.2) = some (nI R, w_sI t1 105 g (nI R)) := by
      unfold F_X9_bread_j65
      by_cases w : nI H ≤ nI Y
      · rw [if_pos w] at hR2
        rw [if_pos w, wJ_inl, ← hR2, wSI_eq, wN_105 _ (by omega), sI_r, q50, wR_105, wN_105 _ (by omega), sI_eq]
      · have wl : ¬ H ≤ Y := by rw [nI_leE (by omega) (by omega)] at w; exact w
        rw [if_neg w] at hR2
        rw [if_neg w, wR_105, wN_105 _ (by omega), wJ_inl, e105, nI_sub (by omega), hR2, wSI_eq, wN_105 _ (by omega), sI_r, q50, wR_105, wN_105 _ (by omega), sI_eq]
    rw [tail]
    have u2n : ∀ a l, ¬ (a = 46 ∧ l = g) → (w_sI u1 46 g (nI R)).1 a l = u1.1 a l := fun a l w => if_neg w
    have t2n : ∀ a l, ¬ (a = 105 ∧ l = g) → (w_sI t1 105 g (nI R)).1 a l = t1.1 a l := fun a l w => if_neg w
    refine ⟨_, _, _, rfl, rfl, n, m, k, d, GR_deed h b3 c3 (fun a l w => by rw [u2n a l (by omega)]; exact b4 a l (by omega)) (fun a l w => by rw [t2n a l (by omega)]; exact c4 a l (by omega)) (fun g' hg' => ?_) (SP_fr hP (fun g' _ => by rw [u2n _ _ (by omega)]; exact b4 _ _ (by omega))) (fun g' hg' => ?_) (fun g' hg' => ?_) (Un_put n6 hUn q1 b1 (by rw [u2n _ _ (by omega)]; exact b5) (fun a l w1 w2 w3 => by rw [u2n _ _ (by omega)]; exact b6 a l w1 w2 w3) (by rw [t2n _ _ (by omega)]; exact c5) (fun l hl => by rw [t2n _ _ (by omega)]; exact c6 l hl) (fun g' hg' => ?_) ?_)⟩
    · rw [t2n 106 g' (by omega), u2n 44 g' (by omega), t2n 107 g' (by omega), u2n 43 2 (by omega), c4 106 g' (by omega), b4 44 g' (by omega), c4 107 g' (by omega), b4 43 2 (by omega)]
      refine ⟨(o1 g' hg').1, ?_, (o1 g' hg').2.2.2.2⟩
      by_cases w : g' = g
      · rw [w, sI_eq, sI_eq]
      · rw [t2n 105 g' (by omega), u2n 46 g' (by omega), c4 105 g' (by omega), b4 46 g' (by omega)]
        exact (o1 g' hg').2.2.1
    · rw [u2n 43 2 (by omega), b4 43 2 (by omega)]
      by_cases w : g' = g
      · rw [w, sI_eq]
        exact ⟨R, by omega, rfl, fun _ => by omega⟩
      · rw [u2n 46 g' (by omega), b4 46 g' (by omega)]
        exact hS.2.2.2.2.1 g' hg'
    · rw [u2n 43 2 (by omega), b4 43 2 (by omega)]
      exact hS.2.2.2.2.2.1 g' hg'
    · have z := c7 g' (by omega)
      rw [t2n _ _ (by omega), t2n _ _ (by omega), t2n _ _ (by omega), z.1, z.2.1, z.2.2]
      exact ⟨(o1 g' hg').1, (o1 g' hg').2.2.1, bI_01 (o1 g' hg').2.2.2.2⟩
    · rw [u2n 67 _ (by omega), u2n 68 _ (by omega), u2n 69 _ (by omega)]
      refine Or.inr (Or.inl ⟨g, H, hg, hH, b7, b8, b9, fun g' hg' => ?_, fun g' hg' => ?_, ?_, hb⟩)
      · rw [u2n 44 g' (by omega), b4 44 g' (by omega)]
      · by_cases w : g' = g
        · rw [if_pos w, w]
          exact eH
        · rw [if_neg w, u2n 46 g' (by omega), b4 46 g' (by omega)]
      · rw [u2n 43 2 (by omega), b4 43 2 (by omega)]
  · have y9' : (99 : Int32) < y := by rw [← i_nle]; exact y9
    rw [if_neg y9, if_pos y9', wP_s, if_pos rfl]
    exact fin
theorem M_wake {x : Int32} (h : GR n m k d u t) : QM (F_X8_wake 0 x u) (F_X9_wake 79 x t) := by
  unfold F_X9_wake
  obtain ⟨t0, et⟩ : ∃ t0, t0 = w_sI t 79 2 (0 : Int32) := ⟨_, rfl⟩
  have hK0 : KT t t0 := by rw [et]; exact KT_s (by unfold scr; omega)
  have h := GR_fr h (KC_rf u) hK0
  rw [wB_eq, ← et]
  have n10 : ¬ (1 : Int32) = 0 := by decide
  have n6 := h.2.2.2.2.2.1.1.1
  have fin : QM (some ((0 : Int32), u)) (some ((0 : Int32), t0)) := ⟨_, u, t0, rfl, rfl, n, m, k, d, h⟩
  obtain ⟨r, a1, a2, a3⟩ := isG (x := x) (GR_Vw h)
  have q52 : t0.2.2 79 52 = 108 := by simp only [PM_u h.2.1]
  have r5 : u.2.2 0 5 = 44 := by simp only [PL_u h.1]
  have r10 : u.2.2 0 10 = 67 := by simp only [PL_u h.1]
  have r46 : u.2.2 43 6 = 47 := by simp only [PL_u h.1]
  have hS := h.2.2.2.2.2.2.1
  obtain ⟨o1, o2⟩ := Sc_old hS
  unfold F_X8_wake
  rw [a1, wP_s, a2, wP_s]
  rcases a3 with rfl | ⟨rfl, g, hg, rfl⟩
  · rw [if_pos rfl, if_pos rfl]
    exact fin
  rw [if_neg n10, if_neg n10, r5, wR_43, faint_c (by omega), wP_s, q52, wR_107, wN_107 _ (by omega), (o1 g hg).2.2.2.2]
  by_cases hb : bt (u.1 43 2) g = true
  · obtain ⟨H, hH1, eH, -⟩ := hS.2.2.2.2.1 g hg
    have eH : u.1 46 g = nI H := eH
    have hP := h.2.2.2.2.2.2.2.2.1
    have hUn := h.2.2.2.2.2.2.2.2.2.2.2.1
    obtain ⟨q, hq, q1, q2, -⟩ := hUn
    have hUn := h.2.2.2.2.2.2.2.2.2.2.2.1
    obtain ⟨u1, δ, b1, b2, b3, b4, b5, b6, b7, b8, b9⟩ := put7 (e := 2) (a := nI g) (b := nI H) h.1 q1 hq
    obtain ⟨t1, δ', c1, c2, c3, c4, c5, c6, c7⟩ := rem9 h.2.1 q2 hq
    rw [d_eq b1 c1] at c5 c6 c7
    have hp1 : PL u1.2.2 := by rw [b3]; exact h.1
    have hm1 : PM t1.2.2 := by rw [c3]; exact h.2.1
    have r5' : u1.2.2 0 5 = 44 := by simp only [PL_u hp1]
    have r46' : u1.2.2 43 6 = 47 := by simp only [PL_u hp1]
    have q50 : t1.2.2 79 50 = 106 := by simp only [PM_u hm1]
    have q52' : t1.2.2 79 52 = 108 := by simp only [PM_u hm1]
    obtain ⟨X, hX⟩ : ∃ X, X = u1.1 43 2 &&& (((1 : Int32) <<< (nI g &&& 31)) ^^^ (-1 : Int32)) := ⟨_, rfl⟩
    have e432 : u1.1 43 2 = u.1 43 2 := b4 43 2 (by omega)
    have hXb : ∀ i, i < 32 → bt X i = (bt (u.1 43 2) i && !(decide (i = g))) := fun i hi => by
      rw [hX, bt_and, bt_not hi, bt_one (by omega) hi, e432]
    have hXg : ∀ i, n ≤ i → bt X i = false := fun i hi => by
      by_cases w : i < 32
      · rw [hXb i w, hS.2.2.2.2.2.1 i hi]
        rfl
      · exact bt_ge (by omega)
    obtain ⟨u2, eu2⟩ : ∃ u2, u2 = w_sI (w_sI u1 43 2 X) 46 g (nI 50) := ⟨_, rfl⟩
    obtain ⟨t2, et2⟩ : ∃ t2, t2 = w_sI (w_sI t1 107 g 1) 105 g (nI 50) := ⟨_, rfl⟩
    have hcome : F_X3_comeTo 43 (nI g) u1 = some ((), w_sI u1 43 2 X) := by
      unfold F_X3_comeTo
      rw [wB_eq, ← hX]
    rw [bI_t hb, if_neg n10, r10, wR_66, wR_43, r46, wR_46, wN_46 _ (by omega), eH, b2, wC_s, r5', wR_43, hcome, wC_s, sI_r, r5', wR_43, r46', wR_46, wSI_eq, wN_46 _ (by omega), bI_f (by rw [hb]; decide), if_pos rfl, c2, wC_s, q52', wR_107, wSZ_eq, wN_107 _ (by omega), show (1 : Int32) &&& 1 = 1 from by decide, sI_r, q50, wR_105, wSI_eq, wN_105 _ (by omega), show (50 : Int32) = nI 50 from rfl, ← eu2, ← et2]
    have u2n : ∀ a l, ¬ (a = 46 ∧ l = g) → ¬ (a = 43 ∧ l = 2) → u2.1 a l = u1.1 a l := fun a l w w' => by
      rw [eu2, show (w_sI (w_sI u1 43 2 X) 46 g (nI 50)).1 a l = (w_sI u1 43 2 X).1 a l from if_neg w]
      exact if_neg w'
    have t2n : ∀ a l, ¬ (a = 105 ∧ l = g) → ¬ (a = 107 ∧ l = g) → t2.1 a l = t1.1 a l := fun a l w w' => by
      rw [et2, show (w_sI (w_sI t1 107 g 1) 105 g (nI 50)).1 a l = (w_sI t1 107 g 1).1 a l from if_neg w]
      exact if_neg w'
    have e2 : u2.1 43 2 = X := by rw [eu2, sI_ne _ _ _ _ _ _ (by decide), sI_eq]
    have e46 : u2.1 46 g = nI 50 := by rw [eu2, sI_eq]
    have e105 : t2.1 105 g = nI 50 := by rw [et2, sI_eq]
    have e107 : t2.1 107 g = 1 := by rw [et2, sI_ne _ _ _ _ _ _ (by decide), sI_eq]
    refine ⟨1, u2, t2, rfl, rfl, n, m, k, d, GR_deed h (by rw [eu2]; exact b3) (by rw [et2]; exact c3) (fun a l w => by rw [u2n a l (by omega) (by omega)]; exact b4 a l (by omega)) (fun a l w => by rw [t2n a l (by omega) (by omega)]; exact c4 a l (by omega)) (fun g' hg' => ?_) (SP_fr hP (fun g' _ => by rw [u2n _ _ (by omega) (by omega)]; exact b4 _ _ (by omega))) (fun g' hg' => ?_) (fun g' hg' => by rw [e2]; exact hXg g' hg') (Un_put n6 hUn q1 b1 (by rw [u2n _ _ (by omega) (by omega)]; exact b5) (fun a l w1 w2 w3 => by rw [u2n _ _ (by omega) (by omega)]; exact b6 a l w1 w2 w3) (by rw [t2n _ _ (by omega) (by omega)]; exact c5) (fun l hl => by rw [t2n _ _ (by omega) (by omega)]; exact c6 l hl) (fun g' hg' => ?_) ?_)⟩
    · rw [t2n 106 g' (by omega) (by omega), u2n 44 g' (by omega) (by omega), c4 106 g' (by omega), b4 44 g' (by omega), e2]
      refine ⟨(o1 g' hg').1, ?_, ?_⟩
      · by_cases w : g' = g
        · rw [w, e46, e105]
        · rw [t2n 105 g' (by omega) (by omega), u2n 46 g' (by omega) (by omega), c4 105 g' (by omega), b4 46 g' (by omega)]
          exact (o1 g' hg').2.2.1
      · by_cases w : g' = g
        · rw [w, e107, bI_t (by rw [hXb g (by omega)]; simp)]
        · have : bt X g' = bt (u.1 43 2) g' := by rw [hXb g' (by omega)]; simp [w]
          rw [t2n 107 g' (by omega) (by omega), c4 107 g' (by omega), this]
          exact (o1 g' hg').2.2.2.2
    · by_cases w : g' = g
      · rw [w, e46]
        exact ⟨50, by omega, rfl, fun _ => by omega⟩
      · have : bt X g' = bt (u.1 43 2) g' := by rw [hXb g' (by omega)]; simp [w]
        rw [u2n 46 g' (by omega) (by omega), b4 46 g' (by omega), e2, this]
        exact hS.2.2.2.2.1 g' hg'
    · have z := c7 g' (by omega)
      rw [t2n _ _ (by omega) (by omega), t2n _ _ (by omega) (by omega), t2n _ _ (by omega) (by omega), z.1, z.2.1, z.2.2]
      exact ⟨(o1 g' hg').1, (o1 g' hg').2.2.1, bI_01 (o1 g' hg').2.2.2.2⟩
    · rw [u2n 67 _ (by omega) (by omega), u2n 68 _ (by omega) (by omega), u2n 69 _ (by omega) (by omega)]
      refine Or.inr (Or.inr ⟨g, H, hg, hH1, b7, b8, b9, fun g' hg' => ?_, fun g' hg' => ?_, ?_⟩)
      · rw [u2n 44 g' (by omega) (by omega), b4 44 g' (by omega)]
      · by_cases w : g' = g
        · rw [if_pos w, w]
          exact eH
        · rw [if_neg w, u2n 46 g' (by omega) (by omega), b4 46 g' (by omega)]
      · rw [e2]
        apply bt_ext
        intro i hi
        rw [bt_set (by omega), hXb i hi]
        by_cases w : i = g
        · subst w
          rw [hb]
          simp
        · simp [w]
  · have hb' : bt (u.1 43 2) g = false := by
      cases hq : bt (u.1 43 2) g
      · rfl
      · exact absurd hq hb
    rw [bI_f hb, if_pos rfl, bI_t hb', if_neg n10]
    exact fin
end

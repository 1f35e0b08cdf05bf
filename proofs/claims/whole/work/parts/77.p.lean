/-! undone; images -/
def tk3 (v : wSt) (a i k : Nat) : wSt := w_sI (w_sI (w_sI v 106 k (v.1 a (i + k))) 105 k (v.1 a (i + 6 + k))) 107 k (if v.1 a (i + 12 + k) = 1 then 1 else 0)
section
variable {n m k d c b B : Nat} {u t : wSt}
theorem take9 {a i : Nat} (hm : PM t.2.2) (ha : a = 116 ∨ (a = 117)) (hi : i + 18 ≤ (if a = 116 then 360 else 18)) : ∃ t', F_X9_take 79 a (nI i) t = some ((), t') ∧ t'.2 = t.2 ∧ (∀ x j, ¬ (105 ≤ x ∧ x ≤ 107 ∧ j < 6) → t'.1 x j = t.1 x j) ∧ (∀ g, g < 6 → t'.1 106 g = t.1 a (i + g) ∧ t'.1 105 g = t.1 a (i + 6 + g) ∧ t'.1 107 g = if t.1 a (i + 12 + g) = 1 then 1 else 0) := by
  have hwN : ∀ {β : Type} (j : Nat) (K : Nat → Option β), j < i + 18 → wN (nI j) a K = K j := fun {β} j K hj => by
    rcases ha with rfl | rfl
    · rw [if_pos rfl] at hi
      exact wN_116 _ (by omega)
    · rw [if_neg (by decide)] at hi
      exact wN_117 _ (by omega)
  have hi3 : i < 360 := by
    rcases ha with rfl | rfl
    · rw [if_pos rfl] at hi
      omega
    · rw [if_neg (by decide)] at hi
      omega
  have key : Ro (fun y => ∃ v : wSt, y = ((), v) ∧ v.2 = t.2 ∧ (∀ x j, ¬ (105 ≤ x ∧ x ≤ 107 ∧ j < 6) → v.1 x j = t.1 x j) ∧ (∀ g, g < 6 → v.1 106 g = t.1 a (i + g) ∧ v.1 105 g = t.1 a (i + 6 + g) ∧ v.1 107 g = if t.1 a (i + 12 + g) = 1 then 1 else 0)) (F_X9_take 79 a (nI i) t) := by
    unfold F_X9_take
    refine wL_ro (fun k x => ∃ v : wSt, x = (nI k, v) ∧ v.2 = t.2 ∧ (∀ x j, ¬ (105 ≤ x ∧ x ≤ 107 ∧ j < 6) → v.1 x j = t.1 x j) ∧ (∀ g, g < k → v.1 106 g = t.1 a (i + g) ∧ v.1 105 g = t.1 a (i + 6 + g) ∧ v.1 107 g = if t.1 a (i + 12 + g) = 1 then 1 else 0)) _ 6 (by unfold wFu; omega) ?_ ⟨t, rfl, rfl, fun _ _ _ => rfl, fun g h => by omega⟩
    rintro k x hk ⟨v, rfl, hv2, hv0, hR⟩
    have hmv : PM v.2.2 := by rw [hv2]; exact hm
    unfold F_X9_take_b2 F_X9_take_j55
    dsimp only
    have e6 : ((6 : Int32) ≤ nI k) = (6 ≤ k) := nI_leE (a := 6) (b := k) (by omega) (by omega)
    by_cases h6 : k = 6
    · right
      subst h6
      exact ⟨((), v), if_pos (by decide), v, rfl, hv2, hv0, hR⟩
    · left
      have hk6 : k < 6 := by omega
      have q50 : v.2.2 79 50 = 106 := by simp only [PM_u hmv]
      have q51 : v.2.2 79 51 = 107 := by simp only [PM_u hmv]
      have q52 : v.2.2 79 52 = 108 := by simp only [PM_u hmv]
      have i6 : nI i + (6 : Int32) + nI k = nI (i + 6 + k) := by rw [show nI i + (6 : Int32) = nI (i + 6) from nI_addL i 6, nI_add]
      have i12 : nI i + (12 : Int32) + nI k = nI (i + 12 + k) := by rw [show nI i + (12 : Int32) = nI (i + 12) from nI_addL i 12, nI_add]
      have na : ∀ (w : wSt) (x j l : Nat) (y : Int32), 105 ≤ x → x ≤ 107 → (w_sI w x j y).1 a l = w.1 a l := fun w x j l y h1 h2 => sI_ne _ _ _ _ _ _ (by omega)
      refine ⟨(nI (k + 1), tk3 v a i k), ?_, hk6, _, rfl, hv2, fun x j w => ?_, fun g hg => ?_⟩
      · unfold tk3
        rw [if_neg (by rw [e6]; omega), q51, wR_106, nI_add, hwN _ _ (by omega), wSI_eq, wN_106 _ (by omega)]
        rw [sI_r, q50, wR_105, i6, hwN _ _ (by omega), na _ _ _ _ _ (by omega) (by omega), wSI_eq, wN_105 _ (by omega)]
        rw [sI_r, sI_r, q52, wR_107, i12, hwN _ _ (by omega), na _ _ _ _ _ (by omega) (by omega), na _ _ _ _ _ (by omega) (by omega)]
        by_cases z : v.1 a (i + 12 + k) = 1
        · rw [if_pos z, wJ_inl, wSZ_eq, wN_107 _ (by omega), show (1 : Int32) &&& 1 = 1 from by decide, wB_eq, nI_addL, if_pos z]
        · rw [if_neg z, wJ_inl, wSZ_eq, wN_107 _ (by omega), show (0 : Int32) &&& 1 = 0 from by decide, wB_eq, nI_addL, if_neg z]
      · have g : ∀ (w : wSt) (x' : Nat) (y : Int32), 105 ≤ x' → x' ≤ 107 → (w_sI w x' k y).1 x j = w.1 x j := fun w x' y h1 h2 => if_neg (by omega)
        unfold tk3
        rw [g _ _ _ (by omega) (by omega), g _ _ _ (by omega) (by omega), g _ _ _ (by omega) (by omega)]
        exact hv0 x j w
      · have e1 : ∀ l, v.1 a l = t.1 a l := fun l => hv0 _ _ (by omega)
        unfold tk3
        by_cases hgk : g = k
        · subst hgk
          refine ⟨?_, ?_, ?_⟩
          · rw [sI_ne _ _ _ _ _ _ (by decide), sI_ne _ _ _ _ _ _ (by decide), sI_eq, e1]
          · rw [sI_ne _ _ _ _ _ _ (by decide), sI_eq, e1]
          · rw [sI_eq, e1]
        · rw [sI_ne2 _ _ _ _ _ _ hgk, sI_ne2 _ _ _ _ _ _ hgk, sI_ne2 _ _ _ _ _ _ hgk, sI_ne2 _ _ _ _ _ _ hgk, sI_ne2 _ _ _ _ _ _ hgk, sI_ne2 _ _ _ _ _ _ hgk, sI_ne2 _ _ _ _ _ _ hgk, sI_ne2 _ _ _ _ _ _ hgk, sI_ne2 _ _ _ _ _ _ hgk]
          exact hR g (by omega)
  obtain ⟨y, h1, v, rfl, h2, h3, h4⟩ := key
  exact ⟨v, h1, h2, h3, h4⟩
theorem bI_11 {x : Int32} {p : Prop} [Decidable p] (h : x = bI p) : (if x = 1 then (1 : Int32) else 0) = bI p := by
  by_cases q : p
  · rw [h, bI_t q]; decide
  · rw [h, bI_f q]; decide
theorem M_undo (h : GR n m k d u t) : QM (F_X8_undo 0 u) (F_X9_undo 79 t) := by
  unfold F_X9_undo
  obtain ⟨t0, et⟩ : ∃ t0, t0 = w_sI t 79 2 (0 : Int32) := ⟨_, rfl⟩
  have hK0 : KT t t0 := by rw [et]; exact KT_s (by unfold scr; omega)
  have h := GR_fr h (KC_rf u) hK0
  rw [wB_eq, ← et]
  have n6 := h.2.2.2.2.2.1.1.1
  have r5 : u.2.2 0 5 = 44 := by simp only [PL_u h.1]
  have r10 : u.2.2 0 10 = 67 := by simp only [PL_u h.1]
  have hS := h.2.2.2.2.2.2.1
  obtain ⟨o1, o2⟩ := Sc_old hS
  have hP := h.2.2.2.2.2.2.2.2.1
  obtain ⟨q, hq, q1, q2, S, H, A, f1, f2, f3, f4⟩ := h.2.2.2.2.2.2.2.2.2.2.2.1
  unfold F_X8_undo F_X7_takeBack
  rw [r10, wR_66, r5, wR_43, q1, q2]
  have e0 : ((0 : Int32) < nI q) = (0 < q) := nI_ltE (a := 0) (b := q) (by omega) (by omega)
  have e0' : (nI q = 0) = (q = 0) := nI_eqI (a := q) (b := 0) (by omega) (by omega)
  by_cases hq0 : q = 0
  · rw [if_neg (by rw [e0]; omega), wC_s, if_pos (by rw [e0']; exact hq0)]
    exact ⟨_, u, t0, rfl, rfl, n, m, k, d, h⟩
  obtain ⟨p, rfl⟩ : ∃ p, q = p + 1 := ⟨q - 1, by omega⟩
  have hsub : nI (p + 1) - (1 : Int32) = nI p := by
    have := nI_sub (a := p + 1) (b := 1) (by omega)
    rw [Nat.add_sub_cancel] at this
    exact this
  obtain ⟨u3, eu3⟩ : ∃ u3, u3 = w_sI u 66 0 (nI p) := ⟨_, rfl⟩
  obtain ⟨t3, et3⟩ : ∃ t3, t3 = w_sI t0 79 74 (nI p) := ⟨_, rfl⟩
  have u3n : ∀ a l, ¬ (a = 66 ∧ l = 0) → u3.1 a l = u.1 a l := fun a l w => by rw [eu3]; exact if_neg w
  have t3n : ∀ a l, ¬ (a = 79 ∧ l = 74) → t3.1 a l = t0.1 a l := fun a l w => by rw [et3]; exact if_neg w
  have u32 : u3.2 = u.2 := by rw [eu3]; rfl
  have t32 : t3.2 = t0.2 := by rw [et3]; rfl
  have u30 : u3.1 66 0 = nI p := by rw [eu3]; exact sI_eq _ _ _ _
  have t30 : t3.1 79 74 = nI p := by rw [et3]; exact sI_eq _ _ _ _
  have hp3 : PL u3.2.2 := by rw [u32]; exact h.1
  have hm3 : PM t3.2.2 := by rw [t32]; exact h.2.1
  have r1 : u3.2.2 66 1 = 68 := by simp only [PL_u hp3]
  have r2 : u3.2.2 66 2 = 69 := by simp only [PL_u hp3]
  have r3 : u3.2.2 66 3 = 70 := by simp only [PL_u hp3]
  have r46 : u3.2.2 43 6 = 47 := by simp only [PL_u hp3]
  have q75 : t3.2.2 79 75 = 117 := by simp only [PM_u hm3]
  have hqn : ¬ nI (p + 1) = 0 := by rw [e0']; omega
  obtain ⟨t4, c1, c2, c3, c4⟩ := take9 (a := 116) (i := 18 * p) hm3 (Or.inl rfl) (by rw [if_pos rfl]; omega)
  have t474 : t4.1 79 74 = nI p := by rw [c3 79 74 (by omega)]; exact t30
  rw [if_pos (by rw [e0]; omega), hsub, wB_eq, ← eu3, r2, wR_68, u30, wN_68 _ (by omega), wB_eq, r1, wR_67, wN_67 _ (by omega), if_neg hqn, wB_eq, ← et3, q75, wR_116, t30, nI_mulL, c1, wC_s, t474, u3n 68 p (by omega), u3n 67 p (by omega)]
  have d1 : ∀ g, g < n → t4.1 106 g = S p g ∧ t4.1 105 g = H p g ∧ t4.1 107 g = bI (bt (A p) g = false) := fun g hg => by
    have z := c4 g (by omega)
    have y := f3 p (by omega) g hg
    rw [z.1, z.2.1, z.2.2, t3n _ _ (by omega), t3n _ _ (by omega), t3n _ _ (by omega)]
    exact ⟨y.1, y.2.1, bI_11 y.2.2⟩
  -- what both then hold
  have fin : ∀ u' : wSt, u'.2 = u.2 → (∀ a j, ¬ (a = 44 ∨ a = 46 ∨ (a = 43 ∧ j = 2) ∨ (66 ≤ a ∧ a ≤ 69)) → u'.1 a j = u.1 a j) → u'.1 66 0 = nI p → (∀ a j, 67 ≤ a → a ≤ 69 → u'.1 a j = u.1 a j) → (∀ g, g < n → u'.1 44 g = S p g ∧ u'.1 46 g = H p g) → u'.1 43 2 = A p → SP n 43 u'.1 → (∀ g, g < n → ∃ h : Nat, h ≤ 101 ∧ u'.1 46 g = nI h ∧ (bt (u'.1 43 2) g = false → h ≤ 98)) → (∀ g, n ≤ g → bt (u'.1 43 2) g = false) → QM (wC (wJ (X := wSt) (some (.inl u')) (fun x => F_X7_takeBack_j91 66 x)) (fun (i5 : Int32) (u4 : wSt) => some (i5, u4))) (some (nI p, t4)) := by
    intro u' g1 g2 g3 g4 g5 g6 g7 g8 g9
    unfold F_X7_takeBack_j91
    rw [wJ_inl, wC_s, g3]
    refine ⟨_, u', t4, rfl, rfl, n, m, k, d, GR_deed h g1 (c2.trans t32) g2 (fun a j w => by rw [c3 _ _ (by omega), t3n _ _ (by omega)]) (fun g hg => ?_) g7 g8 g9 ⟨p, by omega, g3, t474, S, H, A, fun g hg => ⟨(g5 g hg).1.symm, (g5 g hg).2.symm⟩, g6.symm, fun j hj g hg => ?_, fun j hj => ?_⟩⟩
    · rw [(d1 g hg).1, (d1 g hg).2.1, (d1 g hg).2.2, (g5 g hg).1, (g5 g hg).2, g6]
      exact ⟨rfl, rfl, rfl⟩
    · rw [c3 _ _ (by omega), c3 _ _ (by omega), c3 _ _ (by omega), t3n _ _ (by omega), t3n _ _ (by omega), t3n _ _ (by omega)]
      exact f3 j (by omega) g hg
    · rw [g4 _ _ (by omega) (by omega), g4 _ _ (by omega) (by omega), g4 _ _ (by omega) (by omega)]
      exact f4 j (by omega)
  have n02 : ¬ (1 : Int32) = 2 := by decide
  rcases f4 p (by omega) with ⟨i, l, hi, hl, hil, z1, z2, z3, z4, z5, z6⟩ | ⟨i, l, hi, hl, z1, z2, z3, z4, z5, z6, z7⟩ | ⟨i, l, hi, hl, z1, z2, z3, z4, z5, z6⟩
  · rw [z1, if_pos rfl, r3, wR_69, wN_69 _ (by omega), u3n 69 p (by omega), z2, z3, swap_c hp3 (by omega) (by omega), wC_s]
    obtain ⟨u4, eu4⟩ : ∃ u4, u4 = w_sI (w_sI u3 44 i (u3.1 44 l)) 44 l (u3.1 44 i) := ⟨_, rfl⟩
    rw [← eu4]
    have u4n : ∀ a j, a ≠ 44 → u4.1 a j = u3.1 a j := fun a j w => by rw [eu4, sI_ne _ _ _ _ _ _ w, sI_ne _ _ _ _ _ _ w]
    have u44 : ∀ g, u4.1 44 g = if g = i then u.1 44 l else if g = l then u.1 44 i else u.1 44 g := fun g => by
      rw [eu4, sI_row, u3n 44 i (by omega)]
      by_cases w2 : g = l
      · rw [if_pos w2, if_neg (by omega), if_pos w2]
      · rw [if_neg w2, sI_row, u3n 44 l (by omega), u3n 44 g (by omega)]
        by_cases w1 : g = i
        · rw [if_pos w1, if_pos w1]
        · rw [if_neg w1, if_neg w1, if_neg w2]
    have e46 : ∀ g, u4.1 46 g = u.1 46 g := fun g => by rw [u4n _ _ (by decide), u3n _ _ (by omega)]
    have e43 : u4.1 43 2 = u.1 43 2 := by rw [u4n _ _ (by decide), u3n _ _ (by omega)]
    refine fin u4 (by rw [eu4]; exact u32) (fun a j w => by rw [u4n _ _ (by omega)]; exact u3n _ _ (by omega)) (by rw [u4n _ _ (by decide)]; exact u30) (fun a j w1 w2 => by rw [u4n _ _ (by omega)]; exact u3n _ _ (by omega)) (fun g hg => ⟨?_, ?_⟩) ?_ (SP_swap hP hi hl hil (fun g _ => u44 g)) (fun g hg => ?_) (fun g hg => ?_)
    · rw [u44 g, z4 g hg, (f1 l hl).1, (f1 i hi).1, (f1 g hg).1]
    · rw [e46, z5 g hg, (f1 g hg).2]
    · rw [e43, z6, f2]
    · rw [e46, e43]
      exact hS.2.2.2.2.1 g hg
    · rw [e43]
      exact hS.2.2.2.2.2.1 g hg
  · rw [z1, if_neg (by decide), r46, wR_46, r3, wR_69, wN_69 _ (by omega), u3n 69 p (by omega), z2, z3, wSI_eq, wN_46 _ (by omega), sI_r, r1, wR_67, sI_ne _ _ _ _ _ _ (by decide), u30, wN_67 _ (by omega), sI_ne _ _ _ _ _ _ (by decide), u3n 67 p (by omega), z1, if_neg n02]
    have u4n : ∀ a j, ¬ (a = 46 ∧ j = i) → (w_sI u3 46 i (nI l)).1 a j = u3.1 a j := fun a j w => if_neg w
    have e43 : (w_sI u3 46 i (nI l)).1 43 2 = u.1 43 2 := by rw [u4n _ _ (by omega), u3n _ _ (by omega)]
    have e46 : ∀ g, (w_sI u3 46 i (nI l)).1 46 g = if g = i then nI l else u.1 46 g := fun g => by rw [sI_row, u3n 46 g (by omega)]
    refine fin _ u32 (fun a j w => by rw [u4n _ _ (by omega)]; exact u3n _ _ (by omega)) (by rw [u4n _ _ (by omega)]; exact u30) (fun a j w1 w2 => by rw [u4n _ _ (by omega)]; exact u3n _ _ (by omega)) (fun g hg => ⟨?_, ?_⟩) ?_ (SP_fr hP (fun g _ => by rw [u4n _ _ (by omega), u3n _ _ (by omega)])) (fun g hg => ?_) (fun g hg => ?_)
    · rw [u4n _ _ (by omega), u3n _ _ (by omega), z4 g hg, (f1 g hg).1]
    · rw [e46 g, z5 g hg, (f1 g hg).2]
    · rw [e43, z6, f2]
    · rw [e46 g, e43]
      by_cases w : g = i
      · rw [if_pos w]
        exact ⟨l, by omega, rfl, fun _ => hl⟩
      · rw [if_neg w]
        exact hS.2.2.2.2.1 g hg
    · rw [e43]
      exact hS.2.2.2.2.2.1 g hg
  · have n20 : ¬ (2 : Int32) = 0 := by decide
    obtain ⟨X, hX⟩ : ∃ X, X = u.1 43 2 ||| ((1 : Int32) <<< (nI i &&& 31)) := ⟨_, rfl⟩
    have hfa : F_X3_faint 43 (nI i) (w_sI u3 46 i (nI l)) = some ((), w_sI (w_sI u3 46 i (nI l)) 43 2 X) := by
      unfold F_X3_faint
      rw [wB_eq, sI_ne _ _ _ _ _ _ (by decide), u3n _ _ (by omega), ← hX]
    rw [z1, if_neg n20, r46, wR_46, r3, wR_69, wN_69 _ (by omega), u3n 69 p (by omega), z2, z3, wSI_eq, wN_46 _ (by omega), sI_r, r1, wR_67, sI_ne _ _ _ _ _ _ (by decide), u30, wN_67 _ (by omega), sI_ne _ _ _ _ _ _ (by decide), u3n 67 p (by omega), z1, if_pos rfl, hfa, wC_s]
    have u4n : ∀ a j, ¬ (a = 46 ∧ j = i) → ¬ (a = 43 ∧ j = 2) → (w_sI (w_sI u3 46 i (nI l)) 43 2 X).1 a j = u3.1 a j := fun a j w w' => by
      rw [show (w_sI (w_sI u3 46 i (nI l)) 43 2 X).1 a j = (w_sI u3 46 i (nI l)).1 a j from if_neg w']
      exact if_neg w
    have e43 : (w_sI (w_sI u3 46 i (nI l)) 43 2 X).1 43 2 = X := sI_eq _ _ _ _
    have e46 : ∀ g, (w_sI (w_sI u3 46 i (nI l)) 43 2 X).1 46 g = if g = i then nI l else u.1 46 g := fun g => by rw [sI_ne _ _ _ _ _ _ (by decide), sI_row, u3n 46 g (by omega)]
    refine fin _ u32 (fun a j w => by rw [u4n _ _ (by omega) (by omega)]; exact u3n _ _ (by omega)) (by rw [u4n _ _ (by omega) (by omega)]; exact u30) (fun a j w1 w2 => by rw [u4n _ _ (by omega) (by omega)]; exact u3n _ _ (by omega)) (fun g hg => ⟨?_, ?_⟩) ?_ (SP_fr hP (fun g _ => by rw [u4n _ _ (by omega) (by omega), u3n _ _ (by omega)])) (fun g hg => ?_) (fun g hg => ?_)
    · rw [u4n _ _ (by omega) (by omega), u3n _ _ (by omega), z4 g hg, (f1 g hg).1]
    · rw [e46 g, z5 g hg, (f1 g hg).2]
    · rw [e43, z6, f2, hX]
    · rw [e46 g, e43]
      by_cases w : g = i
      · rw [if_pos w]
        refine ⟨l, by omega, rfl, fun w2 => ?_⟩
        rw [hX, bt_set (by omega), w] at w2
        simp at w2
      · rw [if_neg w]
        obtain ⟨a, a1, a2, a3⟩ := hS.2.2.2.2.1 g hg
        refine ⟨a, a1, a2, fun w2 => a3 ?_⟩
        rw [hX, bt_set (by omega)] at w2
        have e43' : (u.1 43 2) = u.1 43 2 := rfl
        cases hq : bt (u.1 43 2) g
        · rfl
        · rw [hq] at w2
          cases w2
    · rw [e43, hX, bt_set (by omega), hS.2.2.2.2.2.1 g hg]
      have : ¬ g = i := by omega
      simp [this]
end

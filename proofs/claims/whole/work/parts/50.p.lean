/-! one cell changed on both sides -/
def SS (n m k d c b B : Nat) (u t u' t' : wSt) : Prop := Cx n m k d c b B u' t' ∧ FC c u u' ∧ FR b t t' ∧ u'.1 c 0 = u.1 c 0 ∧ (∀ g, bt (u.1 c 2) g = true → bt (u'.1 c 2) g = true)
section
variable {n m k d c b B : Nat} {u t : wSt}
theorem Cx_e (h : Cx n m k d c b B u t) : u.2.2 64 8 = d + 1 ∧ u.1 d 1 = nI n ∧ u.1 d 2 = nI m ∧ t.1 79 12 = nI n ∧ t.1 79 13 = nI m := ⟨h.2.2.2.2.2.1, h.2.2.2.2.2.2.1.2.1.1, h.2.2.2.2.2.2.1.2.1.2.1, h.2.2.2.2.2.2.1.2.2.1.1, h.2.2.2.2.2.2.1.2.2.1.2.1⟩
theorem Cx_b (h : Cx n m k d c b B u t) : n ≤ 6 ∧ m ≤ 8 ∧ b < 2 := ⟨h.2.2.2.2.2.2.1.1.1, h.2.2.2.2.2.2.1.1.2.1, h.2.2.2.2.1⟩
theorem SS_rf (h : Cx n m k d c b B u t) : SS n m k d c b B u t u t := ⟨h, FC_rf c u, FR_rf b t, rfl, fun _ h => h⟩
theorem SS_tr {u' t' u'' t'' : wSt} {B' : Nat} (h : SS n m k d c b B u t u' t') (h' : SS n m k d c b B' u' t' u'' t'') : SS n m k d c b B' u t u'' t'' := ⟨h'.1, FC_tr h.2.1 h'.2.1, FR_tr h.2.2.1 h'.2.2.1, h'.2.2.2.1.trans h.2.2.2.1, fun g q => h'.2.2.2.2 g (h.2.2.2.2 g q)⟩
theorem SS_q {u' t' : wSt} (h : Cx n m k d c b B u t) (hu : QC u u') (ht : LR t t') : SS n m k d c b B u t u' t' := by
  have c1 := SC_le h.2.2.2.1
  refine ⟨Cx_q h hu ht, QC_FC hu, LR_FR ht, hu.2 _ _ (by omega), fun g q => ?_⟩
  rw [hu.2 c 2 (by omega)]
  exact q

theorem Cx_ma {g : Nat} {x : Int32} (hx : Cx n m k d c b B u t) (hg : g < n) : SS n m k d c b B u t (w_sI u (c + 2) g x) (w_sI t 104 (6 * b + g) x) := by
  have h0 := hx
  obtain ⟨-, -, -, hc, hb, -, ⟨⟨n6, m8, -⟩, -⟩, -, ⟨hs, hG, hF, h4, h5, h6, h7⟩, hN, hBB⟩ := h0
  have c1 := SC_le hc
  have ne : ∀ a j, a ≠ c + 2 → (w_sI u (c + 2) g x).1 a j = u.1 a j := fun a j h => sI_ne _ _ _ _ _ _ h
  have ne' : ∀ a j, a ≠ 104 → (w_sI t 104 (6 * b + g) x).1 a j = t.1 a j := fun a j h => sI_ne _ _ _ _ _ _ h
  have ro : ∀ g', (w_sI u (c + 2) g x).1 (c + 2) g' = if g' = g then x else u.1 (c + 2) g' := fun g' => sI_row _ _ _ _ _
  have ro' : ∀ g', (w_sI t 104 (6 * b + g) x).1 104 (6 * b + g') = if g' = g then x else t.1 104 (6 * b + g') := fun g' => by
    rw [sI_row]
    by_cases e : g' = g
    · rw [if_pos (by omega), if_pos e]
    · rw [if_neg (by omega), if_neg e]
  have e2 : (w_sI u (c + 2) g x).1 c 2 = u.1 c 2 := ne _ _ (by omega)
  have e3 : (w_sI u (c + 2) g x).1 c 3 = u.1 c 3 := ne _ _ (by omega)
  refine ⟨Cx_fr hx (FC_s (by omega)) (FR_s (by unfold rsc; omega)) ⟨?_, fun g' q => ?_, fun f q => ?_, fun g' q => ?_, fun g' q => ?_, fun g' q => ?_, fun f q => ?_⟩ (Nm_k hN (ne _ _ (by omega)) (ne _ _ (by omega)) rfl) hBB, FC_s (by omega), FR_s (by unfold rsc; omega), ne _ _ (by omega), fun g' q => by rw [e2]; exact q⟩
  · rw [ne c 0 (by omega), ne' 112 b (by omega)]
    exact hs
  · have z := hG g' q
    rw [ne (c + 1) _ (by omega), ne' 106 _ (by omega), ro, ro', ne (c + 3) _ (by omega), ne' 105 _ (by omega), ne (c + 4) _ (by omega), ne' 108 _ (by omega), ne' 107 _ (by omega), e2, z.1, z.2.1, z.2.2.1, z.2.2.2.1]
    exact ⟨rfl, rfl, rfl, rfl, z.2.2.2.2⟩
  · have z := hF f q
    rw [ne (c + 5) _ (by omega), ne (c + 6) _ (by omega), ne' 109 _ (by omega), ne' 111 _ (by omega), ne' 110 _ (by omega), e3]
    exact z
  · rw [ne (c + 1) _ (by omega)]
    exact h4 g' q
  · rw [ne (c + 3) _ (by omega), e2]
    exact h5 g' q
  · rw [e2]; exact h6 g' q
  · rw [e3]; exact h7 f q

theorem Cx_hu {g : Nat} {x : Int32} (hx : Cx n m k d c b B u t) (hg : g < n) (hv : ∃ h : Nat, h ≤ 101 ∧ x = nI h ∧ (bt (u.1 c 2) g = false → h ≤ B)) : SS n m k d c b B u t (w_sI u (c + 3) g x) (w_sI t 105 (6 * b + g) x) := by
  have h0 := hx
  obtain ⟨-, -, -, hc, hb, -, ⟨⟨n6, m8, -⟩, -⟩, -, ⟨hs, hG, hF, h4, h5, h6, h7⟩, hN, hBB⟩ := h0
  have c1 := SC_le hc
  have ne : ∀ a j, a ≠ c + 3 → (w_sI u (c + 3) g x).1 a j = u.1 a j := fun a j h => sI_ne _ _ _ _ _ _ h
  have ne' : ∀ a j, a ≠ 105 → (w_sI t 105 (6 * b + g) x).1 a j = t.1 a j := fun a j h => sI_ne _ _ _ _ _ _ h
  have ro : ∀ g', (w_sI u (c + 3) g x).1 (c + 3) g' = if g' = g then x else u.1 (c + 3) g' := fun g' => sI_row _ _ _ _ _
  have ro' : ∀ g', (w_sI t 105 (6 * b + g) x).1 105 (6 * b + g') = if g' = g then x else t.1 105 (6 * b + g') := fun g' => by
    rw [sI_row]
    by_cases e : g' = g
    · rw [if_pos (by omega), if_pos e]
    · rw [if_neg (by omega), if_neg e]
  have e2 : (w_sI u (c + 3) g x).1 c 2 = u.1 c 2 := ne _ _ (by omega)
  have e3 : (w_sI u (c + 3) g x).1 c 3 = u.1 c 3 := ne _ _ (by omega)
  refine ⟨Cx_fr hx (FC_s (by omega)) (FR_s (by unfold rsc; omega)) ⟨?_, fun g' q => ?_, fun f q => ?_, fun g' q => ?_, fun g' q => ?_, fun g' q => ?_, fun f q => ?_⟩ (Nm_k hN (ne _ _ (by omega)) (ne _ _ (by omega)) rfl) hBB, FC_s (by omega), FR_s (by unfold rsc; omega), ne _ _ (by omega), fun g' q => by rw [e2]; exact q⟩
  · rw [ne c 0 (by omega), ne' 112 b (by omega)]
    exact hs
  · have z := hG g' q
    rw [ne (c + 1) _ (by omega), ne' 106 _ (by omega), ne (c + 2) _ (by omega), ne' 104 _ (by omega), ro, ro', ne (c + 4) _ (by omega), ne' 108 _ (by omega), ne' 107 _ (by omega), e2, z.1, z.2.1, z.2.2.1, z.2.2.2.1]
    exact ⟨rfl, rfl, rfl, rfl, z.2.2.2.2⟩
  · have z := hF f q
    rw [ne (c + 5) _ (by omega), ne (c + 6) _ (by omega), ne' 109 _ (by omega), ne' 111 _ (by omega), ne' 110 _ (by omega), e3]
    exact z
  · rw [ne (c + 1) _ (by omega)]
    exact h4 g' q
  · rw [ro, e2]
    by_cases e : g' = g
    · rw [if_pos e, e]; exact hv
    · rw [if_neg e]; exact h5 g' q
  · rw [e2]; exact h6 g' q
  · rw [e3]; exact h7 f q

theorem Cx_bi {g : Nat} {x : Int32} (hx : Cx n m k d c b B u t) (hg : g < n) : SS n m k d c b B u t (w_sI u (c + 4) g x) (w_sI t 108 (6 * b + g) x) := by
  have h0 := hx
  obtain ⟨-, -, -, hc, hb, -, ⟨⟨n6, m8, -⟩, -⟩, -, ⟨hs, hG, hF, h4, h5, h6, h7⟩, hN, hBB⟩ := h0
  have c1 := SC_le hc
  have ne : ∀ a j, a ≠ c + 4 → (w_sI u (c + 4) g x).1 a j = u.1 a j := fun a j h => sI_ne _ _ _ _ _ _ h
  have ne' : ∀ a j, a ≠ 108 → (w_sI t 108 (6 * b + g) x).1 a j = t.1 a j := fun a j h => sI_ne _ _ _ _ _ _ h
  have ro : ∀ g', (w_sI u (c + 4) g x).1 (c + 4) g' = if g' = g then x else u.1 (c + 4) g' := fun g' => sI_row _ _ _ _ _
  have ro' : ∀ g', (w_sI t 108 (6 * b + g) x).1 108 (6 * b + g') = if g' = g then x else t.1 108 (6 * b + g') := fun g' => by
    rw [sI_row]
    by_cases e : g' = g
    · rw [if_pos (by omega), if_pos e]
    · rw [if_neg (by omega), if_neg e]
  have e2 : (w_sI u (c + 4) g x).1 c 2 = u.1 c 2 := ne _ _ (by omega)
  have e3 : (w_sI u (c + 4) g x).1 c 3 = u.1 c 3 := ne _ _ (by omega)
  refine ⟨Cx_fr hx (FC_s (by omega)) (FR_s (by unfold rsc; omega)) ⟨?_, fun g' q => ?_, fun f q => ?_, fun g' q => ?_, fun g' q => ?_, fun g' q => ?_, fun f q => ?_⟩ (Nm_k hN (ne _ _ (by omega)) (ne _ _ (by omega)) rfl) hBB, FC_s (by omega), FR_s (by unfold rsc; omega), ne _ _ (by omega), fun g' q => by rw [e2]; exact q⟩
  · rw [ne c 0 (by omega), ne' 112 b (by omega)]
    exact hs
  · have z := hG g' q
    rw [ne (c + 1) _ (by omega), ne' 106 _ (by omega), ne (c + 2) _ (by omega), ne' 104 _ (by omega), ne (c + 3) _ (by omega), ne' 105 _ (by omega), ro, ro', ne' 107 _ (by omega), e2, z.1, z.2.1, z.2.2.1, z.2.2.2.1]
    exact ⟨rfl, rfl, rfl, rfl, z.2.2.2.2⟩
  · have z := hF f q
    rw [ne (c + 5) _ (by omega), ne (c + 6) _ (by omega), ne' 109 _ (by omega), ne' 111 _ (by omega), ne' 110 _ (by omega), e3]
    exact z
  · rw [ne (c + 1) _ (by omega)]
    exact h4 g' q
  · rw [ne (c + 3) _ (by omega), e2]
    exact h5 g' q
  · rw [e2]; exact h6 g' q
  · rw [e3]; exact h7 f q

theorem Cx_mk {f : Nat} {x : Int32} (hx : Cx n m k d c b B u t) (hf : f < m) : SS n m k d c b B u t (w_sI u (c + 5) f x) (w_sI t 109 (8 * b + f) x) := by
  have h0 := hx
  obtain ⟨-, -, -, hc, hb, -, ⟨⟨n6, m8, -⟩, -⟩, -, ⟨hs, hG, hF, h4, h5, h6, h7⟩, hN, hBB⟩ := h0
  have c1 := SC_le hc
  have ne : ∀ a j, a ≠ c + 5 → (w_sI u (c + 5) f x).1 a j = u.1 a j := fun a j h => sI_ne _ _ _ _ _ _ h
  have ne' : ∀ a j, a ≠ 109 → (w_sI t 109 (8 * b + f) x).1 a j = t.1 a j := fun a j h => sI_ne _ _ _ _ _ _ h
  have ro : ∀ g', (w_sI u (c + 5) f x).1 (c + 5) g' = if g' = f then x else u.1 (c + 5) g' := fun g' => sI_row _ _ _ _ _
  have ro' : ∀ g', (w_sI t 109 (8 * b + f) x).1 109 (8 * b + g') = if g' = f then x else t.1 109 (8 * b + g') := fun g' => by
    rw [sI_row]
    by_cases e : g' = f
    · rw [if_pos (by omega), if_pos e]
    · rw [if_neg (by omega), if_neg e]
  have e2 : (w_sI u (c + 5) f x).1 c 2 = u.1 c 2 := ne _ _ (by omega)
  have e3 : (w_sI u (c + 5) f x).1 c 3 = u.1 c 3 := ne _ _ (by omega)
  refine ⟨Cx_fr hx (FC_s (by omega)) (FR_s (by unfold rsc; omega)) ⟨?_, fun g' q => ?_, fun f q => ?_, fun g' q => ?_, fun g' q => ?_, fun g' q => ?_, fun f q => ?_⟩ (Nm_k hN (ne _ _ (by omega)) (ne _ _ (by omega)) rfl) hBB, FC_s (by omega), FR_s (by unfold rsc; omega), ne _ _ (by omega), fun g' q => by rw [e2]; exact q⟩
  · rw [ne c 0 (by omega), ne' 112 b (by omega)]
    exact hs
  · have z := hG g' q
    rw [ne (c + 1) _ (by omega), ne (c + 2) _ (by omega), ne (c + 3) _ (by omega), ne (c + 4) _ (by omega), ne' 104 _ (by omega), ne' 105 _ (by omega), ne' 106 _ (by omega), ne' 107 _ (by omega), ne' 108 _ (by omega), e2]
    exact z
  · have z := hF f q
    rw [ro, ro', ne (c + 6) _ (by omega), ne' 111 _ (by omega), ne' 110 _ (by omega), e3, z.1, z.2.1]
    exact ⟨rfl, rfl, z.2.2⟩
  · rw [ne (c + 1) _ (by omega)]
    exact h4 g' q
  · rw [ne (c + 3) _ (by omega), e2]
    exact h5 g' q
  · rw [e2]; exact h6 g' q
  · rw [e3]; exact h7 f q

theorem Cx_fd {f : Nat} {x : Int32} (hx : Cx n m k d c b B u t) (hf : f < m) : SS n m k d c b B u t (w_sI u (c + 6) f x) (w_sI t 111 (8 * b + f) x) := by
  have h0 := hx
  obtain ⟨-, -, -, hc, hb, -, ⟨⟨n6, m8, -⟩, -⟩, -, ⟨hs, hG, hF, h4, h5, h6, h7⟩, hN, hBB⟩ := h0
  have c1 := SC_le hc
  have ne : ∀ a j, a ≠ c + 6 → (w_sI u (c + 6) f x).1 a j = u.1 a j := fun a j h => sI_ne _ _ _ _ _ _ h
  have ne' : ∀ a j, a ≠ 111 → (w_sI t 111 (8 * b + f) x).1 a j = t.1 a j := fun a j h => sI_ne _ _ _ _ _ _ h
  have ro : ∀ g', (w_sI u (c + 6) f x).1 (c + 6) g' = if g' = f then x else u.1 (c + 6) g' := fun g' => sI_row _ _ _ _ _
  have ro' : ∀ g', (w_sI t 111 (8 * b + f) x).1 111 (8 * b + g') = if g' = f then x else t.1 111 (8 * b + g') := fun g' => by
    rw [sI_row]
    by_cases e : g' = f
    · rw [if_pos (by omega), if_pos e]
    · rw [if_neg (by omega), if_neg e]
  have e2 : (w_sI u (c + 6) f x).1 c 2 = u.1 c 2 := ne _ _ (by omega)
  have e3 : (w_sI u (c + 6) f x).1 c 3 = u.1 c 3 := ne _ _ (by omega)
  refine ⟨Cx_fr hx (FC_s (by omega)) (FR_s (by unfold rsc; omega)) ⟨?_, fun g' q => ?_, fun f q => ?_, fun g' q => ?_, fun g' q => ?_, fun g' q => ?_, fun f q => ?_⟩ (Nm_k hN (ne _ _ (by omega)) (ne _ _ (by omega)) rfl) hBB, FC_s (by omega), FR_s (by unfold rsc; omega), ne _ _ (by omega), fun g' q => by rw [e2]; exact q⟩
  · rw [ne c 0 (by omega), ne' 112 b (by omega)]
    exact hs
  · have z := hG g' q
    rw [ne (c + 1) _ (by omega), ne (c + 2) _ (by omega), ne (c + 3) _ (by omega), ne (c + 4) _ (by omega), ne' 104 _ (by omega), ne' 105 _ (by omega), ne' 106 _ (by omega), ne' 107 _ (by omega), ne' 108 _ (by omega), e2]
    exact z
  · have z := hF f q
    rw [ne (c + 5) _ (by omega), ne' 109 _ (by omega), ro, ro', ne' 110 _ (by omega), e3, z.1, z.2.1]
    exact ⟨rfl, rfl, z.2.2⟩
  · rw [ne (c + 1) _ (by omega)]
    exact h4 g' q
  · rw [ne (c + 3) _ (by omega), e2]
    exact h5 g' q
  · rw [e2]; exact h6 g' q
  · rw [e3]; exact h7 f q

theorem bt_set {x : Int32} {g i : Nat} (hg : g < 32) : bt (x ||| ((1 : Int32) <<< (nI g &&& 31))) i = (bt x i || decide (i = g)) := by
  rw [bt_or]
  by_cases hi : i < 32
  · rw [bt_one hg hi]
  · rw [bt_ge (by omega), bt_ge (by omega)]
    have : ¬ i = g := by omega
    simp [this]
theorem Cx_fa {g : Nat} (hx : Cx n m k d c b B u t) (hg : g < n) : SS n m k d c b B u t (w_sI u c 2 (u.1 c 2 ||| ((1 : Int32) <<< (nI g &&& 31)))) (w_sI t 107 (6 * b + g) 0) := by
  have h0 := hx
  obtain ⟨-, -, -, hc, hb, -, ⟨⟨n6, m8, -⟩, -⟩, -, ⟨hs, hG, hF, h4, h5, h6, h7⟩, hN, hBB⟩ := h0
  have c1 := SC_le hc
  generalize hX : u.1 c 2 ||| ((1 : Int32) <<< (nI g &&& 31)) = X
  have hb2 : ∀ i, bt X i = (bt (u.1 c 2) i || decide (i = g)) := fun i => by rw [← hX]; exact bt_set (by omega)
  have ne : ∀ a j, (a ≠ c ∨ j ≠ 2) → (w_sI u c 2 X).1 a j = u.1 a j := fun a j h => if_neg (by omega)
  have ne' : ∀ a j, a ≠ 107 → (w_sI t 107 (6 * b + g) 0).1 a j = t.1 a j := fun a j h => sI_ne _ _ _ _ _ _ h
  have e2 : (w_sI u c 2 X).1 c 2 = X := sI_eq _ _ _ _
  have e3 : (w_sI u c 2 X).1 c 3 = u.1 c 3 := ne _ _ (by omega)
  have ro' : ∀ g', (w_sI t 107 (6 * b + g) 0).1 107 (6 * b + g') = if g' = g then 0 else t.1 107 (6 * b + g') := fun g' => by
    rw [sI_row]
    by_cases e : g' = g
    · rw [if_pos (by omega), if_pos e]
    · rw [if_neg (by omega), if_neg e]
  refine ⟨Cx_fr hx (FC_s (by omega)) (FR_s (by unfold rsc; omega)) ⟨?_, fun g' q => ?_, fun f q => ?_, fun g' q => ?_, fun g' q => ?_, fun g' q => ?_, fun f q => ?_⟩ (Nm_k hN (ne _ _ (by omega)) (ne _ _ (by omega)) rfl) hBB, FC_s (by omega), FR_s (by unfold rsc; omega), ne _ _ (by omega), fun g' q => by rw [e2, hb2, q]; rfl⟩
  · rw [ne c 0 (by omega), ne' 112 b (by omega)]
    exact hs
  · have z := hG g' q
    rw [ne (c + 1) _ (by omega), ne (c + 2) _ (by omega), ne (c + 3) _ (by omega), ne (c + 4) _ (by omega), ne' 104 _ (by omega), ne' 105 _ (by omega), ne' 106 _ (by omega), ro', ne' 108 _ (by omega), e2]
    refine ⟨z.1, z.2.1, z.2.2.1, z.2.2.2.1, ?_⟩
    by_cases e : g' = g
    · rw [if_pos e, hb2]
      exact (bI_f (by simp [e])).symm
    · rw [if_neg e, z.2.2.2.2]
      have : bt X g' = bt (u.1 c 2) g' := by rw [hb2]; simp [e]
      rw [this]
  · have z := hF f q
    rw [ne (c + 5) _ (by omega), ne (c + 6) _ (by omega), ne' 109 _ (by omega), ne' 111 _ (by omega), ne' 110 _ (by omega), e3]
    exact z
  · rw [ne (c + 1) _ (by omega)]
    exact h4 g' q
  · rw [ne (c + 3) _ (by omega), e2]
    obtain ⟨h, a1, a2, a3⟩ := h5 g' q
    refine ⟨h, a1, a2, fun w => a3 ?_⟩
    rw [hb2] at w
    cases hq : bt (u.1 c 2) g' with
    | false => rfl
    | true => rw [hq] at w; cases w
  · rw [e2, hb2, h6 g' q]
    have : ¬ g' = g := by omega
    simp [this]
  · rw [e3]; exact h7 f q
theorem Cx_ea {f : Nat} (hx : Cx n m k d c b B u t) (hf : f < m) : SS n m k d c b B u t (w_sI u c 3 (u.1 c 3 ||| ((1 : Int32) <<< (nI f &&& 31)))) (w_sI t 110 (8 * b + f) 1) := by
  have h0 := hx
  obtain ⟨-, -, -, hc, hb, -, ⟨⟨n6, m8, -⟩, -⟩, -, ⟨hs, hG, hF, h4, h5, h6, h7⟩, hN, hBB⟩ := h0
  have c1 := SC_le hc
  generalize hX : u.1 c 3 ||| ((1 : Int32) <<< (nI f &&& 31)) = X
  have hb2 : ∀ i, bt X i = (bt (u.1 c 3) i || decide (i = f)) := fun i => by rw [← hX]; exact bt_set (by omega)
  have ne : ∀ a j, (a ≠ c ∨ j ≠ 3) → (w_sI u c 3 X).1 a j = u.1 a j := fun a j h => if_neg (by omega)
  have ne' : ∀ a j, a ≠ 110 → (w_sI t 110 (8 * b + f) 1).1 a j = t.1 a j := fun a j h => sI_ne _ _ _ _ _ _ h
  have e2 : (w_sI u c 3 X).1 c 2 = u.1 c 2 := ne _ _ (by omega)
  have e3 : (w_sI u c 3 X).1 c 3 = X := sI_eq _ _ _ _
  have ro' : ∀ g', (w_sI t 110 (8 * b + f) 1).1 110 (8 * b + g') = if g' = f then 1 else t.1 110 (8 * b + g') := fun g' => by
    rw [sI_row]
    by_cases e : g' = f
    · rw [if_pos (by omega), if_pos e]
    · rw [if_neg (by omega), if_neg e]
  refine ⟨Cx_fr hx (FC_s (by omega)) (FR_s (by unfold rsc; omega)) ⟨?_, fun g' q => ?_, fun i q => ?_, fun g' q => ?_, fun g' q => ?_, fun g' q => ?_, fun i q => ?_⟩ (Nm_k hN (ne _ _ (by omega)) (ne _ _ (by omega)) rfl) hBB, FC_s (by omega), FR_s (by unfold rsc; omega), ne _ _ (by omega), fun g' q => by rw [e2]; exact q⟩
  · rw [ne c 0 (by omega), ne' 112 b (by omega)]
    exact hs
  · have z := hG g' q
    rw [ne (c + 1) _ (by omega), ne (c + 2) _ (by omega), ne (c + 3) _ (by omega), ne (c + 4) _ (by omega), ne' 104 _ (by omega), ne' 105 _ (by omega), ne' 106 _ (by omega), ne' 107 _ (by omega), ne' 108 _ (by omega), e2]
    exact z
  · have z := hF i q
    rw [ne (c + 5) _ (by omega), ne (c + 6) _ (by omega), ne' 109 _ (by omega), ne' 111 _ (by omega), ro', e3]
    refine ⟨z.1, z.2.1, ?_⟩
    by_cases e : i = f
    · rw [if_pos e, hb2]
      exact (bI_t (by simp [e])).symm
    · rw [if_neg e, z.2.2]
      have : bt X i = bt (u.1 c 3) i := by rw [hb2]; simp [e]
      rw [this]
  · rw [ne (c + 1) _ (by omega)]
    exact h4 g' q
  · rw [ne (c + 3) _ (by omega), e2]
    exact h5 g' q
  · rw [e2]; exact h6 g' q
  · rw [e3, hb2, h7 i q]
    have : ¬ i = f := by omega
    simp [this]
end

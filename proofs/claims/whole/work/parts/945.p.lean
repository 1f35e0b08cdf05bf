/-! class: the next token -/
section
variable {i s : Nat} {u : wSt}
theorem next_j {k : Nat} (hp : PL u.2.2) (h7 : u.1 38 7 = nI k) (hk : k ≤ 700) : ∃ u', F_X5_next_j23 38 u = some ((), u') ∧ u'.2 = u.2 ∧ (∀ a j, ¬ (a = 38 ∧ j ≤ 2) → u'.1 a j = u.1 a j) ∧ u'.1 38 0 = u.1 40 k ∧ u'.1 38 1 = u.1 41 k ∧ u'.1 38 2 = u.1 42 k := by
  have r9' : u.2.2 38 9 = 41 := by simp only [PL_u hp]
  have r10 : u.2.2 38 10 = 42 := by simp only [PL_u hp]
  have r11 : u.2.2 38 11 = 43 := by simp only [PL_u hp]
  obtain ⟨v, hv⟩ : ∃ v, v = w_sI (w_sI (w_sI u 38 0 (u.1 40 k)) 38 1 (u.1 41 k)) 38 2 (u.1 42 k) := ⟨_, rfl⟩
  refine ⟨v, ?_, by rw [hv]; rfl, fun a j w => ?_, ?_, ?_, ?_⟩
  · unfold F_X5_next_j23
    have a1 : (w_sI u 38 0 (u.1 40 k)).1 38 7 = nI k := by rw [sI_ne2 _ _ _ _ _ _ (by decide)]; exact h7
    have a2 : (w_sI (w_sI u 38 0 (u.1 40 k)) 38 1 (u.1 41 k)).1 38 7 = nI k := by rw [sI_ne2 _ _ _ _ _ _ (by decide)]; exact a1
    have b1 : (w_sI u 38 0 (u.1 40 k)).1 41 k = u.1 41 k := sI_ne _ _ _ _ _ _ (by decide)
    have b2 : (w_sI (w_sI u 38 0 (u.1 40 k)) 38 1 (u.1 41 k)).1 42 k = u.1 42 k := by rw [sI_ne _ _ _ _ _ _ (by decide), sI_ne _ _ _ _ _ _ (by decide)]
    rw [r9', wR_40, h7, wN_40 _ (by omega), wB_eq, sI_r, r10, wR_41, a1, wN_41 _ (by omega), wB_eq, b1, sI_r, sI_r, r11, wR_42, a2, wN_42 _ (by omega), wB_eq, b2, ← hv]
  · rw [hv, show ∀ (w : wSt) (x : Int32), (w_sI w 38 2 x).1 a j = w.1 a j from fun _ _ => if_neg (by omega), show ∀ (w : wSt) (x : Int32), (w_sI w 38 1 x).1 a j = w.1 a j from fun _ _ => if_neg (by omega)]
    exact if_neg (by omega)
  · rw [hv, sI_ne2 _ _ _ _ _ _ (by decide), sI_ne2 _ _ _ _ _ _ (by decide), sI_eq]
  · rw [hv, sI_ne2 _ _ _ _ _ _ (by decide), sI_eq]
  · rw [hv, sI_eq]
theorem next_c (hp : PL u.2.2) (h6 : u.1 38 6 = nI (s + 1)) (h7 : u.1 38 7 + (1 : Int32) = nI i) (hi : i ≤ s) (hs : s ≤ 700) : ∃ u', F_X5_next 38 u = some ((), u') ∧ u'.2 = u.2 ∧ (∀ a j, ¬ (a = 38 ∧ (j ≤ 2 ∨ j = 7)) → u'.1 a j = u.1 a j) ∧ u'.1 38 7 = nI i ∧ u'.1 38 0 = u.1 40 i ∧ u'.1 38 1 = u.1 41 i ∧ u'.1 38 2 = u.1 42 i := by
  have en : (nI (s + 1) ≤ nI i) = (s + 1 ≤ i) := nI_leE (by omega) (by omega)
  obtain ⟨u', e1, e2, e3, e4, e5, e6⟩ := next_j (u := w_sI u 38 7 (nI i)) (k := i) hp (sI_eq _ _ _ _) (by omega)
  have un : ∀ a j, ¬ (a = 38 ∧ j = 7) → (w_sI u 38 7 (nI i)).1 a j = u.1 a j := fun a j w => if_neg w
  refine ⟨u', ?_, e2, fun a j w => ?_, ?_, ?_, ?_, ?_⟩
  · unfold F_X5_next
    rw [h6, h7, if_neg (by rw [en]; omega), wB_eq, wJ_inl]
    exact e1
  · rw [e3 a j (by omega)]
    exact un a j (by omega)
  · rw [e3 38 7 (by omega)]
    exact sI_eq _ _ _ _
  · rw [e4, un 40 i (by omega)]
  · rw [e5, un 41 i (by omega)]
  · rw [e6, un 42 i (by omega)]
end

/-! reference: runs, numbers -/
def ncR (b : Nat → Nat) (p : Nat) : Nat → Nat
  | 0 => 0
  | j + 1 => if ncR b p j ≤ 99999 then 10 * ncR b p j + (b (p + j) - 48) else ncR b p j
section
variable {n p : Nat} {b : Nat → Nat} {u t : wSt}
theorem small_t (hm : PM t.2.2) (hT : Tb n b u.1 t.1) (h6 : t.1 79 6 = nI n) (hpn : p ≤ 701) : F_X9_isSmall 79 (nI p) t = some (bI (p < n ∧ isL (b p) = true)) := by
  have n7 := hT.1
  have q0 : t.2.2 79 0 = 81 := by simp only [PM_u hm]
  unfold F_X9_isSmall
  rw [h6]
  by_cases h : n ≤ p
  · rw [if_pos (by rw [nI_leE (by omega) (by omega)]; exact h), bI_f (by omega)]
  · obtain ⟨h1, h2, -⟩ := hT.2 p (by omega)
    have e97 : (nI (b p) < (97 : Int32)) = (b p < 97) := nI_ltE (a := b p) (b := 97) (by omega) (by omega)
    have e122 : ((122 : Int32) < nI (b p)) = (122 < b p) := nI_ltE (a := 122) (b := b p) (by omega) (by omega)
    rw [if_neg (by rw [nI_leE (by omega) (by omega)]; exact h), q0, wR_80, wN_80 _ (by omega), h2, wR_80, wN_80 _ (by omega), h2]
    by_cases a1 : b p < 97
    · rw [if_pos (by rw [e97]; exact a1), bI_f (fun q => by have := isL_e.mp q.2; omega)]
    · rw [if_neg (by rw [e97]; exact a1)]
      by_cases a2 : 122 < b p
      · rw [if_pos (by rw [e122]; exact a2), bI_f (fun q => by have := isL_e.mp q.2; omega)]
      · rw [if_neg (by rw [e122]; exact a2), bI_t ⟨by omega, isL_e.mpr (by omega)⟩]
theorem digit_t (hm : PM t.2.2) (hT : Tb n b u.1 t.1) (h6 : t.1 79 6 = nI n) (hpn : p ≤ 701) : F_X9_isDigit 79 (nI p) t = some (bI (p < n ∧ isD (b p) = true)) := by
  have n7 := hT.1
  have q0 : t.2.2 79 0 = 81 := by simp only [PM_u hm]
  unfold F_X9_isDigit
  rw [h6]
  by_cases h : n ≤ p
  · rw [if_pos (by rw [nI_leE (by omega) (by omega)]; exact h), bI_f (by omega)]
  · obtain ⟨h1, h2, -⟩ := hT.2 p (by omega)
    have e97 : (nI (b p) < (48 : Int32)) = (b p < 48) := nI_ltE (a := b p) (b := 48) (by omega) (by omega)
    have e122 : ((57 : Int32) < nI (b p)) = (57 < b p) := nI_ltE (a := 57) (b := b p) (by omega) (by omega)
    rw [if_neg (by rw [nI_leE (by omega) (by omega)]; exact h), q0, wR_80, wN_80 _ (by omega), h2, wR_80, wN_80 _ (by omega), h2]
    by_cases a1 : b p < 48
    · rw [if_pos (by rw [e97]; exact a1), bI_f (fun q => by have := isD_e.mp q.2; omega)]
    · rw [if_neg (by rw [e97]; exact a1)]
      by_cases a2 : 57 < b p
      · rw [if_pos (by rw [e122]; exact a2), bI_f (fun q => by have := isD_e.mp q.2; omega)]
      · rw [if_neg (by rw [e122]; exact a2), bI_t ⟨by omega, isD_e.mpr (by omega)⟩]
theorem blank_t (hm : PM t.2.2) (hT : Tb n b u.1 t.1) (h6 : t.1 79 6 = nI n) (h7 : t.1 79 7 = nI p) (hpn : p ≤ n) : wL (S := wSt) (fun x => F_X9_token_b0 79 x) wFu t = some (.inl (w_sI t 79 7 (nI (endR isB b n p)))) := by
  have n7 := hT.1
  have key : Ro (fun y => y = Sum.inl (w_sI t 79 7 (nI (endR isB b n p)))) (wL (S := wSt) (fun x => F_X9_token_b0 79 x) wFu t) := by
    refine wL_ro (fun j x => p + j ≤ n ∧ x = w_sI t 79 7 (nI (p + j)) ∧ endR isB b n (p + j) = endR isB b n p) _ 700 (by unfold wFu; omega) ?_ ⟨by omega, (sI_self h7).symm, rfl⟩
    rintro j x hj ⟨hjn, rfl, he⟩
    obtain ⟨v, hv⟩ : ∃ v, v = w_sI t 79 7 (nI (p + j)) := ⟨_, rfl⟩
    have v2 : v.2 = t.2 := by rw [hv]; rfl
    have vn : ∀ a i, ¬ (a = 79 ∧ i = 7) → v.1 a i = t.1 a i := fun a i w => by rw [hv]; exact if_neg w
    have v7 : v.1 79 7 = nI (p + j) := by rw [hv]; exact sI_eq _ _ _ _
    have v6 : v.1 79 6 = nI n := by rw [vn _ _ (by omega)]; exact h6
    have hmv : PM v.2.2 := by rw [v2]; exact hm
    have q0 : v.2.2 79 0 = 81 := by simp only [PM_u hmv]
    have en : (nI n ≤ nI (p + j)) = (n ≤ p + j) := nI_leE (by omega) (by omega)
    rw [← hv]
    unfold F_X9_token_b0 F_X9_token_j39
    rw [v6, v7]
    by_cases hn : n ≤ p + j
    · right
      rw [if_pos (by rw [en]; exact hn)]
      refine ⟨_, rfl, ?_⟩
      rw [hv, ← he, endR_end hn]
    · obtain ⟨hb, hb2, -⟩ := hT.2 (p + j) (by omega)
      have e80 : v.1 80 (p + j) = nI (b (p + j)) := by rw [vn _ _ (by omega)]; exact hb2
      have e32 : (nI (b (p + j)) = (32 : Int32)) = (b (p + j) = 32) := nI_eqI (a := b (p + j)) (b := 32) (by omega) (by omega)
      have e10 : (nI (b (p + j)) = (10 : Int32)) = (b (p + j) = 10) := nI_eqI (a := b (p + j)) (b := 10) (by omega) (by omega)
      have stp : isB (b (p + j)) = true → ∃ s', some (Sum.inl (w_sI v 79 7 (nI (p + j + 1)))) = (some (Sum.inl s') : Option (wSt ⊕ (wSt ⊕ (Unit × wSt)))) ∧ j < 700 ∧ p + (j + 1) ≤ n ∧ s' = w_sI t 79 7 (nI (p + (j + 1))) ∧ endR isB b n (p + (j + 1)) = endR isB b n p := fun hB =>
        ⟨_, rfl, by omega, by omega, by rw [hv, sI_sI]; rfl, by rw [← he, endR_go (show p + j < n by omega) hB]; rfl⟩
      rw [if_neg (by rw [en]; exact hn), q0, wR_80, wN_80 _ (by omega), e80]
      by_cases q1 : b (p + j) = 10
      · left
        rw [if_pos (by rw [e10]; exact q1), wJ_inl, wB_eq, nI_addL]
        exact stp (by unfold isB; rw [q1]; rfl)
      · rw [if_neg (by rw [e10]; exact q1), wR_80, wN_80 _ (by omega), e80]
        by_cases q2 : b (p + j) = 32
        · left
          rw [if_pos (by rw [e32]; exact q2), wJ_inl, wB_eq, nI_addL]
          exact stp (by unfold isB; rw [q2]; rfl)
        · right
          rw [if_neg (by rw [e32]; exact q2), wJ_inr]
          refine ⟨_, rfl, ?_⟩
          rw [hv, ← he, endR_stop (by unfold isB; rw [decide_eq_false q1, decide_eq_false q2]; decide)]
  obtain ⟨y, e, rfl⟩ := key
  exact e
theorem smalls_t (hm : PM t.2.2) (hT : Tb n b u.1 t.1) (h6 : t.1 79 6 = nI n) (h7 : t.1 79 7 = nI p) (hpn : p ≤ n) : wL (S := wSt) (fun x => F_X9_token_b90 79 x) wFu t = some (.inl (w_sI t 79 7 (nI (endR isL b n p)))) := by
  have n7 := hT.1
  have key : Ro (fun y => y = Sum.inl (w_sI t 79 7 (nI (endR isL b n p)))) (wL (S := wSt) (fun x => F_X9_token_b90 79 x) wFu t) := by
    refine wL_ro (fun j x => p + j ≤ n ∧ x = w_sI t 79 7 (nI (p + j)) ∧ endR isL b n (p + j) = endR isL b n p) _ 700 (by unfold wFu; omega) ?_ ⟨by omega, (sI_self h7).symm, rfl⟩
    rintro j x hj ⟨hjn, rfl, he⟩
    obtain ⟨v, hv⟩ : ∃ v, v = w_sI t 79 7 (nI (p + j)) := ⟨_, rfl⟩
    have v2 : v.2 = t.2 := by rw [hv]; rfl
    have vn : ∀ a i, ¬ (a = 79 ∧ i = 7) → v.1 a i = t.1 a i := fun a i w => by rw [hv]; exact if_neg w
    have v7 : v.1 79 7 = nI (p + j) := by rw [hv]; exact sI_eq _ _ _ _
    have v6 : v.1 79 6 = nI n := by rw [vn _ _ (by omega)]; exact h6
    have hmv : PM v.2.2 := by rw [v2]; exact hm
    have hTv : Tb n b u.1 v.1 := ⟨n7, fun i hi => by rw [vn 80 i (by omega)]; exact hT.2 i hi⟩
    have sm := small_t (p := p + j) hmv hTv v6 (by omega)
    rw [← hv]
    unfold F_X9_token_b90
    rw [v7, sm, wP_s]
    by_cases hL : p + j < n ∧ isL (b (p + j)) = true
    · left
      have n10 : ¬ (1 : Int32) = 0 := by decide
      rw [bI_t hL, if_neg n10, wB_eq, nI_addL]
      exact ⟨_, rfl, by omega, by omega, by rw [hv, sI_sI]; rfl, by rw [← he, endR_go hL.1 hL.2]; rfl⟩
    · right
      rw [bI_f hL, if_pos rfl]
      refine ⟨_, rfl, ?_⟩
      rw [hv, ← he]
      by_cases hn : n ≤ p + j
      · rw [endR_end hn]
      · rw [endR_stop (fun q => hL ⟨by omega, q⟩)]
  obtain ⟨y, e, rfl⟩ := key
  exact e
theorem ncR_le : ∀ j, (∀ i, i < j → b (p + i) ≤ 57) → ncR b p j ≤ 1000000 := by
  intro j
  induction j with
  | zero => intro _; show 0 ≤ 1000000; decide
  | succ j ih =>
    intro h
    have h1 := ih (fun i hi => h i (by omega))
    have h2 := h j (by omega)
    show (if ncR b p j ≤ 99999 then 10 * ncR b p j + (b (p + j) - 48) else ncR b p j) ≤ 1000000
    split <;> omega
/-- both numbers: the same, or both too much -/
theorem nc_e : ∀ j, (∀ i, i < j → b (p + i) ≤ 57) → (ncC b p j = ncR b p j ∧ ncR b p j ≤ 99999) ∨ (99999 < ncC b p j ∧ 99999 < ncR b p j) := by
  intro j
  induction j with
  | zero => intro _; exact Or.inl ⟨rfl, by show 0 ≤ 99999; decide⟩
  | succ j ih =>
    intro h
    have h2 := h j (by omega)
    have e1 : ncC b p (j + 1) = if 1000000 ≤ ncC b p j * 10 + (b (p + j) - 48) then 1000000 else ncC b p j * 10 + (b (p + j) - 48) := rfl
    have e2 : ncR b p (j + 1) = if ncR b p j ≤ 99999 then 10 * ncR b p j + (b (p + j) - 48) else ncR b p j := rfl
    rw [e1, e2]
    rcases ih (fun i hi => h i (by omega)) with ⟨a1, a2⟩ | ⟨a1, a2⟩
    · rw [if_pos a2]
      split <;> omega
    · rw [if_neg (show ¬ ncR b p j ≤ 99999 by omega)]
      split <;> omega
theorem numb_t (hm : PM t.2.2) (hT : Tb n b u.1 t.1) (h6 : t.1 79 6 = nI n) (h7 : t.1 79 7 = nI p) (h9 : t.1 79 9 = 0) (hpn : p ≤ n) : ∃ t', wL (S := wSt) (fun x => F_X9_token_b213 79 x) wFu t = some ((), t') ∧ t'.2 = t.2 ∧ (∀ a j, ¬ (a = 79 ∧ (j = 7 ∨ j = 9)) → t'.1 a j = t.1 a j) ∧ t'.1 79 7 = nI (endR isD b n p) ∧ t'.1 79 9 = nI (ncR b p (endR isD b n p - p)) := by
  have n7 := hT.1
  have key : Ro (fun y => ∃ v : wSt, y = ((), v) ∧ v.2 = t.2 ∧ (∀ a j, ¬ (a = 79 ∧ (j = 7 ∨ j = 9)) → v.1 a j = t.1 a j) ∧ v.1 79 7 = nI (endR isD b n p) ∧ v.1 79 9 = nI (ncR b p (endR isD b n p - p))) (wL (S := wSt) (fun x => F_X9_token_b213 79 x) wFu t) := by
    refine wL_ro (fun j v => p + j ≤ n ∧ v.2 = t.2 ∧ (∀ a i, ¬ (a = 79 ∧ (i = 7 ∨ i = 9)) → v.1 a i = t.1 a i) ∧ v.1 79 7 = nI (p + j) ∧ v.1 79 9 = nI (ncR b p j) ∧ endR isD b n (p + j) = endR isD b n p ∧ ∀ i, i < j → b (p + i) ≤ 57) _ 700 (by unfold wFu; omega) ?_ ⟨by omega, rfl, fun _ _ _ => rfl, h7, h9, rfl, fun i hi => by omega⟩
    rintro j v hj ⟨hjn, v2, vn, v7, v9, he, hall⟩
    have v6 : v.1 79 6 = nI n := by rw [vn _ _ (by omega)]; exact h6
    have hmv : PM v.2.2 := by rw [v2]; exact hm
    have q0 : v.2.2 79 0 = 81 := by simp only [PM_u hmv]
    have hTv : Tb n b u.1 v.1 := ⟨n7, fun i hi => by rw [vn 80 i (by omega)]; exact hT.2 i hi⟩
    have dg := digit_t (p := p + j) hmv hTv v6 (by omega)
    have hc := ncR_le (b := b) (p := p) j hall
    unfold F_X9_token_b213 F_X9_token_j261
    rw [v7, dg, wP_s]
    by_cases hD : p + j < n ∧ isD (b (p + j)) = true
    · left
      have hD' := isD_e.mp hD.2
      have n10 : ¬ (1 : Int32) = 0 := by decide
      have e99 : (nI (ncR b p j) ≤ (99999 : Int32)) = (ncR b p j ≤ 99999) := nI_leE (a := ncR b p j) (b := 99999) (by omega) (by omega)
      have e80 : v.1 80 (p + j) = nI (b (p + j)) := by rw [vn _ _ (by omega)]; exact (hT.2 (p + j) hD.1).2.1
      rw [bI_t hD, if_neg n10, v9]
      have fin : ∀ x, x = nI (ncR b p (j + 1)) → ∃ s', some (Sum.inl (w_sI (w_sI v 79 9 x) 79 7 (nI (p + j + 1)))) = (some (Sum.inl s') : Option (wSt ⊕ (Unit × wSt))) ∧ j < 700 ∧ p + (j + 1) ≤ n ∧ s'.2 = t.2 ∧ (∀ a i, ¬ (a = 79 ∧ (i = 7 ∨ i = 9)) → s'.1 a i = t.1 a i) ∧ s'.1 79 7 = nI (p + (j + 1)) ∧ s'.1 79 9 = nI (ncR b p (j + 1)) ∧ endR isD b n (p + (j + 1)) = endR isD b n p ∧ ∀ i, i < j + 1 → b (p + i) ≤ 57 := fun x hx => by
        refine ⟨_, rfl, by omega, by omega, v2, fun a i w => ?_, sI_eq _ _ _ _, ?_, ?_, fun i hi => ?_⟩
        · rw [show ∀ (w : wSt) (x : Int32), (w_sI w 79 7 x).1 a i = w.1 a i from fun _ _ => if_neg (by omega), show ∀ (w : wSt) (x : Int32), (w_sI w 79 9 x).1 a i = w.1 a i from fun _ _ => if_neg (by omega)]
          exact vn a i w
        · rw [sI_ne2 _ _ _ _ _ _ (by decide), sI_eq, hx]
        · rw [← he, endR_go hD.1 hD.2]
          rfl
        · by_cases e : i = j
          · rw [e]; exact hD'.2
          · exact hall i (by omega)
      by_cases h99 : ncR b p j ≤ 99999
      · have s1 : (10 : Int32) * nI (ncR b p j) = nI (10 * ncR b p j) := nI_mulL _ 10
        have s2 : nI (10 * ncR b p j + b (p + j)) - (48 : Int32) = nI (10 * ncR b p j + b (p + j) - 48) := nI_sub (a := 10 * ncR b p j + b (p + j)) (b := 48) (by omega)
        rw [if_pos (by rw [e99]; exact h99), q0, wR_80, wN_80 _ (by omega), e80, s1, nI_add, s2, wJ_inl, wB_eq, wB_eq, sI_ne2 _ _ _ _ _ _ (by decide), v7, nI_addL]
        refine fin _ ?_
        show _ = nI (if ncR b p j ≤ 99999 then 10 * ncR b p j + (b (p + j) - 48) else ncR b p j)
        rw [if_pos h99]
        congr 1
        omega
      · rw [if_neg (by rw [e99]; exact h99), wJ_inl, wB_eq, wB_eq, sI_ne2 _ _ _ _ _ _ (by decide), v7, nI_addL]
        refine fin _ ?_
        show _ = nI (if ncR b p j ≤ 99999 then 10 * ncR b p j + (b (p + j) - 48) else ncR b p j)
        rw [if_neg h99]
    · right
      rw [bI_f hD, if_pos rfl]
      have hE : endR isD b n (p + j) = p + j := by
        by_cases hn : n ≤ p + j
        · exact endR_end hn
        · exact endR_stop (fun q => hD ⟨by omega, q⟩)
      refine ⟨_, rfl, v, rfl, v2, vn, ?_, ?_⟩
      · rw [← he, hE]; exact v7
      · rw [← he, hE, show p + j - p = j from by omega]; exact v9
  obtain ⟨y, e, v, rfl, v2, vn, v7, v9⟩ := key
  exact ⟨v, e, v2, vn, v7, v9⟩
end

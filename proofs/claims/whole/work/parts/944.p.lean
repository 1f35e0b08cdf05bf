/-! class: all tokens -/
def TA (b : Nat → Nat) (n : Nat) (ps : Nat → Nat) (U : Nat → Nat → Int32) (s : Nat) : Prop := ps 0 = 0 ∧ ∀ j, j < s → ps j ≤ n ∧ TkC b n (endR isB b n (ps j)) (U 40 j) (U 42 j) (ps (j + 1)) ∧ U 41 j = nI (endR isB b n (ps j))
theorem TkC_gt {b : Nat → Nat} {n P q : Nat} {K W : Int32} (h : TkC b n P K W q) (hP : P ≤ n) : q ≤ n ∧ (K ≠ 35 → P < q) ∧ P ≤ q := by
  rcases h with ⟨h1, h2, h3, h4⟩ | ⟨h1, h2, h3, h4⟩ | ⟨h1, h2, h3, h4, h5, h6⟩ | ⟨h1, h2, h3, h4, h5, h6⟩
  · exact ⟨by omega, fun z => absurd h2 z, by omega⟩
  · have a := endR_ge (q := isL) (b := b) (n := n) (p := P + 1) (by omega)
    rw [← endR_go h1 h2, ← h3] at a
    exact ⟨by omega, fun _ => by omega, by omega⟩
  · have a := endR_ge (q := isD) (b := b) (n := n) (p := P + 1) (by omega)
    rw [← endR_go h1 h3, ← h4] at a
    exact ⟨by omega, fun _ => by omega, by omega⟩
  · have : ∀ x y, 1 ≤ sgN x y ∧ (sgN x y ≤ 1 ∨ (sgN x y = 2 ∧ y ≠ 256)) := fun x y => by
      unfold sgN
      split
      · split
        · omega
        · split <;> omega
      · split
        · split <;> omega
        · omega
    have z := this (b P) (if P + 1 < n then b (P + 1) else 256)
    by_cases q1 : P + 1 < n
    · exact ⟨by omega, fun _ => by omega, by omega⟩
    · rw [if_neg q1] at z h6
      exact ⟨by omega, fun _ => by omega, by omega⟩
section
variable {n p : Nat} {b : Nat → Nat} {u t : wSt}
theorem split_c (hp : PL u.2.2) (hT : Tb n b u.1 t.1) (hW : ∀ i, i < 20 → u.1 39 i = wcod.getD i 0) (h4 : u.1 38 4 = nI n) (h5 : u.1 38 5 = 0) (h6 : u.1 38 6 = 0) (h0 : u.1 38 0 = 36) : ∃ (s : Nat) (ps : Nat → Nat) (u' : wSt), wL (S := Int32 × wSt) (fun x => F_X5_split_b31 38 x.1 x.2) wFu ((0 : Int32), u) = some (.inl u') ∧ u'.2 = u.2 ∧ (∀ a j, ¬ (a = 38 ∧ (j = 0 ∨ j = 1 ∨ j = 2 ∨ j = 5 ∨ j = 6)) → ¬ (40 ≤ a ∧ a ≤ 42) → u'.1 a j = u.1 a j) ∧ u'.1 38 6 = nI (s + 1) ∧ s ≤ 700 ∧ TA b n ps u'.1 (s + 1) ∧ u'.1 40 s = 35 ∧ (∀ j, j < s → u'.1 40 j ≠ 35) := by
  have n7 := hT.1
  have key : Ro (fun y => ∃ (s : Nat) (ps : Nat → Nat) (v : wSt), y = Sum.inl v ∧ v.2 = u.2 ∧ (∀ a j, ¬ (a = 38 ∧ (j = 0 ∨ j = 1 ∨ j = 2 ∨ j = 5 ∨ j = 6)) → ¬ (40 ≤ a ∧ a ≤ 42) → v.1 a j = u.1 a j) ∧ v.1 38 6 = nI (s + 1) ∧ s ≤ 700 ∧ TA b n ps v.1 (s + 1) ∧ v.1 40 s = 35 ∧ (∀ j, j < s → v.1 40 j ≠ 35)) (wL (S := Int32 × wSt) (fun x => F_X5_split_b31 38 x.1 x.2) wFu ((0 : Int32), u)) := by
    refine wL_ro (fun k x => ∃ (v : wSt) (ps : Nat → Nat), x = (nI k, v) ∧ v.2 = u.2 ∧ (∀ a j, ¬ (a = 38 ∧ (j = 0 ∨ j = 1 ∨ j = 2 ∨ j = 5 ∨ j = 6)) → ¬ (40 ≤ a ∧ a ≤ 42) → v.1 a j = u.1 a j) ∧ v.1 38 6 = nI k ∧ TA b n ps v.1 k ∧ v.1 38 5 = nI (ps k) ∧ ((v.1 38 0 ≠ 35 ∧ k ≤ ps k ∧ ps k ≤ n ∧ (∀ j, j < k → v.1 40 j ≠ 35)) ∨ (∃ s, k = s + 1 ∧ v.1 38 0 = 35 ∧ s ≤ n ∧ v.1 40 s = 35 ∧ (∀ j, j < s → v.1 40 j ≠ 35)))) _ 701 (by unfold wFu; omega) ?_ ⟨u, fun _ => 0, rfl, rfl, fun _ _ _ _ => rfl, h6, ⟨rfl, fun j hj => by omega⟩, h5, Or.inl ⟨by rw [h0]; decide, Nat.le_refl 0, Nat.zero_le n, fun j hj => by omega⟩⟩
    rintro k x hk ⟨v, ps, rfl, v2, vn, v6, hA, v5, hE⟩
    have e7 : ((700 : Int32) < nI k) = (700 < k) := nI_ltE (a := 700) (b := k) (by omega) (by omega)
    unfold F_X5_split_b31
    dsimp only
    rcases hE with ⟨v0, g1, g2, g3⟩ | ⟨s, rfl, v0, g1, g2, g3⟩
    · left
      have hpv : PL v.2.2 := by rw [v2]; exact hp
      have hTv : Tb n b v.1 t.1 := ⟨n7, fun i hi => by rw [vn 1 i (by omega) (by omega)]; exact hT.2 i hi⟩
      obtain ⟨K, W, q, w, f1, f2, f3, f4, f5, f6, f7, f8⟩ := find_c hpv hTv (fun i hi => by rw [vn 39 i (by omega) (by omega)]; exact hW i hi) (by rw [vn 38 4 (by omega) (by omega)]; exact h4) v5 g2
      have hpw : PL w.2.2 := by rw [f2]; exact hpv
      have r9' : w.2.2 38 9 = 41 := by simp only [PL_u hpw]
      have r10 : w.2.2 38 10 = 42 := by simp only [PL_u hpw]
      have r11 : w.2.2 38 11 = 43 := by simp only [PL_u hpw]
      have ge := endR_ge (q := isB) (b := b) g2
      have gt := TkC_gt f8 (by omega)
      obtain ⟨z, hz⟩ : ∃ z, z = w_sI (w_sI (w_sI w 40 k K) 41 k (nI (endR isB b n (ps k)))) 42 k W := ⟨_, rfl⟩
      have zn : ∀ a j, ¬ (40 ≤ a ∧ a ≤ 42 ∧ j = k) → z.1 a j = w.1 a j := fun a j y => by
        rw [hz, show ∀ (w : wSt) (x : Int32), (w_sI w 42 k x).1 a j = w.1 a j from fun _ _ => if_neg (by omega), show ∀ (w : wSt) (x : Int32), (w_sI w 41 k x).1 a j = w.1 a j from fun _ _ => if_neg (by omega)]
        exact if_neg (by omega)
      have z40 : z.1 40 k = K := by rw [hz, sI_ne _ _ _ _ _ _ (by decide), sI_ne _ _ _ _ _ _ (by decide), sI_eq]
      have z41 : z.1 41 k = nI (endR isB b n (ps k)) := by rw [hz, sI_ne _ _ _ _ _ _ (by decide), sI_eq]
      have z42 : z.1 42 k = W := by rw [hz, sI_eq]
      have z6 : z.1 38 6 = nI k := by rw [zn _ _ (by omega), f3 _ _ (by omega)]; exact v6
      rw [if_neg (by rw [e7]; omega), if_neg v0, f1, wC_s, r9', wR_40, wSI_eq, wN_40 _ (by omega), sI_r, r10, wR_41, wSI_eq, wN_41 _ (by omega), sI_r, sI_r, r11, wR_42, wSI_eq, wN_42 _ (by omega), f5, sI_ne _ _ _ _ _ _ (by decide), f6, sI_ne _ _ _ _ _ _ (by decide), sI_ne _ _ _ _ _ _ (by decide), f7, ← hz, z6, wB_eq, wB_eq, nI_addL]
      have tn : ∀ a j, ¬ (a = 38 ∧ j = 6) → (w_sI z 38 6 (nI (k + 1))).1 a j = z.1 a j := fun a j y => if_neg y
      have old : ∀ a j, 40 ≤ a → a ≤ 42 → j < k → (w_sI z 38 6 (nI (k + 1))).1 a j = v.1 a j := fun a j y1 y2 y3 => by rw [tn _ _ (by omega), zn _ _ (by omega), f3 _ _ (by omega)]
      obtain ⟨ps', p1, p2⟩ : ∃ ps' : Nat → Nat, (∀ j, j ≤ k → ps' j = ps j) ∧ ps' (k + 1) = q := ⟨fun j => if j ≤ k then ps j else q, fun j hj => if_pos hj, if_neg (by omega)⟩
      refine ⟨_, rfl, by omega, _, ps', rfl, by show z.2 = _; rw [hz]; exact f2.trans v2, fun a j y1 y2 => ?_, sI_eq _ _ _ _, ⟨by rw [p1 0 (by omega)]; exact hA.1, fun j hj => ?_⟩, ?_, ?_⟩
      · rw [tn _ _ (by omega), zn _ _ (by omega), f3 _ _ (by omega)]
        exact vn a j y1 y2
      · rw [p1 j (by omega)]
        by_cases hjk : j = k
        · subst hjk
          rw [p2, tn 40 _ (by omega), tn 41 _ (by omega), tn 42 _ (by omega), z40, z41, z42]
          exact ⟨g2, f8, rfl⟩
        · rw [p1 (j + 1) (by omega), old 40 j (by omega) (by omega) (by omega), old 41 j (by omega) (by omega) (by omega), old 42 j (by omega) (by omega) (by omega)]
          exact hA.2 j (by omega)
      · rw [p2, tn _ _ (by omega), zn _ _ (by omega)]
        exact f4
      · rw [tn 38 0 (by omega), zn 38 0 (by omega), f5, p2]
        by_cases hK : K = 35
        · right
          refine ⟨k, rfl, hK, by omega, by rw [tn _ _ (by omega), z40]; exact hK, fun j hj => ?_⟩
          rw [old 40 j (by omega) (by omega) hj]
          exact g3 j hj
        · left
          have := gt.2.1 hK
          refine ⟨hK, by omega, by omega, fun j hj => ?_⟩
          by_cases hjk : j = k
          · subst hjk
            rw [tn _ _ (by omega), z40]
            exact hK
          · rw [old 40 j (by omega) (by omega) (by omega)]
            exact g3 j (by omega)
    · right
      have P : Sum.inl v = (Sum.inl v : wSt ⊕ (Unit × wSt)) ∧ v.2 = u.2 ∧ (∀ a j, ¬ (a = 38 ∧ (j = 0 ∨ j = 1 ∨ j = 2 ∨ j = 5 ∨ j = 6)) → ¬ (40 ≤ a ∧ a ≤ 42) → v.1 a j = u.1 a j) ∧ v.1 38 6 = nI (s + 1) ∧ s ≤ 700 ∧ TA b n ps v.1 (s + 1) ∧ v.1 40 s = 35 ∧ (∀ j, j < s → v.1 40 j ≠ 35) := ⟨rfl, v2, vn, v6, by omega, hA, g2, g3⟩
      by_cases h7 : (700 : Int32) < nI (s + 1)
      · rw [if_pos h7]
        exact ⟨_, rfl, s, ps, v, P⟩
      · rw [if_neg h7, if_pos v0]
        exact ⟨_, rfl, s, ps, v, P⟩
  obtain ⟨y, e, s, ps, v, rfl, h⟩ := key
  exact ⟨s, ps, v, e, h⟩
end

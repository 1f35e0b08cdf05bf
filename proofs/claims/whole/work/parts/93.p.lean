/-! reference: which word -/
def wln (k : Nat) : Nat := [5, 5, 4, 4, 4, 4, 3, 6, 4, 5, 3, 2, 3, 6, 6, 3, 5, 5, 5, 4].getD k 0
def wof : Nat → Nat
  | 0 => 0
  | k + 1 => wof k + wln k + 1
theorem w_tb : ∀ k, k < 20 → (∀ i, i < wln k → wlet.getD (wof k + i) 0 ≠ 32) ∧ wlet.getD (wof k + wln k) 0 = 32 ∧ wof k + wln k < 106 ∧ wln k ≤ 6 := by decide +kernel
def SmW (b : Nat → Nat) (P L k : Nat) : Prop := wln k = L ∧ ∀ i, i < L → wlet.getD (wof k + i) 0 = nI (b (P + i))
section
variable {n p P E : Nat} {b : Nat → Nat} {u t : wSt}
theorem len_t {k : Nat} (hm : PM t.2.2) (hW : ∀ j, j < 106 → t.1 81 j = wlet.getD j 0) (hk : k < 20) : wL (S := Int32) (fun x => F_X9_wordAt_b18 t 79 (nI (wof k)) x) wFu (0 : Int32) = some (.inl (nI (wln k))) := by
  obtain ⟨t1, t2, t3, t4⟩ := w_tb k hk
  have q3 : t.2.2 79 3 = 82 := by simp only [PM_u hm]
  have key : Ro (fun y => y = Sum.inl (nI (wln k))) (wL (S := Int32) (fun x => F_X9_wordAt_b18 t 79 (nI (wof k)) x) wFu (0 : Int32)) := by
    refine wL_ro (fun j x => x = nI j ∧ j ≤ wln k) _ 6 (by unfold wFu; omega) ?_ ⟨rfl, by omega⟩
    rintro j x hj ⟨rfl, hjl⟩
    unfold F_X9_wordAt_b18
    rw [q3, wR_81, nI_add, wN_81 _ (by omega), hW _ (by omega)]
    by_cases h : j = wln k
    · right
      subst h
      rw [if_pos t2]
      exact ⟨_, rfl, rfl⟩
    · left
      rw [if_neg (t1 j (by omega)), wB_eq, nI_addL]
      exact ⟨_, rfl, by omega, rfl, by omega⟩
  obtain ⟨y, e, rfl⟩ := key
  exact e
theorem cmp_t {k : Nat} (hm : PM t.2.2) (hT : Tb n b u.1 t.1) (hW : ∀ j, j < 106 → t.1 81 j = wlet.getD j 0) (hk : k < 20) (hE : P + wln k ≤ n) : ∃ z : Int32, wL (S := Int32 × Int32) (fun x => F_X9_wordAt_b57 (nI (wln k)) t 79 (nI (wof k)) (nI P) x.1 x.2) wFu ((1 : Int32), (0 : Int32)) = some (.inl z) ∧ ((z = 1 ∧ ∀ i, i < wln k → wlet.getD (wof k + i) 0 = nI (b (P + i))) ∨ (z = 0 ∧ ∃ i, i < wln k ∧ ¬ wlet.getD (wof k + i) 0 = nI (b (P + i)))) := by
  obtain ⟨t1, t2, t3, t4⟩ := w_tb k hk
  have n7 := hT.1
  have q3 : t.2.2 79 3 = 82 := by simp only [PM_u hm]
  have q0 : t.2.2 79 0 = 81 := by simp only [PM_u hm]
  have key : Ro (fun y => ∃ z : Int32, y = Sum.inl z ∧ ((z = 1 ∧ ∀ i, i < wln k → wlet.getD (wof k + i) 0 = nI (b (P + i))) ∨ (z = 0 ∧ ∃ i, i < wln k ∧ ¬ wlet.getD (wof k + i) 0 = nI (b (P + i))))) (wL (S := Int32 × Int32) (fun x => F_X9_wordAt_b57 (nI (wln k)) t 79 (nI (wof k)) (nI P) x.1 x.2) wFu ((1 : Int32), (0 : Int32))) := by
    refine wL_ro (fun j x => j ≤ wln k ∧ ((x = ((1 : Int32), nI j) ∧ ∀ i, i < j → wlet.getD (wof k + i) 0 = nI (b (P + i))) ∨ (x = ((0 : Int32), nI j) ∧ ∃ i, i < wln k ∧ ¬ wlet.getD (wof k + i) 0 = nI (b (P + i))))) _ 6 (by unfold wFu; omega) ?_ ⟨by omega, Or.inl ⟨rfl, fun i hi => by omega⟩⟩
    rintro j x hj ⟨hjl, hx⟩
    have en : (nI (wln k) ≤ nI j) = (wln k ≤ j) := nI_leE (by omega) (by omega)
    unfold F_X9_wordAt_b57 F_X9_wordAt_j96
    rcases hx with ⟨rfl, hall⟩ | ⟨rfl, hex⟩
    · dsimp only
      by_cases h : wln k ≤ j
      · right
        rw [if_pos (by rw [en]; exact h)]
        exact ⟨_, rfl, 1, rfl, Or.inl ⟨rfl, fun i hi => hall i (by omega)⟩⟩
      · left
        have n10 : ¬ (1 : Int32) = 0 := by decide
        rw [if_neg (by rw [en]; exact h), if_neg n10, q3, wR_81, nI_add, wN_81 _ (by omega), q0, wR_80, nI_add, wN_80 _ (by omega), hW _ (by omega), (hT.2 (P + j) (by omega)).2.1]
        by_cases e : wlet.getD (wof k + j) 0 = nI (b (P + j))
        · rw [if_pos e, wJ_inl, wB_eq, nI_addL]
          refine ⟨_, rfl, by omega, by omega, Or.inl ⟨rfl, fun i hi => ?_⟩⟩
          by_cases q : i = j
          · rw [q]; exact e
          · exact hall i (by omega)
        · rw [if_neg e, wJ_inl, wB_eq, nI_addL]
          exact ⟨_, rfl, by omega, by omega, Or.inr ⟨rfl, j, by omega, e⟩⟩
    · dsimp only
      right
      by_cases h : wln k ≤ j
      · rw [if_pos (by rw [en]; exact h)]
        exact ⟨_, rfl, 0, rfl, Or.inr ⟨rfl, hex⟩⟩
      · rw [if_neg (by rw [en]; exact h), if_pos rfl]
        exact ⟨_, rfl, 0, rfl, Or.inr ⟨rfl, hex⟩⟩
  obtain ⟨y, e, z, rfl, h⟩ := key
  exact ⟨z, e, h⟩
theorem cmp_0 {k : Nat} (hk : k < 20) : wL (S := Int32 × Int32) (fun x => F_X9_wordAt_b57 (nI (wln k)) t 79 (nI (wof k)) (nI P) x.1 x.2) wFu ((0 : Int32), (0 : Int32)) = some (.inl 0) := by
  have key : Ro (fun y => y = Sum.inl (0 : Int32)) (wL (S := Int32 × Int32) (fun x => F_X9_wordAt_b57 (nI (wln k)) t 79 (nI (wof k)) (nI P) x.1 x.2) wFu ((0 : Int32), (0 : Int32))) := by
    refine wL_ro (fun j x => x = ((0 : Int32), (0 : Int32))) _ 0 (by unfold wFu; omega) ?_ rfl
    rintro j x hj rfl
    right
    unfold F_X9_wordAt_b57
    dsimp only
    by_cases h : nI (wln k) ≤ 0
    · rw [if_pos h]
      exact ⟨_, rfl, rfl⟩
    · rw [if_neg h, if_pos rfl]
      exact ⟨_, rfl, rfl⟩
  obtain ⟨y, e, rfl⟩ := key
  exact e
theorem wordAt_t (hm : PM t.2.2) (hT : Tb n b u.1 t.1) (hW : ∀ j, j < 106 → t.1 81 j = wlet.getD j 0) (hPE : P ≤ E) (hE : E ≤ n) : ∃ r : Int32, F_X9_wordAt 79 (nI P) (nI E) t = some r ∧ ((∃ k : Nat, k < 20 ∧ r = nI k ∧ SmW b P (E - P) k) ∨ (r = -1 ∧ ∀ k, k < 20 → ¬ SmW b P (E - P) k)) := by
  have n7 := hT.1
  have q3 : t.2.2 79 3 = 82 := by simp only [PM_u hm]
  have w20 : wof 20 = 106 := by decide
  have s1 : nI E - nI P = nI (E - P) := nI_sub (by omega)
  have key : Ro (fun r => (∃ k : Nat, k < 20 ∧ r = nI k ∧ SmW b P (E - P) k) ∨ (r = -1 ∧ ∀ k, k < 20 → ¬ SmW b P (E - P) k)) (F_X9_wordAt 79 (nI P) (nI E) t) := by
    unfold F_X9_wordAt
    refine wL_ro (fun k x => x = (nI k, nI (wof k)) ∧ ∀ i, i < k → ¬ SmW b P (E - P) i) _ 20 (by unfold wFu; omega) ?_ ⟨rfl, fun i hi => by omega⟩
    rintro k x hk ⟨rfl, hall⟩
    unfold F_X9_wordAt_b5
    dsimp only
    rw [q3, wR_81]
    have e106 : (Int32.ofNat (w_sh 81).2) = nI 106 := by decide
    rw [e106]
    by_cases h20 : k = 20
    · right
      subst h20
      rw [w20, if_pos (by decide)]
      exact ⟨_, rfl, Or.inr ⟨rfl, fun i hi => hall i hi⟩⟩
    · have hk' : k < 20 := by omega
      obtain ⟨t1, t2, t3, t4⟩ := w_tb k hk'
      have eo : (nI 106 ≤ nI (wof k)) = (106 ≤ wof k) := nI_leE (by omega) (by omega)
      have el : (nI (wln k) = nI (E - P)) = (wln k = E - P) := nI_eqI (by omega) (by omega)
      have nxt : nI (wof k) + (nI (wln k) + (1 : Int32)) = nI (wof (k + 1)) := by
        rw [show nI (wln k) + (1 : Int32) = nI (wln k + 1) from nI_addL _ 1, nI_add]
        rfl
      have ext : ∀ i, ¬ SmW b P (E - P) k → i < k + 1 → ¬ SmW b P (E - P) i := fun i hn hi => by
        by_cases q : i = k
        · rw [q]; exact hn
        · exact hall i (by omega)
      rw [if_neg (by rw [eo]; omega), len_t hm hW hk', wJ_inl]
      unfold F_X9_wordAt_j39 F_X9_wordAt_j52 F_X9_wordAt_j104
      rw [s1]
      by_cases hl : wln k = E - P
      · rw [if_pos (by rw [el]; exact hl), wJ_inl]
        obtain ⟨z, e, hz⟩ := cmp_t (P := P) hm hT hW hk' (by omega)
        rw [e, wJ_inl]
        rcases hz with ⟨rfl, ha⟩ | ⟨rfl, i, hi, hne⟩
        · right
          have n10 : ¬ (1 : Int32) = 0 := by decide
          rw [if_neg n10]
          exact ⟨_, rfl, Or.inl ⟨k, hk', rfl, hl, fun i hi => ha i (by omega)⟩⟩
        · left
          rw [if_pos rfl, wB_eq, wB_eq, nxt, nI_addL]
          exact ⟨_, rfl, hk', rfl, fun i' => ext i' (fun q => hne (q.2 i (by omega)))⟩
      · left
        rw [if_neg (by rw [el]; exact hl), wJ_inl, cmp_0 hk', wJ_inl, if_pos rfl, wB_eq, wB_eq, nxt, nI_addL]
        exact ⟨_, rfl, hk', rfl, fun i' => ext i' (fun q => hl q.1)⟩
  obtain ⟨r, e, h⟩ := key
  exact ⟨r, e, h⟩
end

/-! reference: signs -/
def sgS (x : Nat) : Prop := x = 59 ∨ x = 40 ∨ x = 41 ∨ x = 43 ∨ x = 45 ∨ x = 42 ∨ x = 47 ∨ x = 37
def KR (K W kr wr : Int32) : Prop :=
  (K = 35 ∧ kr = 0) ∨ (∃ k : Nat, k < 20 ∧ kr = 1 ∧ wr = nI k ∧ K = nI (sw k)) ∨ (kr = 2 ∧ K = 34 ∧ wr = W) ∨
  (kr = 3 ∧ K = 33 ∧ ∃ v v' : Nat, W = nI v ∧ wr = nI v' ∧ v ≤ 1000000 ∧ v' ≤ 1000000 ∧ ((v = v' ∧ v ≤ 99999) ∨ (99999 < v ∧ 99999 < v'))) ∨
  (∃ c : Nat, kr = 4 ∧ wr = nI c ∧ K = nI (sgB c) ∧ sgS c) ∨ (∃ j : Nat, j < 6 ∧ kr = 5 ∧ wr = nI j ∧ K = nI (20 + j)) ∨ (kr = 6 ∧ K = 36)
theorem sg_ch {Y : Type} {x : Nat} (hx : x < 256) {A B : Option Y} : (if nI x = (59 : Int32) then A else (if nI x = (40 : Int32) then A else (if nI x = (41 : Int32) then A else (if nI x = (43 : Int32) then A else (if nI x = (45 : Int32) then A else (if nI x = (42 : Int32) then A else (if nI x = (47 : Int32) then A else (if nI x = (37 : Int32) then A else B)))))))) = A ∧ sgS x ∨ (if nI x = (59 : Int32) then A else (if nI x = (40 : Int32) then A else (if nI x = (41 : Int32) then A else (if nI x = (43 : Int32) then A else (if nI x = (45 : Int32) then A else (if nI x = (42 : Int32) then A else (if nI x = (47 : Int32) then A else (if nI x = (37 : Int32) then A else B)))))))) = B ∧ ¬ sgS x := by
  have e : ∀ c : Nat, c < 256 → (nI x = nI c) = (x = c) := fun c hc => nI_eqI (by omega) (by omega)
  have e1 : (nI x = (59 : Int32)) = (x = 59) := e 59 (by omega)
  have e2 : (nI x = (40 : Int32)) = (x = 40) := e 40 (by omega)
  have e3 : (nI x = (41 : Int32)) = (x = 41) := e 41 (by omega)
  have e4 : (nI x = (43 : Int32)) = (x = 43) := e 43 (by omega)
  have e5 : (nI x = (45 : Int32)) = (x = 45) := e 45 (by omega)
  have e6 : (nI x = (42 : Int32)) = (x = 42) := e 42 (by omega)
  have e7 : (nI x = (47 : Int32)) = (x = 47) := e 47 (by omega)
  have e8 : (nI x = (37 : Int32)) = (x = 37) := e 37 (by omega)
  simp only [e1, e2, e3, e4, e5, e6, e7, e8]
  unfold sgS
  by_cases h : x = 59 ∨ x = 40 ∨ x = 41 ∨ x = 43 ∨ x = 45 ∨ x = 42 ∨ x = 47 ∨ x = 37
  · left
    refine ⟨?_, h⟩
    rcases h with rfl | rfl | rfl | rfl | rfl | rfl | rfl | rfl <;> rfl
  · right
    refine ⟨?_, h⟩
    rw [if_neg (by omega), if_neg (by omega), if_neg (by omega), if_neg (by omega), if_neg (by omega), if_neg (by omega), if_neg (by omega), if_neg (by omega)]
theorem sgB_S {x : Nat} (hx : x < 256) : (sgS x → x ≠ 60 ∧ x ≠ 61 ∧ x ≠ 62) ∧ (¬ sgS x → x ≠ 60 → x ≠ 61 → x ≠ 62 → sgB x = 36) := by
  unfold sgS sgB
  refine ⟨fun h => by omega, fun h h1 h2 h3 => ?_⟩
  rw [if_neg (by omega), if_neg (by omega), if_neg (by omega), if_neg (by omega), if_neg (by omega), if_neg (by omega), if_neg (by omega), if_neg (by omega), if_neg (by omega), if_neg (by omega)]
section
variable {n p : Nat} {b : Nat → Nat} {u t : wSt}
theorem sign_t (hm : PM t.2.2) (hT : Tb n b u.1 t.1) (h6 : t.1 79 6 = nI n) (h7 : t.1 79 7 = nI p) (hpn : p < n) : ∃ (t' : wSt) (kr wr : Int32), F_X9_signToken 79 t = some ((), t') ∧ t'.2 = t.2 ∧ (∀ a j, ¬ (a = 79 ∧ (j = 7 ∨ j = 8 ∨ j = 9)) → t'.1 a j = t.1 a j) ∧ t'.1 79 7 = nI (p + sgN (b p) (if p + 1 < n then b (p + 1) else 256)) ∧ t'.1 79 8 = kr ∧ t'.1 79 9 = wr ∧ KR (nI (sgK (b p) (if p + 1 < n then b (p + 1) else 256))) 0 kr wr := by
  have n7 := hT.1
  obtain ⟨hb, hb2, -⟩ := hT.2 p hpn
  have q0 : t.2.2 79 0 = 81 := by simp only [PM_u hm]
  obtain ⟨x, hx⟩ : ∃ x, x = b p := ⟨_, rfl⟩
  obtain ⟨y, hy⟩ : ∃ y, y = if p + 1 < n then b (p + 1) else 256 := ⟨_, rfl⟩
  rw [← hx] at hb hb2
  rw [← hx, ← hy]
  obtain ⟨v, hv⟩ : ∃ v, v = w_sI (w_sI t 79 9 (nI x)) 79 7 (nI (p + 1)) := ⟨_, rfl⟩
  have v2 : v.2 = t.2 := by rw [hv]; rfl
  have vn : ∀ a j, ¬ (a = 79 ∧ (j = 7 ∨ j = 9)) → v.1 a j = t.1 a j := fun a j w => by
    rw [hv, show ∀ (w : wSt) (x : Int32), (w_sI w 79 7 x).1 a j = w.1 a j from fun _ _ => if_neg (by omega)]
    exact if_neg (by omega)
  have v7 : v.1 79 7 = nI (p + 1) := by rw [hv]; exact sI_eq _ _ _ _
  have v9 : v.1 79 9 = nI x := by rw [hv, sI_ne2 _ _ _ _ _ _ (by decide)]; exact sI_eq _ _ _ _
  have v6 : v.1 79 6 = nI n := by rw [vn _ _ (by omega)]; exact h6
  have e : ∀ c : Nat, c < 256 → (nI x = nI c) = (x = c) := fun c hc => nI_eqI (by omega) (by omega)
  have e60 : (nI x = (60 : Int32)) = (x = 60) := e 60 (by omega)
  have e61 : (nI x = (61 : Int32)) = (x = 61) := e 61 (by omega)
  have e62 : (nI x = (62 : Int32)) = (x = 62) := e 62 (by omega)
  obtain ⟨g1, g2, g3, g4⟩ := sgB_e hb
  have w97 : (w_sI t 79 9 (nI x)).1 79 7 = nI p := by rw [sI_ne2 _ _ _ _ _ _ (by decide)]; exact h7
  unfold F_X9_signToken
  rw [q0, wR_80, h7, wN_80 _ (by omega), hb2, wB_eq, w97, nI_addL, wB_eq, ← hv, v9]
  by_cases hc : x = 60 ∨ x = 62 ∨ x = 61
  · have c1 : (if nI x = (60 : Int32) then (some (Sum.inl v) : Option (wSt ⊕ (Unit × wSt))) else (if nI x = (62 : Int32) then (some (.inl v)) else (if nI x = (61 : Int32) then (some (.inl v)) else (wJ (X := Int32) (wJ (X := Unit) (if nI x = (59 : Int32) then (some (.inl ())) else (if nI x = (40 : Int32) then (some (.inl ())) else (if nI x = (41 : Int32) then (some (.inl ())) else (if nI x = (43 : Int32) then (some (.inl ())) else (if nI x = (45 : Int32) then (some (.inl ())) else (if nI x = (42 : Int32) then (some (.inl ())) else (if nI x = (47 : Int32) then (some (.inl ())) else (if nI x = (37 : Int32) then (some (.inl ())) else (some (.inr (.inl (0 : Int32)))))))))))) (fun x => F_X9_signToken_j270)) (fun x => F_X9_signToken_j275 v 79 x))))) = some (.inl v) := by
      rcases hc with h | h | h
      · rw [if_pos (by rw [e60]; exact h)]
      · rw [if_neg (by rw [e60]; omega), if_pos (by rw [e62]; exact h)]
      · rw [if_neg (by rw [e60]; omega), if_neg (by rw [e62]; omega), if_pos (by rw [e61]; exact h)]
    rw [c1, wJ_inl]
    obtain ⟨z, hz⟩ : ∃ z : Int32, z = if p + 1 < n then nI (b (p + 1)) else 0 := ⟨_, rfl⟩
    have zy : ∀ c : Nat, 0 < c → c < 256 → ((z = nI c) = (y = c)) := fun c hc0 hc => by
      rw [hz, hy]
      by_cases q : p + 1 < n
      · have := (hT.2 (p + 1) q).1
        rw [if_pos q, if_pos q, nI_eqI (by omega) (by omega)]
      · rw [if_neg q, if_neg q]
        have e0 : ((0 : Int32) = nI c) = (0 = c) := nI_eqI (a := 0) (b := c) (by omega) (by omega)
        rw [e0]
        exact propext ⟨fun e => by omega, fun e => by omega⟩
    have z61 : (z = (61 : Int32)) = (y = 61) := zy 61 (by omega) (by omega)
    have z62 : (z = (62 : Int32)) = (y = 62) := zy 62 (by omega) (by omega)
    have q0v : v.2.2 79 0 = 81 := by rw [v2]; exact q0
    have j50 : F_X9_signToken_j50 79 v = F_X9_signToken_j74 v 79 z := by
      unfold F_X9_signToken_j50
      have en : (nI n ≤ nI (p + 1)) = (n ≤ p + 1) := nI_leE (by omega) (by omega)
      rw [v6, v7, hz]
      by_cases q : p + 1 < n
      · rw [if_neg (by rw [en]; omega), if_pos q, q0v, wR_80, wN_80 _ (by omega), vn 80 _ (by omega), (hT.2 (p + 1) q).2.1, wJ_inl]
      · rw [if_pos (by rw [en]; omega), if_neg q, wJ_inl]
    have fin : ∀ (v' : wSt) (q : Nat) (j : Nat), v'.2 = t.2 → (∀ a j, ¬ (a = 79 ∧ (j = 7 ∨ j = 9)) → v'.1 a j = t.1 a j) → v'.1 79 7 = nI (p + q) → j < 6 → q = sgN x y → 20 + j = sgK x y → ∃ (t' : wSt) (kr wr : Int32), (some ((), w_sI (w_sI v' 79 8 5) 79 9 (nI j)) : Option (Unit × wSt)) = some ((), t') ∧ t'.2 = t.2 ∧ (∀ a j, ¬ (a = 79 ∧ (j = 7 ∨ j = 8 ∨ j = 9)) → t'.1 a j = t.1 a j) ∧ t'.1 79 7 = nI (p + sgN x y) ∧ t'.1 79 8 = kr ∧ t'.1 79 9 = wr ∧ KR (nI (sgK x y)) 0 kr wr := fun v' q j a1 a2 a3 a4 a5 a6 => by
      refine ⟨_, 5, nI j, rfl, a1, fun a i w => ?_, ?_, ?_, sI_eq _ _ _ _, Or.inr (Or.inr (Or.inr (Or.inr (Or.inr (Or.inl ⟨j, a4, rfl, rfl, by rw [a6]⟩)))))⟩
      · rw [show ∀ (w : wSt) (x : Int32), (w_sI w 79 9 x).1 a i = w.1 a i from fun _ _ => if_neg (by omega), show ∀ (w : wSt) (x : Int32), (w_sI w 79 8 x).1 a i = w.1 a i from fun _ _ => if_neg (by omega)]
        exact a2 a i (by omega)
      · rw [sI_ne2 _ _ _ _ _ _ (by decide), sI_ne2 _ _ _ _ _ _ (by decide), a3, a5]
      · rw [sI_ne2 _ _ _ _ _ _ (by decide)]
        exact sI_eq _ _ _ _
    have v' : (w_sI v 79 7 (nI (p + 2))).2 = t.2 ∧ (∀ a j, ¬ (a = 79 ∧ (j = 7 ∨ j = 9)) → (w_sI v 79 7 (nI (p + 2))).1 a j = t.1 a j) ∧ (w_sI v 79 7 (nI (p + 2))).1 79 7 = nI (p + 2) ∧ (w_sI v 79 7 (nI (p + 2))).1 79 9 = nI x := by
      refine ⟨v2, fun a j w => ?_, sI_eq _ _ _ _, ?_⟩
      · rw [show ∀ (w : wSt) (x : Int32), (w_sI w 79 7 x).1 a j = w.1 a j from fun _ _ => if_neg (by omega)]
        exact vn a j w
      · rw [sI_ne2 _ _ _ _ _ _ (by decide)]; exact v9
    have n10 : ¬ (1 : Int32) = 0 := by decide
    have s2 : nI (p + 1) + (1 : Int32) = nI (p + 2) := nI_addL (p + 1) 1
    have c59 : ∀ (w : wSt), w.1 79 9 = nI x → (w_sI w 79 8 5).1 79 9 = nI x := fun w h => by rw [sI_ne2 _ _ _ _ _ _ (by decide)]; exact h
    rw [j50]
    unfold F_X9_signToken_j74 F_X9_signToken_j94 F_X9_signToken_j95 F_X9_signToken_j115 F_X9_signToken_j116 F_X9_signToken_j125 F_X9_signToken_j135 F_X9_signToken_j192
    rw [v9, v7, s2]
    have a61 : x ≠ 61 → ¬ nI x = (61 : Int32) := fun h => by rw [e61]; exact h
    have a60 : x ≠ 60 → ¬ nI x = (60 : Int32) := fun h => by rw [e60]; exact h
    rcases hc with h | h | h
    · have b60 : nI x = (60 : Int32) := by rw [e60]; exact h
      have b61 := a61 (by omega)
      by_cases y1 : y = 61
      · have d61 : z = 61 := by rw [z61]; exact y1
        have d62 : ¬ z = 62 := by rw [z62]; omega
        simp only [if_pos b60, if_neg b61, if_pos d61, if_neg d62, wJ_inl, wJ_inr, if_neg n10, if_true, wB_eq, c59 _ v'.2.2.2]
        exact fin _ 2 1 v'.1 v'.2.1 v'.2.2.1 (by omega) (by rw [h, y1]; rfl) (by rw [h, y1]; rfl)
      · have d61 : ¬ z = 61 := by rw [z61]; exact y1
        by_cases y2 : y = 62
        · have d62 : z = 62 := by rw [z62]; exact y2
          simp only [if_pos b60, if_neg b61, if_neg d61, if_pos d62, wJ_inl, wJ_inr, if_neg n10, if_true, wB_eq, c59 _ v'.2.2.2]
          exact fin _ 2 3 v'.1 v'.2.1 v'.2.2.1 (by omega) (by rw [h, y2]; rfl) (by rw [h, y2]; rfl)
        · have d62 : ¬ z = 62 := by rw [z62]; exact y2
          simp only [if_pos b60, if_neg b61, if_neg d61, if_neg d62, wJ_inl, wJ_inr, if_neg n10, if_true, wB_eq, c59 _ v9]
          refine fin _ 1 0 v2 vn v7 (by omega) ?_ ?_
          · rw [h]; unfold sgN; rw [if_pos rfl, if_neg y1, if_neg y2]
          · rw [h]; show 20 = (if y = 61 then 21 else if y = 62 then 23 else 20); rw [if_neg y1, if_neg y2]
    · have b60 := a60 (by omega)
      have b61 := a61 (by omega)
      by_cases y1 : y = 61
      · have d61 : z = 61 := by rw [z61]; exact y1
        simp only [if_neg b60, if_neg b61, if_pos d61, wJ_inl, wJ_inr, if_neg n10, if_true, wB_eq, c59 _ v'.2.2.2]
        exact fin _ 2 4 v'.1 v'.2.1 v'.2.2.1 (by omega) (by rw [h, y1]; rfl) (by rw [h, y1]; rfl)
      · have d61 : ¬ z = 61 := by rw [z61]; exact y1
        simp only [if_neg b60, if_neg b61, if_neg d61, wJ_inl, wJ_inr, if_neg n10, if_true, wB_eq, c59 _ v9]
        refine fin _ 1 5 v2 vn v7 (by omega) ?_ ?_
        · rw [h]; show 1 = (if y = 61 then 2 else 1); rw [if_neg y1]
        · rw [h]; show 25 = (if y = 61 then 24 else 25); rw [if_neg y1]
    · have b60 := a60 (by omega)
      have b61 : nI x = (61 : Int32) := by rw [e61]; exact h
      simp only [if_neg b60, if_pos b61, wJ_inl, wJ_inr, if_neg n10, if_true, wB_eq, c59 _ v9]
      exact fin _ 1 2 v2 vn v7 (by omega) (by rw [h]; rfl) (by rw [h]; rfl)
  · rw [if_neg (by rw [e60]; omega), if_neg (by rw [e62]; omega), if_neg (by rw [e61]; omega)]
    obtain ⟨k1, k2⟩ := g4 y (by omega) (by omega)
    rw [k1, k2]
    have fin : ∀ kr : Int32, (w_sI v 79 8 kr).2 = t.2 ∧ (∀ a j, ¬ (a = 79 ∧ (j = 7 ∨ j = 8 ∨ j = 9)) → (w_sI v 79 8 kr).1 a j = t.1 a j) ∧ (w_sI v 79 8 kr).1 79 7 = nI (p + 1) ∧ (w_sI v 79 8 kr).1 79 8 = kr ∧ (w_sI v 79 8 kr).1 79 9 = nI x := fun kr => by
      refine ⟨v2, fun a j w => ?_, ?_, sI_eq _ _ _ _, ?_⟩
      · rw [show ∀ (w : wSt) (x : Int32), (w_sI w 79 8 x).1 a j = w.1 a j from fun _ _ => if_neg (by omega)]
        exact vn a j (by omega)
      · rw [sI_ne2 _ _ _ _ _ _ (by decide)]; exact v7
      · rw [sI_ne2 _ _ _ _ _ _ (by decide)]; exact v9
    unfold F_X9_signToken_j270 F_X9_signToken_j275 F_X9_signToken_j287
    rcases sg_ch hb (A := some (.inl ())) (B := (some (.inr (.inl (0 : Int32))) : Option (Unit ⊕ (Int32 ⊕ (wSt ⊕ (Unit × wSt)))))) with ⟨h1, h2⟩ | ⟨h1, h2⟩
    · obtain ⟨f1, f2, f3, f4, f5⟩ := fin 4
      have n10 : ¬ (1 : Int32) = 0 := by decide
      rw [h1, wJ_inl, wJ_inl, if_neg n10, wJ_inl, wB_eq, wJ_inr]
      exact ⟨_, 4, nI x, rfl, f1, f2, f3, f4, f5, Or.inr (Or.inr (Or.inr (Or.inr (Or.inl ⟨x, rfl, rfl, rfl, h2⟩))))⟩
    · obtain ⟨f1, f2, f3, f4, f5⟩ := fin 6
      rw [h1, wJ_inr, wJ_inl, if_pos rfl, wJ_inl, wB_eq, wJ_inr]
      exact ⟨_, 6, nI x, rfl, f1, f2, f3, f4, f5, Or.inr (Or.inr (Or.inr (Or.inr (Or.inr (Or.inr ⟨rfl, by rw [(sgB_S hb).2 h2 (by omega) (by omega) (by omega)]; rfl⟩)))))⟩
end

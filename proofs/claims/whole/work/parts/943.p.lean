/-! reference: a token -/
section
variable {n p q : Nat} {b : Nat → Nat} {u t : wSt} {K W : Int32}
theorem tok_t (hm : PM t.2.2) (hT : Tb n b u.1 t.1) (hW : ∀ j, j < 106 → t.1 81 j = wlet.getD j 0) (h6 : t.1 79 6 = nI n) (h7 : t.1 79 7 = nI p) (hpn : p ≤ n) (hC : TkC b n (endR isB b n p) K W q) : ∃ (t' : wSt) (kr wr : Int32), F_X9_token 79 t = some ((), t') ∧ t'.2 = t.2 ∧ (∀ a j, ¬ (a = 79 ∧ 7 ≤ j ∧ j ≤ 10) → t'.1 a j = t.1 a j) ∧ t'.1 79 7 = nI q ∧ t'.1 79 8 = kr ∧ t'.1 79 9 = wr ∧ t'.1 79 10 = nI (endR isB b n p) ∧ KR K W kr wr := by
  have n7 := hT.1
  obtain ⟨P, hP⟩ : ∃ P, P = endR isB b n p := ⟨_, rfl⟩
  have ge := endR_ge (q := isB) (b := b) hpn
  rw [← hP] at ge hC ⊢
  obtain ⟨v, hv⟩ : ∃ v, v = w_sI (w_sI t 79 7 (nI P)) 79 10 (nI P) := ⟨_, rfl⟩
  have v2 : v.2 = t.2 := by rw [hv]; rfl
  have vn : ∀ a j, ¬ (a = 79 ∧ (j = 7 ∨ j = 10)) → v.1 a j = t.1 a j := fun a j w => by
    rw [hv, show ∀ (w : wSt) (x : Int32), (w_sI w 79 10 x).1 a j = w.1 a j from fun _ _ => if_neg (by omega)]
    exact if_neg (by omega)
  have v7 : v.1 79 7 = nI P := by rw [hv, sI_ne2 _ _ _ _ _ _ (by decide)]; exact sI_eq _ _ _ _
  have v10 : v.1 79 10 = nI P := by rw [hv]; exact sI_eq _ _ _ _
  have v6 : v.1 79 6 = nI n := by rw [vn _ _ (by omega)]; exact h6
  have hmv : PM v.2.2 := by rw [v2]; exact hm
  have hTv : Tb n b u.1 v.1 := ⟨n7, fun i hi => by rw [vn 80 i (by omega)]; exact hT.2 i hi⟩
  have hWv : ∀ j, j < 106 → v.1 81 j = wlet.getD j 0 := fun j hj => by rw [vn 81 j (by omega)]; exact hW j hj
  have eq6 : (nI P = nI n) = (P = n) := nI_eqI (by omega) (by omega)
  have n10 : ¬ (1 : Int32) = 0 := by decide
  unfold F_X9_token F_X9_token_j52
  rw [blank_t hm hT h6 h7 hpn, ← hP, wJ_inl, sI_eq, wB_eq, ← hv, v7, v6]
  rcases hC with ⟨c1, rfl, rfl, rfl⟩ | ⟨c1, cL, cq, cw⟩ | ⟨c1, cL, cD, cq, rfl, cW⟩ | ⟨c1, cL, cD, rfl, rfl, rfl⟩
  · rw [if_pos (by rw [eq6]; exact c1), wB_eq]
    refine ⟨_, 0, v.1 79 9, rfl, v2, fun a j w => ?_, ?_, sI_eq _ _ _ _, ?_, ?_, Or.inl ⟨rfl, rfl⟩⟩
    · rw [show ∀ (w : wSt) (x : Int32), (w_sI w 79 8 x).1 a j = w.1 a j from fun _ _ => if_neg (by omega)]
      exact vn a j (by omega)
    · rw [sI_ne2 _ _ _ _ _ _ (by decide)]; exact v7
    · rw [sI_ne2 _ _ _ _ _ _ (by decide)]
    · rw [sI_ne2 _ _ _ _ _ _ (by decide)]; exact v10
  · have geL := endR_ge (q := isL) (b := b) (n := n) (p := P) (by omega)
    rw [← cq] at geL
    have hall : ∀ i, i < q - P → 97 ≤ b (P + i) ∧ b (P + i) ≤ 122 := fun i hi => isL_e.mp (endR_all (q := isL) (n := n) (p := P) (by omega) (by rw [← cq]; omega))
    rw [if_neg (by rw [eq6]; omega), small_t hmv hTv v6 (by omega), wP_s, bI_t ⟨c1, cL⟩, if_neg n10, smalls_t hmv hTv v6 v7 (by omega), ← cq, wJ_inl]
    obtain ⟨w, hw⟩ : ∃ w, w = w_sI v 79 7 (nI q) := ⟨_, rfl⟩
    have w2 : w.2 = t.2 := by rw [hw]; exact v2
    have wn : ∀ a j, ¬ (a = 79 ∧ (j = 7 ∨ j = 10)) → w.1 a j = t.1 a j := fun a j z => by
      rw [hw, show ∀ (w : wSt) (x : Int32), (w_sI w 79 7 x).1 a j = w.1 a j from fun _ _ => if_neg (by omega)]
      exact vn a j z
    have w7 : w.1 79 7 = nI q := by rw [hw]; exact sI_eq _ _ _ _
    have w10 : w.1 79 10 = nI P := by rw [hw, sI_ne2 _ _ _ _ _ _ (by decide)]; exact v10
    have hmw : PM w.2.2 := by rw [w2]; exact hm
    have hTw : Tb n b u.1 w.1 := ⟨n7, fun i hi => by rw [wn 80 i (by omega)]; exact hT.2 i hi⟩
    have hWw : ∀ j, j < 106 → w.1 81 j = wlet.getD j 0 := fun j hj => by rw [wn 81 j (by omega)]; exact hW j hj
    obtain ⟨r, e1, e2⟩ := wordAt_t hmw hTw hWw geL.1 geL.2
    rw [← hw]
    unfold F_X9_token_j114 F_X9_token_j162
    have s9 : ∀ x : Int32, (w_sI w 79 9 x).1 79 7 = nI q ∧ (w_sI w 79 9 x).1 79 10 = nI P ∧ (w_sI w 79 9 x).1 79 9 = x := fun x => ⟨by rw [sI_ne2 _ _ _ _ _ _ (by decide)]; exact w7, by rw [sI_ne2 _ _ _ _ _ _ (by decide)]; exact w10, sI_eq _ _ _ _⟩
    have sub : nI q - nI P = nI (q - P) := nI_sub (by omega)
    have e6 : (nI (q - P) ≤ (6 : Int32)) = (q - P ≤ 6) := nI_leE (a := q - P) (b := 6) (by omega) (by omega)
    have fin : ∀ (x y : Int32), ∃ t', t' = w_sI (w_sI w 79 9 x) 79 8 y ∧ t'.2 = t.2 ∧ (∀ a j, ¬ (a = 79 ∧ 7 ≤ j ∧ j ≤ 10) → t'.1 a j = t.1 a j) ∧ t'.1 79 7 = nI q ∧ t'.1 79 8 = y ∧ t'.1 79 9 = x ∧ t'.1 79 10 = nI P := fun x y => by
      refine ⟨_, rfl, w2, fun a j z => ?_, ?_, sI_eq _ _ _ _, ?_, ?_⟩
      · rw [show ∀ (w : wSt) (x : Int32), (w_sI w 79 8 x).1 a j = w.1 a j from fun _ _ => if_neg (by omega), show ∀ (w : wSt) (x : Int32), (w_sI w 79 9 x).1 a j = w.1 a j from fun _ _ => if_neg (by omega)]
        exact wn a j (by omega)
      · rw [sI_ne2 _ _ _ _ _ _ (by decide)]; exact (s9 x).1
      · rw [sI_ne2 _ _ _ _ _ _ (by decide)]; exact (s9 x).2.2
      · rw [sI_ne2 _ _ _ _ _ _ (by decide)]; exact (s9 x).2.1
    rw [w10, w7, e1, wP_s, wB_eq, (s9 r).2.2, (s9 r).1, (s9 r).2.1, sub]
    have key : (∃ k : Nat, k < 20 ∧ r = nI k ∧ K = nI (sw k)) ∨ (r = -1 ∧ ((q - P ≤ 6 ∧ K = 34 ∧ W = nI (pk b P (q - P) 6)) ∨ (6 < q - P ∧ K = 36))) := by
      rcases cw with ⟨l6, rfl, rfl⟩ | ⟨l6, rfl, hKW⟩
      · right
        rcases e2 with ⟨k, hk, -, hs, -⟩ | ⟨hr, -⟩
        · have := (w_tb k hk).2.2.2
          omega
        · exact ⟨hr, Or.inr ⟨l6, rfl⟩⟩
      · rw [cd_pk l6] at hKW ⊢
        rcases kw_sm l6 hall rfl hKW e2 with h | ⟨h1, h2⟩
        · exact Or.inl h
        · exact Or.inr ⟨h1, Or.inl ⟨l6, h2, rfl⟩⟩
    have n21 : ¬ (1 : Int32) = 2 := by decide
    have n26 : ¬ (6 : Int32) = 2 := by decide
    rcases key with ⟨k, hk, rfl, rfl⟩ | ⟨rfl, hh⟩
    · obtain ⟨t', et, f1, f2, f3, f4, f5, f6⟩ := fin (nI k) 1
      rw [if_neg (by rw [nI_nn (by omega)]; exact id), wJ_inl, wB_eq, ← et, f4, if_neg n21]
      exact ⟨t', 1, nI k, rfl, f1, f2, f3, f4, f5, f6, Or.inr (Or.inl ⟨k, hk, rfl, rfl, rfl⟩)⟩
    · rw [if_pos (show (-1 : Int32) < 0 by decide)]
      rcases hh with ⟨l6, rfl, hWp⟩ | ⟨l6, rfl⟩
      · obtain ⟨t', et, f1, f2, f3, f4, f5, f6⟩ := fin (-1) 2
        have hTt : Tb n b u.1 t'.1 := ⟨n7, fun i hi => by rw [f2 80 i (by omega)]; exact hT.2 i hi⟩
        have pt := packed_t (t := t') (P := P) (E := q) (by rw [f1]; exact hm) hTt geL.1 geL.2 hall
        rw [if_pos (by rw [e6]; exact l6), wJ_inl, wB_eq, ← et, f4, if_pos rfl, f6, f3, pt, wP_s, wB_eq]
        refine ⟨_, 2, W, rfl, f1, fun a j z => ?_, ?_, ?_, ?_, ?_, Or.inr (Or.inr (Or.inl ⟨rfl, rfl, rfl⟩))⟩
        · rw [show ∀ (w : wSt) (x : Int32), (w_sI w 79 9 x).1 a j = w.1 a j from fun _ _ => if_neg (by omega)]
          exact f2 a j z
        · rw [sI_ne2 _ _ _ _ _ _ (by decide)]; exact f3
        · rw [sI_ne2 _ _ _ _ _ _ (by decide)]; exact f4
        · rw [sI_eq, hWp]
        · rw [sI_ne2 _ _ _ _ _ _ (by decide)]; exact f6
      · obtain ⟨t', et, f1, f2, f3, f4, f5, f6⟩ := fin (-1) 6
        rw [if_neg (by rw [e6]; omega), wJ_inl, wB_eq, ← et, f4, if_neg n26]
        exact ⟨t', 6, -1, rfl, f1, f2, f3, f4, f5, f6, Or.inr (Or.inr (Or.inr (Or.inr (Or.inr (Or.inr ⟨rfl, rfl⟩)))))⟩
  · have geD := endR_ge (q := isD) (b := b) (n := n) (p := P) (by omega)
    rw [← cq] at geD
    have hall : ∀ i, i < q - P → b (P + i) ≤ 57 := fun i hi => (isD_e.mp (endR_all (q := isD) (n := n) (p := P) (by omega) (by rw [← cq]; omega))).2
    have nL : ¬ (P < n ∧ isL (b P) = true) := fun z => by rw [cL] at z; exact absurd z.2 (by decide)
    obtain ⟨w, hw⟩ : ∃ w, w = w_sI (w_sI v 79 8 3) 79 9 0 := ⟨_, rfl⟩
    have w2 : w.2 = t.2 := by rw [hw]; exact v2
    have wn : ∀ a j, ¬ (a = 79 ∧ (j = 8 ∨ j = 9)) → w.1 a j = v.1 a j := fun a j z => by
      rw [hw, show ∀ (w : wSt) (x : Int32), (w_sI w 79 9 x).1 a j = w.1 a j from fun _ _ => if_neg (by omega)]
      exact if_neg (by omega)
    have w8 : w.1 79 8 = 3 := by rw [hw, sI_ne2 _ _ _ _ _ _ (by decide)]; exact sI_eq _ _ _ _
    have hTw : Tb n b u.1 w.1 := ⟨n7, fun i hi => by rw [wn 80 i (by omega)]; exact hTv.2 i hi⟩
    obtain ⟨t', e1, e2, e3, e4, e5⟩ := numb_t (t := w) (by rw [w2]; exact hm) hTw (by rw [wn _ _ (by omega)]; exact v6) (by rw [wn _ _ (by omega)]; exact v7) (by rw [hw]; exact sI_eq _ _ _ _) (show P ≤ n by omega)
    rw [if_neg (by rw [eq6]; omega), small_t hmv hTv v6 (by omega), wP_s, bI_f nL, if_pos rfl, digit_t hmv hTv v6 (by omega), wP_s, bI_t ⟨c1, cD⟩, if_neg n10, wB_eq, wB_eq, ← hw, e1]
    rw [← cq] at e4 e5
    exact ⟨t', 3, _, rfl, by rw [e2, w2], fun a j z => by rw [e3 a j (by omega), wn a j (by omega)]; exact vn a j (by omega), e4, by rw [e3 79 8 (by omega)]; exact w8, e5, by rw [e3 79 10 (by omega), wn 79 10 (by omega)]; exact v10, Or.inr (Or.inr (Or.inr (Or.inl ⟨rfl, rfl, _, _, cW, rfl, ncC_le _, ncR_le _ hall, by
      rcases nc_e (b := b) (p := P) (q - P) hall with ⟨z1, z2⟩ | z
      · exact Or.inl ⟨z1, by omega⟩
      · exact Or.inr z⟩)))⟩
  · have nL : ¬ (P < n ∧ isL (b P) = true) := fun z => by rw [cL] at z; exact absurd z.2 (by decide)
    have nD : ¬ (P < n ∧ isD (b P) = true) := fun z => by rw [cD] at z; exact absurd z.2 (by decide)
    obtain ⟨t', kr, wr, e1, e2, e3, e4, e5, e6, e7⟩ := sign_t hmv hTv v6 v7 c1
    rw [if_neg (by rw [eq6]; omega), small_t hmv hTv v6 (by omega), wP_s, bI_f nL, if_pos rfl, digit_t hmv hTv v6 (by omega), wP_s, bI_f nD, if_pos rfl, e1, wC_s]
    exact ⟨t', kr, wr, rfl, by rw [e2, v2], fun a j z => by rw [e3 a j (by omega)]; exact vn a j (by omega), e4, e5, e6, by rw [e3 79 10 (by omega)]; exact v10, e7⟩
end

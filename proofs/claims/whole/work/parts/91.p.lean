/-! class: numbers, signs, a token -/
section
variable {n p : Nat} {b : Nat → Nat} {u t : wSt}
theorem min_n {x y : Nat} (hx : x < 2147483648) (hy : y < 2147483648) : w_min (nI x) (nI y) = nI (if x ≤ y then x else y) := by
  unfold w_min
  by_cases h : x ≤ y
  · rw [if_pos h, if_neg (by rw [nI_ltE hy hx]; omega)]
  · rw [if_neg h, if_pos (by rw [nI_ltE hy hx]; omega)]
theorem numb_c (hp : PL u.2.2) (hT : Tb n b u.1 t.1) (h4 : u.1 38 4 = nI n) (h5 : u.1 38 5 = nI p) (h2 : u.1 38 2 = 0) (hpn : p < n) : ∃ (u' : wSt), F_X5_readNumber 38 u = some ((), u') ∧ u'.2 = u.2 ∧ (∀ a j, ¬ (a = 38 ∧ (j = 0 ∨ j = 2 ∨ j = 5)) → u'.1 a j = u.1 a j) ∧ u'.1 38 5 = nI (endR isD b n p) ∧ u'.1 38 0 = 33 ∧ u'.1 38 2 = nI (ncC b p (endR isD b n p - p)) := by
  have n7 := hT.1
  have key : Ro (fun y => ∃ v : wSt, y = Sum.inl v ∧ v.2 = u.2 ∧ (∀ a j, ¬ (a = 38 ∧ (j = 2 ∨ j = 5)) → v.1 a j = u.1 a j) ∧ v.1 38 5 = nI (endR isD b n p) ∧ v.1 38 2 = nI (ncC b p (endR isD b n p - p))) (wL (S := wSt) (fun x => F_X5_readNumber_b0 38 x) wFu u) := by
    refine wL_ro (fun j v => p + j ≤ n ∧ v.2 = u.2 ∧ (∀ a i, ¬ (a = 38 ∧ (i = 2 ∨ i = 5)) → v.1 a i = u.1 a i) ∧ v.1 38 5 = nI (p + j) ∧ v.1 38 2 = nI (ncC b p j) ∧ endR isD b n (p + j) = endR isD b n p) _ 700 (by unfold wFu; omega) ?_ ⟨by omega, rfl, fun _ _ _ => rfl, h5, h2, rfl⟩
    rintro j v hj ⟨hjn, v2, vn, v5, v22, he⟩
    have v4 : v.1 38 4 = nI n := by rw [vn _ _ (by omega)]; exact h4
    have hTv : Tb n b v.1 t.1 := ⟨n7, fun i hi => by rw [vn 1 i (by omega)]; exact hT.2 i hi⟩
    have sg := sign_c (p := p + j) (by rw [v2]; exact hp) hTv v4 (by omega)
    have en : (nI n ≤ nI (p + j)) = (n ≤ p + j) := nI_leE (by omega) (by omega)
    unfold F_X5_readNumber_b0
    rw [v4, v5]
    by_cases hn : n ≤ p + j
    · right
      rw [if_pos (by rw [en]; exact hn)]
      refine ⟨_, rfl, v, rfl, v2, vn, ?_, ?_⟩
      · rw [← he, endR_end hn]; exact v5
      · rw [← he, endR_end hn, show p + j - p = j from by omega]; exact v22
    · have hb := (hT.2 (p + j) (by omega)).1
      rw [if_neg (by rw [en]; exact hn), sg, wP_s, if_pos (show p + j < n by omega), dig_c hb, wP_s]
      by_cases hD : isD (b (p + j)) = true
      · left
        have hD' := isD_e.mp hD
        have hc := ncC_le (b := b) (p := p) j
        have n10 : ¬ (1 : Int32) = 0 := by decide
        have s1 : nI (b (p + j)) - (48 : Int32) = nI (b (p + j) - 48) := nI_sub (a := b (p + j)) (b := 48) (by omega)
        have s3 : nI (ncC b p j) * (10 : Int32) = nI (ncC b p j * 10) := nI_mul (ncC b p j) 10
        have s4 : w_min (1000000 : Int32) (nI (ncC b p j * 10 + (b (p + j) - 48))) = nI (ncC b p (j + 1)) := by
          have := min_n (x := 1000000) (y := ncC b p j * 10 + (b (p + j) - 48)) (by omega) (by omega)
          exact this
        rw [bI_t hD, if_neg n10, wP_s, v22, s1, s3, nI_add, s4, wB_eq, wB_eq, sI_ne2 _ _ _ _ _ _ (by decide), v5, nI_addL]
        refine ⟨_, rfl, by omega, by omega, v2, fun a i w => ?_, sI_eq _ _ _ _, ?_, ?_⟩
        · rw [show ∀ (w : wSt) (x : Int32), (w_sI w 38 5 x).1 a i = w.1 a i from fun _ _ => if_neg (by omega), show ∀ (w : wSt) (x : Int32), (w_sI w 38 2 x).1 a i = w.1 a i from fun _ _ => if_neg (by omega)]
          exact vn a i w
        · rw [sI_ne2 _ _ _ _ _ _ (by decide), sI_eq]
        · rw [← he, endR_go (show p + j < n by omega) hD]
          rfl
      · right
        rw [bI_f hD, if_pos rfl]
        refine ⟨_, rfl, v, rfl, v2, vn, ?_, ?_⟩
        · rw [← he, endR_stop hD]; exact v5
        · rw [← he, endR_stop hD, show p + j - p = j from by omega]; exact v22
  obtain ⟨y, e, v, rfl, v2, vn, v5, v22⟩ := key
  unfold F_X5_readNumber F_X5_readNumber_j66
  rw [e, wJ_inl, wB_eq]
  refine ⟨_, rfl, v2, fun a j w => ?_, ?_, sI_eq _ _ _ _, ?_⟩
  · rw [show ∀ (w : wSt) (x : Int32), (w_sI w 38 0 x).1 a j = w.1 a j from fun _ _ => if_neg (by omega)]
    exact vn a j (by omega)
  · rw [sI_ne2 _ _ _ _ _ _ (by decide)]
    exact v5
  · rw [sI_ne2 _ _ _ _ _ _ (by decide)]
    exact v22
def sgB (x : Nat) : Nat := if x = 40 then 30 else if x = 41 then 31 else if x = 42 then 28 else if x = 43 then 26 else if x = 45 then 27 else if x = 47 then 29 else if x = 59 then 32 else if x = 60 then 20 else if x = 61 then 22 else if x = 62 then 25 else 36
theorem ks_c {x : Nat} (hx : x < 256) : F_X5_kindOfSign (nI x) u = some (nI (sgB x)) := by
  have : ∀ x : Fin 256, F_X5_kindOfSign (nI x.1) r9 = some (nI (sgB x.1)) := by decide +kernel
  exact this ⟨x, hx⟩
theorem sgB_e {x : Nat} (hx : x < 256) : sgB x ≤ 36 ∧ (sgB x = 20 ↔ x = 60) ∧ (sgB x = 25 ↔ x = 62) ∧ ∀ y, (x ≠ 60 → x ≠ 62 → sgK x y = sgB x ∧ sgN x y = 1) := by
  have : ∀ x : Fin 256, sgB x.1 ≤ 36 ∧ (sgB x.1 = 20 ↔ x.1 = 60) ∧ (sgB x.1 = 25 ↔ x.1 = 62) := by decide +kernel
  obtain ⟨h1, h2, h3⟩ := this ⟨x, hx⟩
  refine ⟨h1, h2, h3, fun y h4 h5 => ⟨?_, ?_⟩⟩
  · unfold sgK sgB
    rw [if_neg h4, if_neg h5, if_neg h4, if_neg h5]
  · unfold sgN
    rw [if_neg h4, if_neg h5]
theorem sgn_c (hp : PL u.2.2) (hT : Tb n b u.1 t.1) (h4 : u.1 38 4 = nI n) (h5 : u.1 38 5 = nI p) (hpn : p < n) : ∃ (u' : wSt), F_X5_readSign 38 (nI (b p)) u = some ((), u') ∧ u'.2 = u.2 ∧ (∀ a j, ¬ (a = 38 ∧ (j = 0 ∨ j = 5)) → u'.1 a j = u.1 a j) ∧ u'.1 38 5 = nI (p + sgN (b p) (if p + 1 < n then b (p + 1) else 256)) ∧ u'.1 38 0 = nI (sgK (b p) (if p + 1 < n then b (p + 1) else 256)) := by
  have n7 := hT.1
  have hb := (hT.2 p hpn).1
  obtain ⟨g1, g2, g3, g4⟩ := sgB_e hb
  obtain ⟨v, hv⟩ : ∃ v, v = w_sI (w_sI u 38 5 (nI (p + 1))) 38 0 (nI (sgB (b p))) := ⟨_, rfl⟩
  have v2 : v.2 = u.2 := by rw [hv]; rfl
  have vn : ∀ a j, ¬ (a = 38 ∧ (j = 0 ∨ j = 5)) → v.1 a j = u.1 a j := fun a j w => by
    rw [hv, show ∀ (w : wSt) (x : Int32), (w_sI w 38 0 x).1 a j = w.1 a j from fun _ _ => if_neg (by omega)]
    exact if_neg (by omega)
  have v5 : v.1 38 5 = nI (p + 1) := by rw [hv, sI_ne2 _ _ _ _ _ _ (by decide)]; exact sI_eq _ _ _ _
  have v0 : v.1 38 0 = nI (sgB (b p)) := by rw [hv]; exact sI_eq _ _ _ _
  have v4 : v.1 38 4 = nI n := by rw [vn _ _ (by omega)]; exact h4
  have hTv : Tb n b v.1 t.1 := ⟨n7, fun i hi => by rw [vn 1 i (by omega)]; exact hT.2 i hi⟩
  have sg := sign_c (p := p + 1) (by rw [v2]; exact hp) hTv v4 (by omega)
  have e20 : (nI (sgB (b p)) = (20 : Int32)) = (b p = 60) := by rw [show (nI (sgB (b p)) = (20 : Int32)) = (sgB (b p) = 20) from nI_eqI (a := sgB (b p)) (b := 20) (by omega) (by omega)]; exact propext g2
  have e25 : (nI (sgB (b p)) = (25 : Int32)) = (b p = 62) := by rw [show (nI (sgB (b p)) = (25 : Int32)) = (sgB (b p) = 25) from nI_eqI (a := sgB (b p)) (b := 25) (by omega) (by omega)]; exact propext g3
  obtain ⟨y, hy⟩ : ∃ y, y = if p + 1 < n then b (p + 1) else 256 := ⟨_, rfl⟩
  obtain ⟨z, hz⟩ : ∃ z : Int32, z = if p + 1 < n then nI (b (p + 1)) else -1 := ⟨_, rfl⟩
  have zy : ∀ c : Nat, c < 256 → ((z = nI c) = (y = c)) := fun c hc => by
    rw [hz, hy]
    by_cases q : p + 1 < n
    · have := (hT.2 (p + 1) q).1
      rw [if_pos q, if_pos q, nI_eqI (by omega) (by omega)]
    · rw [if_neg q, if_neg q]
      exact propext ⟨fun e => absurd e.symm (nI_m1n (by omega)), fun e => by omega⟩
  have z61 : (z = (61 : Int32)) = (y = 61) := zy 61 (by omega)
  have z62 : (z = (62 : Int32)) = (y = 62) := zy 62 (by omega)
  have two : ∀ kk : Int32, (w_sI (w_sI v 38 0 kk) 38 5 (nI (p + 1 + 1))).2 = u.2 ∧ (∀ a j, ¬ (a = 38 ∧ (j = 0 ∨ j = 5)) → (w_sI (w_sI v 38 0 kk) 38 5 (nI (p + 1 + 1))).1 a j = u.1 a j) ∧ (w_sI (w_sI v 38 0 kk) 38 5 (nI (p + 1 + 1))).1 38 5 = nI (p + 2) ∧ (w_sI (w_sI v 38 0 kk) 38 5 (nI (p + 1 + 1))).1 38 0 = kk := fun kk => by
    refine ⟨v2, fun a j w => ?_, sI_eq _ _ _ _, ?_⟩
    · rw [show ∀ (w : wSt) (x : Int32), (w_sI w 38 5 x).1 a j = w.1 a j from fun _ _ => if_neg (by omega), show ∀ (w : wSt) (x : Int32), (w_sI w 38 0 x).1 a j = w.1 a j from fun _ _ => if_neg (by omega)]
      exact vn a j w
    · rw [sI_ne2 _ _ _ _ _ _ (by decide)]
      exact sI_eq _ _ _ _
  unfold F_X5_readSign F_X5_readSign_j61 F_X5_readSign_j95
  rw [wB_eq, h5, nI_addL, ks_c hb, wP_s, wB_eq, ← hv, v5, sg, wP_s, ← hz, ← hy, v0]
  have n60 : ¬ (60 : Nat) = 62 := by decide
  by_cases h60 : b p = 60
  · rw [if_pos (by rw [e20]; exact h60)]
    by_cases q1 : y = 61
    · obtain ⟨w1, w2, w3, w4⟩ := two 21
      rw [if_pos (by rw [z61]; exact q1), wB_eq, wB_eq, sI_ne2 _ _ _ _ _ _ (by decide), v5, nI_addL, wJ_inr]
      refine ⟨_, rfl, w1, w2, ?_, ?_⟩
      · rw [w3, h60, q1]; rfl
      · rw [w4, h60, q1]; rfl
    · rw [if_neg (by rw [z61]; exact q1), wJ_inl, v0, if_pos (by rw [e20]; exact h60)]
      by_cases q2 : y = 62
      · obtain ⟨w1, w2, w3, w4⟩ := two 23
        rw [if_pos (by rw [z62]; exact q2), wB_eq, wB_eq, sI_ne2 _ _ _ _ _ _ (by decide), v5, nI_addL, wJ_inr]
        refine ⟨_, rfl, w1, w2, ?_, ?_⟩
        · rw [w3, h60, q2]; rfl
        · rw [w4, h60, q2]; rfl
      · rw [if_neg (by rw [z62]; exact q2), wJ_inl, if_neg (by rw [e25, h60]; decide)]
        refine ⟨_, rfl, v2, vn, ?_, ?_⟩
        · rw [v5, h60]
          unfold sgN
          rw [if_pos rfl, if_neg q1, if_neg q2]
        · rw [v0, h60]
          show nI 20 = nI (if y = 61 then 21 else if y = 62 then 23 else 20)
          rw [if_neg q1, if_neg q2]
  · rw [if_neg (by rw [e20]; exact h60), wJ_inl, v0, if_neg (by rw [e20]; exact h60), wJ_inl]
    by_cases h62 : b p = 62
    · rw [if_pos (by rw [e25]; exact h62)]
      by_cases q1 : y = 61
      · obtain ⟨w1, w2, w3, w4⟩ := two 24
        rw [if_pos (by rw [z61]; exact q1), wB_eq, wB_eq, sI_ne2 _ _ _ _ _ _ (by decide), v5, nI_addL]
        refine ⟨_, rfl, w1, w2, ?_, ?_⟩
        · rw [w3, h62, q1]; rfl
        · rw [w4, h62, q1]; rfl
      · rw [if_neg (by rw [z61]; exact q1)]
        refine ⟨_, rfl, v2, vn, ?_, ?_⟩
        · rw [v5, h62]
          show nI (p + 1) = nI (p + (if y = 61 then 2 else 1))
          rw [if_neg q1]
        · rw [v0, h62]
          show nI 25 = nI (if y = 61 then 24 else 25)
          rw [if_neg q1]
    · rw [if_neg (by rw [e25]; exact h62)]
      obtain ⟨k1, k2⟩ := g4 y h60 h62
      exact ⟨_, rfl, v2, vn, by rw [k2]; exact v5, by rw [k1]; exact v0⟩
theorem find_c (hp : PL u.2.2) (hT : Tb n b u.1 t.1) (hW : ∀ i, i < 20 → u.1 39 i = wcod.getD i 0) (h4 : u.1 38 4 = nI n) (h5 : u.1 38 5 = nI p) (hpn : p ≤ n) : ∃ (K W : Int32) (q : Nat) (u' : wSt), F_X5_find 38 u = some ((), u') ∧ u'.2 = u.2 ∧ (∀ a j, ¬ (a = 38 ∧ (j = 0 ∨ j = 1 ∨ j = 2 ∨ j = 5)) → u'.1 a j = u.1 a j) ∧ u'.1 38 5 = nI q ∧ u'.1 38 0 = K ∧ u'.1 38 1 = nI (endR isB b n p) ∧ u'.1 38 2 = W ∧ TkC b n (endR isB b n p) K W q := by
  have n7 := hT.1
  obtain ⟨P, hP⟩ : ∃ P, P = endR isB b n p := ⟨_, rfl⟩
  have ge := endR_ge (q := isB) (b := b) hpn
  rw [← hP] at ge
  obtain ⟨v, hv⟩ : ∃ v, v = w_sI (w_sI (w_sI u 38 5 (nI P)) 38 1 (nI P)) 38 2 0 := ⟨_, rfl⟩
  have v2 : v.2 = u.2 := by rw [hv]; rfl
  have vn : ∀ a j, ¬ (a = 38 ∧ (j = 1 ∨ j = 2 ∨ j = 5)) → v.1 a j = u.1 a j := fun a j w => by
    rw [hv, show ∀ (w : wSt) (x : Int32), (w_sI w 38 2 x).1 a j = w.1 a j from fun _ _ => if_neg (by omega), show ∀ (w : wSt) (x : Int32), (w_sI w 38 1 x).1 a j = w.1 a j from fun _ _ => if_neg (by omega)]
    exact if_neg (by omega)
  have v5 : v.1 38 5 = nI P := by rw [hv, sI_ne2 _ _ _ _ _ _ (by decide), sI_ne2 _ _ _ _ _ _ (by decide)]; exact sI_eq _ _ _ _
  have v1 : v.1 38 1 = nI P := by rw [hv, sI_ne2 _ _ _ _ _ _ (by decide)]; exact sI_eq _ _ _ _
  have v22 : v.1 38 2 = 0 := by rw [hv]; exact sI_eq _ _ _ _
  have v4 : v.1 38 4 = nI n := by rw [vn _ _ (by omega)]; exact h4
  have hTv : Tb n b v.1 t.1 := ⟨n7, fun i hi => by rw [vn 1 i (by omega)]; exact hT.2 i hi⟩
  have hpv : PL v.2.2 := by rw [v2]; exact hp
  have hWv : ∀ i, i < 20 → v.1 39 i = wcod.getD i 0 := fun i hi => by rw [vn 39 i (by omega)]; exact hW i hi
  have sg := sign_c (p := P) hpv hTv v4 (by omega)
  rw [← hP]
  unfold F_X5_find F_X5_find_j50
  rw [blank_c hp hT h4 h5 hpn, ← hP, wJ_inl, wB_eq, sI_eq, wB_eq, ← hv, v5, sg, wP_s]
  have m1 : ∀ x : Nat, x < 256 → ¬ nI x = -1 := fun x hx => nI_m1n (by omega)
  by_cases hPn : P < n
  · have hb := (hT.2 P hPn).1
    have n10 : ¬ (1 : Int32) = 0 := by decide
    rw [if_pos hPn, if_neg (m1 _ hb), let_c hb, wP_s]
    by_cases hL : isL (b P) = true
    · obtain ⟨K, W, u', e1, e2, e3, e4, e5, e6, e7⟩ := word_c hpv hTv hWv v4 v5 v22 hPn
      rw [bI_t hL, if_neg n10, e1, wC_s]
      exact ⟨K, W, endR isL b n P, u', rfl, by rw [e2, v2], fun a j w => by rw [e3 a j (by omega)]; exact vn a j (by omega), e4, e5, by rw [e3 38 1 (by omega)]; exact v1, e6, Or.inr (Or.inl ⟨hPn, hL, rfl, e7⟩)⟩
    · have hLf : isL (b P) = false := by cases h : isL (b P) with
        | false => rfl
        | true => exact absurd h hL
      rw [bI_f hL, if_pos rfl, dig_c hb, wP_s]
      by_cases hD : isD (b P) = true
      · obtain ⟨u', e1, e2, e3, e4, e5, e6⟩ := numb_c hpv hTv v4 v5 v22 hPn
        rw [bI_t hD, if_neg n10, e1, wC_s]
        exact ⟨33, _, endR isD b n P, u', rfl, by rw [e2, v2], fun a j w => by rw [e3 a j (by omega)]; exact vn a j (by omega), e4, e5, by rw [e3 38 1 (by omega)]; exact v1, e6, Or.inr (Or.inr (Or.inl ⟨hPn, hLf, hD, rfl, rfl, rfl⟩))⟩
      · have hDf : isD (b P) = false := by cases h : isD (b P) with
          | false => rfl
          | true => exact absurd h hD
        obtain ⟨u', e1, e2, e3, e4, e5⟩ := sgn_c hpv hTv v4 v5 hPn
        rw [bI_f hD, if_pos rfl, e1, wC_s]
        exact ⟨_, 0, _, u', rfl, by rw [e2, v2], fun a j w => by rw [e3 a j (by omega)]; exact vn a j (by omega), e4, e5, by rw [e3 38 1 (by omega)]; exact v1, by rw [e3 38 2 (by omega)]; exact v22, Or.inr (Or.inr (Or.inr ⟨hPn, hLf, hDf, rfl, rfl, rfl⟩))⟩
  · rw [if_neg hPn, if_pos rfl, wB_eq]
    refine ⟨35, 0, P, _, rfl, v2, fun a j w => ?_, ?_, sI_eq _ _ _ _, ?_, ?_, Or.inl ⟨by omega, rfl, rfl, rfl⟩⟩
    · rw [show ∀ (w : wSt) (x : Int32), (w_sI w 38 0 x).1 a j = w.1 a j from fun _ _ => if_neg (by omega)]
      exact vn a j (by omega)
    · rw [sI_ne2 _ _ _ _ _ _ (by decide)]; exact v5
    · rw [sI_ne2 _ _ _ _ _ _ (by decide)]; exact v1
    · rw [sI_ne2 _ _ _ _ _ _ (by decide)]; exact v22
end

/-! class: a token found -/
def cd (b : Nat → Nat) (p : Nat) : Nat → Nat
  | 0 => 0
  | j + 1 => if j < 6 then cd b p j * 32 + (b (p + j) - 96) else cd b p j
def ncC (b : Nat → Nat) (p : Nat) : Nat → Nat
  | 0 => 0
  | j + 1 => if 1000000 ≤ ncC b p j * 10 + (b (p + j) - 48) then 1000000 else ncC b p j * 10 + (b (p + j) - 48)
def KW (x r : Int32) : Prop := (∃ w : Nat, w < 20 ∧ r = nI w ∧ wcod.getD w 0 = x) ∨ (r = 34 ∧ ∀ w, w < 20 → wcod.getD w 0 ≠ x)
def sgK (x y : Nat) : Nat := if x = 40 then 30 else if x = 41 then 31 else if x = 42 then 28 else if x = 43 then 26 else if x = 45 then 27 else if x = 47 then 29 else if x = 59 then 32 else if x = 60 then (if y = 61 then 21 else if y = 62 then 23 else 20) else if x = 61 then 22 else if x = 62 then (if y = 61 then 24 else 25) else 36
def sgN (x y : Nat) : Nat := if x = 60 then (if y = 61 then 2 else if y = 62 then 2 else 1) else if x = 62 then (if y = 61 then 2 else 1) else 1
def TkC (b : Nat → Nat) (n P : Nat) (K W : Int32) (q : Nat) : Prop :=
  (P = n ∧ K = 35 ∧ W = 0 ∧ q = P) ∨
  (P < n ∧ isL (b P) = true ∧ q = endR isL b n P ∧ ((6 < q - P ∧ K = 36 ∧ W = 0) ∨ (q - P ≤ 6 ∧ W = nI (cd b P (q - P) * 32 ^ (6 - (q - P))) ∧ KW W K))) ∨
  (P < n ∧ isL (b P) = false ∧ isD (b P) = true ∧ q = endR isD b n P ∧ K = 33 ∧ W = nI (ncC b P (q - P))) ∨
  (P < n ∧ isL (b P) = false ∧ isD (b P) = false ∧ K = nI (sgK (b P) (if P + 1 < n then b (P + 1) else 256)) ∧ W = 0 ∧ q = P + sgN (b P) (if P + 1 < n then b (P + 1) else 256))
theorem isL_e {x : Nat} : isL x = true ↔ 97 ≤ x ∧ x ≤ 122 := by unfold isL; rw [Bool.and_eq_true, decide_eq_true_iff, decide_eq_true_iff]
theorem isD_e {x : Nat} : isD x = true ↔ 48 ≤ x ∧ x ≤ 57 := by unfold isD; rw [Bool.and_eq_true, decide_eq_true_iff, decide_eq_true_iff]
theorem cd_lt {b : Nat → Nat} {p : Nat} : ∀ j, (∀ i, i < j → b (p + i) ≤ 122) → j ≤ 6 → cd b p j < 32 ^ j := by
  intro j
  induction j with
  | zero => intro _ _; show 0 < 32 ^ 0; decide
  | succ j ih =>
    intro h hj
    have h1 := ih (fun i hi => h i (by omega)) (by omega)
    have h2 := h j (by omega)
    show (if j < 6 then cd b p j * 32 + (b (p + j) - 96) else cd b p j) < 32 ^ (j + 1)
    rw [if_pos (by omega), Nat.pow_succ]
    omega
theorem cd_lt6 {b : Nat → Nat} {p : Nat} : ∀ j, (∀ i, i < j → b (p + i) ≤ 122) → cd b p j < 1073741824 := by
  intro j
  induction j with
  | zero => intro _; show 0 < 1073741824; decide
  | succ j ih =>
    intro h
    by_cases hj : j < 6
    · have := cd_lt (b := b) (p := p) (j + 1) h (by omega)
      have h2 : 32 ^ (j + 1) ≤ 32 ^ 6 := Nat.pow_le_pow_right (by decide) (by omega)
      have h3 : (32 : Nat) ^ 6 = 1073741824 := by decide
      omega
    · show (if j < 6 then cd b p j * 32 + (b (p + j) - 96) else cd b p j) < 1073741824
      rw [if_neg hj]
      exact ih (fun i hi => h i (by omega))
theorem ncC_le {b : Nat → Nat} {p : Nat} : ∀ j, ncC b p j ≤ 1000000 := by
  intro j
  cases j with
  | zero => show 0 ≤ 1000000; decide
  | succ j =>
    show (if 1000000 ≤ ncC b p j * 10 + (b (p + j) - 48) then 1000000 else ncC b p j * 10 + (b (p + j) - 48)) ≤ 1000000
    split <;> omega
theorem shl_n {x s : Nat} (hs : s < 31) (h : x * 2 ^ s < 2147483648) : nI x <<< (nI s &&& 31) = nI (x * 2 ^ s) := by
  rw [nI_and31 (by omega)]
  apply Int32.toBitVec_inj.mp
  have hb : ((nI s).toBitVec.smod 32).toNat = s := by
    have : ∀ s : Fin 31, ((nI s.1).toBitVec.smod 32).toNat = s.1 := by decide
    exact this ⟨s, hs⟩
  show (nI x).toBitVec <<< ((nI s).toBitVec.smod 32) = _
  rw [nI_bv, nI_bv]
  apply BitVec.eq_of_toNat_eq
  rw [BitVec.shiftLeft_eq', BitVec.toNat_shiftLeft, nI_bv] at *
  rw [hb, BitVec.toNat_ofNat, BitVec.toNat_ofNat, Nat.shiftLeft_eq]
  rw [Nat.mod_mul_mod]
section
variable {n p : Nat} {b : Nat → Nat} {u t : wSt}
theorem kw_c {x : Int32} (hp : PL u.2.2) (hW : ∀ i, i < 20 → u.1 39 i = wcod.getD i 0) : ∃ r, F_X5_kindOfWord 38 x u = some r ∧ KW x r := by
  have r8 : u.2.2 38 8 = 40 := by simp only [PL_u hp]
  have key : Ro (fun r => KW x r) (F_X5_kindOfWord 38 x u) := by
    unfold F_X5_kindOfWord
    refine wL_ro (fun w y => y = nI w ∧ ∀ i, i < w → wcod.getD i 0 ≠ x) _ 20 (by unfold wFu; omega) ?_ ⟨rfl, fun i h => by omega⟩
    rintro w y hw ⟨rfl, hall⟩
    have e20 : ((20 : Int32) ≤ nI w) = (20 ≤ w) := nI_leE (a := 20) (b := w) (by omega) (by omega)
    unfold F_X5_kindOfWord_b2
    by_cases h20 : 20 ≤ w
    · right
      rw [if_pos (by rw [e20]; exact h20)]
      exact ⟨_, rfl, Or.inr ⟨rfl, fun i hi => hall i (by omega)⟩⟩
    · rw [if_neg (by rw [e20]; exact h20), r8, wR_39, wN_39 _ (by omega), hW w (by omega)]
      by_cases q : wcod.getD w 0 = x
      · right
        rw [if_pos q]
        exact ⟨_, rfl, Or.inl ⟨w, by omega, rfl, q⟩⟩
      · left
        rw [if_neg q, wB_eq, nI_addL]
        refine ⟨_, rfl, by omega, rfl, fun i hi => ?_⟩
        by_cases e : i = w
        · rw [e]; exact q
        · exact hall i (by omega)
  obtain ⟨r, e, h⟩ := key
  exact ⟨r, e, h⟩
theorem word_c (hp : PL u.2.2) (hT : Tb n b u.1 t.1) (hW : ∀ i, i < 20 → u.1 39 i = wcod.getD i 0) (h4 : u.1 38 4 = nI n) (h5 : u.1 38 5 = nI p) (h2 : u.1 38 2 = 0) (hpn : p < n) : ∃ (K W : Int32) (u' : wSt), F_X5_readWord 38 u = some ((), u') ∧ u'.2 = u.2 ∧ (∀ a j, ¬ (a = 38 ∧ (j = 0 ∨ j = 2 ∨ j = 5)) → u'.1 a j = u.1 a j) ∧ u'.1 38 5 = nI (endR isL b n p) ∧ u'.1 38 0 = K ∧ u'.1 38 2 = W ∧ ((6 < endR isL b n p - p ∧ K = 36 ∧ W = 0) ∨ (endR isL b n p - p ≤ 6 ∧ W = nI (cd b p (endR isL b n p - p) * 32 ^ (6 - (endR isL b n p - p))) ∧ KW W K)) := by
  have n7 := hT.1
  have key : Ro (fun y => y = Sum.inl (nI (endR isL b n p - p), nI (cd b p (endR isL b n p - p)), w_sI u 38 5 (nI (endR isL b n p)))) (wL (S := Int32 × Int32 × wSt) (fun x => F_X5_readWord_b4 38 x.1 x.2.1 x.2.2) wFu ((0 : Int32), (0 : Int32), u)) := by
    refine wL_ro (fun j x => p + j ≤ n ∧ x = (nI j, nI (cd b p j), w_sI u 38 5 (nI (p + j))) ∧ endR isL b n (p + j) = endR isL b n p ∧ ∀ i, i < j → isL (b (p + i)) = true) _ 700 (by unfold wFu; omega) ?_ ⟨by omega, by rw [show nI (p + 0) = nI p from rfl, sI_self h5]; rfl, rfl, fun i h => by omega⟩
    rintro j x hj ⟨hjn, rfl, he, hall⟩
    obtain ⟨v, hv⟩ : ∃ v, v = w_sI u 38 5 (nI (p + j)) := ⟨_, rfl⟩
    have v2 : v.2 = u.2 := by rw [hv]; rfl
    have vn : ∀ a i, ¬ (a = 38 ∧ i = 5) → v.1 a i = u.1 a i := fun a i w => by rw [hv]; exact if_neg w
    have v5 : v.1 38 5 = nI (p + j) := by rw [hv]; exact sI_eq _ _ _ _
    have v4 : v.1 38 4 = nI n := by rw [vn _ _ (by omega)]; exact h4
    have hTv : Tb n b v.1 t.1 := ⟨n7, fun i hi => by rw [vn 1 i (by omega)]; exact hT.2 i hi⟩
    have sg := sign_c (p := p + j) (by rw [v2]; exact hp) hTv v4 (by omega)
    have en : (nI n ≤ nI (p + j)) = (n ≤ p + j) := nI_leE (by omega) (by omega)
    have e6 : ((6 : Int32) ≤ nI j) = (6 ≤ j) := nI_leE (a := 6) (b := j) (by omega) (by omega)
    rw [← hv]
    unfold F_X5_readWord_b4 F_X5_readWord_j57
    dsimp only
    rw [v4, v5]
    by_cases hn : n ≤ p + j
    · right
      rw [if_pos (by rw [en]; exact hn)]
      refine ⟨_, rfl, ?_⟩
      rw [hv, ← he, endR_end hn, show p + j - p = j from by omega]
    · have hb := (hT.2 (p + j) (by omega)).1
      rw [if_neg (by rw [en]; exact hn), sg, wP_s, if_pos (show p + j < n by omega), let_c hb, wP_s]
      by_cases hL : isL (b (p + j)) = true
      · left
        have hL' := isL_e.mp hL
        have hc := cd_lt6 (b := b) (p := p) j (fun i hi => (isL_e.mp (hall i hi)).2)
        have n10 : ¬ (1 : Int32) = 0 := by decide
        rw [bI_t hL, if_neg n10]
        have fin : ∀ x, x = nI (cd b p (j + 1)) → ∃ s', some (Sum.inl (nI (j + 1), x, w_sI v 38 5 (nI (p + j + 1)))) = (some (Sum.inl s') : Option ((Int32 × Int32 × wSt) ⊕ ((Int32 × Int32 × wSt) ⊕ (Unit × wSt)))) ∧ j < 700 ∧ p + (j + 1) ≤ n ∧ s' = (nI (j + 1), nI (cd b p (j + 1)), w_sI u 38 5 (nI (p + (j + 1)))) ∧ endR isL b n (p + (j + 1)) = endR isL b n p ∧ ∀ i, i < j + 1 → isL (b (p + i)) = true := fun x hx =>
          ⟨_, rfl, by omega, by omega, by rw [hv, sI_sI, hx]; rfl, by rw [← he, endR_go (show p + j < n by omega) hL]; rfl, fun i hi => by
            by_cases e : i = j
            · rw [e]; exact hL
            · exact hall i (by omega)⟩
        by_cases h6 : 6 ≤ j
        · rw [if_pos (by rw [e6]; exact h6), wJ_inl, wB_eq, wB_eq, nI_addL, nI_addL]
          refine fin _ ?_
          show _ = nI (if j < 6 then cd b p j * 32 + (b (p + j) - 96) else cd b p j)
          rw [if_neg (by omega)]
        · rw [if_neg (by rw [e6]; exact h6), wP_s, wJ_inl, wB_eq, wB_eq, nI_addL, nI_addL]
          refine fin _ ?_
          show _ = nI (if j < 6 then cd b p j * 32 + (b (p + j) - 96) else cd b p j)
          rw [if_pos (by omega)]
          have s1 : nI (b (p + j)) - (97 : Int32) = nI (b (p + j) - 97) := nI_sub (a := b (p + j)) (b := 97) (by omega)
          have s2 : nI (b (p + j) - 97) + (1 : Int32) = nI (b (p + j) - 97 + 1) := nI_addL _ 1
          have s3 : nI (cd b p j) * (32 : Int32) = nI (cd b p j * 32) := nI_mul (cd b p j) 32
          rw [s1, s2, s3, nI_add]
          congr 1
          omega
      · right
        rw [bI_f hL, if_pos rfl]
        refine ⟨_, rfl, ?_⟩
        rw [hv, ← he, endR_stop hL, show p + j - p = j from by omega]
  obtain ⟨y, ek, rfl⟩ := key
  have ge := endR_ge (q := isL) (b := b) (n := n) (p := p) (by omega)
  obtain ⟨E, hE⟩ : ∃ E, E = endR isL b n p := ⟨_, rfl⟩
  have hall : ∀ i, i < E - p → b (p + i) ≤ 122 := fun i hi => (isL_e.mp (endR_all (q := isL) (n := n) (p := p) (by omega) (by rw [← hE]; omega))).2
  rw [← hE] at ek ge ⊢
  unfold F_X5_readWord F_X5_readWord_j74
  rw [ek, wJ_inl, wB_eq]
  have e6 : ((6 : Int32) < nI (E - p)) = (6 < E - p) := nI_ltE (a := 6) (b := E - p) (by omega) (by omega)
  by_cases h6 : 6 < E - p
  · rw [if_pos (by rw [e6]; exact h6)]
    refine ⟨36, 0, _, rfl, rfl, fun a j w => ?_, ?_, ?_, ?_, Or.inl ⟨h6, rfl, rfl⟩⟩
    · rw [show ∀ (w : wSt) (x : Int32), (w_sI w 38 0 x).1 a j = w.1 a j from fun _ _ => if_neg (by omega)]
      exact if_neg (by omega)
    · rw [sI_ne2 _ _ _ _ _ _ (by decide), sI_eq]
    · rw [sI_eq]
    · rw [sI_ne2 _ _ _ _ _ _ (by decide), sI_ne2 _ _ _ _ _ _ (by decide)]
      exact h2
  · have hlt := cd_lt (b := b) (p := p) (E - p) hall (by omega)
    have hs6 : (6 : Int32) - nI (E - p) = nI (6 - (E - p)) := nI_sub (a := 6) (b := E - p) (by omega)
    have hs5 : (5 : Int32) * nI (6 - (E - p)) = nI (5 * (6 - (E - p))) := nI_mulL _ 5
    have hpw : (32 : Nat) ^ (6 - (E - p)) = 2 ^ (5 * (6 - (E - p))) := by
      rw [Nat.pow_mul]
    have hprod : cd b p (E - p) * 32 ^ (6 - (E - p)) < 1073741824 := by
      have h1 : 32 ^ (E - p) * 32 ^ (6 - (E - p)) = 32 ^ 6 := by rw [← Nat.pow_add]; congr 1; omega
      have h2 : (32 : Nat) ^ 6 = 1073741824 := by decide
      have h3 : 0 < 32 ^ (6 - (E - p)) := Nat.pow_pos (by decide)
      have h4 := Nat.mul_lt_mul_of_pos_right hlt h3
      omega
    obtain ⟨W, hWd⟩ : ∃ W, W = nI (cd b p (E - p) * 32 ^ (6 - (E - p))) := ⟨_, rfl⟩
    have hsh : nI (cd b p (E - p)) <<< (((5 : Int32) * ((6 : Int32) - nI (E - p))) &&& 31) = W := by
      rw [hs6, hs5, shl_n (by omega) (by rw [← hpw]; omega), hWd, hpw]
    obtain ⟨v, hv⟩ : ∃ v, v = w_sI (w_sI (w_sI u 38 5 (nI E)) 38 0 36) 38 2 W := ⟨_, rfl⟩
    have v2 : v.2 = u.2 := by rw [hv]; rfl
    have v22 : v.1 38 2 = W := by rw [hv]; exact sI_eq _ _ _ _
    have vn : ∀ a j, ¬ (a = 38 ∧ (j = 0 ∨ j = 2 ∨ j = 5)) → v.1 a j = u.1 a j := fun a j w => by
      rw [hv, show ∀ (w : wSt) (x : Int32), (w_sI w 38 2 x).1 a j = w.1 a j from fun _ _ => if_neg (by omega), show ∀ (w : wSt) (x : Int32), (w_sI w 38 0 x).1 a j = w.1 a j from fun _ _ => if_neg (by omega)]
      exact if_neg (by omega)
    obtain ⟨K, k1, k2⟩ := kw_c (x := W) (u := v) (by rw [v2]; exact hp) (fun i hi => by rw [vn 39 i (by omega)]; exact hW i hi)
    rw [if_neg (by rw [e6]; exact h6), hsh, wB_eq, ← hv, v22, k1, wP_s, wB_eq]
    refine ⟨K, W, _, rfl, v2, fun a j w => ?_, ?_, sI_eq _ _ _ _, ?_, Or.inr ⟨by omega, hWd, k2⟩⟩
    · rw [show ∀ (w : wSt) (x : Int32), (w_sI w 38 0 x).1 a j = w.1 a j from fun _ _ => if_neg (by omega)]
      exact vn a j w
    · rw [sI_ne2 _ _ _ _ _ _ (by decide), hv, sI_ne2 _ _ _ _ _ _ (by decide), sI_ne2 _ _ _ _ _ _ (by decide), sI_eq]
    · rw [sI_ne2 _ _ _ _ _ _ (by decide)]
      exact v22
end

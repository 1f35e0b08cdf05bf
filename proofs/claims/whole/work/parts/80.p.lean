/-! feed -/
theorem byte_of (y : Int32) : ∃ b : Nat, b < 256 ∧ y &&& 255 = nI b ∧ y.toInt8.toInt32.toInt8.toInt32 = (nI b).toInt8.toInt32 := by
  refine ⟨y.toBitVec.toNat % 256, Nat.mod_lt _ (by decide), ?_, ?_⟩
  · apply Int32.toBitVec_inj.mp
    rw [Int32.toBitVec_and, nI_bv]
    apply BitVec.eq_of_toNat_eq
    rw [BitVec.toNat_and, BitVec.toNat_ofNat]
    have h : (255 : Int32).toBitVec.toNat = 2 ^ 8 - 1 := by decide
    rw [h, Nat.and_two_pow_sub_one_eq_mod]
    omega
  · rw [Int8.toInt8_toInt32]
    congr 1
    apply Int8.toBitVec_inj.mp
    apply BitVec.eq_of_toNat_eq
    rw [Int32.toBitVec_toInt8, Int32.toBitVec_toInt8, nI_bv]
    simp only [BitVec.signExtend, BitVec.toNat_ofInt]
    have h : ∀ x : BitVec 32, x.toInt % 256 = (x.toNat : Int) % 256 := fun x => by
      have := BitVec.toInt_eq_toNat_cond x
      rw [this]
      split <;> omega
    have e : ((2 ^ 8 : Nat) : Int) = 256 := by decide
    rw [e, h, h, BitVec.toNat_ofNat]
    omega
def pv (x : Int32) (r : Nat) : Int32 := x >>> (nI (24 - 8 * r) &&& 31)
def shf (k : Nat) : Int32 := if k = 0 then 24 else if k = 1 then 16 else if k = 2 then 8 else if k = 3 then 0 else -8
section
variable {n m k d c b B : Nat} {u t : wSt}
theorem tape_c {x : Int32} {L : Nat} (hp : PL u.2.2) (hL : u.1 0 1 = nI L) (h6 : L ≤ 696) : ∃ u', F_X8_putOnTape 0 x u = some ((), u') ∧ u'.2 = u.2 ∧ (∀ a j, ¬ (a = 0 ∧ j = 1) → ¬ (a = 1 ∧ L ≤ j) → u'.1 a j = u.1 a j) ∧ u'.1 0 1 = nI (L + 4) ∧ ∀ r, r < 4 → u'.1 1 (L + r) = (pv x r).toInt8.toInt32.toInt8.toInt32 := by
  have key : Ro (fun y => ∃ v : wSt, y = ((), v) ∧ v.2 = u.2 ∧ (∀ a j, ¬ (a = 0 ∧ j = 1) → ¬ (a = 1 ∧ L ≤ j) → v.1 a j = u.1 a j) ∧ v.1 0 1 = nI (L + 4) ∧ ∀ r, r < 4 → v.1 1 (L + r) = (pv x r).toInt8.toInt32.toInt8.toInt32) (F_X8_putOnTape 0 x u) := by
    unfold F_X8_putOnTape
    refine wL_ro (fun k y => ∃ v : wSt, y = (shf k, v) ∧ v.2 = u.2 ∧ (∀ a j, ¬ (a = 0 ∧ j = 1) → ¬ (a = 1 ∧ L ≤ j) → v.1 a j = u.1 a j) ∧ v.1 0 1 = nI (L + k) ∧ ∀ r, r < k → v.1 1 (L + r) = (pv x r).toInt8.toInt32.toInt8.toInt32) _ 4 (by unfold wFu; omega) ?_ ⟨u, rfl, rfl, fun _ _ _ _ => rfl, hL, fun r hr => by omega⟩
    rintro k y hk ⟨v, rfl, hv2, hv0, hv1, hR⟩
    have hpv : PL v.2.2 := by rw [hv2]; exact hp
    have r0 : v.2.2 0 0 = 2 := by simp only [PL_u hpv]
    unfold F_X8_putOnTape_b3
    dsimp only
    by_cases h4 : k = 4
    · right
      subst h4
      exact ⟨((), v), if_pos (by decide), v, rfl, hv2, hv0, hv1, hR⟩
    · left
      have e7 : ((700 : Int32) ≤ nI (L + k)) = (700 ≤ L + k) := nI_leE (a := 700) (b := L + k) (by omega) (by omega)
      have hs : ¬ shf k < 0 ∧ shf k = nI (24 - 8 * k) ∧ shf k + (-8 : Int32) = shf (k + 1) := by
        have : k = 0 ∨ k = 1 ∨ k = 2 ∨ k = 3 := by omega
        rcases this with rfl | rfl | rfl | rfl <;> decide
      have hpx : x >>> (shf k &&& 31) = pv x k := by unfold pv; rw [hs.2.1]
      refine ⟨(shf (k + 1), w_sI (w_sI v 1 (L + k) ((pv x k).toInt8.toInt32.toInt8.toInt32)) 0 1 (nI (L + k + 1))), ?_, by omega, _, rfl, hv2, fun a j w w' => ?_, sI_eq _ _ _ _, fun r hr => ?_⟩
      · rw [if_neg hs.1, hv1, if_neg (by rw [e7]; omega), r0, wR_1, wSB_eq, wN_1 _ (by omega), wB_eq, wB_eq, sI_ne _ _ _ _ _ _ (by decide), hv1, hs.2.2, hpx, nI_addL]
      · rw [show ∀ (w : wSt) (y : Int32), (w_sI w 0 1 y).1 a j = w.1 a j from fun _ _ => if_neg (by omega), show ∀ (w : wSt) (y : Int32), (w_sI w 1 (L + k) y).1 a j = w.1 a j from fun _ _ => if_neg (by omega)]
        exact hv0 a j w w'
      · rw [sI_ne _ _ _ _ _ _ (by decide)]
        by_cases hrk : r = k
        · subst hrk
          exact sI_eq _ _ _ _
        · rw [sI_ne2 _ _ _ _ _ _ (by omega)]
          exact hR r (by omega)
  obtain ⟨y, h1, v, rfl, h2, h3, h4, h5⟩ := key
  exact ⟨v, h1, h2, h3, h4, h5⟩
theorem GR_tp {u' t' : wSt} (h : GR n m k d u t) (hr : u'.2.2 = u.2.2) (hr' : t'.2 = t.2) (hU : ∀ a j, ¬ (a = 0 ∧ j = 1) → a ≠ 1 → u'.1 a j = u.1 a j) (hT : ∀ a j, ¬ (a = 79 ∧ (j = 1 ∨ j = 2)) → a ≠ 80 → t'.1 a j = t.1 a j) (hE : Tp u'.1 t'.1) : GR n m k d u' t' := by
  obtain ⟨hp, hm, hd, h2, h3, hTd, hS, hs, hP, hN, hI, hUn, hG, -, hF, hW⟩ := h
  have d1 := TC_le hd
  have U1 : ∀ a, a ≠ 0 → a ≠ 1 → u'.1 a = u.1 a := fun a q r => funext (fun j => hU a j (by omega) r)
  have U0 : u'.1 0 8 = u.1 0 8 := hU _ _ (by omega) (by omega)
  have T1 : ∀ a, a ≠ 79 → a ≠ 80 → t'.1 a = t.1 a := fun a q r => funext (fun j => hT a j (by omega) r)
  have T79 : ∀ j, j ≠ 1 → j ≠ 2 → t'.1 79 j = t.1 79 j := fun j q r => hT 79 j (by omega) (by omega)
  refine ⟨by rw [hr]; exact hp, by rw [hr']; exact hm, hd, by rw [hr]; exact h2, by rw [hr]; exact h3, ?_, ?_, ?_, ?_, ?_, ?_, ?_, ?_, hE, ?_, ?_⟩
  · exact Td_fr hTd (fun a j q r => hU a j (by omega) (by omega)) (fun j q r => T79 j (by omega) (by omega)) (fun a j q r => hT a j (by omega) (by omega))
  · exact Sc_fr hTd.1.1 hTd.1.2.1 hS (fun a j q r _ => hU a j (by omega) (by omega)) (fun a j q r q1 q2 q3 => hT a j (by omega) (by omega))
  · rw [U1 43 (by omega) (by omega)]
    exact hs
  · exact SP_fr hP (fun g _ => hU _ _ (by omega) (by omega))
  · rw [U1 43 (by omega) (by omega), hr']
    exact hN
  · rw [hr']
    unfold Im at hI ⊢
    unfold SP at hI ⊢
    simp (disch := omega) only [U0, U1, T1, T79]
    exact hI
  · unfold Un at hUn ⊢
    simp (disch := omega) only [U1, T1, T79]
    exact hUn
  · unfold Sg at hG ⊢
    unfold Se at hG ⊢
    simp (disch := omega) only [U1, T1, T79]
    exact hG
  · unfold Ft at hF ⊢
    simp (disch := omega) only [U1, T1, T79]
    exact hF
  · unfold Wd at hW ⊢
    simp (disch := omega) only [U1, T1, T79]
    exact hW
def fx (x0 x1 x2 x3 x4 : Int32) (j : Nat) : Int32 := if j = 0 then x0 else if j = 1 then x1 else if j = 2 then x2 else if j = 3 then x3 else x4
theorem feed9 {x0 x1 x2 x3 x4 : Int32} {L : Nat} (hm : PM t.2.2) (hL : t.1 79 1 = nI L) (h6 : L ≤ 680) : Ro (fun y => ∃ v : wSt, y = Sum.inl v ∧ v.2 = t.2 ∧ (∀ a j, ¬ (a = 80 ∧ L ≤ j) → v.1 a j = t.1 a j) ∧ ∀ r, r < 20 → v.1 80 (L + r) = pv (fx x0 x1 x2 x3 x4 (r / 4)) (r % 4) &&& 255) (wL (S := Int32 × wSt) (fun x => F_X9_feed_b23 x4 x3 x2 x1 x0 79 x.1 x.2) wFu ((0 : Int32), t)) := by
  refine wL_ro (fun k y => ∃ v : wSt, y = (nI k, v) ∧ v.2 = t.2 ∧ (∀ a j, ¬ (a = 80 ∧ L ≤ j) → v.1 a j = t.1 a j) ∧ ∀ r, r < k → v.1 80 (L + r) = pv (fx x0 x1 x2 x3 x4 (r / 4)) (r % 4) &&& 255) _ 20 (by unfold wFu; omega) ?_ ⟨t, rfl, rfl, fun _ _ _ => rfl, fun r hr => by omega⟩
  rintro k y hk ⟨v, rfl, hv2, hv0, hR⟩
  have hmv : PM v.2.2 := by rw [hv2]; exact hm
  have r0 : v.2.2 79 0 = 81 := by simp only [PM_u hmv]
  have e20 : ((20 : Int32) ≤ nI k) = (20 ≤ k) := nI_leE (a := 20) (b := k) (by omega) (by omega)
  have e4 : ((4 : Int32) ≤ nI k) = (4 ≤ k) := nI_leE (a := 4) (b := k) (by omega) (by omega)
  have e8 : ((8 : Int32) ≤ nI k) = (8 ≤ k) := nI_leE (a := 8) (b := k) (by omega) (by omega)
  have e12 : ((12 : Int32) ≤ nI k) = (12 ≤ k) := nI_leE (a := 12) (b := k) (by omega) (by omega)
  have e16 : ((16 : Int32) ≤ nI k) = (16 ≤ k) := nI_leE (a := 16) (b := k) (by omega) (by omega)
  by_cases h20 : k = 20
  · right
    subst h20
    exact ⟨.inl v, if_pos (show (20 : Int32) ≤ nI 20 from by decide), v, rfl, hv2, hv0, hR⟩
  · left
    have hlk : v.1 79 1 = nI L := by rw [hv0 _ _ (by omega)]; exact hL
    have hrem : w_rem (nI k) (4 : Int32) = nI (k % 4) := rem_nI (a := k) (b := 4) (by omega) (by omega)
    have hsh : (24 : Int32) - (8 : Int32) * nI (k % 4) = nI (24 - 8 * (k % 4)) := by
      rw [nI_mulL]
      exact nI_sub (a := 24) (b := 8 * (k % 4)) (by omega)
    have go : F_X9_feed_j76 v 79 (nI k) (fx x0 x1 x2 x3 x4 (k / 4)) = some (.inl (nI (k + 1), w_sI v 80 (L + k) (pv (fx x0 x1 x2 x3 x4 (k / 4)) (k % 4) &&& 255))) := by
      unfold F_X9_feed_j76 pv
      rw [r0, wR_80, hlk, hrem, hsh, nI_add, wSI_eq, wN_80 _ (by omega), wB_eq, nI_addL]
    refine ⟨(nI (k + 1), w_sI v 80 (L + k) (pv (fx x0 x1 x2 x3 x4 (k / 4)) (k % 4) &&& 255)), ?_, by omega, _, rfl, hv2, fun a j w => ?_, fun r hr => ?_⟩
    · rw [← go]
      unfold F_X9_feed_b23
      dsimp only
      rw [if_neg (by rw [e20]; omega)]
      by_cases c4 : 4 ≤ k
      · rw [if_pos (by rw [e4]; exact c4)]
        by_cases c8 : 8 ≤ k
        · rw [if_pos (by rw [e8]; exact c8)]
          by_cases c12 : 12 ≤ k
          · rw [if_pos (by rw [e12]; exact c12)]
            by_cases c16 : 16 ≤ k
            · rw [if_pos (by rw [e16]; exact c16), wJ_inl, show k / 4 = 4 from by omega]
              rfl
            · rw [if_neg (by rw [e16]; exact c16), wJ_inl, show k / 4 = 3 from by omega]
              rfl
          · rw [if_neg (by rw [e12]; exact c12), wJ_inl, show k / 4 = 2 from by omega]
            rfl
        · rw [if_neg (by rw [e8]; exact c8), wJ_inl, show k / 4 = 1 from by omega]
          rfl
      · rw [if_neg (by rw [e4]; exact c4), wJ_inl, show k / 4 = 0 from by omega]
        rfl
    · rw [show ∀ (w : wSt) (y : Int32), (w_sI w 80 (L + k) y).1 a j = w.1 a j from fun _ _ => if_neg (by omega)]
      exact hv0 a j w
    · by_cases hrk : r = k
      · subst hrk
        exact sI_eq _ _ _ _
      · rw [sI_ne2 _ _ _ _ _ _ (by omega)]
        exact hR r (by omega)
theorem M_feed {x0 x1 x2 x3 x4 : Int32} (h : GR n m k d u t) : QM (F_X8_feed 0 x0 x1 x2 x3 x4 u) (F_X9_feed 79 x0 x1 x2 x3 x4 t) := by
  unfold F_X9_feed
  obtain ⟨t0, et⟩ : ∃ t0, t0 = w_sI t 79 2 (0 : Int32) := ⟨_, rfl⟩
  have hK0 : KT t t0 := by rw [et]; exact KT_s (by unfold scr; omega)
  have h := GR_fr h (KC_rf u) hK0
  rw [wB_eq, ← et]
  obtain ⟨L, l7, g1, g2, g3⟩ := h.2.2.2.2.2.2.2.2.2.2.2.2.2.1
  unfold F_X8_feed
  have e1 : (nI L ≤ (680 : Int32)) = (L ≤ 680) := nI_leE (a := L) (b := 680) (by omega) (by omega)
  have e2 : (nI (L + 20) ≤ (700 : Int32)) = (L + 20 ≤ 700) := nI_leE (a := L + 20) (b := 700) (by omega) (by omega)
  rw [g1, g2, nI_addL]
  by_cases hL : L ≤ 680
  · rw [if_pos (by rw [e1]; exact hL), if_pos (by rw [e2]; omega)]
    have hp := h.1
    obtain ⟨v1, a1, a2, a3, a4, a5⟩ := tape_c (x := x0) hp g1 (by omega)
    obtain ⟨v2, b1, b2, b3, b4, b5⟩ := tape_c (x := x1) (by rw [a2]; exact hp) a4 (by omega)
    obtain ⟨v3, c1, c2, c3, c4, c5⟩ := tape_c (x := x2) (by rw [b2, a2]; exact hp) b4 (by omega)
    obtain ⟨v4, d1, d2, d3, d4, d5⟩ := tape_c (x := x3) (by rw [c2, b2, a2]; exact hp) c4 (by omega)
    obtain ⟨v5, f1, f2, f3, f4, f5⟩ := tape_c (x := x4) (by rw [d2, c2, b2, a2]; exact hp) d4 (by omega)
    obtain ⟨y, hy, w, rfl, w2, w3, w4⟩ := feed9 (x0 := x0) (x1 := x1) (x2 := x2) (x3 := x3) (x4 := x4) h.2.1 g2 hL
    have w1 : w.1 79 1 = nI L := by rw [w3 _ _ (by omega)]; exact g2
    unfold F_X9_feed_j113
    rw [a1, wC_s, b1, wC_s, c1, wC_s, d1, wC_s, f1, wC_s, hy, wJ_inl, wB_eq, w1, nI_addL, f4, sI_eq]
    have hall : ∀ r, r < 20 → v5.1 1 (L + r) = (pv (fx x0 x1 x2 x3 x4 (r / 4)) (r % 4)).toInt8.toInt32.toInt8.toInt32 := fun r hr => by
      by_cases q4 : r < 4
      · rw [f3 1 _ (by omega) (by omega), d3 1 _ (by omega) (by omega), c3 1 _ (by omega) (by omega), b3 1 _ (by omega) (by omega), a5 r q4, show r / 4 = 0 from by omega, show r % 4 = r from by omega]
        rfl
      · by_cases q8 : r < 8
        · have z := b5 (r - 4) (by omega)
          rw [show L + 4 + (r - 4) = L + r from by omega] at z
          rw [f3 1 _ (by omega) (by omega), d3 1 _ (by omega) (by omega), c3 1 _ (by omega) (by omega), z, show r / 4 = 1 from by omega, show r % 4 = r - 4 from by omega]
          rfl
        · by_cases q12 : r < 12
          · have z := c5 (r - 8) (by omega)
            rw [show L + 4 + 4 + (r - 8) = L + r from by omega] at z
            rw [f3 1 _ (by omega) (by omega), d3 1 _ (by omega) (by omega), z, show r / 4 = 2 from by omega, show r % 4 = r - 8 from by omega]
            rfl
          · by_cases q16 : r < 16
            · have z := d5 (r - 12) (by omega)
              rw [show L + 4 + 4 + 4 + (r - 12) = L + r from by omega] at z
              rw [f3 1 _ (by omega) (by omega), z, show r / 4 = 3 from by omega, show r % 4 = r - 12 from by omega]
              rfl
            · have z := f5 (r - 16) (by omega)
              rw [show L + 4 + 4 + 4 + 4 + (r - 16) = L + r from by omega] at z
              rw [z, show r / 4 = 4 from by omega, show r % 4 = r - 16 from by omega]
              rfl
    refine ⟨_, v5, w_sI w 79 1 (nI (L + 20)), rfl, rfl, n, m, k, d, GR_tp h (by rw [f2, d2, c2, b2, a2]) w2 (fun a j q q' => by rw [f3 _ _ q (by omega), d3 _ _ q (by omega), c3 _ _ q (by omega), b3 _ _ q (by omega), a3 _ _ q (by omega)]) (fun a j q q' => ?_) ⟨L + 20, by omega, f4, sI_eq _ _ _ _, fun i hi => ?_⟩⟩
    · rw [show ∀ (y : Int32), (w_sI w 79 1 y).1 a j = w.1 a j from fun _ => if_neg (by omega)]
      exact w3 a j (by omega)
    · rw [sI_ne _ _ _ _ _ _ (by decide)]
      by_cases hiL : i < L
      · rw [w3 _ _ (by omega), f3 _ _ (by omega) (by omega), d3 _ _ (by omega) (by omega), c3 _ _ (by omega) (by omega), b3 _ _ (by omega) (by omega), a3 _ _ (by omega) (by omega)]
        exact g3 i hiL
      · obtain ⟨r, rfl⟩ : ∃ r, i = L + r := ⟨i - L, by omega⟩
        rw [hall r (by omega), w4 r (by omega)]
        exact byte_of _
  · rw [if_neg (by rw [e1]; exact hL), if_neg (by rw [e2]; omega)]
    exact ⟨_, u, t0, rfl, rfl, n, m, k, d, h⟩
end

/-! reference: a name's letters -/
def dg (b : Nat → Nat) (P L i : Nat) : Nat := if i < L then b (P + i) - 96 else 0
def pk (b : Nat → Nat) (P L : Nat) : Nat → Nat
  | 0 => 0
  | j + 1 => pk b P L j * 32 + dg b P L j
theorem pk6_lt {b : Nat → Nat} {P L : Nat} (h : ∀ i, i < L → b (P + i) ≤ 122) : ∀ j, pk b P L j < 32 ^ j := by
  intro j
  induction j with
  | zero => show 0 < 32 ^ 0; decide
  | succ j ih =>
    show pk b P L j * 32 + dg b P L j < 32 ^ (j + 1)
    have : dg b P L j < 32 := by
      unfold dg
      by_cases q : j < L
      · have := h j q
        rw [if_pos q]
        omega
      · rw [if_neg q]
        decide
    rw [Nat.pow_succ]
    omega
theorem cd_pk {b : Nat → Nat} {P L : Nat} (hL : L ≤ 6) : cd b P L * 32 ^ (6 - L) = pk b P L 6 := by
  have h1 : ∀ j, j ≤ L → cd b P j = pk b P L j := by
    intro j
    induction j with
    | zero => intro _; rfl
    | succ j ih =>
      intro hj
      show (if j < 6 then cd b P j * 32 + (b (P + j) - 96) else cd b P j) = pk b P L j * 32 + dg b P L j
      unfold dg
      rw [if_pos (by omega), if_pos (by omega), ih (by omega)]
  have h2 : ∀ i, pk b P L (L + i) = pk b P L L * 32 ^ i := by
    intro i
    induction i with
    | zero => rw [Nat.pow_zero, Nat.mul_one]; rfl
    | succ i ih =>
      show pk b P L (L + i) * 32 + dg b P L (L + i) = _
      unfold dg
      rw [if_neg (by omega), ih, Nat.pow_succ, Nat.add_zero, Nat.mul_assoc]
  rw [h1 L (Nat.le_refl L), ← h2 (6 - L), show L + (6 - L) = 6 from by omega]
/-- the same six letters -/
theorem pk_inj {b b' : Nat → Nat} {P P' L L' : Nat} (hL : L ≤ 6) (hL' : L' ≤ 6) (h : ∀ i, i < L → 97 ≤ b (P + i) ∧ b (P + i) ≤ 122) (h' : ∀ i, i < L' → 97 ≤ b' (P' + i) ∧ b' (P' + i) ≤ 122) (e : pk b P L 6 = pk b' P' L' 6) : L = L' ∧ ∀ i, i < L → b (P + i) = b' (P' + i) := by
  have d1 : ∀ i, dg b P L i < 32 ∧ (0 < dg b P L i ↔ i < L) := fun i => by
    unfold dg
    by_cases q : i < L
    · have := h i q
      rw [if_pos q]
      omega
    · rw [if_neg q]
      omega
  have d2 : ∀ i, dg b' P' L' i < 32 ∧ (0 < dg b' P' L' i ↔ i < L') := fun i => by
    unfold dg
    by_cases q : i < L'
    · have := h' i q
      rw [if_pos q]
      omega
    · rw [if_neg q]
      omega
  have e : (((((0 * 32 + dg b P L 0) * 32 + dg b P L 1) * 32 + dg b P L 2) * 32 + dg b P L 3) * 32 + dg b P L 4) * 32 + dg b P L 5 = (((((0 * 32 + dg b' P' L' 0) * 32 + dg b' P' L' 1) * 32 + dg b' P' L' 2) * 32 + dg b' P' L' 3) * 32 + dg b' P' L' 4) * 32 + dg b' P' L' 5 := e
  have a0 := (d1 0).1
  have a1 := (d1 1).1
  have a2 := (d1 2).1
  have a3 := (d1 3).1
  have a4 := (d1 4).1
  have a5 := (d1 5).1
  have c0 := (d2 0).1
  have c1 := (d2 1).1
  have c2 := (d2 2).1
  have c3 := (d2 3).1
  have c4 := (d2 4).1
  have c5 := (d2 5).1
  have q5 : dg b P L 5 = dg b' P' L' 5 := by omega
  have q4 : dg b P L 4 = dg b' P' L' 4 := by omega
  have q3 : dg b P L 3 = dg b' P' L' 3 := by omega
  have q2 : dg b P L 2 = dg b' P' L' 2 := by omega
  have q1 : dg b P L 1 = dg b' P' L' 1 := by omega
  have q0 : dg b P L 0 = dg b' P' L' 0 := by omega
  have all : ∀ i, i < 6 → dg b P L i = dg b' P' L' i := fun i hi => by
    have : i = 0 ∨ i = 1 ∨ i = 2 ∨ i = 3 ∨ i = 4 ∨ i = 5 := by omega
    rcases this with rfl | rfl | rfl | rfl | rfl | rfl
    · exact q0
    · exact q1
    · exact q2
    · exact q3
    · exact q4
    · exact q5
  have iff : ∀ i, i < 6 → (i < L ↔ i < L') := fun i hi => by
    rw [← (d1 i).2, ← (d2 i).2, all i hi]
  have hLL : L = L' := by
    rcases Nat.lt_trichotomy L L' with q | q | q
    · exact absurd ((iff L (by omega)).mpr q) (by omega)
    · exact q
    · exact absurd ((iff L' (by omega)).mp q) (by omega)
  refine ⟨hLL, fun i hi => ?_⟩
  have z := all i (by omega)
  unfold dg at z
  rw [if_pos hi, if_pos (by omega)] at z
  have := h i hi
  have := h' i (by omega)
  omega
theorem or_n {a d : Nat} (hd : d < 32) (ha : a * 32 + 32 ≤ 2147483648) : (nI a <<< ((5 : Int32) &&& 31)) ||| nI d = nI (a * 32 + d) := by
  have h5 : nI a <<< ((5 : Int32) &&& 31) = nI (a * 32) := shl_n (x := a) (s := 5) (by omega) (by omega)
  rw [h5]
  apply Int32.toBitVec_inj.mp
  rw [Int32.toBitVec_or, nI_bv, nI_bv, nI_bv]
  apply BitVec.eq_of_toNat_eq
  rw [BitVec.toNat_or, BitVec.toNat_ofNat, BitVec.toNat_ofNat, BitVec.toNat_ofNat, Nat.mod_eq_of_lt (by omega), Nat.mod_eq_of_lt (by omega), Nat.mod_eq_of_lt (by omega)]
  have := Nat.shiftLeft_add_eq_or_of_lt (b := d) (i := 5) (by omega) a
  rw [Nat.shiftLeft_eq] at this
  exact this.symm
section
variable {n p P E : Nat} {b : Nat → Nat} {u t : wSt}
theorem packed_t (hm : PM t.2.2) (hT : Tb n b u.1 t.1) (hPE : P ≤ E) (hE : E ≤ n) (hall : ∀ i, i < E - P → 97 ≤ b (P + i) ∧ b (P + i) ≤ 122) : F_X9_packed 79 (nI P) (nI E) t = some (nI (pk b P (E - P) 6)) := by
  have n7 := hT.1
  have q0 : t.2.2 79 0 = 81 := by simp only [PM_u hm]
  have key : Ro (fun y => y = nI (pk b P (E - P) 6)) (F_X9_packed 79 (nI P) (nI E) t) := by
    unfold F_X9_packed
    refine wL_ro (fun j x => x = (nI (pk b P (E - P) j), nI (P + j))) _ 6 (by unfold wFu; omega) ?_ rfl
    rintro j x hj rfl
    have s6 : nI P + (6 : Int32) = nI (P + 6) := nI_addL P 6
    have e6 : (nI (P + 6) ≤ nI (P + j)) = (P + 6 ≤ P + j) := nI_leE (by omega) (by omega)
    have eE : (nI E ≤ nI (P + j)) = (E ≤ P + j) := nI_leE (by omega) (by omega)
    have lt := pk6_lt (b := b) (P := P) (L := E - P) (fun i hi => (hall i hi).2) j
    have p5 : 32 ^ j ≤ 32 ^ 6 := Nat.pow_le_pow_right (by decide) hj
    unfold F_X9_packed_b5 F_X9_packed_j37
    dsimp only
    rw [s6]
    by_cases h6 : 6 ≤ j
    · right
      have : j = 6 := by omega
      subst this
      rw [if_pos (by rw [e6]; omega)]
      exact ⟨_, rfl, rfl⟩
    · left
      have p5' : 32 ^ j ≤ 32 ^ 5 := Nat.pow_le_pow_right (by decide) (by omega)
      have v5 : (32 : Nat) ^ 5 = 33554432 := by decide
      rw [if_neg (by rw [e6]; omega)]
      have hd : dg b P (E - P) j < 32 := by
        unfold dg
        by_cases q : j < E - P
        · have := hall j q
          rw [if_pos q]
          omega
        · rw [if_neg q]
          decide
      by_cases hq : E ≤ P + j
      · have e0 : dg b P (E - P) j = 0 := by
          unfold dg
          rw [if_neg (by omega)]
        have := or_n (a := pk b P (E - P) j) (d := 0) (by omega) (by omega)
        rw [if_pos (by rw [eE]; exact hq), wJ_inl, wB_eq, wB_eq, nI_addL, show (0 : Int32) = nI 0 from rfl, this]
        refine ⟨_, rfl, by omega, ?_⟩
        show _ = (nI (pk b P (E - P) j * 32 + dg b P (E - P) j), nI (P + (j + 1)))
        rw [e0]
        rfl
      · have e0 : dg b P (E - P) j = b (P + j) - 96 := by
          unfold dg
          rw [if_pos (by omega)]
        have hb := hall j (by omega)
        have s96 : nI (b (P + j)) - (96 : Int32) = nI (b (P + j) - 96) := nI_sub (a := b (P + j)) (b := 96) (by omega)
        rw [if_neg (by rw [eE]; exact hq), q0, wR_80, wN_80 _ (by omega), (hT.2 (P + j) (by omega)).2.1, s96, wJ_inl, wB_eq, wB_eq, nI_addL, or_n (by omega) (by omega)]
        refine ⟨_, rfl, by omega, ?_⟩
        show _ = (nI (pk b P (E - P) j * 32 + dg b P (E - P) j), nI (P + (j + 1)))
        rw [e0]
        rfl
  obtain ⟨y, e, rfl⟩ := key
  exact e
end

/-! references: those that never change -/
def PL (R : Nat → Nat → Nat) : Prop := R 0 0 = 2 ∧ R 0 4 = 37 ∧ R 0 5 = 44 ∧ R 0 6 = 51 ∧ R 0 7 = 58 ∧ R 0 9 = 65 ∧ R 0 10 = 67 ∧ R 0 11 = 71 ∧ R 0 12 = 78 ∧ R 0 13 = 79 ∧ R 2 7 = 4 ∧ R 2 8 = 5 ∧ R 2 9 = 6 ∧ R 2 10 = 7 ∧ R 2 11 = 8 ∧ R 2 12 = 9 ∧ R 2 13 = 10 ∧ R 2 14 = 11 ∧ R 2 15 = 12 ∧ R 2 16 = 13 ∧ R 12 1 = 14 ∧ R 12 2 = 15 ∧ R 12 3 = 16 ∧ R 12 4 = 17 ∧ R 12 5 = 18 ∧ R 12 6 = 19 ∧ R 19 7 = 21 ∧ R 19 8 = 22 ∧ R 19 9 = 23 ∧ R 19 10 = 24 ∧ R 19 11 = 25 ∧ R 19 12 = 26 ∧ R 19 13 = 27 ∧ R 19 14 = 28 ∧ R 19 15 = 29 ∧ R 19 16 = 30 ∧ R 29 1 = 31 ∧ R 29 2 = 32 ∧ R 29 3 = 33 ∧ R 29 4 = 34 ∧ R 29 5 = 35 ∧ R 29 6 = 36 ∧ R 36 2 = 39 ∧ R 36 9 = 38 ∧ R 38 3 = 2 ∧ R 38 8 = 40 ∧ R 38 9 = 41 ∧ R 38 10 = 42 ∧ R 38 11 = 43 ∧ R 43 4 = 45 ∧ R 43 5 = 46 ∧ R 43 6 = 47 ∧ R 43 7 = 48 ∧ R 43 8 = 49 ∧ R 43 9 = 50 ∧ R 50 4 = 52 ∧ R 50 5 = 53 ∧ R 50 6 = 54 ∧ R 50 7 = 55 ∧ R 50 8 = 56 ∧ R 50 9 = 57 ∧ R 57 4 = 59 ∧ R 57 5 = 60 ∧ R 57 6 = 61 ∧ R 57 7 = 62 ∧ R 57 8 = 63 ∧ R 57 9 = 64 ∧ R 64 9 = 66 ∧ R 66 1 = 68 ∧ R 66 2 = 69 ∧ R 66 3 = 70 ∧ R 70 2 = 72 ∧ R 70 3 = 73 ∧ R 70 4 = 74 ∧ R 70 5 = 75 ∧ R 70 6 = 76 ∧ R 70 7 = 77
def PM (R : Nat → Nat → Nat) : Prop := R 79 0 = 81 ∧ R 79 3 = 82 ∧ R 79 20 = 83 ∧ R 79 21 = 84 ∧ R 79 22 = 85 ∧ R 79 23 = 86 ∧ R 79 24 = 87 ∧ R 79 25 = 88 ∧ R 79 26 = 89 ∧ R 79 27 = 90 ∧ R 79 28 = 91 ∧ R 79 29 = 92 ∧ R 79 30 = 93 ∧ R 79 31 = 94 ∧ R 79 32 = 95 ∧ R 79 33 = 96 ∧ R 79 34 = 97 ∧ R 79 35 = 98 ∧ R 79 36 = 99 ∧ R 79 37 = 100 ∧ R 79 38 = 101 ∧ R 79 39 = 102 ∧ R 79 46 = 103 ∧ R 79 47 = 104 ∧ R 79 49 = 105 ∧ R 79 50 = 106 ∧ R 79 51 = 107 ∧ R 79 52 = 108 ∧ R 79 53 = 109 ∧ R 79 54 = 110 ∧ R 79 55 = 111 ∧ R 79 56 = 112 ∧ R 79 57 = 113 ∧ R 79 69 = 114 ∧ R 79 72 = 115 ∧ R 79 73 = 116 ∧ R 79 75 = 117 ∧ R 79 77 = 118 ∧ R 79 78 = 119
/-- the told cell -/
def TC (d : Nat) : Prop := d = 2 ∨ d = 19
/-- a scene's cell -/
def SC (c : Nat) : Prop := c = 43 ∨ c = 50 ∨ c = 57
theorem PL_d {R : Nat → Nat → Nat} {d : Nat} (h : PL R) (hd : TC d) : R d 7 = d + 2 ∧ R d 8 = d + 3 ∧ R d 9 = d + 4 ∧ R d 10 = d + 5 ∧ R d 11 = d + 6 ∧ R d 12 = d + 7 ∧ R d 13 = d + 8 ∧ R d 14 = d + 9 ∧ R d 15 = d + 10 ∧ R d 16 = d + 11 ∧ R (d + 10) 1 = d + 12 ∧ R (d + 10) 2 = d + 13 ∧ R (d + 10) 3 = d + 14 ∧ R (d + 10) 4 = d + 15 ∧ R (d + 10) 5 = d + 16 ∧ R (d + 10) 6 = d + 17 := by
  rcases hd with rfl | rfl <;> simp only [PL] at h <;> simp only [h, Nat.reduceAdd, and_self]
theorem PL_c {R : Nat → Nat → Nat} {c : Nat} (h : PL R) (hc : SC c) : R c 4 = c + 2 ∧ R c 5 = c + 3 ∧ R c 6 = c + 4 ∧ R c 7 = c + 5 ∧ R c 8 = c + 6 ∧ R c 9 = c + 7 := by
  rcases hc with rfl | rfl | rfl <;> simp only [PL] at h <;> simp only [h, Nat.reduceAdd, and_self]
theorem wR_d0 {β : Type} {d : Nat} (K : Nat → Option β) (hd : TC d) : wR (d + 1) 6 K = K d := by
  rcases hd with rfl | rfl <;> rfl
theorem wR_d1 {β : Type} {d : Nat} (K : Nat → Option β) (hd : TC d) : wR (d + 2) 10 K = K (d + 1) := by
  rcases hd with rfl | rfl <;> rfl
theorem wN_d1 {β : Type} {d j : Nat} (K : Nat → Option β) (hd : TC d) (h : j < 6) : wN (nI j) (d + 1) K = K j := by
  rcases hd with rfl | rfl
  · exact wN_3 K h
  · exact wN_20 K h
theorem wR_d2 {β : Type} {d : Nat} (K : Nat → Option β) (hd : TC d) : wR (d + 3) 10 K = K (d + 2) := by
  rcases hd with rfl | rfl <;> rfl
theorem wN_d2 {β : Type} {d j : Nat} (K : Nat → Option β) (hd : TC d) (h : j < 6) : wN (nI j) (d + 2) K = K j := by
  rcases hd with rfl | rfl
  · exact wN_4 K h
  · exact wN_21 K h
theorem wR_d3 {β : Type} {d : Nat} (K : Nat → Option β) (hd : TC d) : wR (d + 4) 10 K = K (d + 3) := by
  rcases hd with rfl | rfl <;> rfl
theorem wN_d3 {β : Type} {d j : Nat} (K : Nat → Option β) (hd : TC d) (h : j < 6) : wN (nI j) (d + 3) K = K j := by
  rcases hd with rfl | rfl
  · exact wN_5 K h
  · exact wN_22 K h
theorem wR_d4 {β : Type} {d : Nat} (K : Nat → Option β) (hd : TC d) : wR (d + 5) 10 K = K (d + 4) := by
  rcases hd with rfl | rfl <;> rfl
theorem wN_d4 {β : Type} {d j : Nat} (K : Nat → Option β) (hd : TC d) (h : j < 6) : wN (nI j) (d + 4) K = K j := by
  rcases hd with rfl | rfl
  · exact wN_6 K h
  · exact wN_23 K h
theorem wR_d5 {β : Type} {d : Nat} (K : Nat → Option β) (hd : TC d) : wR (d + 6) 10 K = K (d + 5) := by
  rcases hd with rfl | rfl <;> rfl
theorem wN_d5 {β : Type} {d j : Nat} (K : Nat → Option β) (hd : TC d) (h : j < 8) : wN (nI j) (d + 5) K = K j := by
  rcases hd with rfl | rfl
  · exact wN_7 K h
  · exact wN_24 K h
theorem wR_d6 {β : Type} {d : Nat} (K : Nat → Option β) (hd : TC d) : wR (d + 7) 10 K = K (d + 6) := by
  rcases hd with rfl | rfl <;> rfl
theorem wN_d6 {β : Type} {d j : Nat} (K : Nat → Option β) (hd : TC d) (h : j < 8) : wN (nI j) (d + 6) K = K j := by
  rcases hd with rfl | rfl
  · exact wN_8 K h
  · exact wN_25 K h
theorem wR_d7 {β : Type} {d : Nat} (K : Nat → Option β) (hd : TC d) : wR (d + 8) 10 K = K (d + 7) := by
  rcases hd with rfl | rfl <;> rfl
theorem wN_d7 {β : Type} {d j : Nat} (K : Nat → Option β) (hd : TC d) (h : j < 8) : wN (nI j) (d + 7) K = K j := by
  rcases hd with rfl | rfl
  · exact wN_9 K h
  · exact wN_26 K h
theorem wR_d8 {β : Type} {d : Nat} (K : Nat → Option β) (hd : TC d) : wR (d + 9) 10 K = K (d + 8) := by
  rcases hd with rfl | rfl <;> rfl
theorem wN_d8 {β : Type} {d j : Nat} (K : Nat → Option β) (hd : TC d) (h : j < 8) : wN (nI j) (d + 8) K = K j := by
  rcases hd with rfl | rfl
  · exact wN_10 K h
  · exact wN_27 K h
theorem wR_d9 {β : Type} {d : Nat} (K : Nat → Option β) (hd : TC d) : wR (d + 10) 10 K = K (d + 9) := by
  rcases hd with rfl | rfl <;> rfl
theorem wN_d9 {β : Type} {d j : Nat} (K : Nat → Option β) (hd : TC d) (h : j < 8) : wN (nI j) (d + 9) K = K j := by
  rcases hd with rfl | rfl
  · exact wN_11 K h
  · exact wN_28 K h
theorem wR_d10 {β : Type} {d : Nat} (K : Nat → Option β) (hd : TC d) : wR (d + 11) 1 K = K (d + 10) := by
  rcases hd with rfl | rfl <;> rfl
theorem wR_d11 {β : Type} {d : Nat} (K : Nat → Option β) (hd : TC d) : wR (d + 12) 12 K = K (d + 11) := by
  rcases hd with rfl | rfl <;> rfl
theorem wN_d11 {β : Type} {d j : Nat} (K : Nat → Option β) (hd : TC d) (h : j < 3) : wN (nI j) (d + 11) K = K j := by
  rcases hd with rfl | rfl
  · exact wN_13 K h
  · exact wN_30 K h
theorem wR_d12 {β : Type} {d : Nat} (K : Nat → Option β) (hd : TC d) : wR (d + 13) 10 K = K (d + 12) := by
  rcases hd with rfl | rfl <;> rfl
theorem wN_d12 {β : Type} {d j : Nat} (K : Nat → Option β) (hd : TC d) (h : j < 3) : wN (nI j) (d + 12) K = K j := by
  rcases hd with rfl | rfl
  · exact wN_14 K h
  · exact wN_31 K h
theorem wR_d13 {β : Type} {d : Nat} (K : Nat → Option β) (hd : TC d) : wR (d + 14) 10 K = K (d + 13) := by
  rcases hd with rfl | rfl <;> rfl
theorem wN_d13 {β : Type} {d j : Nat} (K : Nat → Option β) (hd : TC d) (h : j < 3) : wN (nI j) (d + 13) K = K j := by
  rcases hd with rfl | rfl
  · exact wN_15 K h
  · exact wN_32 K h
theorem wR_d14 {β : Type} {d : Nat} (K : Nat → Option β) (hd : TC d) : wR (d + 15) 10 K = K (d + 14) := by
  rcases hd with rfl | rfl <;> rfl
theorem wN_d14 {β : Type} {d j : Nat} (K : Nat → Option β) (hd : TC d) (h : j < 64) : wN (nI j) (d + 14) K = K j := by
  rcases hd with rfl | rfl
  · exact wN_16 K h
  · exact wN_33 K h
theorem wR_d15 {β : Type} {d : Nat} (K : Nat → Option β) (hd : TC d) : wR (d + 16) 10 K = K (d + 15) := by
  rcases hd with rfl | rfl <;> rfl
theorem wN_d15 {β : Type} {d j : Nat} (K : Nat → Option β) (hd : TC d) (h : j < 64) : wN (nI j) (d + 15) K = K j := by
  rcases hd with rfl | rfl
  · exact wN_17 K h
  · exact wN_34 K h
theorem wR_d16 {β : Type} {d : Nat} (K : Nat → Option β) (hd : TC d) : wR (d + 17) 13 K = K (d + 16) := by
  rcases hd with rfl | rfl <;> rfl
theorem wN_d16 {β : Type} {d j : Nat} (K : Nat → Option β) (hd : TC d) (h : j < 64) : wN (nI j) (d + 16) K = K j := by
  rcases hd with rfl | rfl
  · exact wN_18 K h
  · exact wN_35 K h
theorem wR_c0 {β : Type} {c : Nat} (K : Nat → Option β) (hc : SC c) : wR (c + 1) 3 K = K c := by
  rcases hc with rfl | rfl | rfl <;> rfl
theorem wR_c1 {β : Type} {c : Nat} (K : Nat → Option β) (hc : SC c) : wR (c + 2) 10 K = K (c + 1) := by
  rcases hc with rfl | rfl | rfl <;> rfl
theorem wN_c1 {β : Type} {c j : Nat} (K : Nat → Option β) (hc : SC c) (h : j < 6) : wN (nI j) (c + 1) K = K j := by
  rcases hc with rfl | rfl | rfl
  · exact wN_44 K h
  · exact wN_51 K h
  · exact wN_58 K h
theorem wR_c2 {β : Type} {c : Nat} (K : Nat → Option β) (hc : SC c) : wR (c + 3) 10 K = K (c + 2) := by
  rcases hc with rfl | rfl | rfl <;> rfl
theorem wN_c2 {β : Type} {c j : Nat} (K : Nat → Option β) (hc : SC c) (h : j < 6) : wN (nI j) (c + 2) K = K j := by
  rcases hc with rfl | rfl | rfl
  · exact wN_45 K h
  · exact wN_52 K h
  · exact wN_59 K h
theorem wR_c3 {β : Type} {c : Nat} (K : Nat → Option β) (hc : SC c) : wR (c + 4) 10 K = K (c + 3) := by
  rcases hc with rfl | rfl | rfl <;> rfl
theorem wN_c3 {β : Type} {c j : Nat} (K : Nat → Option β) (hc : SC c) (h : j < 6) : wN (nI j) (c + 3) K = K j := by
  rcases hc with rfl | rfl | rfl
  · exact wN_46 K h
  · exact wN_53 K h
  · exact wN_60 K h
theorem wR_c4 {β : Type} {c : Nat} (K : Nat → Option β) (hc : SC c) : wR (c + 5) 10 K = K (c + 4) := by
  rcases hc with rfl | rfl | rfl <;> rfl
theorem wN_c4 {β : Type} {c j : Nat} (K : Nat → Option β) (hc : SC c) (h : j < 6) : wN (nI j) (c + 4) K = K j := by
  rcases hc with rfl | rfl | rfl
  · exact wN_47 K h
  · exact wN_54 K h
  · exact wN_61 K h
theorem wR_c5 {β : Type} {c : Nat} (K : Nat → Option β) (hc : SC c) : wR (c + 6) 10 K = K (c + 5) := by
  rcases hc with rfl | rfl | rfl <;> rfl
theorem wN_c5 {β : Type} {c j : Nat} (K : Nat → Option β) (hc : SC c) (h : j < 8) : wN (nI j) (c + 5) K = K j := by
  rcases hc with rfl | rfl | rfl
  · exact wN_48 K h
  · exact wN_55 K h
  · exact wN_62 K h
theorem wR_c6 {β : Type} {c : Nat} (K : Nat → Option β) (hc : SC c) : wR (c + 7) 10 K = K (c + 6) := by
  rcases hc with rfl | rfl | rfl <;> rfl
theorem wN_c6 {β : Type} {c j : Nat} (K : Nat → Option β) (hc : SC c) (h : j < 8) : wN (nI j) (c + 6) K = K j := by
  rcases hc with rfl | rfl | rfl
  · exact wN_49 K h
  · exact wN_56 K h
  · exact wN_63 K h
theorem TC_le {d : Nat} (h : TC d) : 2 ≤ d ∧ d ≤ 19 := by rcases h with rfl | rfl <;> omega
theorem SC_le {c : Nat} (h : SC c) : 43 ≤ c ∧ c ≤ 57 := by rcases h with rfl | rfl | rfl <;> omega
/-! bits -/
def bt (x : Int32) (g : Nat) : Bool := x.toBitVec.getLsbD g
theorem nI_bv (g : Nat) : (nI g).toBitVec = BitVec.ofNat 32 g := rfl
theorem nI_and31 {g : Nat} (h : g < 32) : (nI g &&& 31) = nI g := by
  have : ∀ g : Fin 32, (nI g.1 &&& 31) = nI g.1 := by decide
  exact this ⟨g, h⟩
theorem i_bv {x y : Int32} (h : x.toBitVec = y.toBitVec) : x = y := Int32.toBitVec_inj.mp h
theorem bt_sh {x : Int32} {g : Nat} (h : g < 32) : (x >>> (nI g &&& 31)) &&& 1 = bI (bt x g = true) := by
  rw [nI_and31 h]
  apply i_bv
  apply BitVec.eq_of_getLsbD_eq
  intro i hi
  have e1 : (nI g).toBitVec.smod 32 = BitVec.ofNat 32 g := by
    have : ∀ g : Fin 32, (nI g.1).toBitVec.smod 32 = BitVec.ofNat 32 g.1 := by decide
    exact this ⟨g, h⟩
  rw [Int32.toBitVec_and, Int32.toBitVec_shiftRight, e1, BitVec.getLsbD_and, BitVec.sshiftRight_eq', BitVec.getLsbD_sshiftRight]
  have e2 : (BitVec.ofNat 32 g).toNat = g := by
    rw [BitVec.toNat_ofNat]
    exact Nat.mod_eq_of_lt (by omega)
  rw [e2]
  have e3 : ∀ i : Fin 32, (1 : Int32).toBitVec.getLsbD i.1 = decide (i.1 = 0) := by decide
  have e4 : ∀ i : Fin 32, (0 : Int32).toBitVec.getLsbD i.1 = false := by decide
  rw [e3 ⟨i, hi⟩]
  by_cases hi0 : i = 0
  · subst hi0
    by_cases hb : x.toBitVec.getLsbD g = true
    · have : bI (bt x g = true) = 1 := bI_t hb
      rw [this, e3 ⟨0, by omega⟩]
      simp [hb, h]
    · have : bI (bt x g = true) = 0 := bI_f hb
      have hb : x.toBitVec.getLsbD g = false := Bool.not_eq_true _ ▸ hb
      rw [this, e4 ⟨0, by omega⟩]
      simp only [Nat.add_zero, hb, h]
      simp
  · have e5 : (bI (bt x g = true)).toBitVec.getLsbD i = false := by
      rcases bI_or (p := bt x g = true) with q | q <;> rw [q]
      · exact e4 ⟨i, hi⟩
      · rw [e3 ⟨i, hi⟩]; simp [hi0]
    rw [e5]
    simp [hi0]
theorem bt_or (x y : Int32) (g : Nat) : bt (x ||| y) g = (bt x g || bt y g) := by
  unfold bt
  rw [Int32.toBitVec_or, BitVec.getLsbD_or]
theorem bt_and (x y : Int32) (g : Nat) : bt (x &&& y) g = (bt x g && bt y g) := by
  unfold bt
  rw [Int32.toBitVec_and, BitVec.getLsbD_and]
theorem bt_not {x : Int32} {g : Nat} (h : g < 32) : bt (x ^^^ (-1 : Int32)) g = !(bt x g) := by
  unfold bt
  rw [Int32.toBitVec_xor, BitVec.getLsbD_xor]
  have e3 : ∀ i : Fin 32, (-1 : Int32).toBitVec.getLsbD i.1 = true := by decide
  rw [e3 ⟨g, h⟩]
  simp
theorem bt_one {k g : Nat} (hk : k < 32) (h : g < 32) : bt ((1 : Int32) <<< (nI k &&& 31)) g = decide (g = k) := by
  have : ∀ k g : Fin 32, bt ((1 : Int32) <<< (nI k.1 &&& 31)) g.1 = decide (g.1 = k.1) := by decide +kernel
  exact this ⟨k, hk⟩ ⟨g, h⟩
theorem bt_ge {x : Int32} {g : Nat} (h : 32 ≤ g) : bt x g = false := BitVec.getLsbD_of_ge _ _ h
theorem bt_0 (g : Nat) : bt 0 g = false := by
  unfold bt
  have : (0 : Int32).toBitVec = 0#32 := rfl
  rw [this, BitVec.getLsbD_zero]
theorem bt_ext {x y : Int32} (h : ∀ g, g < 32 → bt x g = bt y g) : x = y := i_bv (BitVec.eq_of_getLsbD_eq h)


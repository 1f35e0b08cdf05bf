/-! a text under way: tokens on both sides, faults -/
/-- bytes b (n of them), tokens at ps (s of them ahead of the end); e: the cell that it is read into -/
def Rd (n : Nat) (b ps : Nat → Nat) (s e : Nat) (u t : wSt) : Prop :=
  PL u.2.2 ∧ PM t.2.2 ∧ TC e ∧ u.2.2 36 3 = e + 1 ∧ Tb n b u.1 t.1 ∧ (∀ j, j < 106 → t.1 81 j = wlet.getD j 0) ∧ t.1 79 6 = nI n ∧ u.1 38 6 = nI (s + 1) ∧ s ≤ 700 ∧ TA b n ps u.1 (s + 1) ∧ u.1 40 s = 35 ∧ (∀ j, j < s → u.1 40 j ≠ 35)
/-- both look at token i -/
def Tk (ps : Nat → Nat) (s i : Nat) (u t : wSt) : Prop :=
  i ≤ s ∧ u.1 38 7 = nI i ∧ u.1 38 0 = u.1 40 i ∧ u.1 38 1 = u.1 41 i ∧ u.1 38 2 = u.1 42 i ∧ t.1 79 7 = nI (ps (i + 1)) ∧ t.1 79 10 = u.1 41 i ∧ KR (u.1 40 i) (u.1 42 i) (t.1 79 8) (t.1 79 9)
def Nf (u t : wSt) : Prop := u.1 36 0 = 0 ∧ t.1 79 4 = 0 ∧ t.1 79 5 = -1
def Bd (u t : wSt) : Prop := u.1 36 0 ≠ 0 ∧ t.1 79 4 = u.1 36 0 ∧ t.1 79 5 = u.1 36 1
def uF (u u' : wSt) : Prop := u'.2 = u.2 ∧ ∀ a j, ¬ (a = 36 ∧ j ≤ 1) → ¬ (a = 38 ∧ (j ≤ 2 ∨ j = 7)) → u'.1 a j = u.1 a j
def tF (t t' : wSt) : Prop := t'.2 = t.2 ∧ ∀ a j, ¬ (a = 79 ∧ ((4 ≤ j ∧ j ≤ 5) ∨ (7 ≤ j ∧ j ≤ 11))) → t'.1 a j = t.1 a j
/-- all that reading may change -/
def rC (e a j : Nat) : Prop := (e ≤ a ∧ a ≤ e + 16) ∨ a = 36 ∨ a = 37 ∨ (a = 38 ∧ (j ≤ 2 ∨ j = 7))
def rT (a j : Nat) : Prop := (a = 79 ∧ ((4 ≤ j ∧ j ≤ 5) ∨ (7 ≤ j ∧ j ≤ 11) ∨ (16 ≤ j ∧ j ≤ 19) ∨ (40 ≤ j ∧ j ≤ 45))) ∨ a = 82 ∨ (a = 83 ∧ 3 ≤ j) ∨ (84 ≤ a ∧ a ≤ 87 ∧ 6 ≤ j) ∨ (88 ≤ a ∧ a ≤ 92 ∧ 8 ≤ j) ∨ (93 ≤ a ∧ a ≤ 95 ∧ 3 ≤ j) ∨ ((a = 96 ∨ a = 98 ∨ a = 99) ∧ 64 ≤ j) ∨ a = 100 ∨ a = 101
def uG (e : Nat) (u u' : wSt) : Prop := u'.2 = u.2 ∧ ∀ a j, ¬ rC e a j → u'.1 a j = u.1 a j
def tG (t t' : wSt) : Prop := t'.2 = t.2 ∧ ∀ a j, ¬ rT a j → t'.1 a j = t.1 a j
theorem uG_rf (e : Nat) (u : wSt) : uG e u u := ⟨rfl, fun _ _ _ => rfl⟩
theorem tG_rf (t : wSt) : tG t t := ⟨rfl, fun _ _ _ => rfl⟩
theorem uG_tr {e : Nat} {u u' u'' : wSt} (h : uG e u u') (h' : uG e u' u'') : uG e u u'' := ⟨h'.1.trans h.1, fun a j q => (h'.2 a j q).trans (h.2 a j q)⟩
theorem tG_tr {t t' t'' : wSt} (h : tG t t') (h' : tG t' t'') : tG t t'' := ⟨h'.1.trans h.1, fun a j q => (h'.2 a j q).trans (h.2 a j q)⟩
theorem uG_s {e : Nat} {u v : wSt} {a j : Nat} {x : Int32} (h : uG e u v) (q : rC e a j) : uG e u (w_sI v a j x) := ⟨h.1, fun a' j' r => by
  rw [show (w_sI v a j x).1 a' j' = v.1 a' j' from if_neg (by rintro ⟨rfl, rfl⟩; exact r q)]
  exact h.2 a' j' r⟩
theorem tG_s {t v : wSt} {a j : Nat} {x : Int32} (h : tG t v) (q : rT a j) : tG t (w_sI v a j x) := ⟨h.1, fun a' j' r => by
  rw [show (w_sI v a j x).1 a' j' = v.1 a' j' from if_neg (by rintro ⟨rfl, rfl⟩; exact r q)]
  exact h.2 a' j' r⟩
theorem uF_G {e : Nat} {u u' : wSt} (h : uF u u') : uG e u u' := ⟨h.1, fun a j q => h.2 a j (fun r => q (by unfold rC; omega)) (fun r => q (by unfold rC; omega))⟩
theorem tF_G {t t' : wSt} (h : tF t t') : tG t t' := ⟨h.1, fun a j q => h.2 a j (fun r => q (by unfold rT; omega))⟩
def bl (u : wSt) (w : Int32) : wSt := w_sI (w_sI u 36 0 w) 36 1 (u.1 38 1)
def wr (t : wSt) (w : Int32) : wSt := w_sI (w_sI t 79 4 w) 79 5 (t.1 79 10)
theorem bl_n {u : wSt} {w : Int32} {a j : Nat} (h : ¬ (a = 36 ∧ j ≤ 1)) : (bl u w).1 a j = u.1 a j := by
  unfold bl
  rw [show ∀ (v : wSt) (x : Int32), (w_sI v 36 1 x).1 a j = v.1 a j from fun _ _ => if_neg (by omega)]
  exact if_neg (by omega)
theorem wr_n {t : wSt} {w : Int32} {a j : Nat} (h : ¬ (a = 79 ∧ 4 ≤ j ∧ j ≤ 5)) : (wr t w).1 a j = t.1 a j := by
  unfold wr
  rw [show ∀ (v : wSt) (x : Int32), (w_sI v 79 5 x).1 a j = v.1 a j from fun _ _ => if_neg (by omega)]
  exact if_neg (by omega)
theorem bl_0 {u : wSt} {w : Int32} : (bl u w).1 36 0 = w := by unfold bl; rw [sI_ne2 _ _ _ _ _ _ (by decide), sI_eq]
theorem bl_F {u : wSt} {w : Int32} : uF u (bl u w) := ⟨rfl, fun _ _ q _ => bl_n q⟩
theorem wr_F {t : wSt} {w : Int32} : tF t (wr t w) := ⟨rfl, fun _ _ q => wr_n (by omega)⟩
/-! a token's kind as a number -/
def sgC (k : Nat) : Nat := if k = 26 then 43 else if k = 27 then 45 else if k = 28 then 42 else if k = 29 then 47 else if k = 30 then 40 else if k = 31 then 41 else 59
def KN (k : Nat) (W kr wr : Int32) : Prop := k ≤ 36 ∧ (k < 20 → kr = 1 ∧ wr = nI (sw k)) ∧ (20 ≤ k → k < 26 → kr = 5 ∧ wr = nI (k - 20)) ∧ (26 ≤ k → k ≤ 32 → kr = 4 ∧ wr = nI (sgC k)) ∧ (k = 33 → kr = 3 ∧ ∃ v v' : Nat, W = nI v ∧ wr = nI v' ∧ v ≤ 1000000 ∧ v' ≤ 1000000 ∧ ((v = v' ∧ v ≤ 99999) ∨ (99999 < v ∧ 99999 < v'))) ∧ (k = 34 → kr = 2 ∧ wr = W) ∧ (k = 35 → kr = 0) ∧ (k = 36 → kr = 6 ∨ (kr = 4 ∧ wr = nI 37))
theorem sw_sw {k : Nat} (h : k < 20) : sw k < 20 ∧ sw (sw k) = k := by
  have : ∀ k : Fin 20, sw k.1 < 20 ∧ sw (sw k.1) = k.1 := by decide
  exact this ⟨k, h⟩
theorem KR_N {K W kr wr : Int32} (h : KR K W kr wr) : ∃ k, K = nI k ∧ KN k W kr wr := by
  rcases h with ⟨a, b⟩ | ⟨k, hk, a, b, c⟩ | ⟨a, b, c⟩ | ⟨a, b, c⟩ | ⟨c, a, b, c', hs⟩ | ⟨j, hj, a, b, c⟩ | ⟨a, b⟩
  · exact ⟨35, a, by omega, fun q => by omega, fun q r => by omega, fun q r => by omega, fun q => by omega, fun q => by omega, fun q => b, fun q => by omega⟩
  · have e := sw_sw hk
    exact ⟨sw k, c, by omega, fun q => ⟨a, by rw [e.2]; exact b⟩, fun q r => by omega, fun q r => by omega, fun q => by omega, fun q => by omega, fun q => by omega, fun q => by omega⟩
  · exact ⟨34, b, by omega, fun q => by omega, fun q r => by omega, fun q r => by omega, fun q => by omega, fun q => ⟨a, c⟩, fun q => by omega, fun q => by omega⟩
  · exact ⟨33, b, by omega, fun q => by omega, fun q r => by omega, fun q r => by omega, fun q => ⟨a, c⟩, fun q => by omega, fun q => by omega, fun q => by omega⟩
  · unfold sgS at hs
    by_cases h37 : c = 37
    · subst h37
      exact ⟨36, c', by omega, fun q => by omega, fun q r => by omega, fun q r => by omega, fun q => by omega, fun q => by omega, fun q => by omega, fun q => Or.inr ⟨a, b⟩⟩
    · have : 26 ≤ sgB c ∧ sgB c ≤ 32 ∧ sgC (sgB c) = c := by
        rcases hs with rfl | rfl | rfl | rfl | rfl | rfl | rfl | rfl <;> first | decide | exact absurd rfl h37
      exact ⟨sgB c, c', by omega, fun q => by omega, fun q r => by omega, fun q r => ⟨a, by rw [this.2.2]; exact b⟩, fun q => by omega, fun q => by omega, fun q => by omega, fun q => by omega⟩
  · exact ⟨20 + j, c, by omega, fun q => by omega, fun q r => ⟨a, by rw [show 20 + j - 20 = j from by omega]; exact b⟩, fun q r => by omega, fun q => by omega, fun q => by omega, fun q => by omega, fun q => by omega⟩
  · exact ⟨36, b, by omega, fun q => by omega, fun q r => by omega, fun q r => by omega, fun q => by omega, fun q => by omega, fun q => by omega, fun q => Or.inl a⟩
/-- the reference's kind is one of these -/
theorem KN_c {k : Nat} {W kr wr : Int32} (h : KN k W kr wr) : (k < 20 ∧ kr = 1 ∧ wr = nI (sw k)) ∨ (20 ≤ k ∧ k < 26 ∧ kr = 5 ∧ wr = nI (k - 20)) ∨ (26 ≤ k ∧ k ≤ 32 ∧ kr = 4 ∧ wr = nI (sgC k)) ∨ (k = 33 ∧ kr = 3) ∨ (k = 34 ∧ kr = 2) ∨ (k = 35 ∧ kr = 0) ∨ (k = 36 ∧ (kr = 6 ∨ (kr = 4 ∧ wr = nI 37))) := by
  obtain ⟨a, b, c, d, e, f, g, i⟩ := h
  by_cases h1 : k < 20
  · exact Or.inl ⟨h1, b h1⟩
  · by_cases h2 : k < 26
    · exact Or.inr (Or.inl ⟨by omega, h2, c (by omega) h2⟩)
    · by_cases h3 : k ≤ 32
      · exact Or.inr (Or.inr (Or.inl ⟨by omega, h3, d (by omega) h3⟩))
      · by_cases h4 : k = 33
        · exact Or.inr (Or.inr (Or.inr (Or.inl ⟨h4, (e h4).1⟩)))
        · by_cases h5 : k = 34
          · exact Or.inr (Or.inr (Or.inr (Or.inr (Or.inl ⟨h5, (f h5).1⟩))))
          · by_cases h6 : k = 35
            · exact Or.inr (Or.inr (Or.inr (Or.inr (Or.inr (Or.inl ⟨h6, g h6⟩)))))
            · exact Or.inr (Or.inr (Or.inr (Or.inr (Or.inr (Or.inr ⟨by omega, i (by omega)⟩)))))
section
variable {k : Nat} {W kr wr : Int32}
theorem KN_3 (h : KN k W kr wr) (q : k ≠ 33) : kr ≠ 3 := by
  rcases KN_c h with ⟨_, e, _⟩ | ⟨_, _, e, _⟩ | ⟨_, _, e, _⟩ | ⟨z, e⟩ | ⟨_, e⟩ | ⟨_, e⟩ | ⟨_, e | ⟨e, _⟩⟩ <;> first | exact absurd z q | (rw [e]; decide)
theorem KN_2 (h : KN k W kr wr) (q : k ≠ 34) : kr ≠ 2 := by
  rcases KN_c h with ⟨_, e, _⟩ | ⟨_, _, e, _⟩ | ⟨_, _, e, _⟩ | ⟨_, e⟩ | ⟨z, e⟩ | ⟨_, e⟩ | ⟨_, e | ⟨e, _⟩⟩ <;> first | exact absurd z q | (rw [e]; decide)
theorem KN_0 (h : KN k W kr wr) (q : k ≠ 35) : kr ≠ 0 := by
  rcases KN_c h with ⟨_, e, _⟩ | ⟨_, _, e, _⟩ | ⟨_, _, e, _⟩ | ⟨_, e⟩ | ⟨_, e⟩ | ⟨z, e⟩ | ⟨_, e | ⟨e, _⟩⟩ <;> first | exact absurd z q | (rw [e]; decide)
theorem KN_1 (h : KN k W kr wr) (q : 20 ≤ k) : kr ≠ 1 := by
  rcases KN_c h with ⟨z, e, _⟩ | ⟨_, _, e, _⟩ | ⟨_, _, e, _⟩ | ⟨_, e⟩ | ⟨_, e⟩ | ⟨_, e⟩ | ⟨_, e | ⟨e, _⟩⟩ <;> first | exact absurd q (by omega) | (rw [e]; decide)
theorem KN_5 (h : KN k W kr wr) (q : k < 20 ∨ 26 ≤ k) : kr ≠ 5 := by
  rcases KN_c h with ⟨z, e, _⟩ | ⟨_, z, e, _⟩ | ⟨_, _, e, _⟩ | ⟨_, e⟩ | ⟨_, e⟩ | ⟨_, e⟩ | ⟨_, e | ⟨e, _⟩⟩ <;> first | (exfalso; omega) | (rw [e]; decide)
theorem KN_4 (h : KN k W kr wr) (q : k < 26 ∨ 33 ≤ k) (c : Nat) (hc : c < 60 ∧ c ≠ 37) : ¬ (kr = 4 ∧ wr = nI c) := by
  rintro ⟨h1, h2⟩
  rcases KN_c h with ⟨z, e, _⟩ | ⟨_, z, e, _⟩ | ⟨_, z, e, _⟩ | ⟨_, e⟩ | ⟨_, e⟩ | ⟨_, e⟩ | ⟨_, e | ⟨e, e'⟩⟩
  · rw [e] at h1; exact absurd h1 (by decide)
  · rw [e] at h1; exact absurd h1 (by decide)
  · omega
  · rw [e] at h1; exact absurd h1 (by decide)
  · rw [e] at h1; exact absurd h1 (by decide)
  · rw [e] at h1; exact absurd h1 (by decide)
  · rw [e] at h1; exact absurd h1 (by decide)
  · rw [e', nI_eqI (by omega) (by omega)] at h2
    exact hc.2 h2.symm
theorem key_t {t : wSt} {c : Nat} (h : KN k W (t.1 79 8) (t.1 79 9)) (hc : c < 20) : F_X9_isKey 79 (nI c) t = some (bI (k = sw c)) := by
  unfold F_X9_isKey
  by_cases h1 : k < 20
  · obtain ⟨e1, e2⟩ := h.2.1 h1
    have s1 := sw_sw h1
    have s2 := sw_sw hc
    rw [if_pos e1, e2]
    by_cases q : k = sw c
    · rw [if_pos (by rw [q, s2.2]), bI_t q]
    · rw [if_neg (by rw [nI_eqI (by omega) (by omega)]; intro z; exact q (by rw [← z, s1.2])), bI_f q]
  · have s2 := sw_sw hc
    rw [if_neg (KN_1 h (by omega)), bI_f (by omega)]
theorem sgn_t {t : wSt} {c : Nat} (h : KN k W (t.1 79 8) (t.1 79 9)) (hc : 26 ≤ c ∧ c ≤ 32) : F_X9_isSign 79 (nI (sgC c)) t = some (bI (k = c)) := by
  unfold F_X9_isSign
  have g : ∀ c : Fin 37, sgC c.1 < 60 ∧ sgC c.1 ≠ 37 := by decide
  have gi : ∀ c k : Fin 7, sgC (26 + c.1) = sgC (26 + k.1) → c = k := by decide
  by_cases h1 : 26 ≤ k ∧ k ≤ 32
  · obtain ⟨e1, e2⟩ := h.2.2.2.1 h1.1 h1.2
    rw [if_pos e1, e2]
    by_cases q : k = c
    · rw [if_pos (by rw [q]), bI_t q]
    · have a1 := g ⟨c, by omega⟩
      have a2 := g ⟨k, by omega⟩
      rw [if_neg (by
        rw [nI_eqI (by have := a2.1; dsimp only at this; omega) (by have := a1.1; dsimp only at this; omega)]
        intro z
        have := gi ⟨k - 26, by omega⟩ ⟨c - 26, by omega⟩ (by dsimp only; rw [show 26 + (k - 26) = k from by omega, show 26 + (c - 26) = c from by omega]; exact z)
        have := congrArg Fin.val this
        dsimp only at this
        omega), bI_f q]
  · have z := KN_4 h (by omega) (sgC c) (g ⟨c, by omega⟩)
    rw [bI_f (by omega)]
    by_cases q : t.1 79 8 = 4
    · rw [if_pos q, if_neg (fun w => z ⟨q, w⟩)]
    · rw [if_neg q]
end
section
variable {n s e i : Nat} {b ps : Nat → Nat} {u t u' t' : wSt}
theorem Rd_fr (h : Rd n b ps s e u t) (hu : uG e u u') (ht : tG t t') : Rd n b ps s e u' t' := by
  obtain ⟨h1, h2, h3, h4, h5, h6, h7, h8, h9, h10, h11, h12⟩ := h
  have d1 := TC_le h3
  have q : ∀ a j, (a = 1 ∨ (40 ≤ a ∧ a ≤ 42) ∨ (a = 38 ∧ j = 6)) → u'.1 a j = u.1 a j := fun a j w => hu.2 a j (by unfold rC; omega)
  have p : ∀ a j, (a = 80 ∨ a = 81 ∨ (a = 79 ∧ j = 6)) → t'.1 a j = t.1 a j := fun a j w => ht.2 a j (by unfold rT; omega)
  exact ⟨by rw [hu.1]; exact h1, by rw [ht.1]; exact h2, h3, by rw [hu.1]; exact h4, ⟨h5.1, fun i hi => by rw [q 1 i (by omega), p 80 i (by omega)]; exact h5.2 i hi⟩, fun j hj => by rw [p 81 j (by omega)]; exact h6 j hj, by rw [p 79 6 (by omega)]; exact h7, by rw [q 38 6 (by omega)]; exact h8, h9, ⟨h10.1, fun j hj => by rw [q 40 j (by omega), q 41 j (by omega), q 42 j (by omega)]; exact h10.2 j hj⟩, by rw [q 40 s (by omega)]; exact h11, fun j hj => by rw [q 40 j (by omega)]; exact h12 j hj⟩
theorem Tk_fr (h : Tk ps s i u t) (hu : ∀ a j, (a = 38 ∨ (40 ≤ a ∧ a ≤ 42)) → u'.1 a j = u.1 a j) (ht : ∀ j, 7 ≤ j → j ≤ 10 → t'.1 79 j = t.1 79 j) : Tk ps s i u' t' := by
  unfold Tk at h ⊢
  rw [hu 38 7 (by omega), hu 38 0 (by omega), hu 38 1 (by omega), hu 38 2 (by omega), hu 40 i (by omega), hu 41 i (by omega), hu 42 i (by omega), ht 7 (by omega) (by omega), ht 8 (by omega) (by omega), ht 9 (by omega) (by omega), ht 10 (by omega) (by omega)]
  exact h
theorem Tk_k (h : Tk ps s i u t) : ∃ k, u.1 38 0 = nI k ∧ KN k (u.1 38 2) (t.1 79 8) (t.1 79 9) := by
  obtain ⟨k0, k7, k1, k2, k3, k4, k5, k6⟩ := h
  rw [k1, k3]
  exact KR_N k6
theorem Tk_e {k : Nat} (hr : Rd n b ps s e u t) (h : Tk ps s i u t) (hk : u.1 38 0 = nI k) (h36 : k ≤ 36) (h35 : k ≠ 35) : i < s := by
  obtain ⟨k0, k7, k1, k2, k3, k4, k5, k6⟩ := h
  obtain ⟨-, -, -, -, -, -, -, -, -, -, hE, -⟩ := hr
  by_cases q : i = s
  · exfalso
    rw [q, hE, hk] at k1
    have := k1
    rw [show (nI k = (35 : Int32)) = (k = 35) from nI_eqI (a := k) (b := 35) (by omega) (by omega)] at this
    exact h35 this
  · omega
theorem Tk_n (hr : Rd n b ps s e u t) (h : Tk ps s i u t) (hi : i < s) : u.1 38 0 ≠ 35 := by
  obtain ⟨k0, k7, k1, k2, k3, k4, k5, k6⟩ := h
  obtain ⟨-, -, -, -, -, -, -, -, -, -, -, hN⟩ := hr
  rw [k1]
  exact hN i hi
theorem tok_g (h : Rd n b ps s e u t) (h7 : u.1 38 7 + (1 : Int32) = nI i) (t7 : t.1 79 7 = nI (ps i)) (hi : i ≤ s) : ∃ u' t', F_X5_next 38 u = some ((), u') ∧ F_X9_token 79 t = some ((), t') ∧ u'.2 = u.2 ∧ (∀ a j, ¬ (a = 38 ∧ (j ≤ 2 ∨ j = 7)) → u'.1 a j = u.1 a j) ∧ t'.2 = t.2 ∧ (∀ a j, ¬ (a = 79 ∧ 7 ≤ j ∧ j ≤ 10) → t'.1 a j = t.1 a j) ∧ Tk ps s i u' t' := by
  obtain ⟨hp, hm, hd, h3, hT, hW, h6, h8, hs, hA, hE, hN⟩ := h
  obtain ⟨u', e1, e2, e3, e4, e5, e6, e7⟩ := next_c (i := i) hp h8 h7 hi hs
  obtain ⟨a1, a2, a3⟩ := hA.2 i (by omega)
  obtain ⟨t', kr, wr, f1, f2, f3, f4, f5, f6, f7, f8⟩ := tok_t hm hT hW h6 t7 a1 a2
  refine ⟨u', t', e1, f1, e2, e3, f2, f3, hi, e4, ?_, ?_, ?_, f4, ?_, ?_⟩
  · rw [e5, e3 40 i (by omega)]
  · rw [e6, e3 41 i (by omega)]
  · rw [e7, e3 42 i (by omega)]
  · rw [f7, e3 41 i (by omega), a3]
  · rw [e3 40 i (by omega), e3 42 i (by omega), f5, f6]
    exact f8
theorem tok_rl (h : Rd n b ps s e u t) (hk : Tk ps s i u t) (hi : i < s) : ∃ u' t', F_X5_next 38 u = some ((), u') ∧ F_X9_token 79 t = some ((), t') ∧ u'.2 = u.2 ∧ (∀ a j, ¬ (a = 38 ∧ (j ≤ 2 ∨ j = 7)) → u'.1 a j = u.1 a j) ∧ t'.2 = t.2 ∧ (∀ a j, ¬ (a = 79 ∧ 7 ≤ j ∧ j ≤ 10) → t'.1 a j = t.1 a j) ∧ Tk ps s (i + 1) u' t' := by
  obtain ⟨k0, k7, k1, k2, k3, k4, k5, k6⟩ := hk
  exact tok_g h (by rw [k7, nI_addL]) k4 (by omega)
theorem blame_c {w : Int32} (hp : PL u.2.2) (h0 : u.1 36 0 = 0) : F_X2_blame 36 w u = some ((), bl u w) := by
  have r2 : u.2.2 36 2 = 39 := by simp only [PL_u hp]
  unfold F_X2_blame bl
  rw [if_pos h0, wB_eq, sI_r, r2, wR_38, wB_eq, sI_ne _ _ _ _ _ _ (by decide)]
theorem blame_b {w : Int32} (h0 : u.1 36 0 ≠ 0) : F_X2_blame 36 w u = some ((), u) := by
  unfold F_X2_blame
  rw [if_neg h0]
theorem goon_b (h0 : u.1 36 0 ≠ 0) : F_X2_goOnIfGood 36 u = some ((), u) := by
  unfold F_X2_goOnIfGood
  rw [if_neg h0]
theorem goon_c (hp : PL u.2.2) (h0 : u.1 36 0 = 0) (h : F_X5_next 38 u = some ((), u')) : F_X2_goOnIfGood 36 u = some ((), u') := by
  have r2 : u.2.2 36 2 = 39 := by simp only [PL_u hp]
  unfold F_X2_goOnIfGood
  rw [if_pos h0, r2, wR_38, h, wC_s]
theorem wrong_t {w : Int32} : F_X9_wrong 79 w t = some ((0 : Int32), wr t w) := by
  unfold F_X9_wrong wr
  rw [wB_eq, wB_eq, sI_ne2 _ _ _ _ _ _ (by decide)]
theorem wrong_g {w : Int32} : wC (F_X9_wrong 79 w t) (fun (i : Int32) (v : wSt) => wG (i = 0 ∨ i = 1) (some (i, v))) = some ((0 : Int32), wr t w) := by
  rw [wrong_t, wC_s, wG_pos (Or.inl rfl)]
theorem Bd_w {w : Int32} (hk : Tk ps s i u t) (hw : w ≠ 0) : Bd (bl u w) (wr t w) := by
  obtain ⟨k0, k7, k1, k2, k3, k4, k5, k6⟩ := hk
  refine ⟨by rw [bl_0]; exact hw, ?_, ?_⟩
  · rw [bl_0]
    unfold wr
    rw [sI_ne2 _ _ _ _ _ _ (by decide), sI_eq]
  · unfold wr bl
    rw [sI_eq, sI_eq, k5, k2]
end

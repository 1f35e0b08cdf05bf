/-! table -/
section
variable {n m k d st c : Nat} {u t : wSt}
def BQ (n st b : Nat) (u : wSt) : Prop := u.1 78 0 = nI st ∧ ∀ j, j + 1 < n → u.1 78 (j + 1) = nI (rwN n st b j)
def cp78 (u : wSt) : wSt := w_cp u 77 0 78 0 6
theorem cp78_e : (cp78 u).2 = u.2 ∧ (∀ a j, a ≠ 78 → (cp78 u).1 a j = u.1 a j) ∧ (∀ j, j < 6 → (cp78 u).1 78 j = u.1 77 j) := by
  refine ⟨rfl, fun a j w => ?_, fun j hj => ?_⟩
  · unfold cp78
    rw [cp_ne _ _ _ _ _ _ _ _ w]
  · unfold cp78
    rw [cp_eq, if_pos (by omega), Nat.zero_add, Nat.sub_zero]
theorem cp78_KC : KC u (cp78 u) := ⟨fun a j _ => rfl, fun a j _ w => cp78_e.2.1 a j (by omega)⟩
theorem KC_77 {u' : wSt} (h2 : u'.2 = u.2) (h1 : ∀ a j, a ≠ 77 → u'.1 a j = u.1 a j) : KC u u' := ⟨fun a j _ => by rw [h2], fun a j _ w => h1 a j (by omega)⟩
theorem KT_113 {t' : wSt} (h2 : t'.2 = t.2) (h1 : ∀ a j, a ≠ 113 → t'.1 a j = t.1 a j) : KT t t' := ⟨by rw [h2], fun a j q => h1 a j (fun e => q (by unfold scr; omega)), by rw [h2], by rw [h2]⟩
theorem SQ_fr {u' : wSt} (h : SQ n st c u) (e : ∀ j, u'.1 77 j = u.1 77 j) : SQ n st c u' := ⟨by rw [e]; exact h.1, fun j hj => by rw [e]; exact h.2 j hj⟩
theorem BQ_fr {u' : wSt} (h : BQ n st c u) (e : ∀ j, u'.1 78 j = u.1 78 j) : BQ n st c u' := ⟨by rw [e]; exact h.1, fun j hj => by rw [e]; exact h.2 j hj⟩
/-- one seating more -/
theorem tab_step {bd : Nat} {be f9 fw an : Int32} (h : GR n m k d u t) (hst : st < n) (hc : c < fct (n - 1)) (hs : ∀ g, g < n → (u.1 44 g = 0 ↔ g = st)) (hS : SQ n st c u) (hbd : bd ≤ 7) (han : an = 1) (hfw : fw = nI bd) (hb : (be < 0 ∧ bd = 7) ∨ (∃ b : Nat, be = nI b ∧ b < c ∧ f9 = nI bd ∧ BQ n st b u)) : ∃ (f b : Nat) (an' : Int32) (u' t' : wSt), F_X8_table_b44 0 fw an (nI c) u = some (.inl (nI f, an', nI (c + 1), u')) ∧ F_X9_table_b84 79 (nI st) be f9 (nI c) t = some (.inl (nI b, nI f, nI (c + 1), t')) ∧ f ≤ 7 ∧ b < c + 1 ∧ BQ n st b u' ∧ (c + 1 < fct (n - 1) → an' = 1 ∧ SQ n st (c + 1) u') ∧ (¬ c + 1 < fct (n - 1) → an' = 0) ∧ KC u u' ∧ KT t t' := by
  have n6 := h.2.2.2.2.2.1.1.1
  have h12 : t.1 79 12 = nI n := h.2.2.2.2.2.1.2.2.1.1
  obtain ⟨ro, fp, f120⟩ := rows_e (t := t) (j := n - 1) (by omega)
  have hn1 : nI n - (1 : Int32) = nI (n - 1) := nI_sub (a := n) (b := 1) (by omega)
  obtain ⟨N, r, v, t1, t2, t3, t4, x, y, e1, e2, e3, e4, e5, e6, e7, e8, e9, N6, r6, o1, o2, hK, hKT, h77⟩ := FB h hst hc hs hS hbd
  have g' := GR_fr h hK hKT
  have r12 : v.2.2 0 12 = 78 := by simp only [PL_u g'.1]
  have r13 : v.2.2 0 13 = 79 := by simp only [PL_u g'.1]
  have hSv : SQ n st c v := SQ_fr hS (fun j => (h77 j).1)
  have e120 : ¬ (120 : Int32) ≤ nI c := by
    rw [show ((120 : Int32) ≤ nI c) = (120 ≤ c) from nI_leE (a := 120) (b := c) (by omega) (by omega)]
    omega
  have han0 : ¬ an = 0 := by rw [han]; decide
  have eF : ¬ nI (fct (n - 1)) ≤ nI c := by
    rw [nI_leE (by omega) (by omega)]
    omega
  have eb : (nI bd ≤ nI r) = (bd ≤ r) := nI_leE (by omega) (by omega)
  have hcl : ∀ (f : Nat) (v2 : wSt), GR n m k d v2 t4 → SQ n st c v2 → ∃ an' u', F_X8_table_j86 0 (nI c) (nI f) v2 = some (.inl (nI f, an', nI (c + 1), u')) ∧ (∀ j, u'.1 78 j = v2.1 78 j) ∧ (c + 1 < fct (n - 1) → an' = 1 ∧ SQ n st (c + 1) u') ∧ (¬ c + 1 < fct (n - 1) → an' = 0) ∧ KC v2 u' := fun f v2 hg hq => by
    obtain ⟨r', u', w1, w2, w3, w4, w5⟩ := next_e hg hst hc hq
    refine ⟨r', u', ?_, fun j => w3 _ _ (by decide), w4, w5, KC_77 w2 w3⟩
    unfold F_X8_table_j86
    rw [w1, wC_s, wB_eq, nI_addL]
  have hset : (be < 0 ∨ nI N < f9) → F_X9_table_b84 79 (nI st) be f9 (nI c) t = some (.inl (nI c, nI N, nI (c + 1), t4)) := fun hq => by
    unfold F_X9_table_b84 F_X9_table_j154 F_X9_table_j187 F_X9_table_j194
    rw [h12, hn1, ro, wP_s, if_neg eF, e2, wC_s, e3, hn1, e4, wC_s, e5, wJ_inl, e6, wC_s, e7, wP_s, e8, wP_s, wB_eq, e9]
    by_cases b0 : be < 0
    · rw [if_pos b0, wJ_inl, wJ_inl, wB_eq, nI_addL]
    · rw [if_neg b0, if_pos (hq.resolve_left b0), wJ_inl, wJ_inl, wB_eq, nI_addL]
  have hkeep : ¬ be < 0 → ¬ nI N < f9 → F_X9_table_b84 79 (nI st) be f9 (nI c) t = some (.inl (be, f9, nI (c + 1), t4)) := fun b0 b1 => by
    unfold F_X9_table_b84 F_X9_table_j154 F_X9_table_j187 F_X9_table_j194
    rw [h12, hn1, ro, wP_s, if_neg eF, e2, wC_s, e3, hn1, e4, wC_s, e5, wJ_inl, e6, wC_s, e7, wP_s, e8, wP_s, wB_eq, e9, if_neg b0, if_neg b1, wJ_inr, wJ_inl, wB_eq, nI_addL]
  unfold F_X8_table_b44
  rw [if_neg e120, if_neg han0, hfw, e1, wC_s]
  by_cases hbr : bd ≤ r
  · have hbN := o2 (by omega)
    rw [if_pos (by rw [eb]; exact hbr), wJ_inl]
    rcases hb with ⟨-, q7⟩ | ⟨b, q1, q2, q3, q4⟩
    · omega
    · obtain ⟨an', u', w1, w2, w3, w4, w5⟩ := hcl bd v g' hSv
      refine ⟨bd, b, an', u', t4, w1, ?_, hbd, by omega, BQ_fr (BQ_fr q4 (fun j => (h77 j).2)) w2, w3, w4, KC_tr hK w5, hKT⟩
      rw [hkeep (by rw [q1, nI_nn (by omega)]; exact id) (by rw [q3, nI_ltE (by omega) (by omega)]; omega), q1, q3]
  · have hrN := o1 (by omega)
    have g2 := GR_fr g' (cp78_KC (u := v)) (KT_rf t4)
    rw [if_neg (by rw [eb]; exact hbr), r12, wR_77, r13, wR_78, wCP_6 _ (by decide) (by decide), wJ_inl]
    obtain ⟨an', u', w1, w2, w3, w4, w5⟩ := hcl r (cp78 v) g2 (SQ_fr hSv (fun j => cp78_e.2.1 _ _ (by decide)))
    have hBQ : BQ n st c (cp78 v) := ⟨by rw [cp78_e.2.2 0 (by omega)]; exact hSv.1, fun j hj => by rw [cp78_e.2.2 (j + 1) (by omega)]; exact hSv.2 j hj⟩
    refine ⟨r, c, an', u', t4, w1, ?_, by omega, by omega, BQ_fr hBQ w2, w3, w4, KC_tr hK (KC_tr cp78_KC w5), hKT⟩
    rw [hset ?_, hrN]
    rcases hb with ⟨q, -⟩ | ⟨b, q1, q2, q3, q4⟩
    · exact Or.inl q
    · right
      rw [q3, nI_ltE (by omega) (by omega)]
      omega
end

/-! a law under way: all of it -/
def LE (n : Nat) (b ps : Nat → Nat) (s e w p i0 : Nat) (u0 t0 : wSt) (y : wSt ⊕ (Int32 × wSt)) (z : wSt ⊕ (wSt ⊕ (Unit × wSt))) : Prop :=
  (∃ (t1 u1 : wSt) (i c K : Nat) (S L : List Nat), y = .inl t1 ∧ z = .inl u1 ∧ i0 ≤ i ∧ Lx n b ps s e i w p c K S L u1 t1 ∧ W0 p K S L t1 ∧ nPa S = 0 ∧ uL e w p u0 u1 ∧ tL p t0 t1) ∨
  (∃ (t1 u1 : wSt), y = .inr ((0 : Int32), t1) ∧ z = .inl u1 ∧ Bd u1 t1 ∧ Bx e w p u1 ∧ uL e w p u0 u1 ∧ tL p t0 t1)
section
variable {n s e i0 w p c K m : Nat} {b ps : Nat → Nat} {S L : List Nat} {u t u0 t0 : wSt}
theorem lawrd_end {v v' x : Int32} (h : u.1 36 0 ≠ 0 ∨ v' ≠ 0) : F_X2_readLaw_b111 36 v v' x u = some (.inr (.inl u)) := by
  unfold F_X2_readLaw_b111
  by_cases q : (700 : Int32) < x
  · rw [if_pos q]
  · rw [if_neg q]
    by_cases q0 : u.1 36 0 = 0
    · rw [if_pos q0, if_neg (by rcases h with h | h; exact absurd q0 h; exact h)]
    · rw [if_neg q0]
theorem lawrd_loop (h : Lx n b ps s e i0 w p c K S L u0 t0) (hW : W1 S L t0) : Rl (LE n b ps s e w p i0 u0 t0) (wL (S := wSt) (fun x => F_X9_sumRead_b25 79 x) wFu t0) (wL (S := Int32 × Int32 × Int32 × wSt) (fun x => F_X2_readLaw_b111 36 x.1 x.2.1 x.2.2.1 x.2.2.2) wFu ((1 : Int32), (0 : Int32), (0 : Int32), u0)) := by
  have n10 : ¬ (1 : Int32) = 0 := by decide
  have z00 : (0 : Int32) = 0 := rfl
  have s7 : s ≤ 700 := h.1.2.2.2.2.2.2.2.2.1
  refine wL_ex (fun k t x => ∃ (v : Int32) (u : wSt) (c K : Nat) (S L : List Nat), x = (v, 0, nI k, u) ∧ Lx n b ps s e (i0 + k) w p c K S L u t ∧ ((v = 1 ∧ W1 S L t) ∨ (v = 0 ∧ W0 p K S L t)) ∧ uL e w p u0 u ∧ tL p t0 t) (fun k y x => (∃ x', F_X2_readLaw_b111 36 x.1 x.2.1 x.2.2.1 x.2.2.2 = some (.inl x') ∧ k < 701 ∧ ∃ z, F_X2_readLaw_b111 36 x'.1 x'.2.1 x'.2.2.1 x'.2.2.2 = some (.inr z) ∧ LE n b ps s e w p i0 u0 t0 y z) ∨ (∃ z, F_X2_readLaw_b111 36 x.1 x.2.1 x.2.2.1 x.2.2.2 = some (.inr z) ∧ LE n b ps s e w p i0 u0 t0 y z)) _ 701 (by unfold wFu; omega) ?_ ?_ ⟨1, u0, c, K, S, L, rfl, h, Or.inl ⟨rfl, hW⟩, uL_rf, tL_rf⟩
  · rintro k t x hk ⟨v, u, c, K, S, L, rfl, hx, hv, hu, ht⟩
    have hR := hx.1
    have hp := hR.1
    have hk' := hx.2.1
    have hf := hx.2.2.1
    have i1 : i0 + k ≤ s := hk'.1
    obtain ⟨kk, hk0, hN⟩ := Tk_k hk'
    have k36 := hN.1
    have e7 : ((700 : Int32) < nI k) = (700 < k) := nI_ltE (a := 700) (b := k) (by omega) (by omega)
    have e32 : (nI kk = (32 : Int32)) = (kk = 32) := nI_eqI (a := kk) (b := 32) (by omega) (by omega)
    have sg : F_X9_isSign 79 (59 : Int32) t = some (bI (kk = 32)) := sgn_t (c := 32) hN (by omega)
    have q7 := hx.2.2.2.2.2.2.2.2.1.1
    have q42 := hx.2.2.2.2.2.2.2.2.1.2.1
    have q8 := hx.2.2.2.2.2.2.2.2.1.2.2
    have ep : (nI (nPa S) ≤ (0 : Int32)) = (nPa S ≤ 0) := nI_leE (a := nPa S) (b := 0) (by omega) (by omega)
    have eq0 : (nI (nPa S) = (0 : Int32)) = (nPa S = 0) := nI_eqI (a := nPa S) (b := 0) (by omega) (by omega)
    -- what comes of a step of either kind
    have STEP : ∀ (o o' : Option (Int32 × wSt)), Lp n b ps s e (i0 + k) w p u t o o' → (F_X2_readLaw_b111 36 v 0 (nI k) u = wC o (fun (i : Int32) (u' : wSt) => some (.inl (i, (0 : Int32), nI (k + 1), u')))) → (F_X9_sumRead_b25 79 t = wC o' (fun (i : Int32) (t' : wSt) => if i = 0 then some (.inr (.inr ((0 : Int32), t'))) else some (.inl t'))) → (∃ (s' : wSt) (x' : Int32 × Int32 × Int32 × wSt), F_X9_sumRead_b25 79 t = some (.inl s') ∧ F_X2_readLaw_b111 36 v 0 (nI k) u = some (.inl x') ∧ k < 701 ∧ ∃ (v : Int32) (u : wSt) (c K : Nat) (S L : List Nat), x' = (v, 0, nI (k + 1), u) ∧ Lx n b ps s e (i0 + (k + 1)) w p c K S L u s' ∧ ((v = 1 ∧ W1 S L s') ∨ (v = 0 ∧ W0 p K S L s')) ∧ uL e w p u0 u ∧ tL p t0 s') ∨ (∃ y, F_X9_sumRead_b25 79 t = some (.inr y) ∧ ∃ x', F_X2_readLaw_b111 36 v 0 (nI k) u = some (.inl x') ∧ k < 701 ∧ ∃ z, F_X2_readLaw_b111 36 x'.1 x'.2.1 x'.2.2.1 x'.2.2.2 = some (.inr z) ∧ LE n b ps s e w p i0 u0 t0 y z) := by
      rintro o o' ⟨v', u', r, t', rfl, rfl, hu', ht', hres⟩ hc hr
      rw [hc, hr, wC_s, wC_s]
      rcases hres with ⟨rfl, c, K, S, L, hx', hw'⟩ | ⟨rfl, hb, hbx⟩
      · left
        rw [if_neg n10]
        exact ⟨t', _, rfl, rfl, by omega, v', u', c, K, S, L, rfl, hx', hw', uL_tr hu hu', tL_tr ht ht'⟩
      · right
        rw [if_pos z00]
        exact ⟨_, rfl, _, rfl, by omega, _, lawrd_end (Or.inl hb.1), Or.inr ⟨t', u', rfl, rfl, hb, hbx, uL_tr hu hu', tL_tr ht ht'⟩⟩
    rcases hv with ⟨rfl, hW1⟩ | ⟨rfl, hW0⟩
    · have w44 := hW1.2.1
      have R : F_X9_sumRead_b25 79 t = wC (F_X9_leafRead 79 t) (fun (i : Int32) (t' : wSt) => if i = 0 then some (.inr (.inr ((0 : Int32), t'))) else some (.inl t')) := by
        unfold F_X9_sumRead_b25 F_X9_sumRead_j48
        rw [sg, wP_s, w44]
        by_cases q : kk = 32
        · rw [bI_t q, if_neg n10, if_neg n10, wJ_inl, if_neg n10]
        · rw [bI_f q, if_pos z00, wJ_inl, if_neg n10]
      have C : F_X2_readLaw_b111 36 1 0 (nI k) u = wC (F_X2_readTowardsValue 36 u) (fun (i : Int32) (u' : wSt) => some (.inl (i, (0 : Int32), nI (k + 1), u'))) := by
        unfold F_X2_readLaw_b111 F_X2_readLaw_j170
        rw [if_neg (fun z => absurd (e7.mp z) (by omega)), if_pos hf.1, if_pos z00, if_neg n10]
        obtain ⟨v', u', r, t', h1, -⟩ := leaf_rl hx hW1
        rw [h1, wC_s, wJ_inl, wC_s, wB_eq, nI_addL]
      rcases STEP _ _ (leaf_rl hx hW1) C R with z | ⟨y, z1, z2⟩
      · exact Or.inl z
      · exact Or.inr (Or.inr ⟨y, z1, Or.inl z2⟩)
    · have w44 := hW0.2.1
      by_cases hq : kk = 32 ∧ nPa S = 0
      · right
        right
        refine ⟨.inl t, ?_, Or.inl ⟨((0 : Int32), (1 : Int32), nI (k + 1), u), ?_, by omega, .inl u, lawrd_end (Or.inr n10), Or.inl ⟨t, u, i0 + k, c, K, S, L, rfl, rfl, by omega, hx, hW0, hq.2, hu, ht⟩⟩⟩
        · unfold F_X9_sumRead_b25
          rw [sg, bI_t hq.1, wP_s, if_neg n10, w44, if_pos z00, q42, if_pos (ep.mpr (by omega)), wJ_inr]
        · unfold F_X2_readLaw_b111 F_X2_readLaw_j170
          dsimp only
          rw [if_neg (fun z => absurd (e7.mp z) (by omega)), if_pos hf.1, if_pos z00, if_pos z00, p36_2 hp, wR_38, hk0, if_pos (e32.mpr hq.1), q7, if_pos (eq0.mpr hq.2), wJ_inr, wJ_inl, wB_eq, nI_addL]
      · have R : F_X9_sumRead_b25 79 t = wC (F_X9_signs 79 t) (fun (i : Int32) (t' : wSt) => if i = 0 then some (.inr (.inr ((0 : Int32), t'))) else some (.inl t')) := by
          unfold F_X9_sumRead_b25 F_X9_sumRead_j48
          rw [sg, wP_s, w44]
          by_cases q : kk = 32
          · rw [bI_t q, if_neg n10, if_pos z00, q42, if_neg (fun z => absurd (ep.mp z) (by omega)), wJ_inl, if_pos z00]
          · rw [bI_f q, if_pos z00, wJ_inl, if_pos z00]
        have C : F_X2_readLaw_b111 36 0 0 (nI k) u = wC (F_X2_readBehindValue 36 u) (fun (i : Int32) (u' : wSt) => some (.inl (i, (0 : Int32), nI (k + 1), u'))) := by
          unfold F_X2_readLaw_b111 F_X2_readLaw_j170 F_X2_readLaw_j165
          rw [if_neg (fun z => absurd (e7.mp z) (by omega)), if_pos hf.1, if_pos z00, if_pos z00, p36_2 hp, wR_38, hk0, q7]
          obtain ⟨v', u', r, t', h1, -⟩ := sign_rl hx hW0
          by_cases q : kk = 32
          · rw [if_pos (e32.mpr q), if_neg (fun z => absurd (eq0.mp z) (by omega)), wJ_inl, h1, wC_s, wJ_inl, wC_s, wB_eq, nI_addL]
          · rw [if_neg (fun z => absurd (e32.mp z) q), wJ_inl, h1, wC_s, wJ_inl, wC_s, wB_eq, nI_addL]
        rcases STEP _ _ (sign_rl hx hW0) C R with z | ⟨y, z1, z2⟩
        · exact Or.inl z
        · exact Or.inr (Or.inr ⟨y, z1, Or.inl z2⟩)
  · rintro k y x hk (⟨x', h1, h2, h3⟩ | h)
    · exact Or.inl ⟨x', h1, h2, Or.inr h3⟩
    · exact Or.inr h
/-- class: signs put down where a fault is found -/
theorem pd_b (hp : PL u.2.2) (hd : TC e) (p3 : u.2.2 36 3 = e + 1) (h : Bx e w p u) : ∃ u', F_X2_putDownFrom 36 (1 : Int32) u = some ((), u') ∧ uB e w p u u' := by
  have d1 := TC_le hd
  obtain ⟨w3, h5, ⟨m, m7, h8⟩, ⟨K, pK, K6, h10⟩⟩ := h
  have key : Ro (fun y => ∃ u', y = ((), u') ∧ uB e w p u u') (F_X2_putDownFrom 36 (1 : Int32) u) := by
    unfold F_X2_putDownFrom
    refine wL_ro (fun k v => ∃ (m' K' : Nat), m' + k = m ∧ v.1 36 8 = nI m' ∧ p ≤ K' ∧ K' ≤ 64 ∧ v.1 (e + 10) 0 = nI K' ∧ uB e w p u v) _ m (by unfold wFu; omega) ?_ ⟨m, K, by omega, h8, pK, K6, h10, rfl, fun _ _ _ _ _ _ => rfl⟩
    rintro k v hk ⟨m', K', hm, v8, pK', K6', v10, hB⟩
    have hpv : PL v.2.2 := by rw [hB.1]; exact hp
    have v5 : v.1 36 5 = nI w := by rw [hB.2 _ _ (by omega) (by omega) (by omega) (by omega)]; exact h5
    have e0 : (nI m' ≤ (0 : Int32)) = (m' ≤ 0) := nI_leE (a := m') (b := 0) (by omega) (by omega)
    obtain ⟨x, lw⟩ := lw_a (m := m') hpv v8 (by omega)
    obtain ⟨q, q6, bo⟩ := bind_a (x := x) (u := v)
    have e1 : (nI q < (1 : Int32)) = (q < 1) := nI_ltE (a := q) (b := 1) (by omega) (by omega)
    unfold F_X2_putDownFrom_b0
    rw [v8]
    by_cases hm0 : m' ≤ 0
    · right
      rw [if_pos (e0.mpr hm0)]
      exact ⟨_, rfl, v, rfl, hB⟩
    · rw [if_neg (fun z => absurd (e0.mp z) hm0), lw, wP_s, bo, wP_s]
      by_cases hq : q < 1
      · right
        rw [if_pos (e1.mpr hq)]
        exact ⟨_, rfl, v, rfl, hB⟩
      · left
        obtain ⟨v', b1, b2, b3, K2, b4, b5, b6⟩ := add_a (u := v) (X := x) (Y := 0) (p := p) hpv hd v10 K6' w3 pK'
        have v8' : v'.1 36 8 = nI m' := by rw [b3 _ _ (by omega) (by omega) (by omega)]; exact v8
        have es : nI m' - (1 : Int32) = nI (m' - 1) := nI_sub (a := m') (b := 1) (by omega)
        rw [if_neg (fun z => absurd (e1.mp z) hq), hB.1, p3, wR_d0 _ hd, (PL_d hp hd).2.2.2.2.2.2.2.2.2.1, wR_d10 _ hd, wP_s, v5, b1, wC_s, wB_eq, v8', es]
        refine ⟨_, rfl, by omega, m' - 1, K2, by omega, sI_eq _ _ _ _, b4, b5, by rw [sI_ne _ _ _ _ _ _ (by omega)]; exact b6, b2.trans hB.1, fun a j y1 y2 y3 y4 => ?_⟩
        rw [show ∀ (v : wSt) (x : Int32), (w_sI v 36 8 x).1 a j = v.1 a j from fun _ _ => if_neg y1, b3 _ _ y2 y3 y4]
        exact hB.2 a j y1 y2 y3 y4
  obtain ⟨y, h1, u', rfl, h2⟩ := key
  exact ⟨u', h1, h2⟩
end

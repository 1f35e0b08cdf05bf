/-! how sweet one looks by what was seen -/
def SG (n K q : Nat) (u t : wSt) : Prop := K ≤ q ∧ q ≤ 24 ∧ F_X4_knownSize 70 u = some (nI K) ∧ F_X9_knownBy 79 t = some (nI K) ∧ (∀ i, i < q → Se n i u.1 t.1) ∧ (∀ i, i < K → t.1 115 i = bI (u.1 76 i = 0) ∧ (u.1 76 i = 0 ∨ u.1 76 i = 1))
def SW (n m k d : Nat) (u t u' t' : wSt) (s : Nat) : Prop := KC u u' ∧ (∀ j, u'.1 76 j = u.1 76 j) ∧ KT t t' ∧ (∀ j, t'.1 115 j = t.1 115 j) ∧ Cx n m k d 57 1 98 u' t' ∧ t'.1 79 60 = 0 ∧ u'.1 57 0 = nI s
section
variable {n m k d c b B : Nat} {u t : wSt}
theorem SG_fr {K q : Nat} {u' t' : wSt} (h : SG n K q u t) (h1 : KC u u') (h2 : ∀ j, u'.1 76 j = u.1 76 j) (h3 : KT t t') (h4 : ∀ j, t'.1 115 j = t.1 115 j) : SG n K q u' t' := by
  obtain ⟨a1, a2, a3, a4, a5, a6⟩ := h
  refine ⟨a1, a2, ?_, ?_, fun i hi => ?_, fun i hi => ?_⟩
  · rw [← a3]
    unfold F_X4_knownSize
    rw [h1.2 _ _ (by omega) (by omega), h1.2 _ _ (by omega) (by omega)]
  · rw [← a4]
    unfold F_X9_knownBy
    rw [h3.2.1 79 71 (by unfold scr; omega), h3.2.1 79 70 (by unfold scr; omega)]
  · have := a5 i hi
    have e1 : ∀ a j, 71 ≤ a → a ≤ 75 → u'.1 a j = u.1 a j := fun a j q r => h1.2 a j (by omega) (by omega)
    have e2 : ∀ j, t'.1 114 j = t.1 114 j := fun j => h3.2.1 114 j (by unfold scr; omega)
    unfold Se at this ⊢
    simp (disch := decide) only [e1, e2]
    exact this
  · rw [h4, h2]
    exact a6 i hi
theorem counts_c {i : Nat} (hp : PL u.2.2) (hi : i < 24) : F_X4_counts 70 (nI i) u = some (bI (u.1 75 i = -1 ∧ u.1 76 i = 0)) := by
  have r7 : u.2.2 70 7 = 77 := by simp only [PL_u hp]
  have r6 : u.2.2 70 6 = 76 := by simp only [PL_u hp]
  unfold F_X4_counts
  rw [r6, wR_75, wN_75 _ hi]
  by_cases q : u.1 75 i = -1
  · rw [if_pos q, r7, wR_76, wN_76 _ hi]
    by_cases z : u.1 76 i = 0
    · rw [if_pos z, bI_t ⟨q, z⟩]
    · rw [if_neg z, bI_f (fun w => z w.2)]
  · rw [if_neg q, bI_f (fun w => q w.1)]
theorem fits_rl {K q s : Nat} (hS : SG n K q u t) (hx : Cx n m k d 57 1 98 u t) (hs : u.1 57 0 = nI s) (hs2 : 1 ≤ s ∧ s ≤ 20000) : Rl Eq (F_X4_fits 70 57 u) (F_X9_isSo 79 (nI s) t) := by
  obtain ⟨a1, a2, a3, a4, a5, a6⟩ := hS
  have n10 : ¬ (1 : Int32) = 0 := by decide
  obtain ⟨n6, m8, -⟩ := Cx_b hx
  have hp := hx.1
  have r2 : u.2.2 70 2 = 72 := by simp only [PL_u hp]
  have r3 : u.2.2 70 3 = 73 := by simp only [PL_u hp]
  have r4 : u.2.2 70 4 = 74 := by simp only [PL_u hp]
  have r5 : u.2.2 70 5 = 75 := by simp only [PL_u hp]
  have r56 : u.2.2 57 6 = 61 := by simp only [PL_u hp]
  have q72 : t.2.2 79 72 = 115 := by simp only [PM_u hx.2.1]
  have q73 : t.2.2 79 73 = 116 := by simp only [PM_u hx.2.1]
  have q50 : t.2.2 79 50 = 106 := by simp only [PM_u hx.2.1]
  have hG := hx.2.2.2.2.2.2.2.2.1.2.1
  unfold F_X4_fits F_X9_isSo
  refine wL_rl (fun i x y => x = nI i ∧ y = nI i) _ K (by unfold wFu; omega) ?_ ⟨rfl, rfl⟩
  rintro i x y hi ⟨rfl, rfl⟩
  unfold F_X4_fits_b2 F_X9_isSo_b2 F_X4_fits_j35 F_X4_fits_j36 F_X4_fits_j77 F_X9_isSo_j94
  rw [a3, wP_s, a4, wP_s]
  have eK := nI_leE (a := K) (b := i) (by omega) (by omega)
  by_cases hKi : K ≤ i
  · right
    exact ⟨1, 1, if_pos (by rw [eK]; exact hKi), if_pos (by rw [eK]; exact hKi), rfl⟩
  · have c0 : ¬ nI K ≤ nI i := by rw [eK]; exact hKi
    have c5 := a6 i (by omega)
    rw [if_neg c0, if_neg c0, counts_c hp (by omega), wP_s, q73, wR_115, wN_115 _ (by omega), c5.1]
    have go : ∀ (X : Option (Int32 ⊕ Int32)) (Y : Option (Int32 ⊕ Int32)), X = some (.inl (nI (i + 1))) → Y = some (.inl (nI (i + 1))) → ∃ s' t', X = some (.inl s') ∧ Y = some (.inl t') ∧ i < K ∧ s' = nI (i + 1) ∧ t' = nI (i + 1) := fun X Y h1 h2 => ⟨_, _, h1, h2, by omega, rfl, rfl⟩
    rcases a5 i (by omega) with ⟨f1, ⟨s1, hs1, hs1', f2⟩, ⟨g, hg, f3⟩, f4, f5, f6, f7, f8⟩ | ⟨g, hg, f1, f2, f3⟩
    · by_cases z : u.1 76 i = 0
      · rw [bI_t z, bI_t ⟨f1, z⟩, if_neg n10, if_neg n10, r2, wR_71, wN_71 _ (by omega), f2, hs, q72, wR_114, nI_mulL, wN_114 _ (by omega), f5, f2]
        by_cases hss : nI s1 = nI s
        · have zg := (hG g hg).2.2.1
          have zg : t.1 105 (6 + g) = u.1 60 g := zg
          have i1 : nI (4 * i) + (1 : Int32) = nI (4 * i + 1) := nI_addL (4 * i) 1
          have i2 : nI (4 * i) + (2 : Int32) = nI (4 * i + 2) := nI_addL (4 * i) 2
          have i3 : nI (4 * i) + (3 : Int32) = nI (4 * i + 3) := nI_addL (4 * i) 3
          rw [if_pos hss, if_pos hss, wJ_inr, wJ_inl, if_neg n10, r56, wR_60, r3, wR_72, wN_72 _ (by omega), f3, wN_60 _ (by omega), r4, wR_73, wN_73 _ (by omega), q50, wR_105, wR_114, i1, wN_114 _ (by omega), f6, f3, nI_Ladd, wN_105 _ (by omega), wR_114, i2, wN_114 _ (by omega), f7, zg]
          unfold F_X4_fits_j66 F_X9_isSo_j70 F_X9_isSo_j89
          have fin : ∀ v : Int32, (∃ s' t', (wJ (X := Unit) (wR (u.2.2 70 5) 12 (fun o20 => wN (nI i) o20 (fun j21 => if v = (u.1 o20 j21) then (some (.inl ())) else (some (.inr (Sum.inr (α := Int32) ((0 : Int32)))))))) (fun _ => wB (nI i + (1 : Int32)) (fun (i11 : Int32) => some (.inl i11)))) = some (.inl s') ∧ (wJ (X := Unit) (wR (t.2.2 79 72) 14 (fun o20 => wN (((4 : Int32) * nI i) + (3 : Int32)) o20 (fun j21 => wJ (X := Int32) (if (t.1 o20 j21) = (1 : Int32) then (some (.inl (1 : Int32))) else (some (.inl (0 : Int32)))) (fun x => if v = x then (some (.inl ())) else (some (.inr (Sum.inr (α := Int32) ((0 : Int32))))))))) (fun _ => wB (nI i + (1 : Int32)) (fun (i11 : Int32) => some (.inl i11)))) = some (.inl t') ∧ i < K ∧ s' = nI (i + 1) ∧ t' = nI (i + 1)) ∨ (∃ y z, (wJ (X := Unit) (wR (u.2.2 70 5) 12 (fun o20 => wN (nI i) o20 (fun j21 => if v = (u.1 o20 j21) then (some (.inl ())) else (some (.inr (Sum.inr (α := Int32) ((0 : Int32)))))))) (fun _ => wB (nI i + (1 : Int32)) (fun (i11 : Int32) => some (.inl i11)))) = some (.inr y) ∧ (wJ (X := Unit) (wR (t.2.2 79 72) 14 (fun o20 => wN (((4 : Int32) * nI i) + (3 : Int32)) o20 (fun j21 => wJ (X := Int32) (if (t.1 o20 j21) = (1 : Int32) then (some (.inl (1 : Int32))) else (some (.inl (0 : Int32)))) (fun x => if v = x then (some (.inl ())) else (some (.inr (Sum.inr (α := Int32) ((0 : Int32))))))))) (fun _ => wB (nI i + (1 : Int32)) (fun (i11 : Int32) => some (.inl i11)))) = some (.inr z) ∧ y = z) := by
            intro v
            have e74 : (if (u.1 74 i) = (1 : Int32) then (some (Sum.inl (β := Unit ⊕ (Int32 ⊕ Int32)) (1 : Int32))) else (some (.inl (0 : Int32)))) = some (.inl (u.1 74 i)) := by
              rcases f4 with f4 | f4 <;> rw [f4] <;> rfl
            rw [r5, wR_74, wN_74 _ (by omega), q72, wR_114, nI_mulL, i3, wN_114 _ (by omega), f8, e74, wJ_inl]
            by_cases hv : v = u.1 74 i
            · left
              rw [if_pos hv, wJ_inl, wB_eq, nI_addL]
              exact ⟨_, _, rfl, rfl, by omega, rfl, rfl⟩
            · right
              rw [if_neg hv, wJ_inr]
              exact ⟨_, _, rfl, rfl, rfl⟩
          by_cases hh : u.1 60 g < u.1 73 i
          · rw [if_pos hh, wJ_inl, wJ_inl]
            exact fin 0
          · rw [if_neg hh, wJ_inl, wJ_inl]
            exact fin 1
        · left
          refine go _ _ ?_ ?_
          · rw [if_neg hss]
            repeat (first | rw [wB_eq] | rw [wC_s] | rw [wP_s] | rw [wJ_inl] | rw [wJ_inr])
            rw [if_pos rfl]
            repeat (first | rw [wB_eq] | rw [wC_s] | rw [wP_s] | rw [wJ_inl] | rw [wJ_inr])
            rw [nI_addL]
          · rw [if_neg hss]
            repeat (first | rw [wB_eq] | rw [wC_s] | rw [wP_s] | rw [wJ_inl] | rw [wJ_inr])
            rw [nI_addL]
      · left
        refine go _ _ ?_ ?_
        · rw [bI_f (fun w => z w.2), if_pos rfl]
          repeat (first | rw [wB_eq] | rw [wC_s] | rw [wP_s] | rw [wJ_inl] | rw [wJ_inr])
          rw [if_pos rfl]
          repeat (first | rw [wB_eq] | rw [wC_s] | rw [wP_s] | rw [wJ_inl] | rw [wJ_inr])
          rw [nI_addL]
        · rw [bI_f z, if_pos rfl]
          repeat (first | rw [wB_eq] | rw [wC_s] | rw [wP_s] | rw [wJ_inl] | rw [wJ_inr])
          rw [nI_addL]
    · left
      have gn : ¬ nI g = (-1 : Int32) := by rw [nI_neg (by omega)]; exact id
      refine go _ _ ?_ ?_
      · rw [bI_f (fun w => gn (f1.symm.trans w.1)), if_pos rfl]
        repeat (first | rw [wB_eq] | rw [wC_s] | rw [wP_s] | rw [wJ_inl] | rw [wJ_inr])
        rw [if_pos rfl]
        repeat (first | rw [wB_eq] | rw [wC_s] | rw [wP_s] | rw [wJ_inl] | rw [wJ_inr])
        rw [nI_addL]
      · by_cases z : u.1 76 i = 0
        · have ns : ¬ (-1 : Int32) = nI s := by
            intro w
            have := nI_neg (a := s) (by omega)
            rw [← w] at this
            exact cast this rfl
          rw [bI_t z, if_neg n10, q72, wR_114, nI_mulL, wN_114 _ (by omega), f2, if_neg ns]
          repeat (first | rw [wB_eq] | rw [wC_s] | rw [wP_s] | rw [wJ_inl] | rw [wJ_inr])
          rw [nI_addL]
        · rw [bI_f z, if_pos rfl]
          repeat (first | rw [wB_eq] | rw [wC_s] | rw [wP_s] | rw [wJ_inl] | rw [wJ_inr])
          rw [nI_addL]
theorem fits_1 {K q s : Nat} (hS : SG n K q u t) (hp : PL u.2.2) (hs : u.1 57 0 = nI s) (hno : ∀ i, i < K → u.1 75 i = -1 → u.1 76 i = 0 → ¬ u.1 71 i = nI s) : F_X4_fits 70 57 u = some 1 := by
  obtain ⟨a1, a2, a3, a4, a5, a6⟩ := hS
  have n10 : ¬ (1 : Int32) = 0 := by decide
  have r2 : u.2.2 70 2 = 72 := by simp only [PL_u hp]
  have key : Ro (fun y => y = 1) (F_X4_fits 70 57 u) := by
    unfold F_X4_fits
    refine wL_ro (fun i x => x = nI i) _ K (by unfold wFu; omega) ?_ rfl
    rintro i x hi rfl
    unfold F_X4_fits_b2 F_X4_fits_j35 F_X4_fits_j36 F_X4_fits_j77
    rw [a3, wP_s]
    have eK := nI_leE (a := K) (b := i) (by omega) (by omega)
    by_cases hKi : K ≤ i
    · right
      exact ⟨1, if_pos (by rw [eK]; exact hKi), rfl⟩
    · left
      refine ⟨nI (i + 1), ?_, by omega, rfl⟩
      rw [if_neg (by rw [eK]; exact hKi), counts_c hp (by omega), wP_s]
      by_cases z : u.1 75 i = -1 ∧ u.1 76 i = 0
      · rw [bI_t z, if_neg n10, r2, wR_71, wN_71 _ (by omega), hs, if_neg (hno i (by omega) z.1 z.2)]
        repeat (first | rw [wB_eq] | rw [wC_s] | rw [wP_s] | rw [wJ_inl] | rw [wJ_inr])
        rw [if_pos rfl]
        repeat (first | rw [wB_eq] | rw [wC_s] | rw [wP_s] | rw [wJ_inl] | rw [wJ_inr])
        rw [nI_addL]
      · rw [bI_f z, if_pos rfl]
        repeat (first | rw [wB_eq] | rw [wC_s] | rw [wP_s] | rw [wJ_inl] | rw [wJ_inr])
        rw [if_pos rfl]
        repeat (first | rw [wB_eq] | rw [wC_s] | rw [wP_s] | rw [wJ_inl] | rw [wJ_inr])
        rw [nI_addL]
  obtain ⟨y, h1, rfl⟩ := key
  exact h1
theorem last_c {K q : Nat} (hS : SG n K q u t) (hp : PL u.2.2) : ∃ L : Nat, L ≤ 99 ∧ F_X4_lastStep 70 u = some (nI L) ∧ ∀ i, i < K → u.1 75 i = -1 → u.1 76 i = 0 → ∃ s : Nat, s ≤ L ∧ u.1 71 i = nI s := by
  obtain ⟨a1, a2, a3, a4, a5, a6⟩ := hS
  have n10 : ¬ (1 : Int32) = 0 := by decide
  have r2 : u.2.2 70 2 = 72 := by simp only [PL_u hp]
  have key : Ro (fun y => ∃ L : Nat, L ≤ 99 ∧ y = nI L ∧ ∀ i, i < K → u.1 75 i = -1 → u.1 76 i = 0 → ∃ s : Nat, s ≤ L ∧ u.1 71 i = nI s) (F_X4_lastStep 70 u) := by
    unfold F_X4_lastStep
    refine wL_ro (fun j x => ∃ L : Nat, L ≤ 99 ∧ x = (nI L, nI j) ∧ ∀ i, i < j → u.1 75 i = -1 → u.1 76 i = 0 → ∃ s : Nat, s ≤ L ∧ u.1 71 i = nI s) _ K (by unfold wFu; omega) ?_ ⟨0, by omega, rfl, fun i hi => by omega⟩
    rintro j x hj ⟨L, hL, rfl, hR⟩
    unfold F_X4_lastStep_b4 F_X4_lastStep_j31
    dsimp only
    rw [a3, wP_s]
    have eK := nI_leE (a := K) (b := j) (by omega) (by omega)
    by_cases hKi : K ≤ j
    · right
      have : j = K := by omega
      subst this
      exact ⟨nI L, if_pos (by rw [eK]; exact hKi), L, hL, rfl, hR⟩
    · left
      rw [if_neg (by rw [eK]; exact hKi), counts_c hp (by omega), wP_s]
      by_cases z : u.1 75 j = -1 ∧ u.1 76 j = 0
      · rcases a5 j (by omega) with ⟨f1, ⟨s1, hs1, hs1', f2⟩, -⟩ | ⟨g, hg, f1, -⟩
        · have hmx : ∃ M : Nat, M ≤ 99 ∧ L ≤ M ∧ s1 ≤ M ∧ w_max (nI L) (nI s1) = nI M := by
            unfold w_max
            have e := nI_ltE (a := L) (b := s1) (by omega) (by omega)
            by_cases w : L < s1
            · exact ⟨s1, by omega, by omega, by omega, if_pos (by rw [e]; exact w)⟩
            · exact ⟨L, by omega, by omega, by omega, if_neg (by rw [e]; exact w)⟩
          obtain ⟨M, hM1, hM2, hM3, hM4⟩ := hmx
          refine ⟨(nI M, nI (j + 1)), ?_, by omega, M, hM1, rfl, fun i hi w1 w2 => ?_⟩
          · rw [bI_t z, if_neg n10, r2, wR_71, wN_71 _ (by omega), f2, hM4]
            repeat (first | rw [wB_eq] | rw [wC_s] | rw [wP_s] | rw [wJ_inl] | rw [wJ_inr])
            rw [nI_addL]
          · by_cases hij : i = j
            · subst hij
              exact ⟨s1, hM3, f2⟩
            · obtain ⟨s, hs, es⟩ := hR i (by omega) w1 w2
              exact ⟨s, by omega, es⟩
        · exact absurd (f1.symm.trans z.1) (by rw [nI_neg (by omega)]; exact id)
      · refine ⟨(nI L, nI (j + 1)), ?_, by omega, L, hL, rfl, fun i hi w1 w2 => ?_⟩
        · rw [bI_f z, if_pos rfl]
          repeat (first | rw [wB_eq] | rw [wC_s] | rw [wP_s] | rw [wJ_inl] | rw [wJ_inr])
          rw [nI_addL]
        · by_cases hij : i = j
          · subst hij
            exact absurd ⟨w1, w2⟩ z
          · exact hR i (by omega) w1 w2
  obtain ⟨y, h1, L, h2, rfl, h3⟩ := key
  exact ⟨L, h2, h1, h3⟩
theorem SW_step {u' t' : wSt} {s : Nat} (h : SW n m k d u t u' t' s) (hs : s < 20000) : ∃ (r : Int32) (u2 t2 : wSt), F_X0_goOn 64 57 u' = some (r, u2) ∧ F_X9_stepGoes 79 (1 : Int32) t' = some ((), t2) ∧ SW n m k d u t u2 t2 (s + 1) := by
  obtain ⟨a1, a2, a3, a4, a5, a6, a7⟩ := h
  obtain ⟨⟨r, u2⟩, ⟨r', t2⟩, b1, b2, -, -, b5, b6⟩ := step_rl a5 a7 hs
  refine ⟨r, u2, t2, b1, b2, KC_tr a1 (KC_FC b6.2.1), fun j => by rw [b6.2.1.2 76 j (by omega) (by decide)]; exact a2 j, KT_tr a3 (KT_FR b6.2.2.1 a6), fun j => by rw [b6.2.2.1.2.1 115 j (by unfold rsc; omega) (by omega)]; exact a4 j, b6.1, (b6.2.2.1.2.1 79 60 (n60 1) (by omega)).trans a6, b5⟩
theorem agrees_rl {K q f w : Nat} (h : GR n m k d u t) (hS : SG n K q u t) (hf : f < m) (hw : w ≤ 9) : ∃ (r : Int32) (u2 t2 : wSt), F_X8_agrees 0 (nI f) (nI w) u = some (r, u2) ∧ F_X9_fits 79 (nI f) (nI w) t = some (r, t2) ∧ KC u u2 ∧ (∀ j, u2.1 76 j = u.1 76 j) ∧ KT t t2 ∧ (∀ j, t2.1 115 j = t.1 115 j) := by
  have hd := h.2.2.1
  have d1 := TC_le hd
  have hc := plain_c h
  have n6 := h.2.2.2.2.2.1.1.1
  have m8 := h.2.2.2.2.2.1.1.2.1
  obtain ⟨u0, eu0⟩ : ∃ u0, u0 = w_sI (w_sI (cb u d 0) 64 6 (nI f)) 64 7 (nI w) := ⟨_, rfl⟩
  have k0 : KC u u0 := by rw [eu0]; exact KC_tr (cb_KC u d 0) (KC_tr (KC_s (by omega)) (KC_s (by omega)))
  have hp0 : PL u0.2.2 := PL_fr h.1 (fun a j q _ _ => k0.1 a j q)
  have c76 : ∀ j, u0.1 76 j = u.1 76 j := fun j => by
    rw [eu0, sI_ne _ _ _ _ _ _ (by decide), sI_ne _ _ _ _ _ _ (by decide)]
    unfold cb
    rw [sI_ne _ _ _ _ _ _ (by decide), sI_ne _ _ _ _ _ _ (by decide), sI_ne _ _ _ _ _ _ (by decide), sI_ne _ _ _ _ _ _ (by decide), sI_ne _ _ _ _ _ _ (by decide), sI_ne _ _ _ _ _ _ (by decide), sI_ne _ _ _ _ _ _ (by decide)]
    rfl
  obtain ⟨u1, f1, f2, f3, f4, f5, f6, f7, f8, f9⟩ := begin_s (c := 57) hp0 (Or.inr (Or.inr rfl)) hd
  obtain ⟨t', g1, g2, g3, g4, g5, g6⟩ := first_t (b := 1) h.2.1 (by omega)
  have g1 : F_X9_atFirst 79 (1 : Int32) t = some ((), t') := g1
  obtain ⟨t1, et1⟩ : ∃ t1, t1 = w_sI (w_sI (tb t') 79 67 (nI f)) 79 68 (nI w) := ⟨_, rfl⟩
  have k1 : KC u u1 := KC_tr k0 ⟨fun a j _ => by rw [f2], fun a j q r => f3 a j (by omega)⟩
  have kt : KT t t1 := by
    rw [et1]
    refine KT_tr (t' := t') ⟨by rw [g2], fun a j q => g3 a j (fun r => q (by unfold rsb at r; unfold scr; omega)), by rw [g2], by rw [g2]⟩ (KT_tr (tb_KT t') (KT_tr (KT_s (sc79 (by omega))) (KT_s (sc79 (by omega)))))
  have t1n : ∀ a j, a ≠ 79 → t1.1 a j = t'.1 a j := fun a j q => by rw [et1, sI_ne _ _ _ _ _ _ q, sI_ne _ _ _ _ _ _ q, tb_ne t' (by omega)]
  have h1 := GR_fr h k1 kt
  have u64 : ∀ j, u1.1 64 j = u0.1 64 j := fun j => f3 64 j (by omega)
  have hT1 := h1.2.2.2.2.2.1
  have ud : ∀ a j, a < 57 → u1.1 a j = u0.1 a j := fun a j q => f3 a j (by omega)
  have hSc : Sc n m 57 1 98 u1.1 t1.1 := by
    refine Sc_begin hT1 f4 f6 f7 (fun g hg => ?_) f9 ?_ (fun g hg => ?_) (fun f hf => ?_)
    · have := f8 g hg
      rw [ud (d + 2) g (by omega), ud (d + 3) g (by omega)]
      exact this
    · rw [t1n _ _ (by decide)]
      exact g4
    · have := g5 g hg
      rw [t1n _ _ (by decide), t1n _ _ (by decide), t1n _ _ (by decide), t1n _ _ (by decide), t1n _ _ (by decide), t1n _ _ (by decide), t1n _ _ (by decide), g3 85 g (by unfold rsb; omega), g3 86 g (by unfold rsb; omega)]
      exact this
    · rw [t1n _ _ (by decide), t1n _ _ (by decide), t1n _ _ (by decide)]
      exact g6 f hf
  have hw : SW n m k d u t u1 t1 0 := by
    refine ⟨k1, fun j => (f3 76 j (by omega)).trans (c76 j), kt, fun j => by rw [t1n _ _ (by decide)]; exact g3 115 j (by unfold rsb; omega), ⟨h1.1, h1.2.1, hd, Or.inr (Or.inr rfl), by omega, by rw [f2, eu0]; rfl, hT1, ?_, hSc, fun w => ?_, by omega⟩, by rw [et1]; rfl, f4⟩
    · refine ⟨Or.inl ⟨?_, ?_, ?_⟩, ?_, ?_, ?_, ?_, ?_, ?_, Or.inr ?_⟩
      · rw [u64, eu0]; rfl
      · rw [et1]; rfl
      · rw [et1]; rfl
      · rw [u64, eu0, et1]; rfl
      · rw [u64, eu0, et1]; rfl
      · rw [u64, eu0, et1]; rfl
      · rw [u64, eu0, et1]; rfl
      · rw [u64, eu0, et1]; rfl
      · rw [u64, eu0, et1]; rfl
      · rw [u64, eu0, et1]; rfl
    · rw [u64, eu0] at w
      exact absurd w (by show ¬ ((0 : Int32) = 1); decide)
  have hS1 := SG_fr hS hw.1 hw.2.1 hw.2.2.1 hw.2.2.2.1
  obtain ⟨L, hL, l1, l2⟩ := last_c hS1 h1.1
  have key : Rl (fun x y => x.1 = y.1 ∧ KC u x.2 ∧ (∀ j, x.2.1 76 j = u.1 76 j) ∧ KT t y.2 ∧ (∀ j, y.2.1 115 j = t.1 115 j)) (wL (S := Int32 × wSt) (fun x => F_X8_agrees_b43 (nI L) 0 x.1 x.2) wFu ((0 : Int32), u1)) (wL (S := Int32 × wSt) (fun x => F_X9_fits_b21 79 x.1 x.2) wFu ((1 : Int32), t1)) := by
    refine wL_ex (fun i x y => ∃ u' t', x = (nI i, u') ∧ y = (nI (i + 1), t') ∧ SW n m k d u t u' t' i) (fun i y t' => ∃ ue u' t'', y = (1, ue) ∧ t' = (nI (i + 1), t'') ∧ KC u ue ∧ (∀ j, ue.1 76 j = u.1 76 j) ∧ L ≤ i ∧ SW n m k d u t u' t'' i) _ 99 (by unfold wFu; omega) ?_ ?_ ⟨u1, t1, rfl, rfl, hw⟩
    · rintro i x y hi ⟨u', t', rfl, rfl, hT⟩
      have hp' := hT.2.2.2.2.1.1
      have r7 : u'.2.2 0 7 = 58 := by simp only [PL_u hp']
      have r9 : u'.2.2 0 9 = 65 := by simp only [PL_u hp']
      unfold F_X8_agrees_b43 F_X9_fits_b21
      dsimp only
      have eL := nI_leE (a := L) (b := i) (by omega) (by omega)
      have e9 : ((99 : Int32) < nI (i + 1)) = (99 < i + 1) := nI_ltE (a := 99) (b := i + 1) (by omega) (by omega)
      by_cases hLi : L ≤ i
      · right; right
        exact ⟨_, if_pos (by rw [eL]; exact hLi), u', u', t', rfl, rfl, hT.1, hT.2.1, hLi, hT⟩
      · have c1 : ¬ nI L ≤ nI i := by rw [eL]; exact hLi
        have c2 : ¬ (99 : Int32) < nI (i + 1) := by rw [e9]; omega
        obtain ⟨r, u2, t2, a1, a2, a3⟩ := SW_step hT (by omega)
        obtain ⟨v, v', v1, v2, rfl⟩ := fits_rl (SG_fr hS a3.1 a3.2.1 a3.2.2.1 a3.2.2.2.1) a3.2.2.2.2.1 a3.2.2.2.2.2.2 (by omega)
        have hp2 := a3.2.2.2.2.1.1
        have r11 : u2.2.2 0 11 = 71 := by simp only [PL_u hp2]
        have r7' : u2.2.2 0 7 = 58 := by simp only [PL_u hp2]
        rw [if_neg c1, if_neg c2, r9, wR_64, r7, wR_57, a1, wC_s, r11, wR_70, r7', wR_57, v1, wP_s, a2, wC_s, v2, wP_s]
        by_cases v0 : v = 0
        · right; left
          exact ⟨_, _, if_pos v0, if_pos v0, rfl, a3.1, a3.2.1, a3.2.2.1, a3.2.2.2.1⟩
        · left
          refine ⟨(nI (i + 1), u2), (nI (i + 1 + 1), t2), ?_, ?_, by omega, u2, t2, rfl, rfl, a3⟩
          · rw [if_neg v0, wB_eq, nI_addL]
          · rw [if_neg v0, wB_eq, nI_addL]
    · rintro i y x hi ⟨ue, u', t', rfl, rfl, hk1, hk2, hLi, hT⟩
      unfold F_X9_fits_b21
      dsimp only
      have e9 : ((99 : Int32) < nI (i + 1)) = (99 < i + 1) := nI_ltE (a := 99) (b := i + 1) (by omega) (by omega)
      by_cases h99 : 99 ≤ i
      · right
        exact ⟨_, if_pos (by rw [e9]; omega), rfl, hk1, hk2, hT.2.2.1, hT.2.2.2.1⟩
      · left
        obtain ⟨r, u2, t2, a1, a2, a3⟩ := SW_step hT (by omega)
        have hS2 := SG_fr hS a3.1 a3.2.1 a3.2.2.1 a3.2.2.2.1
        obtain ⟨v, v', v1, v2, rfl⟩ := fits_rl hS2 a3.2.2.2.2.1 a3.2.2.2.2.2.2 (by omega)
        have v1' := fits_1 hS2 a3.2.2.2.2.1.1 a3.2.2.2.2.2.2 (fun i' hi' w1 w2 w3 => by
          have e5 : ∀ a j, 71 ≤ a → a ≤ 75 → u2.1 a j = u1.1 a j := fun a j q r => (a3.1.2 a j (by omega) (by omega)).trans (k1.2 a j (by omega) (by omega)).symm
          have e6 : u2.1 76 i' = u1.1 76 i' := (a3.2.1 i').trans (hw.2.1 i').symm
          rw [e5 75 i' (by omega) (by omega)] at w1
          rw [e6] at w2
          rw [e5 71 i' (by omega) (by omega)] at w3
          obtain ⟨s, hs, es⟩ := l2 i' hi' w1 w2
          rw [es, nI_eqI (by omega) (by omega)] at w3
          omega)
        rw [v1] at v1'
        cases v1'
        refine ⟨(nI (i + 1 + 1), t2), ?_, by omega, ue, u2, t2, rfl, rfl, hk1, hk2, by omega, a3⟩
        rw [if_neg (by rw [e9]; omega), a2, wC_s, v2, wP_s, if_neg (by decide), wB_eq, nI_addL]
  obtain ⟨⟨x1, x2⟩, ⟨y1, y2⟩, b1, b2, b3, b4, b5, b6, b7⟩ := key
  have b3 : x1 = y1 := b3
  subst b3
  have cp : PL (cb u d 0).2.2 := PL_fr h.1 (fun a j q _ _ => (cb_KC u d 0).1 a j q)
  have r9 : (cb u d 0).2.2 0 9 = 65 := by simp only [PL_u cp]
  have r9' : u0.2.2 0 9 = 65 := by simp only [PL_u hp0]
  have r7' : u0.2.2 0 7 = 58 := by simp only [PL_u hp0]
  have r2' : u0.2.2 0 2 = d + 1 := by rw [k0.1 0 2 (by omega)]; exact h.2.2.2.1
  have r11 : u1.2.2 0 11 = 71 := by simp only [PL_u h1.1]
  refine ⟨x1, x2, y2, ?_, ?_, b4, b5, b6, b7⟩
  · unfold F_X8_agrees
    rw [hc, wC_s, wG_pos (by decide), r9, wR_64, wB_eq, sI_r, r9, wR_64, wB_eq, ← eu0, r7', wR_57, r2', wR_d0 _ hd, f1, wC_s, r11, wR_70, l1, wP_s, b1]
  · unfold F_X9_fits
    rw [g1, wC_s, plain_t, wC_s, wB_eq, wB_eq, ← et1, b2]
theorem M_sweets {x : Int32} (h : GR n m k d u t) : Q1 u t (F_X8_sweets 0 x u) (F_X9_sweets 79 x t) := by
  unfold F_X9_sweets
  obtain ⟨t0, et⟩ : ∃ t0, t0 = w_sI t 79 2 (0 : Int32) := ⟨_, rfl⟩
  have hK0 : KT t t0 := by rw [et]; exact KT_s (by unfold scr; omega)
  have h := GR_fr h (KC_rf u) hK0
  rw [wB_eq, ← et]
  obtain ⟨r, a1, a2, a3⟩ := isF (x := x) (GR_Vw h)
  unfold F_X8_sweets
  rw [a1, wP_s, a2, wP_s]
  rcases a3 with rfl | ⟨rfl, f, hf, rfl⟩
  · rw [if_pos rfl, if_pos rfl]
    exact ⟨_, u, t0, rfl, rfl, KC_rf u, hK0⟩
  · have n10 : ¬ (1 : Int32) = 0 := by decide
    have r11 : u.2.2 0 11 = 71 := by simp only [PL_u h.1]
    obtain ⟨K, q, u1, t1, b1, b2, b3, b4, b5, b6, b7, b8, b9, b10, b11⟩ := sift_rl h
    rw [if_neg n10, if_neg n10, r11, wR_70, b3, wC_s, b6]
    have hS : SG n K q u1 t1 := ⟨b1, b2, b8, b9, b10, b11⟩
    have key : Rl (fun x y => ∃ r u' t', x = (r, u') ∧ y = .inl (r, t') ∧ KC u1 u' ∧ KT t1 t') (wL (S := Int32 × Int32 × wSt) (fun x => F_X8_sweets_b21 0 (nI f) x.1 x.2.1 x.2.2) wFu ((0 : Int32), (0 : Int32), u1)) (wL (S := Int32 × Int32 × wSt) (fun x => F_X9_sweets_b95 79 (nI f) x.1 x.2.1 x.2.2) wFu ((0 : Int32), (0 : Int32), t1)) := by
      refine wL_rl (fun i x y => ∃ a u' t', x = (a, nI i, u') ∧ y = (a, nI i, t') ∧ KC u1 u' ∧ (∀ j, u'.1 76 j = u1.1 76 j) ∧ KT t1 t' ∧ (∀ j, t'.1 115 j = t1.1 115 j)) _ 10 (by unfold wFu; omega) ?_ ⟨0, u1, t1, rfl, rfl, KC_rf u1, fun _ => rfl, KT_rf t1, fun _ => rfl⟩
      rintro i x y hi ⟨a, u', t', rfl, rfl, c1, c2, c3, c4⟩
      unfold F_X8_sweets_b21 F_X9_sweets_b95 F_X8_sweets_j42 F_X9_sweets_j118
      dsimp only
      have e1 : ((9 : Int32) < nI i) = (9 < i) := nI_ltE (a := 9) (b := i) (by omega) (by omega)
      have e2 : ((10 : Int32) ≤ nI i) = (10 ≤ i) := nI_leE (a := 10) (b := i) (by omega) (by omega)
      by_cases h10 : 10 ≤ i
      · right
        exact ⟨_, _, if_pos (by rw [e1]; omega), if_pos (by rw [e2]; omega), a, u', t', rfl, rfl, c1, c3⟩
      · left
        obtain ⟨r, u2, t2, d1, d2, d3, d4, d5, d6⟩ := agrees_rl (w := i) (GR_fr (GR_fr h b4 b7) c1 c3) (SG_fr hS c1 c2 c3 c4) hf (by omega)
        rw [if_neg (by rw [e1]; omega), if_neg (by rw [e2]; omega), d1, wC_s, d2, wC_s]
        by_cases r0 : r = 0
        · refine ⟨(a, nI (i + 1), u2), (a, nI (i + 1), t2), ?_, ?_, by omega, a, u2, t2, rfl, rfl, KC_tr c1 d3, fun j => (d4 j).trans (c2 j), KT_tr c3 d5, fun j => (d6 j).trans (c4 j)⟩
          · rw [if_pos r0]
            repeat (first | rw [wB_eq] | rw [wC_s] | rw [wP_s] | rw [wJ_inl] | rw [wJ_inr])
            rw [nI_addL]
          · rw [if_pos r0]
            repeat (first | rw [wB_eq] | rw [wC_s] | rw [wP_s] | rw [wJ_inl] | rw [wJ_inr])
            rw [nI_addL, Int32.or_zero]
        · refine ⟨(a ||| ((1 : Int32) <<< (nI i &&& 31)), nI (i + 1), u2), (a ||| ((1 : Int32) <<< (nI i &&& 31)), nI (i + 1), t2), ?_, ?_, by omega, _, u2, t2, rfl, rfl, KC_tr c1 d3, fun j => (d4 j).trans (c2 j), KT_tr c3 d5, fun j => (d6 j).trans (c4 j)⟩
          · rw [if_neg r0]
            repeat (first | rw [wB_eq] | rw [wC_s] | rw [wP_s] | rw [wJ_inl] | rw [wJ_inr])
            rw [nI_addL]
          · rw [if_neg r0]
            repeat (first | rw [wB_eq] | rw [wC_s] | rw [wP_s] | rw [wJ_inl] | rw [wJ_inr])
            rw [nI_addL]
    obtain ⟨x, y, k1, k2, r, u', t', rfl, rfl, k3, k4⟩ := key
    unfold F_X9_sweets_j91 F_X9_sweets_j126
    rw [k1, k2, wJ_inl, plain_t, wC_s]
    exact ⟨r, u', tb t', rfl, rfl, KC_tr b4 k3, KT_tr hK0 (KT_tr b7 (KT_tr k4 (tb_KT t')))⟩
end

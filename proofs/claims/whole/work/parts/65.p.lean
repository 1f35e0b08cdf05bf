/-! the least bread; whom to send away -/
section
variable {n m k d c b B : Nat} {u t : wSt}
theorem min_99 {H : Nat} (h : H ≤ 98) : w_min (99 : Int32) (nI H) = nI H := by
  unfold w_min
  have e : (nI H < (99 : Int32)) = (H < 99) := nI_ltE (a := H) (b := 99) (by omega) (by omega)
  exact if_pos (by rw [e]; omega)
/-- one try with so much bread -/
theorem LF {g j H i : Nat} (h : GR n m k d u t) (hg : g < n) (hj : j ≤ 99) (hH : H ≤ 98) (eH : u.1 46 g = nI H) (hi : i ≤ 99) : ∃ (r : Int32) (u2 t2 : wSt), (r = 0 ∨ r = 1) ∧ F_X8_staysBy 0 (nI g) (nI (if i ≤ H then i else H)) (nI j) u = some (r, u2) ∧ F_X9_loaf_b36 79 (nI g) (nI j) (nI i) t = (if r = 0 then some (.inl (nI (i + 1), t2)) else some (.inr (nI i, t2))) ∧ KC u u2 ∧ KT t t2 := by
  have n6 := h.2.2.2.2.2.1.1.1
  have n10 : ¬ (1 : Int32) = 0 := by decide
  obtain ⟨s, u1, t1, hs, b1, b2, b3, b4, b5, -⟩ := TR_0 h
  obtain ⟨r7, r9, r5⟩ := TR_p b3
  have h1 := GR_fr h b3.1 b3.2.1
  have r56 : u1.2.2 57 6 = 61 := by simp only [PL_u h1.1]
  have q50 : t1.2.2 79 50 = 106 := by simp only [PM_u h1.2.1]
  have e60 : u1.1 60 g = nI H := (b5 3 g (by omega) (by omega) (by omega)).trans eH
  have e105 : t1.1 105 g = nI H := by
    have z := (h1.2.2.2.2.2.2.1.2.1 g hg).2.2.1
    simp only [Nat.mul_zero, Nat.zero_add] at z
    rw [z, b3.1.2 46 g (by omega) (by omega)]
    exact eH
  obtain ⟨e, he, heH⟩ : ∃ e : Nat, e ≤ H ∧ nI H - nI (if i ≤ H then i else H) = nI e ∧ (i < H → nI H - nI i = nI e) ∧ (H ≤ i → e = 0) := by
    by_cases q : i ≤ H
    · rw [if_pos q]
      exact ⟨H - i, by omega, nI_sub q, fun _ => nI_sub q, fun _ => by omega⟩
    · rw [if_neg q]
      exact ⟨0, by omega, by rw [nI_sub (Nat.le_refl H), Nat.sub_self], fun w => by omega, fun _ => rfl⟩
  obtain ⟨heC, heT, he0⟩ := heH
  have s1 := Cx_hu (x := nI e) b3.2.2.1 hg ⟨e, by omega, rfl, fun _ => by omega⟩
  obtain ⟨u3, eu3⟩ : ∃ u3, u3 = w_sI u1 60 g (nI e) := ⟨_, rfl⟩
  obtain ⟨t3, et3⟩ : ∃ t3, t3 = w_sI t1 105 (6 + g) (nI e) := ⟨_, rfl⟩
  have s1 : SS n m k d 57 1 98 u1 t1 u3 t3 := by rw [eu3, et3]; exact s1
  have b3' : TR n m k d u t u3 t3 s := by
    refine ⟨KC_tr b3.1 (KC_FC s1.2.1), KT_tr b3.2.1 ?_, s1.1, ?_, ?_, fun g' q => s1.2.2.2.2 g' (b3.2.2.2.2.2 g' q)⟩
    · rw [et3]
      exact KT_s (by unfold scr; omega)
    · rw [et3, sI_ne _ _ _ _ _ _ (by decide)]
      exact b3.2.2.2.1
    · rw [s1.2.2.2.1]
      exact b3.2.2.2.2.1
  have key : Rl (fun y z => ∃ ue, y = .inl ue ∧ KC u ue ∧ KT t z.2 ∧ PM z.2.2.2 ∧ z.2.1 107 (6 + g) = bI (bt (ue.1 57 2) g = false) ∧ ue.2.2 0 7 = 58) (wL (S := Int32 × wSt) (fun x => F_X8_staysBy_b20 (nI j) 0 (nI g) x.1 x.2) wFu ((0 : Int32), u3)) (F_X9_goMany 79 (nI j) t3) := by
    unfold F_X9_goMany
    refine wL_ex (fun a x y => ∃ u' t', x = (nI a, u') ∧ y = (nI a, t') ∧ TR n m k d u t u' t' (s + a)) (fun a y t' => ∃ ue u' t'', y = .inl ue ∧ t' = (nI a, t'') ∧ KC u ue ∧ bt (ue.1 57 2) g = true ∧ ue.2.2 0 7 = 58 ∧ TR n m k d u t u' t'' (s + a) ∧ bt (u'.1 57 2) g = true) _ j (by unfold wFu; omega) ?_ ?_ ⟨u3, t3, rfl, rfl, b3'⟩
    · rintro a x y ha ⟨u', t', rfl, rfl, hT⟩
      obtain ⟨r7, r9, r5⟩ := TR_p hT
      have hF := hT.2.2.1.2.2.2.2.2.2.2.2.1.2.1 g hg
      unfold F_X8_staysBy_b20 F_X9_goMany_b2
      dsimp only
      have e1 := nI_leE (a := j) (b := a) (by omega) (by omega)
      by_cases hja : j ≤ a
      · right; left
        exact ⟨_, _, if_pos (by rw [e1]; exact hja), if_pos (by rw [e1]; exact hja), u', rfl, hT.1, hT.2.1, hT.2.2.1.2.1, hF.2.2.2.2, r7⟩
      · have c1 : ¬ nI j ≤ nI a := by rw [e1]; exact hja
        by_cases q : bt (u'.1 57 2) g = true
        · right; right
          refine ⟨.inl u', ?_, u', u', t', rfl, rfl, hT.1, q, r7, hT, q⟩
          rw [if_neg c1, r7, wR_57, faint_c (by omega), wP_s, bI_t q, if_neg n10]
        · left
          obtain ⟨r, u2, t2, k1, k2, -, -, k3, -⟩ := TR_step hT (by omega)
          refine ⟨(nI (a + 1), u2), (nI (a + 1), t2), ?_, ?_, by omega, u2, t2, rfl, rfl, k3⟩
          · rw [if_neg c1, r7, wR_57, faint_c (by omega), wP_s, bI_f q, if_pos rfl, r9, wR_64, wR_57, k1, wC_s, wB_eq, nI_addL]
          · rw [if_neg c1, k2, wC_s, wB_eq, nI_addL]
    · rintro a y x ha ⟨ue, u', t', rfl, rfl, hK, hq, hr, hT, hq'⟩
      have hF := hT.2.2.1.2.2.2.2.2.2.2.2.1.2.1 g hg
      unfold F_X9_goMany_b2
      dsimp only
      have e1 := nI_leE (a := j) (b := a) (by omega) (by omega)
      by_cases hja : j ≤ a
      · right
        refine ⟨_, if_pos (by rw [e1]; exact hja), ue, rfl, hK, hT.2.1, hT.2.2.1.2.1, ?_, hr⟩
        have := hF.2.2.2.2
        rw [hq'] at this
        rw [hq]
        exact this
      · left
        obtain ⟨r, u2, t2, k1, k2, -, -, k3, k4⟩ := TR_step hT (by omega)
        refine ⟨(nI (a + 1), t2), ?_, by omega, ue, u2, t2, rfl, rfl, hK, hq, hr, k3, k4.2.2.2 g hq'⟩
        rw [if_neg (by rw [e1]; exact hja), k2, wC_s, wB_eq, nI_addL]
  obtain ⟨y, ⟨z1, tz⟩, k1, k2, ue, rfl, k3, k4, k5, k6, k7⟩ := key
  have k5 : PM tz.2.2 := k5
  have k6 : tz.1 107 (6 + g) = bI (bt (ue.1 57 2) g = false) := k6
  have q52 : tz.2.2 79 52 = 108 := by simp only [PM_u k5]
  have hst : F_X8_staysBy 0 (nI g) (nI (if i ≤ H then i else H)) (nI j) u = F_X8_staysBy_j55 0 (nI g) ue := by
    unfold F_X8_staysBy
    rw [b1, wC_s, r7, wR_57, r56, wR_60, wN_60 _ (by omega), wSI_eq, wN_60 _ (by omega), e60, heC, ← eu3, k1, wJ_inl]
  have hrf : F_X9_loaf_b36 79 (nI g) (nI j) (nI i) t = (if tz.1 107 (6 + g) = 0 then some (.inl (nI (i + 1), tz)) else some (.inr (nI i, tz))) := by
    have tail : F_X9_loaf_j76 105 (nI g) 79 (nI j) (nI i) (nI e) t1 = (if tz.1 107 (6 + g) = 0 then some (.inl (nI (i + 1), tz)) else some (.inr (nI i, tz))) := by
      unfold F_X9_loaf_j76
      rw [wSI_eq, nI_Ladd, wN_105 _ (by omega), ← et3, k2, wC_s, q52, wR_107, wN_107 _ (by omega), wB_eq, nI_addL]
    have e9 : ((99 : Int32) < nI i) = (99 < i) := nI_ltE (a := 99) (b := i) (by omega) (by omega)
    unfold F_X9_loaf_b36
    rw [if_neg (by rw [e9]; omega), b2, wC_s, q50, wR_105, wR_105, wN_105 _ (by omega), e105]
    have e1 := nI_leE (a := H) (b := i) (by omega) (by omega)
    by_cases q : H ≤ i
    · rw [if_pos (by rw [e1]; exact q), wJ_inl, ← tail, he0 q]
      rfl
    · rw [if_neg (by rw [e1]; exact q), wR_105, wN_105 _ (by omega), wJ_inl, e105, heT (by omega), ← tail]
  unfold F_X8_staysBy_j55 at hst
  rw [k7, wR_57, faint_c (by omega), wP_s] at hst
  by_cases q : bt (ue.1 57 2) g = true
  · refine ⟨0, ue, tz, Or.inl rfl, ?_, ?_, k3, k4⟩
    · rw [hst, bI_t q, if_neg n10]
    · rw [hrf, k6, bI_f (by rw [q]; decide)]
  · have q' : bt (ue.1 57 2) g = false := by
      cases hq : bt (ue.1 57 2) g
      · rfl
      · exact absurd hq q
    refine ⟨1, ue, tz, Or.inr rfl, ?_, ?_, k3, k4⟩
    · rw [hst, bI_f q, if_pos rfl]
    · rw [hrf, k6, bI_t q']
theorem M_loaf {x y : Int32} (h : GR n m k d u t) : Q1 u t (F_X8_loaf 0 x y u) (F_X9_loaf 79 x y t) := by
  unfold F_X9_loaf
  obtain ⟨t0, et⟩ : ∃ t0, t0 = w_sI t 79 2 (0 : Int32) := ⟨_, rfl⟩
  have hK0 : KT t t0 := by rw [et]; exact KT_s (by unfold scr; omega)
  have h := GR_fr h (KC_rf u) hK0
  rw [wB_eq, ← et]
  have n6 := h.2.2.2.2.2.1.1.1
  have n10 : ¬ (1 : Int32) = 0 := by decide
  have fin : Q1 u t (some ((-1 : Int32), u)) (some ((-1 : Int32), t0)) := ⟨_, u, t0, rfl, rfl, KC_rf u, hK0⟩
  obtain ⟨r, r', a1, a2, a3⟩ := there_c (x := x) (GR_Vw h)
  have q52 : t0.2.2 79 52 = 108 := by simp only [PM_u h.2.1]
  have r5 : u.2.2 0 5 = 44 := by simp only [PL_u h.1]
  have r46 : u.2.2 43 6 = 47 := by simp only [PL_u h.1]
  have hS := h.2.2.2.2.2.2.1
  unfold F_X8_loaf F_X9_isIn
  rw [a1, wP_s, a2, wP_s]
  rcases a3 with ⟨rfl, rfl | ⟨g, hg, rfl, rfl, hq⟩⟩ | ⟨rfl, rfl, g, hg, rfl, hq⟩
  · rw [if_pos rfl, if_pos rfl]
    exact fin
  · have z := (hS.2.1 g hg).2.2.2.2
    simp only [Nat.mul_zero, Nat.zero_add] at z
    rw [if_pos rfl, if_neg n10, q52, wR_107, wN_107 _ (by omega), z, bI_f (by rw [hq]; decide), if_pos rfl]
    exact fin
  · have z := (hS.2.1 g hg).2.2.2.2
    simp only [Nat.mul_zero, Nat.zero_add] at z
    rw [if_neg n10, if_neg n10, q52, wR_107, wN_107 _ (by omega), z, bI_t hq, if_neg n10]
    by_cases y0 : y < 1
    · rw [if_pos y0, if_pos y0, wP_s, if_pos rfl]
      exact fin
    · rw [if_neg y0, if_neg y0]
      by_cases y9 : y ≤ 99
      · have y9' : ¬ (99 : Int32) < y := by rw [i_nlt]; exact y9
        have y00 : ¬ y < 0 := by
          rw [Int32.lt_iff_toInt_lt] at y0 ⊢
          rw [show (1 : Int32).toInt = 1 from by decide] at y0
          rw [show (0 : Int32).toInt = 0 from by decide]
          omega
        obtain ⟨j, hj, rfl⟩ := in_rng (p := 99) (by omega) y00 y9'
        obtain ⟨H, hH1, eH, hH2⟩ := hS.2.2.2.2.1 g hg
        have hH := hH2 hq
        have eH : u.1 46 g = nI H := eH
        rw [if_pos y9, if_neg y9', wP_s, if_neg n10, r5, wR_43, r46, wR_46, wN_46 _ (by omega), wB_eq, eH, min_99 hH]
        obtain ⟨ρ, hρ⟩ : ∃ ρ : Nat → Int32, ρ = fun i => ((F_X8_staysBy 0 (nI g) (nI (if i ≤ H then i else H)) (nI j) u).map Prod.fst).getD 0 := ⟨_, rfl⟩
        have ρ1 : ∀ i r v, F_X8_staysBy 0 (nI g) (nI (if i ≤ H then i else H)) (nI j) u = some (r, v) → ρ i = r := fun i r v e => by rw [hρ]; show ((F_X8_staysBy 0 (nI g) (nI (if i ≤ H then i else H)) (nI j) u).map Prod.fst).getD 0 = r; rw [e]; rfl
        have ρH : ∀ i, H ≤ i → ρ i = ρ H := fun i hi => by
          rw [hρ]
          show ((F_X8_staysBy 0 (nI g) (nI (if i ≤ H then i else H)) (nI j) u).map Prod.fst).getD 0 = ((F_X8_staysBy 0 (nI g) (nI (if H ≤ H then H else H)) (nI j) u).map Prod.fst).getD 0
          rw [if_pos (Nat.le_refl H)]
          by_cases q : i ≤ H
          · rw [if_pos q, show i = H by omega]
          · rw [if_neg q]
        have kc : Ro (fun y => KC u y.2 ∧ ((∃ i, i ≤ H ∧ y.1 = nI i ∧ ρ i ≠ 0 ∧ ∀ i', i' < i → ρ i' = 0) ∨ (y.1 = -2 ∧ ∀ i', i' ≤ H → ρ i' = 0))) (wL (S := Int32 × wSt) (fun x => F_X8_loaf_b39 (nI H) 0 (nI g) (nI j) x.1 x.2) wFu ((0 : Int32), u)) := by
          refine wL_ro (fun i x => ∃ u', x = (nI i, u') ∧ KC u u' ∧ ∀ i', i' < i → ρ i' = 0) _ (H + 1) (by unfold wFu; omega) ?_ ⟨u, rfl, KC_rf u, fun i' hi' => by omega⟩
          rintro i x hi ⟨u', rfl, hK, hz⟩
          unfold F_X8_loaf_b39
          dsimp only
          have e1 := nI_ltE (a := H) (b := i) (by omega) (by omega)
          by_cases hHi : H < i
          · right
            exact ⟨_, if_pos (by rw [e1]; exact hHi), hK, Or.inr ⟨rfl, fun i' hi' => hz i' (by omega)⟩⟩
          · rw [if_neg (by rw [e1]; exact hHi)]
            obtain ⟨r, v, tv, c0, c1, c2, c3, -⟩ := LF (i := i) h hg hj hH eH (by omega)
            obtain ⟨r', v', tv', d0, d1, d2, d3, -⟩ := LF (i := i) (GR_fr h hK (KT_rf t0)) hg hj hH (by rw [hK.2 46 g (by omega) (by omega)]; exact eH) (by omega)
            have hr : r' = r := by
              rw [c2] at d2
              rcases c0 with rfl | rfl <;> rcases d0 with rfl | rfl
              · rfl
              · simp at d2
              · simp at d2
              · rfl
            subst hr
            have hρi := ρ1 i _ _ c1
            rw [if_pos (by omega)] at d1
            rw [d1, wC_s]
            rcases d0 with rfl | rfl
            · left
              refine ⟨(nI (i + 1), v'), ?_, by omega, v', rfl, KC_tr hK d3, fun i' hi' => ?_⟩
              · rw [if_pos rfl, wB_eq, nI_addL]
              · by_cases q : i' = i
                · rw [q]; exact hρi
                · exact hz i' (by omega)
            · right
              exact ⟨_, if_neg n10, KC_tr hK d3, Or.inl ⟨i, by omega, rfl, by rw [hρi]; exact n10, hz⟩⟩
        have kt : Ro (fun y => KT t0 y.2 ∧ ((∃ i, i ≤ 99 ∧ y.1 = nI i ∧ ρ i ≠ 0 ∧ ∀ i', i' < i → ρ i' = 0) ∨ (y.1 = -2 ∧ ∀ i', i' ≤ 99 → ρ i' = 0))) (wL (S := Int32 × wSt) (fun x => F_X9_loaf_b36 79 (nI g) (nI j) x.1 x.2) wFu ((0 : Int32), t0)) := by
          refine wL_ro (fun i x => ∃ t', x = (nI i, t') ∧ KT t0 t' ∧ ∀ i', i' < i → ρ i' = 0) _ 100 (by unfold wFu; omega) ?_ ⟨t0, rfl, KT_rf t0, fun i' hi' => by omega⟩
          rintro i x hi ⟨t', rfl, hK, hz⟩
          dsimp only
          have e9 : ((99 : Int32) < nI i) = (99 < i) := nI_ltE (a := 99) (b := i) (by omega) (by omega)
          by_cases hHi : 99 < i
          · right
            refine ⟨(-2, t'), ?_, hK, Or.inr ⟨rfl, fun i' hi' => hz i' (by omega)⟩⟩
            unfold F_X9_loaf_b36
            exact if_pos (by rw [e9]; exact hHi)
          · obtain ⟨r, v, tv, c0, c1, c2, -, c3⟩ := LF (i := i) (GR_fr h (KC_rf u) hK) hg hj hH eH (by omega)
            have hρi := ρ1 i _ _ c1
            rw [c2]
            rcases c0 with rfl | rfl
            · left
              refine ⟨(nI (i + 1), tv), if_pos rfl, by omega, tv, rfl, KT_tr hK c3, fun i' hi' => ?_⟩
              by_cases q : i' = i
              · rw [q]; exact hρi
              · exact hz i' (by omega)
            · right
              exact ⟨(nI i, tv), if_neg n10, KT_tr hK c3, Or.inl ⟨i, by omega, rfl, by rw [hρi]; exact n10, hz⟩⟩
        obtain ⟨⟨x1, x2⟩, k1, k2, k3⟩ := kc
        obtain ⟨⟨y1, y2⟩, l1, l2, l3⟩ := kt
        have hxy : x1 = y1 := by
          rcases k3 with ⟨i, i1, i2, i3, i4⟩ | ⟨i2, i4⟩
          · rcases l3 with ⟨i', j1, j2, j3, j4⟩ | ⟨j2, j4⟩
            · have : i = i' := by
                rcases Nat.lt_trichotomy i i' with q | q | q
                · exact absurd (j4 i q) i3
                · exact q
                · exact absurd (i4 i' q) j3
              subst this
              exact i2.trans j2.symm
            · exact absurd (j4 i (by omega)) i3
          · rcases l3 with ⟨i', j1, j2, j3, j4⟩ | ⟨j2, j4⟩
            · exfalso
              by_cases q : i' ≤ H
              · exact j3 (i4 i' q)
              · rw [ρH i' (by omega)] at j3
                exact j3 (i4 H (Nat.le_refl H))
            · exact i2.trans j2.symm
        subst hxy
        rw [k1, l1]
        exact ⟨x1, x2, y2, rfl, rfl, k2, KT_tr hK0 l2⟩
      · have y9' : (99 : Int32) < y := by rw [← i_nle]; exact y9
        rw [if_neg y9, if_pos y9', wP_s, if_pos rfl]
        exact fin
end

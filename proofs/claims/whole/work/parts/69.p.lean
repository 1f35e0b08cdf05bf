/-! draughts by chance -/
section
variable {n m k d c b B : Nat} {u t : wSt}
theorem Sc_lay {U T U1 T1 : Nat → Nat → Int32} (n6 : n ≤ 6) (m8 : m ≤ 8) (hS : Sc n m 43 0 98 U T) (k1 : ∀ j, j < 4 → j ≠ 1 → U1 57 j = U 43 j) (k2 : ∀ i j, 1 ≤ i → i ≤ 4 → j < 6 → U1 (57 + i) j = U (43 + i) j) (k3 : ∀ i j, 5 ≤ i → i ≤ 6 → j < 8 → U1 (57 + i) j = U (43 + i) j) (g3 : ∀ g, g < 6 → T1 104 (6 + g) = T 104 g ∧ T1 105 (6 + g) = T 105 g ∧ T1 106 (6 + g) = T 106 g ∧ T1 107 (6 + g) = T 107 g &&& 1 ∧ T1 108 (6 + g) = T 108 g) (g4 : ∀ f, f < 8 → T1 109 (8 + f) = T 109 f ∧ T1 110 (8 + f) = T 110 f &&& 1 ∧ T1 111 (8 + f) = T 111 f) (g5 : T1 112 1 = T 112 0) : Sc n m 57 1 98 U1 T1 := by
  obtain ⟨⟨s, hs1, es, es'⟩, hG, hF, h4, h5, h6, h7⟩ := hS
  refine ⟨⟨s, hs1, by rw [k1 0 (by omega) (by omega)]; exact es, by rw [g5]; exact es'⟩, fun g hg => ?_, fun f hf => ?_, fun g hg => ?_, fun g hg => ?_, fun g hg => ?_, fun f hf => ?_⟩
  · have z := hG g hg
    have y := g3 g (by omega)
    simp only [Nat.mul_zero, Nat.zero_add] at z
    rw [Nat.mul_one, y.1, y.2.1, y.2.2.1, y.2.2.2.1, y.2.2.2.2, k1 2 (by omega) (by omega), k2 1 g (by omega) (by omega) (by omega), k2 2 g (by omega) (by omega) (by omega), k2 3 g (by omega) (by omega) (by omega), k2 4 g (by omega) (by omega) (by omega)]
    exact ⟨z.1, z.2.1, z.2.2.1, z.2.2.2.1, Sc_b01 z.2.2.2.2⟩
  · have z := hF f hf
    have y := g4 f (by omega)
    simp only [Nat.mul_zero, Nat.zero_add] at z
    rw [Nat.mul_one, y.1, y.2.1, y.2.2, k1 3 (by omega) (by omega), k3 5 f (by omega) (by omega) (by omega), k3 6 f (by omega) (by omega) (by omega)]
    exact ⟨z.1, z.2.1, Sc_b01 z.2.2⟩
  · rw [k2 1 g (by omega) (by omega) (by omega)]
    exact h4 g hg
  · rw [k2 3 g (by omega) (by omega) (by omega), k1 2 (by omega) (by omega)]
    exact h5 g hg
  · rw [k1 2 (by omega) (by omega)]
    exact h6 g hg
  · rw [k1 3 (by omega) (by omega)]
    exact h7 f hf
theorem chance_1 {N : Int32} {u' t' : wSt} {j g : Nat} (h : GR n m k d u t) (hg : g < n) (hj : j ≤ 99) (hK : KC u u') (hKT : KT t (w_sL t' 79 58 (t.2.1 79 58))) (h8 : u'.2.2 64 8 = d + 1) (hF : ∀ i, u'.1 64 i = (cb u d 1).1 64 i) (hN : t'.2.1 79 58 = N.toInt64) (hN0 : 0 ≤ N) : ∃ (u1 u2 t1 t2 : wSt), F_X3_take 57 43 u' = some ((), u1) ∧ u1.2.2 = u'.2.2 ∧ F_X0_run 64 57 (nI j) (w_sI u1 57 1 N) = some ((), u2) ∧ F_X9_layTried 79 t' = some ((), t1) ∧ F_X9_goMany 79 (nI j) (w_sI t1 79 60 1) = some ((), t2) ∧ u2.2.2 = u'.2.2 ∧ KC u u2 ∧ KT t (w_sL t2 79 58 (t.2.1 79 58)) ∧ (∀ i, u2.1 64 i = (cb u d 1).1 64 i) ∧ t2.2.1 79 58 = (u2.1 57 1).toInt64 ∧ 0 ≤ u2.1 57 1 ∧ t2.1 107 (6 + g) = bI (bt (u2.1 57 2) g = false) ∧ PM t2.2.2 := by
  have h0 := GR_fr h hK hKT
  have hm : PM t'.2.2 := h0.2.1
  obtain ⟨hp, -, hd, -, -, hT, hS, ⟨s, hs, es⟩, -⟩ := h0
  have hT : Td n m k d u'.1 t'.1 := hT
  have hS : Sc n m 43 0 98 u'.1 t'.1 := hS
  have n6 := hT.1.1
  have m8 := hT.1.2.1
  have d1 := TC_le hd
  obtain ⟨u1, f1, f2, f3, f4, f5, f6⟩ := take_c (a := 57) (b := 43) hp (Or.inr (Or.inr rfl)) (Or.inl rfl) (by decide)
  obtain ⟨t'', g1, g2, g3, g4, g5⟩ := lay_t hm
  have tbn : ∀ a j, a ≠ 79 → (tb t'').1 a j = t''.1 a j := fun a j q => tb_ne t'' (by omega)
  have wn : ∀ a j, a ≠ 79 → (w_sI (tb t'') 79 60 1).1 a j = t''.1 a j := fun a j q => by rw [sI_ne _ _ _ _ _ _ q, tbn a j q]
  have un : ∀ a j, ¬ (a = 57 ∧ j = 1) → (w_sI u1 57 1 N).1 a j = u1.1 a j := fun a j q => if_neg q
  have hSc : Sc n m 57 1 98 (w_sI u1 57 1 N).1 (w_sI (tb t'') 79 60 1).1 := by
    refine Sc_lay n6 m8 hS (fun j q r => by rw [un _ _ (by omega)]; exact f4 j q) (fun i j a b c => by rw [un _ _ (by omega)]; exact f5 i j a b c) (fun i j a b c => by rw [un _ _ (by omega)]; exact f6 i j a b c) (fun g hg => ?_) (fun f hf => ?_) ?_
    · rw [wn _ _ (by decide), wn _ _ (by decide), wn _ _ (by decide), wn _ _ (by decide), wn _ _ (by decide)]
      exact g3 g hg
    · rw [wn _ _ (by decide), wn _ _ (by decide), wn _ _ (by decide)]
      exact g4 f hf
    · rw [wn _ _ (by decide)]
      exact g5
  have hf64 : ∀ i, (w_sI u1 57 1 N).1 64 i = (cb u d 1).1 64 i := fun i => by rw [un _ _ (by omega), f3 64 i (by omega)]; exact hF i
  have hC : Cx n m k d 57 1 98 (w_sI u1 57 1 N) (w_sI (tb t'') 79 60 1) := by
    refine ⟨by show PL u1.2.2; rw [f2]; exact hp, by show PM t''.2.2; rw [g2.1]; exact hm, hd, Or.inr (Or.inr rfl), by omega, by show u1.2.2 64 8 = d + 1; rw [f2]; exact h8, ?_, ?_, hSc, fun _ => ⟨?_, ?_⟩, by omega⟩
    · refine Td_fr hT (fun a j q r => by rw [un _ _ (by omega)]; exact f3 a j (by omega)) (fun j q r => ?_) (fun a j q r => ?_)
      · rw [sI_ne2 _ _ _ _ _ _ (by omega), tb_ne t'' (by omega)]
        exact g2.2.1 79 j (by unfold scr; omega)
      · rw [wn _ _ (by omega)]
        exact g2.2.1 a j (by unfold scr; omega)
    · exact ⟨Or.inr (Or.inl ⟨(hf64 0).trans rfl, rfl, rfl⟩), ((hf64 1).trans rfl).symm, ((hf64 2).trans rfl).symm, ((hf64 3).trans rfl).symm, ((hf64 4).trans rfl).symm, ((hf64 5).trans rfl).symm, ((hf64 6).trans rfl).symm, Or.inl ((hf64 6).trans rfl)⟩
    · show t''.2.1 79 58 = ((w_sI u1 57 1 N).1 57 1).toInt64
      rw [g2.2.2.1, sI_eq]
      exact hN
    · rw [sI_eq]
      exact hN0
  have es0 : (w_sI u1 57 1 N).1 57 0 = nI s := by
    rw [un _ _ (by omega), f4 0 (by omega)]
    exact es
  obtain ⟨⟨x1, u2⟩, ⟨y1, t2⟩, r1, r2, r3, r4⟩ := run_rl (j := j) hC es0 (by omega) (by omega)
  have r3 : ST n m k d 57 1 (w_sI u1 57 1 N) (w_sI (tb t'') 79 60 1) u2 t2 := r3
  have hfu : ∀ i, u2.1 64 i = (cb u d 1).1 64 i := fun i => by rw [r3.2.1.2 64 i (by omega) (by decide)]; exact hf64 i
  have hNm := r3.1.2.2.2.2.2.2.2.2.2.1 (show u2.1 64 0 = 1 from (hfu 0).trans rfl)
  refine ⟨u1, u2, tb t'', t2, f1, by rw [f2], r1, g1, r2, ?_, ?_, ?_, hfu, hNm.1, hNm.2, ?_, r3.1.2.1⟩
  · rw [r3.2.1.1]
    show u1.2.2 = u'.2.2
    rw [f2]
  · refine KC_tr hK (KC_tr (u' := u1) ⟨fun a j _ => by rw [f2], fun a j q r => f3 a j (by omega)⟩ (KC_tr (KC_s (by omega)) (KC_FC r3.2.1)))
  · refine ⟨?_, fun a j q => ?_, sL_eq _ _ _ _, ?_⟩
    · show t2.2.2 = t.2.2
      rw [r3.2.2.1.1]
      show t''.2.2 = t.2.2
      rw [g2.1]
      exact hKT.1
    · show t2.1 a j = t.1 a j
      rw [r3.2.2.1.2.1 a j (fun w => q (by unfold rsc at w; unfold scr; omega)) (fun w => q (by unfold scr; omega))]
      have q60 : ¬ (a = 79 ∧ 60 ≤ j ∧ j ≤ 68) := fun w => q (by unfold scr; omega)
      rw [show (w_sI (tb t'') 79 60 1).1 a j = (tb t'').1 a j from if_neg (by omega), tb_ne t'' q60, g2.2.1 a j q]
      exact hKT.2.1 a j q
    · rw [sL_ne2 _ _ _ _ _ _ (by decide), r3.2.2.1.2.2.1]
      show t''.2.1 79 79 = t.2.1 79 79
      rw [g2.2.2.2]
      have := hKT.2.2.2
      rw [sL_ne2 _ _ _ _ _ _ (by decide)] at this
      exact this
  · exact (r3.1.2.2.2.2.2.2.2.2.1.2.1 g hg).2.2.2.2
theorem M_chance {x y z : Int32} (h : GR n m k d u t) : Q1 u t (F_X8_chance 0 x y z u) (F_X9_chance 79 x y z t) := by
  unfold F_X9_chance
  obtain ⟨t0, et⟩ : ∃ t0, t0 = w_sI t 79 2 (0 : Int32) := ⟨_, rfl⟩
  have hK0 : KT t t0 := by rw [et]; exact KT_s (by unfold scr; omega)
  have h := GR_fr h (KC_rf u) hK0
  rw [wB_eq, ← et]
  have n10 : ¬ (1 : Int32) = 0 := by decide
  have fin : Q1 u t (some ((-1 : Int32), u)) (some ((-1 : Int32), t0)) := ⟨_, u, t0, rfl, rfl, KC_rf u, hK0⟩
  have n6 := h.2.2.2.2.2.1.1.1
  obtain ⟨r, a1, a2, a3⟩ := isG (x := z) (GR_Vw h)
  unfold F_X8_chance F_X9_isIn
  by_cases x0 : x < 0
  · rw [if_pos x0, if_pos x0]
    exact fin
  · rw [if_neg x0, if_neg x0]
    by_cases y0 : y < 1
    · rw [if_pos y0, if_pos y0, wP_s, if_pos rfl]
      exact fin
    · rw [if_neg y0, if_neg y0]
      by_cases y9 : (99 : Int32) < y
      · rw [if_pos y9, if_pos y9, wP_s, if_pos rfl]
        exact fin
      · have y00 : ¬ y < 0 := by
          rw [Int32.lt_iff_toInt_lt] at y0 ⊢
          rw [show (1 : Int32).toInt = 1 from by decide] at y0
          rw [show (0 : Int32).toInt = 0 from by decide]
          omega
        obtain ⟨j, hj, rfl⟩ := in_rng (p := 99) (by omega) y00 y9
        rw [if_neg y9, if_neg y9, wP_s, if_neg n10, a1, wP_s, a2, wP_s]
        rcases a3 with rfl | ⟨rfl, g, hg, rfl⟩
        · rw [if_pos rfl, if_pos rfl]
          exact fin
        · have r9 : u.2.2 0 9 = 65 := by simp only [PL_u h.1]
          have hd := h.2.2.1
          rw [if_neg n10, if_neg n10, r9, wR_64, h.2.2.2.1, wR_d0 _ hd, begin_c, wC_s, wB_eq, wB_eq]
          have key : Rl (fun a b => ∃ c u' t', a = (c, u') ∧ b = .inl (c, t') ∧ KC u u' ∧ KT t0 (w_sL t' 79 58 (t0.2.1 79 58))) (wL (S := Int32 × Int32 × Int32 × wSt) (fun x => F_X8_chance_b46 0 (nI j) (nI g) x.1 x.2.1 x.2.2.1 x.2.2.2) wFu (x, (0 : Int32), (0 : Int32), cb u d 1)) (wL (S := Int32 × Int32 × wSt) (fun x => F_X9_chance_b47 79 (nI j) (nI g) x.1 x.2.1 x.2.2) wFu ((0 : Int32), (0 : Int32), w_sL t0 79 58 x.toInt64)) := by
            refine wL_rl (fun i a b => ∃ N c u' t', a = (N, c, nI i, u') ∧ b = (c, nI i, t') ∧ KC u u' ∧ KT t0 (w_sL t' 79 58 (t0.2.1 79 58)) ∧ u'.2.2 64 8 = d + 1 ∧ (∀ i, u'.1 64 i = (cb u d 1).1 64 i) ∧ t'.2.1 79 58 = N.toInt64 ∧ 0 ≤ N) _ 10 (by unfold wFu; omega) ?_ ⟨x, 0, _, _, rfl, rfl, cb_KC u d 1, ?_, rfl, fun _ => rfl, sL_eq _ _ _ _, by rw [← i_nlt]; exact x0⟩
            · rintro i a b hi ⟨N, c, u', t', rfl, rfl, hk1, hk2, hk3, hk4, hk5, hk6⟩
              unfold F_X8_chance_b46 F_X9_chance_b47 F_X8_chance_j108 F_X9_chance_j87
              dsimp only
              have e : ((10 : Int32) ≤ nI i) = (10 ≤ i) := nI_leE (a := 10) (b := i) (by omega) (by omega)
              by_cases h10 : 10 ≤ i
              · right
                exact ⟨_, _, if_pos (by rw [e]; exact h10), if_pos (by rw [e]; exact h10), c, u', t', rfl, rfl, hk1, hk2⟩
              · left
                have h10' : ¬ (10 : Int32) ≤ nI i := by rw [e]; exact h10
                obtain ⟨u1, u2, t1, t2, c1, c2, c3, c4, c5, c6, c7, c8, c9, c10, c11, c12, c13⟩ := chance_1 (N := N) (j := j) h hg hj hk1 hk2 hk3 hk4 hk5 hk6
                have hp' : PL u'.2.2 := PL_fr h.1 (fun a j q _ _ => hk1.1 a j q)
                have r7 : u'.2.2 0 7 = 58 := by simp only [PL_u hp']
                have r5 : u'.2.2 0 5 = 44 := by simp only [PL_u hp']
                have r9 : u'.2.2 0 9 = 65 := by simp only [PL_u hp']
                have q52 : t2.2.2 79 52 = 108 := by simp only [PM_u c13]
                rw [if_neg h10', if_neg h10', r7, wR_57, r5, wR_43, c1, wC_s, c2, r7, wR_57, wB_eq, sI_r, c2, r9, wR_64, r7, wR_57, c3, wC_s, c6, r7, wR_57, wB_eq, wR_57, faint_c (by omega), wP_s, c4, wC_s, wB_eq, wB_eq, c5, wC_s, q52, wR_107, nI_Ladd, wN_107 _ (by omega), c12]
                by_cases q : bt (u2.1 57 2) g = true
                · refine ⟨(u2.1 57 1, c + 1, nI (i + 1), u2), (c + 1, nI (i + 1), t2), ?_, ?_, by omega, _, _, u2, t2, rfl, rfl, c7, c8, by rw [c6]; exact hk3, c9, c10, c11⟩
                  · rw [bI_t q, if_neg n10]
                    repeat (first | rw [wB_eq] | rw [wC_s] | rw [wP_s] | rw [wJ_inl] | rw [wJ_inr])
                    rw [nI_addL]
                  · rw [bI_f (by rw [q]; decide), if_pos rfl]
                    repeat (first | rw [wB_eq] | rw [wC_s] | rw [wP_s] | rw [wJ_inl] | rw [wJ_inr])
                    rw [nI_addL]
                · have q' : bt (u2.1 57 2) g = false := by
                    cases hq : bt (u2.1 57 2) g
                    · rfl
                    · exact absurd hq q
                  refine ⟨(u2.1 57 1, c, nI (i + 1), u2), (c, nI (i + 1), t2), ?_, ?_, by omega, _, _, u2, t2, rfl, rfl, c7, c8, by rw [c6]; exact hk3, c9, c10, c11⟩
                  · rw [bI_f q, if_pos rfl]
                    repeat (first | rw [wB_eq] | rw [wC_s] | rw [wP_s] | rw [wJ_inl] | rw [wJ_inr])
                    rw [nI_addL]
                  · rw [bI_t q', if_neg n10]
                    repeat (first | rw [wB_eq] | rw [wC_s] | rw [wP_s] | rw [wJ_inl] | rw [wJ_inr])
                    rw [nI_addL, Int32.add_zero]
            · refine ⟨rfl, fun _ _ _ => rfl, sL_eq _ _ _ _, ?_⟩
              rw [sL_ne2 _ _ _ _ _ _ (by decide), sL_ne2 _ _ _ _ _ _ (by decide)]
          obtain ⟨a, b, k1, k2, c, u', t', rfl, rfl, k3, k4⟩ := key
          unfold F_X9_chance_j96
          rw [k1, k2, wJ_inl, wB_eq, wB_eq]
          refine ⟨c, u', _, rfl, rfl, k3, KT_tr hK0 (KT_tr k4 ⟨rfl, fun a j q => ?_, ?_, ?_⟩)⟩
          · show (w_sI t' 79 60 0).1 a j = t'.1 a j
            exact if_neg (fun w => q (by rw [w.1]; exact sc79 (by omega)))
          · rw [sL_eq, sL_eq]
          · rw [sL_ne2 _ _ _ _ _ _ (by decide), sL_ne2 _ _ _ _ _ _ (by decide)]
            rfl
end

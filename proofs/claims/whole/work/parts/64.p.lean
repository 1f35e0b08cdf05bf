/-! two loops, the first of which may end ahead -/
theorem wL_ex2 {S T Y Z : Type} {b : S → Option (S ⊕ Y)} {d : T → Option (T ⊕ Z)} (I : Nat → S → T → Prop) (J : Nat → Y → T → Prop) (P : Y → Z → Prop) (N : Nat) (hs : ∀ k s t, k ≤ N → I k s t → (∃ s' t', b s = some (.inl s') ∧ d t = some (.inl t') ∧ k < N ∧ I (k + 1) s' t') ∨ (∃ y z, b s = some (.inr y) ∧ d t = some (.inr z) ∧ P y z) ∨ (∃ y, b s = some (.inr y) ∧ J k y t)) (hJ : ∀ k y t, k ≤ N → J k y t → (∃ t', d t = some (.inl t') ∧ k < N ∧ J (k + 1) y t') ∨ (∃ z, d t = some (.inr z) ∧ P y z)) : ∀ (f k : Nat) (s : S) (t : T), N < f + k → k ≤ N → I k s t → Rl P (wL b f s) (wL d f t) := by
  intro f
  induction f with
  | zero => intro k s t hf hk hI; omega
  | succ f ih =>
    intro k s t hf hk hI
    rcases hs k s t hk hI with ⟨s', t', h1, g1, h2, h3⟩ | ⟨y, z, h1, g1, h2⟩ | ⟨y, h1, h2⟩
    · obtain ⟨y, z, e1, e2, e3⟩ := ih (k + 1) s' t' (by omega) (by omega) h3
      exact ⟨y, z, by unfold wL; rw [h1]; exact e1, by unfold wL; rw [g1]; exact e2, e3⟩
    · exact ⟨y, z, by unfold wL; rw [h1]; rfl, by unfold wL; rw [g1]; rfl, h2⟩
    · obtain ⟨z, e1, e2⟩ := wL_one (b := d) (s := t) (fun k t => J k y t) (fun z => P y z) N (fun k t hk hj => hJ k y t hk hj) (f + 1) k t hf hk h2
      exact ⟨y, z, by unfold wL; rw [h1]; rfl, e1, e2⟩
theorem wL_ex {S T Y Z : Type} {b : S → Option (S ⊕ Y)} {d : T → Option (T ⊕ Z)} {s : S} {t : T} (I : Nat → S → T → Prop) (J : Nat → Y → T → Prop) (P : Y → Z → Prop) (N : Nat) (hN : N < wFu) (hs : ∀ k s t, k ≤ N → I k s t → (∃ s' t', b s = some (.inl s') ∧ d t = some (.inl t') ∧ k < N ∧ I (k + 1) s' t') ∨ (∃ y z, b s = some (.inr y) ∧ d t = some (.inr z) ∧ P y z) ∨ (∃ y, b s = some (.inr y) ∧ J k y t)) (hJ : ∀ k y t, k ≤ N → J k y t → (∃ t', d t = some (.inl t') ∧ k < N ∧ J (k + 1) y t') ∨ (∃ z, d t = some (.inr z) ∧ P y z)) (h0 : I 0 s t) : Rl P (wL b wFu s) (wL d wFu t) :=
  wL_ex2 I J P N hs hJ wFu 0 s t (by omega) (Nat.zero_le N) h0
section
variable {n m k d c b B : Nat} {u t : wSt}
theorem TR_fl {u' t' u2 t2 : wSt} {s : Nat} (h : TR n m k d u t u' t' s) (hr : u2.2.2 = u'.2.2) (hu : ∀ a j, a ≠ 64 → u2.1 a j = u'.1 a j) (hr' : t2.2 = t'.2) (ht : ∀ a j, ¬ (a = 79 ∧ 61 ≤ j ∧ j ≤ 68) → t2.1 a j = t'.1 a j) (hF : Fl u2.1 t2.1) (h1 : u2.1 64 0 ≠ 1) : TR n m k d u t u2 t2 s := by
  obtain ⟨a1, a2, a3, a4, a5, a6⟩ := h
  refine ⟨KC_tr a1 ⟨fun a j _ => by rw [hr], fun a j q r => hu a j (by omega)⟩, KT_tr a2 ⟨by rw [hr'], fun a j q => ht a j (fun r => q (by rw [r.1]; exact sc79 (by omega))), by rw [hr'], by rw [hr']⟩, Cx_fl a3 hr hu (by rw [hr']) (fun a j q => ht a j (by omega)) hF (fun q => absurd q h1), by rw [ht 79 60 (by omega)]; exact a4, by rw [hu 57 0 (by decide)]; exact a5, fun g q => ?_⟩
  rw [hu 57 2 (by decide)]
  exact a6 g q
theorem Vw_tb (h : Vw n m k d c b u t) : Vw n m k d c b u (tb t) := by
  obtain ⟨hp, hm, hd, hc, hb, h2, hT, hS⟩ := h
  exact ⟨hp, hm, hd, hc, hb, h2, Td_fr hT (fun _ _ _ _ => rfl) (fun j q r => tb_ne t (by omega)) (fun a j q r => tb_ne t (by omega)), Sc_fr hT.1.1 hT.1.2.1 hS (fun _ _ _ _ _ => rfl) (fun a j q r _ _ _ => tb_ne t (by omega))⟩
/-- what is set before it is tried -/
def t5 (t : wSt) (a b c e f : Int32) : wSt := w_sI (w_sI (w_sI (w_sI (w_sI t 79 61 a) 79 62 b) 79 65 c) 79 63 e) 79 64 f
theorem t5_ne {a b c e f : Int32} {x j : Nat} (h : ¬ (x = 79 ∧ 61 ≤ j ∧ j ≤ 65)) : (t5 t a b c e f).1 x j = t.1 x j := by
  have g : ∀ (v : wSt) (i : Nat) (y : Int32), 61 ≤ i → i ≤ 65 → (w_sI v 79 i y).1 x j = v.1 x j := fun v i y h1 h2 => if_neg (by omega)
  unfold t5
  rw [g _ _ _ (by omega) (by omega), g _ _ _ (by omega) (by omega), g _ _ _ (by omega) (by omega), g _ _ _ (by omega) (by omega), g _ _ _ (by omega) (by omega)]
theorem t5_f {a b c e f : Int32} : (t5 t a b c e f).1 79 61 = a ∧ (t5 t a b c e f).1 79 62 = b ∧ (t5 t a b c e f).1 79 65 = c ∧ (t5 t a b c e f).1 79 63 = e ∧ (t5 t a b c e f).1 79 64 = f := ⟨rfl, rfl, rfl, rfl, rfl⟩
theorem tried_end {u2 t2 : wSt} {s j : Nat} (h : GR n m k d u t) (hT : TR n m k d u t u2 t2 s) (hs : s + j ≤ 20000) (hj : j < 2000) : Q1 u t (F_X8_tried_j132 0 (nI j) u2) (wC (F_X9_goMany 79 (nI j) t2) (fun _ (u30 : wSt) => wC (F_X9_plainTried 79 u30) (fun _ (u31 : wSt) => wP (F_X9_fainted 79 (1 : Int32) u31) (fun (i32 : Int32) => wP (F_X9_fainted 79 (0 : Int32) u31) (fun (i33 : Int32) => some ((i32 - i33), u31)))))) := by
  obtain ⟨r7, r9, r5⟩ := TR_p hT
  obtain ⟨u3, t3, c1, c2, c3, -⟩ := TR_run (j := j) hT hs hj
  obtain ⟨V1, V0, V2⟩ := TR_V h c3
  obtain ⟨r, a, b, f1, f2, f3, rfl⟩ := fallen_s (Vw_tb V1) (Vw_tb V0) V2
  unfold F_X8_tried_j132
  rw [r9, wR_64, r7, wR_57, c1, wC_s, f1, wP_s, c2, wC_s, plain_t, wC_s, f2, wP_s, f3, wP_s]
  exact ⟨_, u3, tb t3, rfl, rfl, c3.1, KT_tr c3.2.1 (tb_KT t3)⟩
theorem tried_t {j : Nat} {w z : Int32} (h : GR n m k d u t) (hj : j ≤ 200) (hw : w = 0 ∨ w = 1 ∨ w = 2 ∨ w = 3 ∨ w = 4) : Q1 u t (F_X8_tried_j44 0 u w z (nI j)) (F_X9_tried_j47 79 t w z (nI j)) := by
  obtain ⟨s, u1, t1, hs, b1, b2, b3, -, -, b6, b7⟩ := TR_0 h
  obtain ⟨r7, r9, r5⟩ := TR_p b3
  have l0 : u1.1 64 0 = 0 := (b7 0).trans rfl
  have l1 : u1.1 64 1 = 0 := (b7 1).trans rfl
  have l2 : u1.1 64 2 = 0 := (b7 2).trans rfl
  have l3 : u1.1 64 3 = 0 := (b7 3).trans rfl
  have l4 : u1.1 64 4 = -1 := (b7 4).trans rfl
  obtain ⟨m0, m1, m2, m3, m4, m5, m6, m7⟩ := b6
  have n10 : ¬ (1 : Int32) = 0 := by decide
  have z01 : (0 : Int32) = 0 ∨ (0 : Int32) = 1 := Or.inl rfl
  have o01 : (1 : Int32) = 0 ∨ (1 : Int32) = 1 := Or.inr rfl
  have hm0 : t1.1 79 60 = 0 := b3.2.2.2.1
  unfold F_X8_tried_j44 F_X9_tried_j47 F_X9_tried_j61 F_X9_tried_j75 F_X9_tried_j89 F_X9_tried_j103 F_X9_tried_j117
  rw [b1, wC_s, b2, wC_s, r9]
  have ne : ∀ (i : Nat) (x : Int32) (a j : Nat), a ≠ 64 → (w_sI u1 64 i x).1 a j = u1.1 a j := fun i x a j q => sI_ne _ _ _ _ _ _ q
  have ne2 : ∀ (i : Nat) (x : Int32) (j : Nat), j ≠ i → (w_sI u1 64 i x).1 64 j = u1.1 64 j := fun i x j q => sI_ne2 _ _ _ _ _ _ q
  have fl : ∀ (i : Nat) (x a b c e f : Int32), Fl (w_sI u1 64 i x).1 (t5 t1 a b c e f).1 → (w_sI u1 64 i x).1 64 0 ≠ 1 → TR n m k d u t (w_sI u1 64 i x) (t5 t1 a b c e f) s := fun i x a b c e f q r => TR_fl b3 rfl (fun a j q => ne i x a j q) rfl (fun a j q => t5_ne (by omega)) q r
  rcases hw with rfl | rfl | rfl | rfl | rfl
  · rw [if_pos rfl, wR_64, wB_eq, wJ_inl, if_pos rfl, wJ_inl, wG_pos o01, wB_eq, if_neg (by decide), wJ_inl, wG_pos z01, wB_eq, if_neg (by decide), wJ_inl, wB_eq, if_neg (by decide), wJ_inl, wG_pos z01, wB_eq, if_neg (by decide), wJ_inl, wG_pos z01, wB_eq]
    refine tried_end h (fl 0 2 1 0 (-1) 0 0 ⟨Or.inr (Or.inr ⟨sI_eq _ _ _ _, rfl⟩), ?_, ?_, ?_, ?_, ?_, ?_, Or.inl ?_⟩ (by rw [sI_eq]; decide)) (by omega) (by omega)
    · rw [ne2 _ _ _ (by decide), l1]; rfl
    · rw [ne2 _ _ _ (by decide), l2]; rfl
    · rw [ne2 _ _ _ (by decide), l3]; rfl
    · rw [ne2 _ _ _ (by decide), l4]; rfl
    · rw [ne2 _ _ _ (by decide), t5_ne (by omega)]; exact m5
    · rw [ne2 _ _ _ (by decide), t5_ne (by omega)]; exact m6
    · rw [ne2 _ _ _ (by decide), b7]; rfl
  · rw [if_neg n10, if_pos rfl, wR_64, wB_eq, wJ_inl, if_neg n10, wJ_inl, wG_pos z01, wB_eq, if_pos rfl, wJ_inl, wG_pos o01, wB_eq, if_neg (by decide), wJ_inl, wB_eq, if_neg (by decide), wJ_inl, wG_pos z01, wB_eq, if_neg (by decide), wJ_inl, wG_pos z01, wB_eq]
    refine tried_end h (fl 1 1 0 1 (-1) 0 0 ⟨Or.inl ⟨?_, ?_, rfl⟩, ?_, ?_, ?_, ?_, ?_, ?_, Or.inl ?_⟩ (by rw [ne2 _ _ _ (by decide), l0]; decide)) (by omega) (by omega)
    · rw [ne2 _ _ _ (by decide), l0]
    · rw [t5_ne (by omega)]; exact hm0
    · rw [sI_eq]; rfl
    · rw [ne2 _ _ _ (by decide), l2]; rfl
    · rw [ne2 _ _ _ (by decide), l3]; rfl
    · rw [ne2 _ _ _ (by decide), l4]; rfl
    · rw [ne2 _ _ _ (by decide), t5_ne (by omega)]; exact m5
    · rw [ne2 _ _ _ (by decide), t5_ne (by omega)]; exact m6
    · rw [ne2 _ _ _ (by decide), b7]; rfl
  · rw [if_neg (by decide), if_neg (by decide), if_pos rfl, wR_64, wB_eq, wJ_inl, if_neg (by decide), wJ_inl, wG_pos z01, wB_eq, if_neg (by decide), wJ_inl, wG_pos z01, wB_eq, if_pos rfl, wJ_inl, wB_eq, if_neg (by decide), wJ_inl, wG_pos z01, wB_eq, if_neg (by decide), wJ_inl, wG_pos z01, wB_eq]
    refine tried_end h (fl 4 z 0 0 z 0 0 ⟨Or.inl ⟨?_, ?_, rfl⟩, ?_, ?_, ?_, ?_, ?_, ?_, Or.inl ?_⟩ (by rw [ne2 _ _ _ (by decide), l0]; decide)) (by omega) (by omega)
    · rw [ne2 _ _ _ (by decide), l0]
    · rw [t5_ne (by omega)]; exact hm0
    · rw [ne2 _ _ _ (by decide), l1]; rfl
    · rw [ne2 _ _ _ (by decide), l2]; rfl
    · rw [ne2 _ _ _ (by decide), l3]; rfl
    · rw [sI_eq]; rfl
    · rw [ne2 _ _ _ (by decide), t5_ne (by omega)]; exact m5
    · rw [ne2 _ _ _ (by decide), t5_ne (by omega)]; exact m6
    · rw [ne2 _ _ _ (by decide), b7]; rfl
  · rw [if_neg (by decide), if_neg (by decide), if_neg (by decide), if_pos rfl, wR_64, wB_eq, wJ_inl, if_neg (by decide), wJ_inl, wG_pos z01, wB_eq, if_neg (by decide), wJ_inl, wG_pos z01, wB_eq, if_neg (by decide), wJ_inl, wB_eq, if_pos rfl, wJ_inl, wG_pos o01, wB_eq, if_neg (by decide), wJ_inl, wG_pos z01, wB_eq]
    refine tried_end h (fl 2 1 0 0 (-1) 1 0 ⟨Or.inl ⟨?_, ?_, rfl⟩, ?_, ?_, ?_, ?_, ?_, ?_, Or.inl ?_⟩ (by rw [ne2 _ _ _ (by decide), l0]; decide)) (by omega) (by omega)
    · rw [ne2 _ _ _ (by decide), l0]
    · rw [t5_ne (by omega)]; exact hm0
    · rw [ne2 _ _ _ (by decide), l1]; rfl
    · rw [sI_eq]; rfl
    · rw [ne2 _ _ _ (by decide), l3]; rfl
    · rw [ne2 _ _ _ (by decide), l4]; rfl
    · rw [ne2 _ _ _ (by decide), t5_ne (by omega)]; exact m5
    · rw [ne2 _ _ _ (by decide), t5_ne (by omega)]; exact m6
    · rw [ne2 _ _ _ (by decide), b7]; rfl
  · rw [if_neg (by decide), if_neg (by decide), if_neg (by decide), if_neg (by decide), wR_64, wB_eq, wJ_inl, if_neg (by decide), wJ_inl, wG_pos z01, wB_eq, if_neg (by decide), wJ_inl, wG_pos z01, wB_eq, if_neg (by decide), wJ_inl, wB_eq, if_neg (by decide), wJ_inl, wG_pos z01, wB_eq, if_pos rfl, wJ_inl, wG_pos o01, wB_eq]
    refine tried_end h (fl 3 1 0 0 (-1) 0 1 ⟨Or.inl ⟨?_, ?_, rfl⟩, ?_, ?_, ?_, ?_, ?_, ?_, Or.inl ?_⟩ (by rw [ne2 _ _ _ (by decide), l0]; decide)) (by omega) (by omega)
    · rw [ne2 _ _ _ (by decide), l0]
    · rw [t5_ne (by omega)]; exact hm0
    · rw [ne2 _ _ _ (by decide), l1]; rfl
    · rw [ne2 _ _ _ (by decide), l2]; rfl
    · rw [sI_eq]; rfl
    · rw [ne2 _ _ _ (by decide), l4]; rfl
    · rw [ne2 _ _ _ (by decide), t5_ne (by omega)]; exact m5
    · rw [ne2 _ _ _ (by decide), t5_ne (by omega)]; exact m6
    · rw [ne2 _ _ _ (by decide), b7]; rfl
theorem M_tried {w z x : Int32} (h : GR n m k d u t) : Q1 u t (F_X8_tried 0 w z x u) (F_X9_tried 79 w z x t) := by
  unfold F_X9_tried
  obtain ⟨t0, et⟩ : ∃ t0, t0 = w_sI t 79 2 (0 : Int32) := ⟨_, rfl⟩
  have hK0 : KT t t0 := by rw [et]; exact KT_s (by unfold scr; omega)
  have h := GR_fr h (KC_rf u) hK0
  rw [wB_eq, ← et]
  have n10 : ¬ (1 : Int32) = 0 := by decide
  have fin : Q1 u t (some ((-1 : Int32), u)) (some ((-1 : Int32), t0)) := ⟨_, u, t0, rfl, rfl, KC_rf u, hK0⟩
  have go : ∀ o o' : Option (Int32 × wSt), Q1 u t0 o o' → Q1 u t o o' := fun o o' ⟨r, u', t', q1, q2, q3, q4⟩ => ⟨r, u', t', q1, q2, q3, KT_tr hK0 q4⟩
  obtain ⟨r, a1, a2, a3⟩ := isG (x := z) (GR_Vw h)
  unfold F_X8_tried F_X9_isIn
  by_cases w0 : w < 0
  · rw [if_pos w0, if_pos w0, wP_s, if_pos rfl]
    exact fin
  · rw [if_neg w0, if_neg w0]
    by_cases w4 : (4 : Int32) < w
    · rw [if_pos w4, if_pos w4, wP_s, if_pos rfl]
      exact fin
    · obtain ⟨l, hl, rfl⟩ := in_rng (p := 4) (by omega) w0 w4
      have hw : nI l = 0 ∨ nI l = 1 ∨ nI l = 2 ∨ nI l = 3 ∨ nI l = 4 := by
        have : l = 0 ∨ l = 1 ∨ l = 2 ∨ l = 3 ∨ l = 4 := by omega
        rcases this with rfl | rfl | rfl | rfl | rfl <;> decide
      rw [if_neg w4, if_neg w4, wP_s, if_neg n10]
      by_cases x0 : x < 0
      · rw [if_pos x0, if_pos x0, wP_s, if_pos rfl]
        exact fin
      · rw [if_neg x0, if_neg x0]
        by_cases x2 : x ≤ 200
        · have x2' : ¬ (200 : Int32) < x := by rw [i_nlt]; exact x2
          obtain ⟨j, hj, rfl⟩ := in_rng (p := 200) (by omega) x0 x2'
          rw [if_pos x2, if_neg x2', wP_s, if_neg n10, a1, wP_s, a2, wP_s]
          by_cases l2 : nI l = 2
          · rw [if_pos l2, if_pos l2]
            rcases a3 with rfl | ⟨rfl, g, hg, rfl⟩
            · rw [if_pos rfl, if_pos rfl, wJ_inr, wJ_inr]
              exact fin
            · rw [if_neg n10, if_neg n10, wJ_inl, wJ_inl]
              exact go _ _ (tried_t h hj hw)
          · rw [if_neg l2, if_neg l2]
            by_cases z0 : z = 0
            · rw [if_pos z0, if_pos z0, wJ_inl, wJ_inl]
              exact go _ _ (tried_t h hj hw)
            · rw [if_neg z0, if_neg z0, wJ_inr, wJ_inr]
              exact fin
        · have x2' : (200 : Int32) < x := by rw [← i_nle]; exact x2
          rw [if_neg x2, if_pos x2', wP_s, if_pos rfl]
          exact fin
end

/-! a seating tried -/
section
variable {n m k d st c : Nat} {u t : wSt}
theorem start_77 (h : GR n m k d u t) : ∃ u1, F_X8_startTrial 0 u = some ((), u1) ∧ u1.2.2 = (cb u d 0).2.2 ∧ ∀ a j, 66 ≤ a → u1.1 a j = u.1 a j := by
  have hp : PL (cb u d 0).2.2 := (GR_fr h (cb_KC u d 0) (KT_rf t)).1
  obtain ⟨u1, f1, f2, f3, -⟩ := take_c (a := 57) (b := 43) hp (Or.inr (Or.inr rfl)) (Or.inl rfl) (by decide)
  have r7 : (cb u d 0).2.2 0 7 = 58 := by simp only [PL_u hp]
  have r5 : (cb u d 0).2.2 0 5 = 44 := by simp only [PL_u hp]
  refine ⟨u1, ?_, by rw [f2], fun a j w => ?_⟩
  · unfold F_X8_startTrial
    rw [plain_c h, wC_s]
    unfold wG
    rw [if_pos (by decide), r7, wR_57, r5, wR_43, f1, wC_s]
  · rw [f3 a j (by omega)]
    unfold cb
    rw [sI_ne _ _ _ _ _ _ (by omega), sI_ne _ _ _ _ _ _ (by omega), sI_ne _ _ _ _ _ _ (by omega), sI_ne _ _ _ _ _ _ (by omega), sI_ne _ _ _ _ _ _ (by omega), sI_ne _ _ _ _ _ _ (by omega), sI_ne _ _ _ _ _ _ (by omega)]
    rfl
theorem TR_113 {u1 t1 t2 : wSt} {s : Nat} (h : TR n m k d u t u1 t1 s) (h2 : t2.2 = t1.2) (h1 : ∀ a j, a ≠ 113 → t2.1 a j = t1.1 a j) : TR n m k d u t u1 t2 s := by
  obtain ⟨a1, a2, ⟨b1, b2, b3, b4, b5, b6, b7, b8, b9, b10, b11⟩, a4, a5, a6⟩ := h
  refine ⟨a1, KT_tr a2 ⟨by rw [h2], fun a j q => h1 a j (fun e => q (by unfold scr; omega)), by rw [h2], by rw [h2]⟩, ⟨b1, by rw [h2]; exact b2, b3, b4, b5, b6, ?_, ?_, ?_, ?_, b11⟩, ?_, a5, a6⟩
  · exact Td_fr b7 (fun a j _ _ => rfl) (fun j _ _ => h1 _ _ (by decide)) (fun a j _ _ => h1 _ _ (by omega))
  · unfold Fl at b8 ⊢
    rw [h1 79 60 (by decide), h1 79 61 (by decide), h1 79 62 (by decide), h1 79 63 (by decide), h1 79 64 (by decide), h1 79 65 (by decide), h1 79 66 (by decide), h1 79 67 (by decide), h1 79 68 (by decide)]
    exact b8
  · exact Sc_fr b7.1.1 b7.1.2.1 b9 (fun a j _ _ _ => rfl) (fun a j _ _ _ _ _ => h1 _ _ (by omega))
  · intro e
    rw [h2]
    exact b10 e
  · rw [h1 _ _ (by decide)]
    exact a4
theorem TR_se {u1 t1 : wSt} {s g q : Nat} (h : TR n m k d u t u1 t1 s) (hg : g < n) (hq : q < 6) : TR n m k d u t (w_sI u1 58 g (nI q)) (w_sI t1 106 (6 + g) (nI q)) s := by
  obtain ⟨a1, a2, ⟨b1, b2, b3, b4, b5, b6, b7, b8, ⟨c1, c2, c3, c4, c5, c6, c7⟩, b10, b11⟩, a4, a5, a6⟩ := h
  have ne : ∀ a j, a ≠ 58 → (w_sI u1 58 g (nI q)).1 a j = u1.1 a j := fun a j w => sI_ne _ _ _ _ _ _ w
  have ne' : ∀ a j, a ≠ 106 → (w_sI t1 106 (6 + g) (nI q)).1 a j = t1.1 a j := fun a j w => sI_ne _ _ _ _ _ _ w
  have d1 := TC_le b3
  refine ⟨KC_tr a1 (KC_s (by omega)), KT_tr a2 (KT_s (by unfold scr; omega)), ⟨b1, b2, b3, b4, b5, b6, ?_, ?_, ?_, ?_, b11⟩, ?_, ?_, ?_⟩
  · exact Td_fr b7 (fun a j _ _ => ne _ _ (by omega)) (fun j _ _ => ne' _ _ (by decide)) (fun a j _ _ => ne' _ _ (by omega))
  · unfold Fl at b8 ⊢
    simp only [ne 64 _ (by decide), ne' 79 _ (by decide)]
    exact b8
  · refine ⟨?_, fun g' hg' => ?_, fun f hf => ?_, fun g' hg' => ?_, fun g' hg' => ?_, fun g' hg' => ?_, fun f hf => ?_⟩
    · rw [ne _ _ (by decide), ne' _ _ (by decide)]
      exact c1
    · have z := c2 g' hg'
      rw [ne 57 2 (by decide), ne (57 + 2) _ (by decide), ne (57 + 3) _ (by decide), ne (57 + 4) _ (by decide), ne' 104 _ (by decide), ne' 105 _ (by decide), ne' 108 _ (by decide), ne' 107 _ (by decide)]
      refine ⟨?_, z.2⟩
      show (w_sI t1 106 (6 + g) (nI q)).1 106 (6 * 1 + g') = (w_sI u1 58 g (nI q)).1 58 g'
      rw [sI_row, sI_row]
      by_cases e : g' = g
      · rw [if_pos e, if_pos (by omega)]
      · rw [if_neg e, if_neg (by omega)]
        exact z.1
    · rw [ne 57 3 (by decide), ne (57 + 5) _ (by decide), ne (57 + 6) _ (by decide), ne' 109 _ (by decide), ne' 111 _ (by decide), ne' 110 _ (by decide)]
      exact c3 f hf
    · show ∃ s : Nat, s < 6 ∧ (w_sI u1 58 g (nI q)).1 58 g' = nI s
      rw [sI_row]
      by_cases e : g' = g
      · rw [if_pos e]
        exact ⟨q, hq, rfl⟩
      · rw [if_neg e]
        exact c4 g' hg'
    · rw [ne (57 + 3) _ (by decide), ne 57 2 (by decide)]
      exact c5 g' hg'
    · rw [ne 57 2 (by decide)]
      exact c6 g' hg'
    · rw [ne 57 3 (by decide)]
      exact c7 f hf
  · intro e
    rw [ne 64 0 (by decide)] at e
    rw [ne 57 1 (by decide)]
    exact b10 e
  · rw [ne' _ _ (by decide)]
    exact a4
  · rw [ne _ _ (by decide)]
    exact a5
  · intro g' hq'
    rw [ne _ _ (by decide)]
    exact a6 g' hq'
def csq (n st c : Nat) (u : wSt) : Nat → wSt
  | 0 => u
  | k + 1 => w_sI (csq n st c u k) 58 (rwN n st c k) (nI (k + 1))
def tsq (n st c : Nat) (t : wSt) : Nat → wSt
  | 0 => t
  | k + 1 => w_sI (tsq n st c t k) 106 (6 + rwN n st c k) (nI (k + 1))
theorem csq_ne {j : Nat} : (csq n st c u j).2 = u.2 ∧ ∀ a i, a ≠ 58 → (csq n st c u j).1 a i = u.1 a i := by
  induction j with
  | zero => exact ⟨rfl, fun _ _ _ => rfl⟩
  | succ j ih => exact ⟨ih.1, fun a i w => by unfold csq; rw [sI_ne _ _ _ _ _ _ w]; exact ih.2 a i w⟩
theorem tsq_ne {j : Nat} : (tsq n st c t j).2 = t.2 ∧ ∀ a i, a ≠ 106 → (tsq n st c t j).1 a i = t.1 a i := by
  induction j with
  | zero => exact ⟨rfl, fun _ _ _ => rfl⟩
  | succ j ih => exact ⟨ih.1, fun a i w => by unfold tsq; rw [sI_ne _ _ _ _ _ _ w]; exact ih.2 a i w⟩
theorem TR_sq {u1 t1 : wSt} {s j : Nat} (n6 : n ≤ 6) (hst : st < n) (hc : c < fct (n - 1)) (h : TR n m k d u t u1 t1 s) (hj : j < n) : TR n m k d u t (csq n st c u1 j) (tsq n st c t1 j) s := by
  induction j with
  | zero => exact h
  | succ j ih => exact TR_se (ih (by omega)) (rw_lt n6 hst hc hj) (by omega)
theorem seat_c {u1 : wSt} (hp : PL u1.2.2) (h2 : u1.2.2 0 2 = d + 1) (hd : TC d) (hn : u1.1 d 1 = nI n) (n6 : n ≤ 6) (hst : st < n) (hc : c < fct (n - 1)) (hS : SQ n st c u1) (h0 : u1.1 58 st = 0) : wL (S := Int32 × wSt) (fun x => F_X8_fallenBySeating_b6 0 x.1 x.2) wFu ((0 : Int32), u1) = some (.inl (csq n st c u1 (n - 1))) := by
  have d1 := TC_le hd
  have key : Ro (fun y => y = Sum.inl (csq n st c u1 (n - 1))) (wL (S := Int32 × wSt) (fun x => F_X8_fallenBySeating_b6 0 x.1 x.2) wFu ((0 : Int32), u1)) := by
    refine wL_ro (fun k x => x = (nI k, csq n st c u1 (k - 1))) _ n (by unfold wFu; omega) ?_ rfl
    rintro k x hk rfl
    obtain ⟨v, hv⟩ : ∃ v, v = csq n st c u1 (k - 1) := ⟨_, rfl⟩
    have hv2 : v.2 = u1.2 := by rw [hv]; exact csq_ne.1
    have hvn : ∀ a i, a ≠ 58 → v.1 a i = u1.1 a i := fun a i w => by rw [hv]; exact csq_ne.2 a i w
    have hpv : PL v.2.2 := by rw [hv2]; exact hp
    have r7 : v.2.2 0 7 = 58 := by simp only [PL_u hpv]
    have r12 : v.2.2 0 12 = 78 := by simp only [PL_u hpv]
    have r574 : v.2.2 57 4 = 59 := by simp only [PL_u hpv]
    have p1 : v.2.2 0 2 = d + 1 := by rw [hv2]; exact h2
    have p3 : v.1 d 1 = nI n := by rw [hvn _ _ (by omega)]; exact hn
    have en : (nI n ≤ nI k) = (n ≤ k) := nI_leE (by omega) (by omega)
    rw [← hv]
    unfold F_X8_fallenBySeating_b6
    dsimp only
    rw [p1, wR_d0 _ hd, p3]
    by_cases hkn : n ≤ k
    · right
      have : k = n := by omega
      subst this
      rw [if_pos (by rw [en]; exact hkn)]
      exact ⟨_, rfl, by rw [hv]⟩
    · left
      rw [if_neg (by rw [en]; exact hkn), r7, wR_57, r574, wR_58, r12, wR_77, wN_77 _ (by omega), hvn _ _ (by decide)]
      rcases k with _ | j
      · have e0 : u1.1 77 0 = nI st := hS.1
        have hv' : v = u1 := hv
        rw [e0, wSI_eq, wN_58 _ (by omega), wB_eq, nI_addL, hv', sI_self (x := nI 0) h0]
        exact ⟨_, rfl, by omega, rfl⟩
      · have e0 : u1.1 77 (j + 1) = nI (rwN n st c j) := hS.2 j (by omega)
        have hlt := rw_lt n6 hst hc (j := j) (by omega)
        have hv' : v = csq n st c u1 j := hv
        rw [e0, wSI_eq, wN_58 _ (by omega), wB_eq, nI_addL, hv']
        exact ⟨_, rfl, by omega, rfl⟩
  obtain ⟨y, e, rfl⟩ := key
  exact e
theorem seat_t {t1 : wSt} (hm : PM t1.2.2) (hn : t1.1 79 12 = nI n) (n6 : n ≤ 6) (hst : st < n) (hc : c < fct (n - 1)) (hR : ∀ j, j + 1 < n → t1.1 113 j = nI (rwN n st c j)) : wL (S := Int32 × wSt) (fun x => F_X9_table_b120 79 x.1 x.2) wFu ((1 : Int32), t1) = some (.inl (tsq n st c t1 (n - 1))) := by
  have key : Ro (fun y => y = Sum.inl (tsq n st c t1 (n - 1))) (wL (S := Int32 × wSt) (fun x => F_X9_table_b120 79 x.1 x.2) wFu ((1 : Int32), t1)) := by
    refine wL_ro (fun k x => k < n ∧ x = (nI (k + 1), tsq n st c t1 k)) _ n (by unfold wFu; omega) ?_ ⟨by omega, rfl⟩
    rintro k x hk ⟨hkn, rfl⟩
    obtain ⟨v, hv⟩ : ∃ v, v = tsq n st c t1 k := ⟨_, rfl⟩
    have hv2 : v.2 = t1.2 := by rw [hv]; exact tsq_ne.1
    have hvn : ∀ a i, a ≠ 106 → v.1 a i = t1.1 a i := fun a i w => by rw [hv]; exact tsq_ne.2 a i w
    have hmv : PM v.2.2 := by rw [hv2]; exact hm
    have q51 : v.2.2 79 51 = 107 := by simp only [PM_u hmv]
    have q69 : v.2.2 79 69 = 114 := by simp only [PM_u hmv]
    have en : (nI n ≤ nI (k + 1)) = (n ≤ k + 1) := nI_leE (by omega) (by omega)
    have es : nI (k + 1) - (1 : Int32) = nI k := by
      have := nI_sub (a := k + 1) (b := 1) (by omega)
      rw [Nat.add_sub_cancel] at this
      exact this
    rw [← hv]
    unfold F_X9_table_b120
    dsimp only
    rw [hvn 79 12 (by decide), hn]
    by_cases hkn' : n ≤ k + 1
    · right
      rw [if_pos (by rw [en]; exact hkn')]
      have : k = n - 1 := by omega
      exact ⟨_, rfl, by rw [hv, this]⟩
    · left
      have hlt := rw_lt n6 hst hc (j := k) (by omega)
      have e113 : v.1 113 k = nI (rwN n st c k) := by rw [hvn _ _ (by decide)]; exact hR k (by omega)
      rw [if_neg (by rw [en]; exact hkn'), q51, wR_106, q69, wR_113, es, wN_113 _ (by omega), e113, nI_Ladd, wSI_eq, wN_106 _ (by omega), wB_eq, nI_addL, hv]
      exact ⟨_, rfl, by omega, by omega, rfl⟩
  obtain ⟨y, e, rfl⟩ := key
  exact e
end

/-! the first seating; a row laid -/
theorem wN_cs (i : Int32) (a : Nat) : (∀ {β : Type} (K : Nat → Option β), wN i a K = K i.toNatClampNeg) ∨ (∀ {β : Type} (K : Nat → Option β), wN i a K = none) := by
  by_cases h : 0 ≤ i ∧ i.toNatClampNeg < (w_sh a).2
  · exact Or.inl (fun K => by unfold wN; rw [if_pos h])
  · exact Or.inr (fun K => by unfold wN; rw [if_neg h])
def WA (c : Nat) (u0 u v : wSt) : Prop := u.2 = u0.2 ∧ (∀ a j, a ≠ c → u.1 a j = u0.1 a j) ∧ ∀ j, v.1 c j ≠ -1 → u.1 c j = v.1 c j
theorem WA_s {c j : Nat} {u0 u v : wSt} {x : Int32} (h : WA c u0 u v) : WA c u0 (w_sI u c j x) (w_sI v c j x) := by
  refine ⟨h.1, fun a i w => ?_, fun i hi => ?_⟩
  · rw [sI_ne _ _ _ _ _ _ w]
    exact h.2.1 a i w
  · rw [sI_row] at hi ⊢
    rw [sI_row]
    by_cases e : i = j
    · rw [if_pos e, if_pos e]
    · rw [if_neg e] at hi ⊢
      rw [if_neg e]
      exact h.2.2 i hi
section
variable {u0 u v t0 t : wSt} {d n st : Nat}
theorem first_rp (h0 : A0 u0 d n) (h5 : u0.2.2 0 5 = 44) (h4 : u0.2.2 43 4 = 45) (hs : ∀ g, g < n → (u0.1 44 g = 0 ↔ g = st)) : Rp (fun x y => WA 77 u0 x.2 y.2) (F_X8_firstSeating 0 u0) (F_X8_firstSeating 0 (cS n st)) := by
  obtain ⟨hd, q1, q2, q3, n6⟩ := h0
  have d1 := TC_le hd
  unfold F_X8_firstSeating
  refine wL_rp (fun x y => ∃ (i : Int32) (g : Nat) (u v : wSt), x = (i, nI g, u) ∧ y = (i, nI g, v) ∧ g ≤ n ∧ WA 77 u0 u v ∧ v.2 = (cS n st).2 ∧ ∀ a j, a ≠ 77 → v.1 a j = (cS n st).1 a j) _ ?_ wFu _ _ ⟨1, 0, u0, cS n st, rfl, rfl, by omega, ⟨rfl, fun _ _ _ => rfl, fun j hj => absurd rfl hj⟩, rfl, fun _ _ _ => rfl⟩
  rintro x y ⟨i, g, u, v, rfl, rfl, hg, hW, hv2, hv⟩
  have p1 : u.2.2 0 2 = d + 1 := by rw [hW.1]; exact q1
  have p2 : u.2.2 0 12 = 78 := by rw [hW.1]; exact q2
  have p5 : u.2.2 0 5 = 44 := by rw [hW.1]; exact h5
  have p4 : u.2.2 43 4 = 45 := by rw [hW.1]; exact h4
  have p3 : u.1 d 1 = nI n := by rw [hW.2.1 d 1 (by omega)]; exact q3
  have r1 : v.2.2 0 2 = 3 := by rw [hv2]; rfl
  have r2 : v.2.2 0 12 = 78 := by rw [hv2]; rfl
  have r5 : v.2.2 0 5 = 44 := by rw [hv2]; rfl
  have r4 : v.2.2 43 4 = 45 := by rw [hv2]; rfl
  have r3 : v.1 2 1 = nI n := by rw [hv 2 1 (by omega)]; rfl
  have en : (nI n ≤ nI g) = (n ≤ g) := nI_leE (by omega) (by omega)
  have sv : ∀ (j : Nat) (x : Int32), (w_sI v 77 j x).2 = (cS n st).2 ∧ ∀ a i, a ≠ 77 → (w_sI v 77 j x).1 a i = (cS n st).1 a i := fun j x => ⟨hv2, fun a i w => by rw [sI_ne _ _ _ _ _ _ w]; exact hv a i w⟩
  unfold F_X8_firstSeating_b4 F_X8_firstSeating_j53
  dsimp only
  rw [p1, wR_d0 _ hd, p3, r1, wR_2, r3]
  by_cases hng : n ≤ g
  · right; left
    have hng' : nI n ≤ nI g := by rw [en]; exact hng
    rw [if_pos hng', if_pos hng']
    exact ⟨_, _, rfl, rfl, hW⟩
  · have hng' : ¬ nI n ≤ nI g := by rw [en]; exact hng
    have e44 : u.1 44 g = u0.1 44 g := hW.2.1 _ _ (by decide)
    have f44 : v.1 44 g = if g = st then 0 else 1 := by rw [hv _ _ (by decide)]; rfl
    rw [if_neg hng', if_neg hng', p5, wR_43, p4, wR_44, wN_44 _ (by omega), r5, wR_43, r4, wR_44, wN_44 _ (by omega), e44, f44]
    by_cases hst : g = st
    · left
      have z1 : u0.1 44 g = 0 := (hs g (by omega)).mpr hst
      rw [if_pos z1, if_pos hst, if_pos rfl, p2, wR_77, wSI_eq, wN_lit, wN_77 _ (by omega), wJ_inl, wB_eq, r2, wR_77, wSI_eq, wN_lit, wN_77 _ (by omega), wJ_inl, wB_eq, nI_addL]
      exact ⟨_, _, rfl, rfl, i, g + 1, _, _, rfl, rfl, by omega, WA_s hW, (sv _ _).1, (sv _ _).2⟩
    · have z1 : ¬ u0.1 44 g = 0 := fun e => hst ((hs g (by omega)).mp e)
      have z2 : ¬ (1 : Int32) = 0 := by decide
      rw [if_neg z1, if_neg hst, if_neg z2]
      by_cases h6 : (6 : Int32) ≤ i
      · left
        rw [if_pos h6, if_pos h6, wJ_inl, wB_eq, wJ_inl, wB_eq, nI_addL]
        exact ⟨_, _, rfl, rfl, i, g + 1, _, _, rfl, rfl, by omega, hW, hv2, hv⟩
      · rw [if_neg h6, if_neg h6, p2, wR_77, wSI_eq, r2, wR_77, wSI_eq]
        rcases wN_cs i 77 with w | w
        · left
          rw [w, w, wB_eq, wB_eq, wJ_inl, wJ_inl, wB_eq, wB_eq, nI_addL]
          exact ⟨_, _, rfl, rfl, i + 1, g + 1, _, _, rfl, rfl, by omega, WA_s hW, (sv _ _).1, (sv _ _).2⟩
        · right; right
          rw [w, w]
          exact ⟨rfl, rfl⟩
theorem b43_in (i6 : Int32) (f : Nat) (x : Int32 × Int32) : wL (S := Int32 × Int32) (fun x => F_X9_layRow_b43 i6 t x.1 x.2) f x = none ∨ ∃ w : Int32, wL (S := Int32 × Int32) (fun x => F_X9_layRow_b43 i6 t x.1 x.2) f x = some (.inl w) := by
  have k : Rp (fun y z => y = z ∧ ∃ w, y = Sum.inl w) (wL (S := Int32 × Int32) (fun x => F_X9_layRow_b43 i6 t x.1 x.2) f x) (wL (S := Int32 × Int32) (fun x => F_X9_layRow_b43 i6 t x.1 x.2) f x) := by
    refine wL_rp (fun x y => x = y) _ ?_ f x x rfl
    rintro x y rfl
    unfold F_X9_layRow_b43 F_X9_layRow_j58 F_X9_layRow_j75
    rcases hO : F_X9_isOf i6 x.2 t with _ | o
    · right; right
      exact ⟨rfl, rfl⟩
    · rw [wP_s]
      by_cases ho : o = 0
      · rw [if_pos ho]
        by_cases hx : x.1 ≤ 0
        · right; left
          rw [if_pos hx, wJ_inr]
          exact ⟨_, _, rfl, rfl, rfl, _, rfl⟩
        · left
          rw [if_neg hx, wJ_inl, wP_s, if_pos ho, wJ_inl, wB_eq, wB_eq]
          exact ⟨_, _, rfl, rfl, rfl⟩
      · left
        rw [if_neg ho, wJ_inl, wP_s, if_neg ho, wJ_inl, wB_eq, wB_eq]
        exact ⟨_, _, rfl, rfl, rfl⟩
  rcases k with ⟨e, -⟩ | ⟨y, z, e, -, -, w, rfl⟩
  · exact Or.inl e
  · exact Or.inr ⟨w, e⟩
theorem row_rp {a b c : Int32} (h0 : t0.2.2 79 69 = 114) : Rp (fun x y => WA 113 t0 x.2 y.2) (F_X9_layRow 79 a b c t0) (F_X9_layRow 79 a b c r9) := by
  unfold F_X9_layRow
  refine wL_rp (fun x y => ∃ (p q r : Int32) (t v : wSt), x = (p, q, r, t) ∧ y = (p, q, r, v) ∧ WA 113 t0 t v ∧ v.2 = r9.2) _ ?_ wFu _ _ ⟨c, a, 0, t0, r9, rfl, rfl, ⟨rfl, fun _ _ _ => rfl, fun j hj => absurd rfl hj⟩, rfl⟩
  rintro x y ⟨p, q, r, t, v, rfl, rfl, hW, hv2⟩
  have p1 : t.2.2 79 69 = 114 := by rw [hW.1]; exact h0
  have r1 : v.2.2 79 69 = 114 := by rw [hv2]; rfl
  unfold F_X9_layRow_b9
  dsimp only
  by_cases hb : b ≤ r
  · right; left
    rw [if_pos hb, if_pos hb]
    exact ⟨_, _, rfl, rfl, hW⟩
  · rw [if_neg hb, if_neg hb]
    have er : F_X9_rowsOf ((b - (1 : Int32)) - r) v = F_X9_rowsOf ((b - (1 : Int32)) - r) t := rfl
    have el : ∀ x : Int32 × Int32, F_X9_layRow_b43 p v x.1 x.2 = F_X9_layRow_b43 p t x.1 x.2 := fun x => rfl
    rw [er]
    simp only [el]
    rcases hO : F_X9_rowsOf ((b - (1 : Int32)) - r) t with _ | o
    · right; right
      exact ⟨rfl, rfl⟩
    · rw [wP_s, wP_s]
      by_cases ho : o = 0
      · right; right
        unfold wG
        rw [if_neg (by rw [ho]; decide), if_neg (by rw [ho]; decide)]
        exact ⟨rfl, rfl⟩
      · unfold wG
        simp only [if_pos ho, wB_eq]
        rcases b43_in (t := t) p wFu (q / o, (0 : Int32)) with e | ⟨w, e⟩
        · right; right
          rw [e]
          exact ⟨rfl, rfl⟩
        · rw [e, wJ_inl, wJ_inl]
          unfold F_X9_layRow_j84
          rw [p1, r1, wR_113, wR_113, wSI_eq, wSI_eq]
          rcases wN_cs r 113 with k | k
          · left
            rw [k, k, wB_eq, wB_eq, wB_eq, wB_eq]
            exact ⟨_, _, rfl, rfl, _, _, _, _, _, rfl, rfl, WA_s hW, hv2⟩
          · right; right
            rw [k, k]
            exact ⟨rfl, rfl⟩
end

/-! how likely one feels no draught -/
def wm2 (q j : Nat) : Option (Int64 × Int64) := wL (S := Int64 × Int64 × Int32) (fun x => if nI j ≤ x.2.2 then some (.inr (x.1, x.2.1)) else some (.inl (x.1 * (((100 : Int32) - nI q).toInt64), x.2.1 * (100 : Int64), x.2.2 + 1))) wFu ((1 : Int64), (1 : Int64), (0 : Int32))
def wmg (o : Option (Int64 ⊕ (wSt ⊕ (Int64 × wSt)))) : Option Int64 := match o with
  | some (.inl g) => some g
  | _ => none
def wmS : wSt := (fun _ _ => 0, fun _ _ => 0, fun _ _ => 0)
def wmC (q j w : Nat) : Option Int64 := match F_X8_commonDivisor ((100 : Int32) - nI q) (100 : Int32) wmS with
  | some c => if c = 0 then none else match wL (S := Int64 × Int32) (fun x => F_X8_warm_b64 (nI j) (((if w = 0 then (100 : Int32) - nI q else 100) / c).toInt64) x.1 x.2) wFu ((1 : Int64), (0 : Int32)) with
    | some (.inr v) => some v
    | _ => none
  | none => none
def wmR (q j w : Nat) : Option Int64 := match wm2 q j with
  | some p => match wmg (wL (S := Int64 × Int64) (fun x => F_X9_warm_b76 x.1 x.2) wFu (p.2, p.1)) with
    | some g => if g = 0 then none else some ((if w = 0 then p.1 else p.2) / g)
    | none => none
  | none => none
theorem wm_all : ∀ (q : Fin 101) (j : Fin 7) (w : Fin 2), (wmR q.1 j.1 w.1).isSome = true ∧ wmC q.1 j.1 w.1 = wmR q.1 j.1 w.1 := by decide +kernel
theorem cd_u (x y : Int32) (u v : wSt) : F_X8_commonDivisor x y u = F_X8_commonDivisor x y v := rfl
section
variable {n m k d c b B : Nat} {u t : wSt}
theorem warm_t {q j : Nat} (hm : PM t.2.2) (hq : t.1 83 1 = nI q) (hj : j ≤ 6) : Rl (fun x y => y = .inl x) (wm2 q j) (wL (S := Int64 × Int64 × Int32) (fun x => F_X9_warm_b36 (nI j) t 79 x.1 x.2.1 x.2.2) wFu ((1 : Int64), (1 : Int64), (0 : Int32))) := by
  have q21 : t.2.2 79 21 = 84 := by simp only [PM_u hm]
  unfold wm2
  refine wL_rl (fun i x y => y = x ∧ x.2.2 = nI i) _ j (by unfold wFu; omega) ?_ ⟨rfl, rfl⟩
  rintro i x y hi ⟨rfl, e⟩
  obtain ⟨a, b, c⟩ := y
  have e : c = nI i := e
  subst e
  unfold F_X9_warm_b36
  dsimp only
  have e := nI_leE (a := j) (b := i) (by omega) (by omega)
  by_cases h : j ≤ i
  · right
    have h' : nI j ≤ nI i := by rw [e]; exact h
    exact ⟨(a, b), .inl (a, b), if_pos h', if_pos h', rfl⟩
  · left
    have h' : ¬ nI j ≤ nI i := by rw [e]; exact h
    refine ⟨_, _, if_neg h', ?_, by omega, rfl, by rw [nI_addL]⟩
    rw [if_neg h', q21, wR_83, wN_lit, wN_83 _ (by omega)]
    repeat (first | rw [wB_eq] | rw [wC_s] | rw [wP_s] | rw [wJ_inl] | rw [wJ_inr])
    rw [hq]
theorem M_warm {x y : Int32} (h : GR n m k d u t) : Q0 t (F_X8_warm 0 x y u) (F_X9_warm 79 x y t) := by
  unfold F_X9_warm
  obtain ⟨t0, et⟩ : ∃ t0, t0 = w_sI t 79 2 (0 : Int32) := ⟨_, rfl⟩
  have hK0 : KT t t0 := by rw [et]; exact KT_s (by unfold scr; omega)
  have h := GR_fr h (KC_rf u) hK0
  rw [wB_eq, ← et]
  have hm := h.2.1
  obtain ⟨hp, -, hd, h2, -, ⟨-, -, -, ⟨-, e5, -⟩, ⟨q, hq, eq⟩, -⟩, -⟩ := h
  rw [eq] at e5
  unfold F_X8_warm F_X8_warm_j19 F_X9_warm_j24 F_X9_isIn
  have fin : Q0 t (some (-1 : Int64)) (some ((-1 : Int64), t0)) := ⟨_, t0, rfl, rfl, hK0⟩
  have n10 : ¬ (1 : Int32) = 0 := by decide
  by_cases x0 : x < 0
  · rw [if_pos x0, if_pos x0, wP_s, if_pos rfl, wJ_inl, wJ_inl]
    exact fin
  · rw [if_neg x0, if_neg x0]
    by_cases x6 : (6 : Int32) < x
    · rw [if_pos x6, if_pos x6, wP_s, if_pos rfl, wJ_inl, wJ_inl]
      exact fin
    · rw [if_neg x6, if_neg x6, wP_s, if_neg n10]
      by_cases y0 : y < 0
      · rw [if_pos y0, if_pos y0, wP_s, if_pos rfl, wJ_inl, wJ_inl]
        exact fin
      · rw [if_neg y0, if_neg y0]
        by_cases y1 : y ≤ 1
        · have y1' : ¬ (1 : Int32) < y := by rw [i_nlt]; exact y1
          rw [if_pos y1, if_neg y1', wP_s, if_neg n10]
          obtain ⟨j, hj, rfl⟩ : ∃ j : Nat, j < 7 ∧ x = nI j := by
            refine nI_below (n := 7) (by omega) (by rw [← i_nlt]; exact x0) ?_
            rw [Int32.lt_iff_toInt_lt] at x6 ⊢
            rw [show (6 : Int32).toInt = 6 from by decide] at x6
            rw [show (nI 7).toInt = 7 from by decide]
            omega
          obtain ⟨w, hw, rfl⟩ : ∃ w : Nat, w < 2 ∧ y = nI w := by
            refine nI_below (n := 2) (by omega) (by rw [← i_nlt]; exact y0) ?_
            rw [Int32.lt_iff_toInt_lt] at y1' ⊢
            rw [show (1 : Int32).toInt = 1 from by decide] at y1'
            rw [show (nI 2).toInt = 2 from by decide]
            omega
          obtain ⟨s1, s2⟩ := wm_all ⟨q, by omega⟩ ⟨j, hj⟩ ⟨w, hw⟩
          have hw0 : (nI w = 0) = (w = 0) := nI_eqI (b := 0) (by omega) (by omega)
          obtain ⟨p, y', k1, k2, rfl⟩ := warm_t (q := q) (j := j) hm e5 (by omega)
          obtain ⟨v, hv⟩ : ∃ v, wmR q j w = some v := Option.isSome_iff_exists.mp s1
          rw [hv] at s2
          unfold wmR at hv
          rw [k1] at hv
          dsimp only at hv
          unfold wmC at s2
          rw [cd_u _ _ _ u] at s2
          unfold F_X8_warm_j52 F_X9_warm_j69 F_X9_warm_j101
          rw [k2, wJ_inl, h2, wR_d0 _ hd, wB_eq, eq]
          cases hc : F_X8_commonDivisor ((100 : Int32) - nI q) (100 : Int32) u with
          | none => rw [hc] at s2; cases s2
          | some c =>
            rw [hc] at s2
            dsimp only at s2
            by_cases c0 : c = 0
            · rw [if_pos c0] at s2
              cases s2
            · rw [if_neg c0] at s2
              cases hl : wL (S := Int64 × Int32) (fun x => F_X8_warm_b64 (nI j) (((if w = 0 then (100 : Int32) - nI q else 100) / c).toInt64) x.1 x.2) wFu ((1 : Int64), (0 : Int32)) with
              | none => rw [hl] at s2; cases s2
              | some z =>
                rw [hl] at s2
                cases z with
                | inl _ => cases s2
                | inr v' =>
                  cases s2
                  cases hg : wL (S := Int64 × Int64) (fun x => F_X9_warm_b76 x.1 x.2) wFu (p.2, p.1) with
                  | none => rw [hg] at hv; cases hv
                  | some z =>
                    rw [hg] at hv
                    cases z with
                    | inr _ => cases hv
                    | inl g =>
                      have hv : (if g = 0 then none else some ((if w = 0 then p.1 else p.2) / g)) = some v := hv
                      by_cases g0 : g = 0
                      · rw [if_pos g0] at hv
                        cases hv
                      · rw [if_neg g0] at hv
                        have hv := Option.some.inj hv
                        rw [wP_s, wJ_inl]
                        by_cases w0 : w = 0
                        · have w0' : nI w = 0 := by rw [hw0]; exact w0
                          rw [if_pos w0] at hv hl
                          rw [if_pos w0', wJ_inl, wG_pos c0, wB_eq, hl, wJ_inr, if_pos w0', wG_pos g0, wJ_inr, hv]
                          exact ⟨v, t0, rfl, rfl, hK0⟩
                        · have w0' : ¬ nI w = 0 := by rw [hw0]; exact w0
                          rw [if_neg w0] at hv hl
                          rw [if_neg w0', wJ_inl, wG_pos c0, wB_eq, hl, wJ_inr, if_neg w0', wG_pos g0, wJ_inr, hv]
                          exact ⟨v, t0, rfl, rfl, hK0⟩
        · have y1' : (1 : Int32) < y := by rw [← i_nle]; exact y1
          rw [if_neg y1, if_pos y1', wP_s, if_pos rfl, wJ_inl, wJ_inl]
          exact fin
end

theorem law_step {t L : Nat} (hL : L ≤ 3072) (ht : t ≤ 512) (h : ¬ (Int32.ofNat L - (6 : Int32)) < nI (6 * t)) : t + 1 ≤ 512 ∧ nI (6 * t) + (6 : Int32) = nI (6 * (t + 1)) := by
  have e1 : (nI (6 * t)).toInt = ((6 * t : Nat) : Int) := nI_toInt (by omega)
  have e2 : (Int32.ofNat L).toInt = (L : Int) := nI_toInt (n := L) (by omega)
  rw [Int32.lt_iff_toInt_lt, e1, Int32.toInt_sub, e2] at h
  have e3 : (6 : Int32).toInt = 6 := by decide
  rw [e3, Int.bmod_eq_of_le (by omega) (by omega)] at h
  refine ⟨by omega, ?_⟩
  show Int32.ofNat (6 * t) + Int32.ofNat 6 = Int32.ofNat (6 * (t + 1))
  rw [← Int32.ofNat_add]
  rfl
set_option maxRecDepth 100000 in
set_option maxHeartbeats 4000000 in
theorem law_loop {p : Program} {l : Launch} {e : Env} {s : State} {m : MethodId} {below : List Frame} {meth : Method} {c : Code} {D : va_G} {κ : Nat → ClassId} {ρ : Nat → Nat} {A : Nat → Prop} {b L : Nat} {xs : Nat → Int32} (hC : wCx p m c cL_law 7 s #[Value.ref b] RL D κ 0) (hC1 : wCx p m c cL_law 7 s #[Value.ref b] RL D κ 1) (hr : meth.sig.returnType = ret) (hlk : meth.locks = false) (hX : va_X b L xs s s.heap) (hbl : b < s.heap.size) (hbA : ¬ A b) (hAs : ∀ q, A q → s.heap.size ≤ q) (hL : L ≤ 3072) (hG : wGst p l e s m below meth c b D κ ρ A) : ∀ (k t : Nat) (i0 : Int32) (u0 t0 : wSt) (v0 : Int64) (H : Heap) (locs : List Loc) (ls : Array Slot), t ≤ 512 → i0 = nI (6 * t) → wL (S := Int32 × wSt × wSt × Int64) (fun x => F_law_b L xs x.1 x.2.1 x.2.2.1 x.2.2.2) k (i0, u0, t0, v0) = some 1 → wH2 D κ ρ A s.heap H locs u0 t0 v0 → lv_has ls 7 [(0, .ref b), (1, .ref (ρ 0)), (2, .ref (ρ 79)), (3, .ref (ρ 119)), (4, .int i0)] → W p l e room_1 s m #[Value.ref b] below meth c H locs (120 + 2 * t) (6245 + 16 * t) (lw_Z below #[Value.ref b] s) (F0 m 23 ls []) := by
  have hx := hC.1.1
  have hb := hC.1.2.1
  intro k
  induction k with
  | zero => intro t i0 u0 t0 v0 H locs ls ht hi hF; exact wL_zero hF
  | succ k ih =>
    intro t i0 u0 t0 v0 H locs ls ht hi hF h2 hl
    obtain ⟨q, hF, hq⟩ := wL_some hF
    have hF : F_law_b L xs i0 u0 t0 v0 = some q := hF
    unfold F_law_b at hF
    refine lv_iload hx hb dL_law_23 (lv_at hl 4 rfl) ?_
    refine lv_aload_n hx hb dL_law_25 rfl (lv_at hl 0 rfl) ?_
    refine wx_slen hx hb hX hbl hbA h2 dL_law_26 ?_
    refine lv_bipush hx hb dL_law_27 k_bipush_6 ?_
    refine lv_isub hx hb dL_law_29 ?_
    refine lv_icmp_gt hx hb dL_law_30 (tgt := 1562) rfl (fun h => ?_) (fun h => ?_)
    · refine lv_iconst hx hb dL_law_1562 k_iconst_1 ?_
      refine va_forget (fun q hq => hAs _ (h2.2.2.2.2.2.1.2.2 q hq)) ?_
      refine W.widen (k := 1146) (n := 14449) (by omega) (by omega) ?_
      exact lw_ret hx hb hr hlk dL_law_1563
    have hF := wx_f h hF
    subst hi
    obtain ⟨ht1, hi1⟩ := law_step hL ht h
    generalize hg : nI (6 * t) = i0 at hF hl hi1
    have hcs2 : 120 + 2 * t + 2 ≤ 1146 ∧ 6245 + 16 * t + 16 ≤ 14449 := by omega
    have hcs3 : 120 + 2 * t + 2 ≤ room_1.cells ∧ 6245 + 16 * t + 16 ≤ room_1.slots := hcs2
    have hcs : 120 + 2 * t ≤ room_1.cells ∧ 6245 + 16 * t ≤ room_1.slots := ⟨Nat.le_trans (by omega) hcs3.1, Nat.le_trans (by omega) hcs3.2⟩
    have hE : ∀ (u1 t1 : wSt) (v1 : Int64) (H : Heap) (locs : List Loc) (ls : Array Slot), wL (S := Int32 × wSt × wSt × Int64) (fun x => F_law_b L xs x.1 x.2.1 x.2.2.1 x.2.2.2) k (i0 + (6 : Int32), u1, t1, v1) = some 1 → wH2 D κ ρ A s.heap H locs u1 t1 v1 → lv_has ls 7 [(0, .ref b), (1, .ref (ρ 0)), (2, .ref (ρ 79)), (3, .ref (ρ 119)), (4, .int i0)] → W p l e room_1 s m #[Value.ref b] below meth c H locs (120 + 2 * t + 2) (6245 + 16 * t + 16) (lw_Z below #[Value.ref b] s) (F0 m 1556 ls []) := by
      intro u1 t1 v1 H locs ls hF h2 hl
      refine lv_iinc (v := nI (6 * (t + 1))) hx hb dL_law_1556 hl (k := 4) rfl (by rw [show Int32.ofInt 6 = (6 : Int32) by decide]; exact hi1) (by decide) rfl (fun ls hl => ?_)
      refine lv_goto hx hb dL_law_1559 (tgt := 23) rfl ?_
      rw [hi1] at hF
      exact ih (t + 1) _ u1 t1 v1 H locs ls ht1 rfl hF h2 (lv_sub hl [1, 2, 3, 4, 0] rfl)
    refine lv_aload_n hx hb dL_law_33 rfl (lv_at hl 0 rfl) ?_
    refine lv_iload hx hb dL_law_34 (lv_at hl 4 rfl) ?_
    refine wx_sld hx hb hX hbl hbA h2 dL_law_36 hF (fun j0 hF => ?_)
    refine lv_bipush hx hb dL_law_37 k_bipush_63 ?_
    refine lv_iand hx hb dL_law_39 ?_
    refine wx_leti hF (fun i1 hF => ?_)
    by_cases hs0 : i1 = 0
    · have hF := wx_t hs0 hF
      refine wx_sw hx hb dL_law_40 (by decide) (tgt := 228) (by rw [hs0]; decide) ?_
      exact law_c0 hC hC1 hr hlk hX hbl hbA hG hq hcs hcs2 hcs3 hE hF h2 hl
    have hF := wx_f hs0 hF
    by_cases hs1 : i1 = 1
    · have hF := wx_t hs1 hF
      refine wx_sw hx hb dL_law_40 (by decide) (tgt := 301) (by rw [hs1]; decide) ?_
      exact law_c1 hC hC1 hr hlk hX hbl hbA hG hq hcs hcs2 hcs3 hE hF h2 hl
    have hF := wx_f hs1 hF
    by_cases hs2 : i1 = 2
    · have hF := wx_t hs2 hF
      refine wx_sw hx hb dL_law_40 (by decide) (tgt := 326) (by rw [hs2]; decide) ?_
      exact law_c2 hC hC1 hr hlk hX hbl hbA hG hq hcs hcs2 hcs3 hE hF h2 hl
    have hF := wx_f hs2 hF
    by_cases hs3 : i1 = 3
    · have hF := wx_t hs3 hF
      refine wx_sw hx hb dL_law_40 (by decide) (tgt := 351) (by rw [hs3]; decide) ?_
      exact law_c3 hC hC1 hr hlk hX hbl hbA hG hq hcs hcs2 hcs3 hE hF h2 hl
    have hF := wx_f hs3 hF
    by_cases hs4 : i1 = 4
    · have hF := wx_t hs4 hF
      refine wx_sw hx hb dL_law_40 (by decide) (tgt := 388) (by rw [hs4]; decide) ?_
      exact law_c4 hC hC1 hr hlk hX hbl hbA hG hq hcs hcs2 hcs3 hE hF h2 hl
    have hF := wx_f hs4 hF
    by_cases hs5 : i1 = 5
    · have hF := wx_t hs5 hF
      refine wx_sw hx hb dL_law_40 (by decide) (tgt := 456) (by rw [hs5]; decide) ?_
      exact law_c5 hC hC1 hr hlk hX hbl hbA hG hq hcs hcs2 hcs3 hE hF h2 hl
    have hF := wx_f hs5 hF
    by_cases hs6 : i1 = 6
    · have hF := wx_t hs6 hF
      refine wx_sw hx hb dL_law_40 (by decide) (tgt := 493) (by rw [hs6]; decide) ?_
      exact law_c6 hC hC1 hr hlk hX hbl hbA hG hq hcs hcs2 hcs3 hE hF h2 hl
    have hF := wx_f hs6 hF
    by_cases hs7 : i1 = 7
    · have hF := wx_t hs7 hF
      refine wx_sw hx hb dL_law_40 (by decide) (tgt := 543) (by rw [hs7]; decide) ?_
      exact law_c7 hC hC1 hr hlk hX hbl hbA hG hq hcs hcs2 hcs3 hE hF h2 hl
    have hF := wx_f hs7 hF
    by_cases hs8 : i1 = 8
    · have hF := wx_t hs8 hF
      refine wx_sw hx hb dL_law_40 (by decide) (tgt := 580) (by rw [hs8]; decide) ?_
      exact law_c8 hC hC1 hr hlk hX hbl hbA hG hq hcs hcs2 hcs3 hE hF h2 hl
    have hF := wx_f hs8 hF
    by_cases hs9 : i1 = 9
    · have hF := wx_t hs9 hF
      refine wx_sw hx hb dL_law_40 (by decide) (tgt := 617) (by rw [hs9]; decide) ?_
      exact law_c9 hC hC1 hr hlk hX hbl hbA hG hq hcs hcs2 hcs3 hE hF h2 hl
    have hF := wx_f hs9 hF
    by_cases hs10 : i1 = 10
    · have hF := wx_t hs10 hF
      refine wx_sw hx hb dL_law_40 (by decide) (tgt := 642) (by rw [hs10]; decide) ?_
      exact law_c10 hC hC1 hr hlk hX hbl hbA hG hq hcs hcs2 hcs3 hE hF h2 hl
    have hF := wx_f hs10 hF
    by_cases hs11 : i1 = 11
    · have hF := wx_t hs11 hF
      refine wx_sw hx hb dL_law_40 (by decide) (tgt := 667) (by rw [hs11]; decide) ?_
      exact law_c11 hC hC1 hr hlk hX hbl hbA hG hq hcs hcs2 hcs3 hE hF h2 hl
    have hF := wx_f hs11 hF
    by_cases hs12 : i1 = 12
    · have hF := wx_t hs12 hF
      refine wx_sw hx hb dL_law_40 (by decide) (tgt := 716) (by rw [hs12]; decide) ?_
      exact law_c12 hC hC1 hr hlk hX hbl hbA hG hq hcs hcs2 hcs3 hE hF h2 hl
    have hF := wx_f hs12 hF
    by_cases hs13 : i1 = 13
    · have hF := wx_t hs13 hF
      refine wx_sw hx hb dL_law_40 (by decide) (tgt := 741) (by rw [hs13]; decide) ?_
      exact law_c13 hC hC1 hr hlk hX hbl hbA hG hq hcs hcs2 hcs3 hE hF h2 hl
    have hF := wx_f hs13 hF
    by_cases hs14 : i1 = 14
    · have hF := wx_t hs14 hF
      refine wx_sw hx hb dL_law_40 (by decide) (tgt := 766) (by rw [hs14]; decide) ?_
      exact law_c14 hC hC1 hr hlk hX hbl hbA hG hq hcs hcs2 hcs3 hE hF h2 hl
    have hF := wx_f hs14 hF
    by_cases hs15 : i1 = 15
    · have hF := wx_t hs15 hF
      refine wx_sw hx hb dL_law_40 (by decide) (tgt := 791) (by rw [hs15]; decide) ?_
      exact law_c15 hC hC1 hr hlk hX hbl hbA hG hq hcs hcs2 hcs3 hE hF h2 hl
    have hF := wx_f hs15 hF
    by_cases hs16 : i1 = 16
    · have hF := wx_t hs16 hF
      refine wx_sw hx hb dL_law_40 (by decide) (tgt := 804) (by rw [hs16]; decide) ?_
      exact law_c16 hC hC1 hr hlk hX hbl hbA hG hq hcs hcs2 hcs3 hE hF h2 hl
    have hF := wx_f hs16 hF
    by_cases hs17 : i1 = 17
    · have hF := wx_t hs17 hF
      refine wx_sw hx hb dL_law_40 (by decide) (tgt := 817) (by rw [hs17]; decide) ?_
      exact law_c17 hC hC1 hr hlk hX hbl hbA hG hq hcs hcs2 hcs3 hE hF h2 hl
    have hF := wx_f hs17 hF
    by_cases hs18 : i1 = 18
    · have hF := wx_t hs18 hF
      refine wx_sw hx hb dL_law_40 (by decide) (tgt := 842) (by rw [hs18]; decide) ?_
      exact law_c18 hC hC1 hr hlk hX hbl hbA hG hq hcs hcs2 hcs3 hE hF h2 hl
    have hF := wx_f hs18 hF
    by_cases hs19 : i1 = 19
    · have hF := wx_t hs19 hF
      refine wx_sw hx hb dL_law_40 (by decide) (tgt := 879) (by rw [hs19]; decide) ?_
      exact law_c19 hC hC1 hr hlk hX hbl hbA hG hq hcs hcs2 hcs3 hE hF h2 hl
    have hF := wx_f hs19 hF
    by_cases hs20 : i1 = 20
    · have hF := wx_t hs20 hF
      refine wx_sw hx hb dL_law_40 (by decide) (tgt := 928) (by rw [hs20]; decide) ?_
      exact law_c20 hC hC1 hr hlk hX hbl hbA hG hq hcs hcs2 hcs3 hE hF h2 hl
    have hF := wx_f hs20 hF
    by_cases hs21 : i1 = 21
    · have hF := wx_t hs21 hF
      refine wx_sw hx hb dL_law_40 (by decide) (tgt := 966) (by rw [hs21]; decide) ?_
      exact law_c21 hC hC1 hr hlk hX hbl hbA hG hq hcs hcs2 hcs3 hE hF h2 hl
    have hF := wx_f hs21 hF
    by_cases hs22 : i1 = 22
    · have hF := wx_t hs22 hF
      refine wx_sw hx hb dL_law_40 (by decide) (tgt := 979) (by rw [hs22]; decide) ?_
      exact law_c22 hC hC1 hr hlk hX hbl hbA hG hq hcs hcs2 hcs3 hE hF h2 hl
    have hF := wx_f hs22 hF
    by_cases hs23 : i1 = 23
    · have hF := wx_t hs23 hF
      refine wx_sw hx hb dL_law_40 (by decide) (tgt := 992) (by rw [hs23]; decide) ?_
      exact law_c23 hC hC1 hr hlk hX hbl hbA hG hq hcs hcs2 hcs3 hE hF h2 hl
    have hF := wx_f hs23 hF
    by_cases hs24 : i1 = 24
    · have hF := wx_t hs24 hF
      refine wx_sw hx hb dL_law_40 (by decide) (tgt := 1005) (by rw [hs24]; decide) ?_
      exact law_c24 hC hC1 hr hlk hX hbl hbA hG hq hcs hcs2 hcs3 hE hF h2 hl
    have hF := wx_f hs24 hF
    by_cases hs25 : i1 = 25
    · have hF := wx_t hs25 hF
      refine wx_sw hx hb dL_law_40 (by decide) (tgt := 1018) (by rw [hs25]; decide) ?_
      exact law_c25 hC hC1 hr hlk hX hbl hbA hG hq hcs hcs2 hcs3 hE hF h2 hl
    have hF := wx_f hs25 hF
    by_cases hs26 : i1 = 26
    · have hF := wx_t hs26 hF
      refine wx_sw hx hb dL_law_40 (by decide) (tgt := 1055) (by rw [hs26]; decide) ?_
      exact law_c26 hC hC1 hr hlk hX hbl hbA hG hq hcs hcs2 hcs3 hE hF h2 hl
    have hF := wx_f hs26 hF
    by_cases hs27 : i1 = 27
    · have hF := wx_t hs27 hF
      refine wx_sw hx hb dL_law_40 (by decide) (tgt := 1080) (by rw [hs27]; decide) ?_
      exact law_c27 hC hC1 hr hlk hX hbl hbA hG hq hcs hcs2 hcs3 hE hF h2 hl
    have hF := wx_f hs27 hF
    by_cases hs28 : i1 = 28
    · have hF := wx_t hs28 hF
      refine wx_sw hx hb dL_law_40 (by decide) (tgt := 1117) (by rw [hs28]; decide) ?_
      exact law_c28 hC hC1 hr hlk hX hbl hbA hG hq hcs hcs2 hcs3 hE hF h2 hl
    have hF := wx_f hs28 hF
    by_cases hs29 : i1 = 29
    · have hF := wx_t hs29 hF
      refine wx_sw hx hb dL_law_40 (by decide) (tgt := 1154) (by rw [hs29]; decide) ?_
      exact law_c29 hC hC1 hr hlk hX hbl hbA hG hq hcs hcs2 hcs3 hE hF h2 hl
    have hF := wx_f hs29 hF
    by_cases hs30 : i1 = 30
    · have hF := wx_t hs30 hF
      refine wx_sw hx hb dL_law_40 (by decide) (tgt := 1191) (by rw [hs30]; decide) ?_
      exact law_c30 hC hC1 hr hlk hX hbl hbA hG hq hcs hcs2 hcs3 hE hF h2 hl
    have hF := wx_f hs30 hF
    by_cases hs31 : i1 = 31
    · have hF := wx_t hs31 hF
      refine wx_sw hx hb dL_law_40 (by decide) (tgt := 1204) (by rw [hs31]; decide) ?_
      exact law_c31 hC hC1 hr hlk hX hbl hbA hG hq hcs hcs2 hcs3 hE hF h2 hl
    have hF := wx_f hs31 hF
    by_cases hs32 : i1 = 32
    · have hF := wx_t hs32 hF
      refine wx_sw hx hb dL_law_40 (by decide) (tgt := 1229) (by rw [hs32]; decide) ?_
      exact law_c32 hC hC1 hr hlk hX hbl hbA hG hq hcs hcs2 hcs3 hE hF h2 hl
    have hF := wx_f hs32 hF
    by_cases hs33 : i1 = 33
    · have hF := wx_t hs33 hF
      refine wx_sw hx hb dL_law_40 (by decide) (tgt := 1242) (by rw [hs33]; decide) ?_
      exact law_c33 hC hC1 hr hlk hX hbl hbA hG hq hcs hcs2 hcs3 hE hF h2 hl
    have hF := wx_f hs33 hF
    by_cases hs34 : i1 = 34
    · have hF := wx_t hs34 hF
      refine wx_sw hx hb dL_law_40 (by decide) (tgt := 1319) (by rw [hs34]; decide) ?_
      exact law_c34 hC hC1 hr hlk hX hbl hbA hG hq hcs hcs2 hcs3 hE hF h2 hl
    have hF := wx_f hs34 hF
    by_cases hs35 : i1 = 35
    · have hF := wx_t hs35 hF
      refine wx_sw hx hb dL_law_40 (by decide) (tgt := 1344) (by rw [hs35]; decide) ?_
      exact law_c35 hC hC1 hr hlk hX hbl hbA hG hq hcs hcs2 hcs3 hE hF h2 hl
    have hF := wx_f hs35 hF
    by_cases hs36 : i1 = 36
    · have hF := wx_t hs36 hF
      refine wx_sw hx hb dL_law_40 (by decide) (tgt := 1369) (by rw [hs36]; decide) ?_
      exact law_c36 hC hC1 hr hlk hX hbl hbA hG hq hcs hcs2 hcs3 hE hF h2 hl
    have hF := wx_f hs36 hF
    by_cases hs37 : i1 = 37
    · have hF := wx_t hs37 hF
      refine wx_sw hx hb dL_law_40 (by decide) (tgt := 1394) (by rw [hs37]; decide) ?_
      exact law_c37 hC hC1 hr hlk hX hbl hbA hG hq hcs hcs2 hcs3 hE hF h2 hl
    have hF := wx_f hs37 hF
    by_cases hs38 : i1 = 38
    · have hF := wx_t hs38 hF
      refine wx_sw hx hb dL_law_40 (by decide) (tgt := 1443) (by rw [hs38]; decide) ?_
      exact law_c38 hC hC1 hr hlk hX hbl hbA hG hq hcs hcs2 hcs3 hE hF h2 hl
    have hF := wx_f hs38 hF
    by_cases hs39 : i1 = 39
    · have hF := wx_t hs39 hF
      refine wx_sw hx hb dL_law_40 (by decide) (tgt := 1492) (by rw [hs39]; decide) ?_
      exact law_c39 hC hC1 hr hlk hX hbl hbA hG hq hcs hcs2 hcs3 hE hF h2 hl
    have hF := wx_f hs39 hF
    by_cases hs40 : i1 = 40
    · have hF := wx_t hs40 hF
      refine wx_sw hx hb dL_law_40 (by decide) (tgt := 1505) (by rw [hs40]; decide) ?_
      exact law_c40 hC hC1 hr hlk hX hbl hbA hG hq hcs hcs2 hcs3 hE hF h2 hl
    have hF := wx_f hs40 hF
    by_cases hs41 : i1 = 41
    · have hF := wx_t hs41 hF
      refine wx_sw hx hb dL_law_40 (by decide) (tgt := 1518) (by rw [hs41]; decide) ?_
      exact law_c41 hC hC1 hr hlk hX hbl hbA hG hq hcs hcs2 hcs3 hE hF h2 hl
    have hF := wx_f hs41 hF
    by_cases hs42 : i1 = 42
    · have hF := wx_t hs42 hF
      refine wx_sw hx hb dL_law_40 (by decide) (tgt := 1531) (by rw [hs42]; decide) ?_
      exact law_c42 hC hC1 hr hlk hX hbl hbA hG hq hcs hcs2 hcs3 hE hF h2 hl
    have hF := wx_f hs42 hF
    have hF := wJ_l hq hF
    have htg : ((40 : Nat) : Int) + wTg (1516) (0) (42) #[188, 261, 286, 311, 348, 416, 453, 503, 540, 577, 602, 627, 676, 701, 726, 751, 764, 777, 802, 839, 888, 926, 939, 952, 965, 978, 1015, 1040, 1077, 1114, 1151, 1164, 1189, 1202, 1279, 1304, 1329, 1354, 1403, 1452, 1465, 1478, 1491] i1 = ((1556 : Nat) : Int) := by
      have n0 : ¬ (i1).toInt = 0 := lv_neT (k := 0) (a := 0) hs0 (by decide)
      have n1 : ¬ (i1).toInt = 1 := lv_neT (k := 1) (a := 1) hs1 (by decide)
      have n2 : ¬ (i1).toInt = 2 := lv_neT (k := 2) (a := 2) hs2 (by decide)
      have n3 : ¬ (i1).toInt = 3 := lv_neT (k := 3) (a := 3) hs3 (by decide)
      have n4 : ¬ (i1).toInt = 4 := lv_neT (k := 4) (a := 4) hs4 (by decide)
      have n5 : ¬ (i1).toInt = 5 := lv_neT (k := 5) (a := 5) hs5 (by decide)
      have n6 : ¬ (i1).toInt = 6 := lv_neT (k := 6) (a := 6) hs6 (by decide)
      have n7 : ¬ (i1).toInt = 7 := lv_neT (k := 7) (a := 7) hs7 (by decide)
      have n8 : ¬ (i1).toInt = 8 := lv_neT (k := 8) (a := 8) hs8 (by decide)
      have n9 : ¬ (i1).toInt = 9 := lv_neT (k := 9) (a := 9) hs9 (by decide)
      have n10 : ¬ (i1).toInt = 10 := lv_neT (k := 10) (a := 10) hs10 (by decide)
      have n11 : ¬ (i1).toInt = 11 := lv_neT (k := 11) (a := 11) hs11 (by decide)
      have n12 : ¬ (i1).toInt = 12 := lv_neT (k := 12) (a := 12) hs12 (by decide)
      have n13 : ¬ (i1).toInt = 13 := lv_neT (k := 13) (a := 13) hs13 (by decide)
      have n14 : ¬ (i1).toInt = 14 := lv_neT (k := 14) (a := 14) hs14 (by decide)
      have n15 : ¬ (i1).toInt = 15 := lv_neT (k := 15) (a := 15) hs15 (by decide)
      have n16 : ¬ (i1).toInt = 16 := lv_neT (k := 16) (a := 16) hs16 (by decide)
      have n17 : ¬ (i1).toInt = 17 := lv_neT (k := 17) (a := 17) hs17 (by decide)
      have n18 : ¬ (i1).toInt = 18 := lv_neT (k := 18) (a := 18) hs18 (by decide)
      have n19 : ¬ (i1).toInt = 19 := lv_neT (k := 19) (a := 19) hs19 (by decide)
      have n20 : ¬ (i1).toInt = 20 := lv_neT (k := 20) (a := 20) hs20 (by decide)
      have n21 : ¬ (i1).toInt = 21 := lv_neT (k := 21) (a := 21) hs21 (by decide)
      have n22 : ¬ (i1).toInt = 22 := lv_neT (k := 22) (a := 22) hs22 (by decide)
      have n23 : ¬ (i1).toInt = 23 := lv_neT (k := 23) (a := 23) hs23 (by decide)
      have n24 : ¬ (i1).toInt = 24 := lv_neT (k := 24) (a := 24) hs24 (by decide)
      have n25 : ¬ (i1).toInt = 25 := lv_neT (k := 25) (a := 25) hs25 (by decide)
      have n26 : ¬ (i1).toInt = 26 := lv_neT (k := 26) (a := 26) hs26 (by decide)
      have n27 : ¬ (i1).toInt = 27 := lv_neT (k := 27) (a := 27) hs27 (by decide)
      have n28 : ¬ (i1).toInt = 28 := lv_neT (k := 28) (a := 28) hs28 (by decide)
      have n29 : ¬ (i1).toInt = 29 := lv_neT (k := 29) (a := 29) hs29 (by decide)
      have n30 : ¬ (i1).toInt = 30 := lv_neT (k := 30) (a := 30) hs30 (by decide)
      have n31 : ¬ (i1).toInt = 31 := lv_neT (k := 31) (a := 31) hs31 (by decide)
      have n32 : ¬ (i1).toInt = 32 := lv_neT (k := 32) (a := 32) hs32 (by decide)
      have n33 : ¬ (i1).toInt = 33 := lv_neT (k := 33) (a := 33) hs33 (by decide)
      have n34 : ¬ (i1).toInt = 34 := lv_neT (k := 34) (a := 34) hs34 (by decide)
      have n35 : ¬ (i1).toInt = 35 := lv_neT (k := 35) (a := 35) hs35 (by decide)
      have n36 : ¬ (i1).toInt = 36 := lv_neT (k := 36) (a := 36) hs36 (by decide)
      have n37 : ¬ (i1).toInt = 37 := lv_neT (k := 37) (a := 37) hs37 (by decide)
      have n38 : ¬ (i1).toInt = 38 := lv_neT (k := 38) (a := 38) hs38 (by decide)
      have n39 : ¬ (i1).toInt = 39 := lv_neT (k := 39) (a := 39) hs39 (by decide)
      have n40 : ¬ (i1).toInt = 40 := lv_neT (k := 40) (a := 40) hs40 (by decide)
      have n41 : ¬ (i1).toInt = 41 := lv_neT (k := 41) (a := 41) hs41 (by decide)
      have n42 : ¬ (i1).toInt = 42 := lv_neT (k := 42) (a := 42) hs42 (by decide)
      rw [wTg_lo (by omega)]; rfl
    refine wx_sw hx hb dL_law_40 (by decide) (tgt := 1556) htg ?_
    refine W.widen (k := 120 + 2 * t + 2) (n := 6245 + 16 * t + 16) (by omega) (by omega) ?_
    exact hE u0 t0 v0 H locs ls hF h2 hl

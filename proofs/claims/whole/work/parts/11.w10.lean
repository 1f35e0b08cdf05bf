def F_X9_times_j69 (u0 : wSt) (o1 : Nat) (q2 : Int64) (q3 : Int64) (i9 : Int32) : Option (Int64 × wSt) :=
  wG (i9 = 0 ∨ i9 = 1) (wB (w_sI u0 o1 48 i9) (fun (u10 : wSt) => if (u10.1 o1 48) = 0 then (some ((q2 * q3), u10)) else (some ((0 : Int64), u10))))
def F_X9_times_j64 : Option ((Int32) ⊕ (Int64 × wSt)) :=
  some (.inl (1 : Int32))
def F_X9_times_j49 (u0 : wSt) (o1 : Nat) (q2 : Int64) (q3 : Int64) (i6 : Int32) : Option (Int64 × wSt) :=
  wJ (X := Int32) (wJ (X := Unit) (if (u0.1 o1 48) = 0 then (if i6 = 0 then (some (.inr (.inl (0 : Int32)))) else (some (.inl ()))) else (some (.inl ()))) (fun x => F_X9_times_j64)) (fun x => F_X9_times_j69 u0 o1 q2 q3 x)
def F_X9_times_j48 : Option ((Int32) ⊕ (Int64 × wSt)) :=
  some (.inl (0 : Int32))
def F_X9_times_j39 (q12 : Int64) (q14 : Int64) : Option ((Unit) ⊕ ((Int32) ⊕ (Int64 × wSt))) :=
  wG (¬ q14 = 0) (if (lg_cmp q12 ((1000000000000 : Int64) / q14)) ≤ 0 then (some (.inl ())) else (some (.inr (.inl (1 : Int32)))))
def F_X9_times_j24 (q2 : Int64) (q12 : Int64) : Option ((Unit) ⊕ ((Int32) ⊕ (Int64 × wSt))) :=
  wJ (X := Int64) (if 0 ≤ (lg_cmp q2 (0 : Int64)) then (some (.inl q2)) else (some (.inl (-q2)))) (fun x => F_X9_times_j39 q12 x)
def F_X9_times (o1 : Nat) (q2 : Int64) (q3 : Int64) (u0 : wSt) : Option (Int64 × wSt) :=
  wJ (X := Int32) (wJ (X := Unit) (if (lg_cmp q2 (0 : Int64)) = 0 then (some (.inl ())) else (if (lg_cmp q3 (0 : Int64)) = 0 then (some (.inl ())) else (wJ (X := Int64) (if 0 ≤ (lg_cmp q3 (0 : Int64)) then (some (.inl q3)) else (some (.inl (-q3)))) (fun x => F_X9_times_j24 q2 x)))) (fun x => F_X9_times_j48)) (fun x => F_X9_times_j49 u0 o1 q2 q3 x)
set_option maxRecDepth 100000 in
set_option maxHeartbeats 4000000 in
theorem c_X9_times {l : Launch} {D : va_G} {κ : Nat → ClassId} {ρ : Nat → Nat} (o1 : Nat) (q2 : Int64) (q3 : Int64) (h_o1 : (w_sh o1).1 = 9) : wML l yX9_times cX9_times 6 (wRm 0 0) [.ref (ρ o1), .long q2, .long q3] D κ ρ 1 (fun u => F_X9_times o1 q2 q3 u) := by
  refine wML_of (F := fun u => F_X9_times o1 q2 q3 u) rfl (Nat.le_of_ble_eq_true rfl) (fun u0 z p e s m args below meth c ls A hF hC hr hlk hH hl => ?_)
  have hl : lv_has ls 6 [(0, .ref (ρ o1)), (1, .long q2), (3, .long q3)] := hl
  have hx := hC.1.1
  have hb := hC.1.2.1
  have hF : F_X9_times o1 q2 q3 u0 = some z := hF
  unfold F_X9_times at hF
  change W p l e (wRm 0 0) s m args below meth c s.heap [] 0 0 (wQL below args s A D κ ρ 1 z) (F0 m 0 ls [])
  have key : ∀ (H : Heap) (locs : List Loc), wHp D κ ρ 1 A s.heap H locs u0 → W p l e (wRm 0 0) s m args below meth c H locs 0 0 (wQL below args s A D κ ρ 1 z) (F0 m 0 ls []) := by
    intro H locs hH
    refine lv_lload_n hx hb dX9_times_0 rfl (lv_at hl 1 rfl) ?_
    refine lv_lconst hx hb dX9_times_1 k_lconst_0 ?_
    refine W.lcmp hx hb dX9_times_2 ?_
    obtain ⟨q4_, hF, hq4⟩ := wJ_some hF
    obtain ⟨q5_, hF, hq5⟩ := wJ_some hF
    have hJ49 : ∀ (i6 : Int32) (H : Heap) (locs : List Loc) (ls : Array Slot), F_X9_times_j49 u0 o1 q2 q3 i6 = some z → wHp D κ ρ 1 A s.heap H locs u0 → lv_has ls 6 [(0, .ref (ρ o1)), (1, .long q2), (3, .long q3)] → W p l e (wRm 0 0) s m args below meth c H locs 0 0 (wQL below args s A D κ ρ 1 z) (F0 m 49 ls [.int i6]) := by
      intro i6 H locs ls hF hH hl
      unfold F_X9_times_j49 at hF
      refine wx_istore hx hb dX9_times_49 hl (by decide) (fun ls hl => ?_)
      have hl : lv_has ls 6 [(5, .int i6), (0, .ref (ρ o1)), (1, .long q2), (3, .long q3)] := hl
      refine lv_aload_n hx hb dX9_times_51 rfl (lv_at hl 1 rfl) ?_
      refine lv_aload_n hx hb dX9_times_52 rfl (lv_at hl 1 rfl) ?_
      refine wx_getI hC hH h_o1 rfl f_X9_315 dX9_times_53 ?_
      obtain ⟨q7_, hF, hq7⟩ := wJ_some hF
      obtain ⟨q8_, hF, hq8⟩ := wJ_some hF
      have hJ69 : ∀ (i9 : Int32) (H : Heap) (locs : List Loc) (ls : Array Slot), F_X9_times_j69 u0 o1 q2 q3 i9 = some z → wHp D κ ρ 1 A s.heap H locs u0 → lv_has ls 6 [(0, .ref (ρ o1)), (1, .long q2), (3, .long q3)] → W p l e (wRm 0 0) s m args below meth c H locs 0 0 (wQL below args s A D κ ρ 1 z) (F0 m 69 ls [.int i9, .ref (ρ o1)]) := by
        intro i9 H locs ls hF hH hl
        unfold F_X9_times_j69 at hF
        obtain ⟨h01, hF⟩ := wG_some hF
        refine wx_putZ hC hH h_o1 rfl f_X9_315 g_9_48 dX9_times_69 h01 hF (fun u10 H locs hF hH => ?_)
        refine lv_aload_n hx hb dX9_times_72 rfl (lv_at hl 0 rfl) ?_
        refine wx_getI hC hH h_o1 rfl f_X9_315 dX9_times_73 ?_
        refine lv_if_eq hx hb dX9_times_76 (tgt := 83) rfl (fun h => ?_) (fun h => ?_)
        · have hF := wx_t h hF
          refine lv_lload_n hx hb dX9_times_83 rfl (lv_at hl 1 rfl) ?_
          refine lv_lload_n hx hb dX9_times_84 rfl (lv_at hl 2 rfl) ?_
          refine lv_lmul hx hb dX9_times_85 ?_
          exact wx_lret hC hH hr hlk dX9_times_86 hF
        have hF := wx_f h hF
        refine lv_lconst hx hb dX9_times_79 k_lconst_0 ?_
        refine lv_goto hx hb dX9_times_80 (tgt := 86) rfl ?_
        exact wx_lret hC hH hr hlk dX9_times_86 hF
      have hJ64 : ∀ (H : Heap) (locs : List Loc) (ls : Array Slot), F_X9_times_j64 = some q7_ → wHp D κ ρ 1 A s.heap H locs u0 → lv_has ls 6 [(0, .ref (ρ o1)), (1, .long q2), (3, .long q3)] → W p l e (wRm 0 0) s m args below meth c H locs 0 0 (wQL below args s A D κ ρ 1 z) (F0 m 64 ls [.ref (ρ o1)]) := by
        intro H locs ls hF hH hl
        unfold F_X9_times_j64 at hF
        refine lv_iconst hx hb dX9_times_64 k_iconst_1 ?_
        refine lv_goto hx hb dX9_times_65 (tgt := 69) rfl ?_
        have hF := wJ_l hq7 hF
        exact hJ69 (1 : Int32) H locs ls hF hH (lv_sub hl [0, 1, 2] rfl)
      refine lv_if_ne hx hb dX9_times_56 (tgt := 64) rfl (fun h => ?_) (fun h => ?_)
      · have hF := wx_f h hF
        have hF := wJ_l hq8 hF
        exact hJ64 H locs ls hF hH (lv_sub hl [1, 2, 3] rfl)
      have hF := wx_t h hF
      refine lv_iload hx hb dX9_times_59 (lv_at hl 0 rfl) ?_
      refine lv_if_eq hx hb dX9_times_61 (tgt := 68) rfl (fun h => ?_) (fun h => ?_)
      · have hF := wx_t h hF
        refine lv_iconst hx hb dX9_times_68 k_iconst_0 ?_
        have hF := wJ_r hq8 hF
        have hF := wJ_l hq7 hF
        exact hJ69 (0 : Int32) H locs ls hF hH (lv_sub hl [1, 2, 3] rfl)
      have hF := wx_f h hF
      have hF := wJ_l hq8 hF
      exact hJ64 H locs ls hF hH (lv_sub hl [1, 2, 3] rfl)
    have hJ48 : ∀ (H : Heap) (locs : List Loc) (ls : Array Slot), F_X9_times_j48 = some q4_ → wHp D κ ρ 1 A s.heap H locs u0 → lv_has ls 6 [(0, .ref (ρ o1)), (1, .long q2), (3, .long q3)] → W p l e (wRm 0 0) s m args below meth c H locs 0 0 (wQL below args s A D κ ρ 1 z) (F0 m 48 ls []) := by
      intro H locs ls hF hH hl
      unfold F_X9_times_j48 at hF
      refine lv_iconst hx hb dX9_times_48 k_iconst_0 ?_
      have hF := wJ_l hq4 hF
      exact hJ49 (0 : Int32) H locs ls hF hH (lv_sub hl [0, 1, 2] rfl)
    refine lv_if_eq hx hb dX9_times_3 (tgt := 48) rfl (fun h => ?_) (fun h => ?_)
    · have hF := wx_t h hF
      have hF := wJ_l hq5 hF
      exact hJ48 H locs ls hF hH (lv_sub hl [0, 1, 2] rfl)
    have hF := wx_f h hF
    refine lv_lload_n hx hb dX9_times_6 rfl (lv_at hl 2 rfl) ?_
    refine lv_lconst hx hb dX9_times_7 k_lconst_0 ?_
    refine W.lcmp hx hb dX9_times_8 ?_
    refine lv_if_eq hx hb dX9_times_9 (tgt := 48) rfl (fun h => ?_) (fun h => ?_)
    · have hF := wx_t h hF
      have hF := wJ_l hq5 hF
      exact hJ48 H locs ls hF hH (lv_sub hl [0, 1, 2] rfl)
    have hF := wx_f h hF
    refine lv_lload_n hx hb dX9_times_12 rfl (lv_at hl 2 rfl) ?_
    refine lv_lconst hx hb dX9_times_13 k_lconst_0 ?_
    refine W.lcmp hx hb dX9_times_14 ?_
    obtain ⟨q11_, hF, hq11⟩ := wJ_some hF
    have hJ24 : ∀ (q12 : Int64) (H : Heap) (locs : List Loc) (ls : Array Slot), F_X9_times_j24 q2 q12 = some q5_ → wHp D κ ρ 1 A s.heap H locs u0 → lv_has ls 6 [(0, .ref (ρ o1)), (1, .long q2), (3, .long q3)] → W p l e (wRm 0 0) s m args below meth c H locs 0 0 (wQL below args s A D κ ρ 1 z) (F0 m 24 ls [.long q12]) := by
      intro q12 H locs ls hF hH hl
      unfold F_X9_times_j24 at hF
      refine lv_ldc2 hx hb hC.1.2.2.2.1 (hC.1.2.2.2.2 _ l_X9_318) dX9_times_24 ?_
      refine lv_lload_n hx hb dX9_times_27 rfl (lv_at hl 1 rfl) ?_
      refine lv_lconst hx hb dX9_times_28 k_lconst_0 ?_
      refine W.lcmp hx hb dX9_times_29 ?_
      obtain ⟨q13_, hF, hq13⟩ := wJ_some hF
      have hJ39 : ∀ (q14 : Int64) (H : Heap) (locs : List Loc) (ls : Array Slot), F_X9_times_j39 q12 q14 = some q5_ → wHp D κ ρ 1 A s.heap H locs u0 → lv_has ls 6 [(0, .ref (ρ o1)), (1, .long q2), (3, .long q3)] → W p l e (wRm 0 0) s m args below meth c H locs 0 0 (wQL below args s A D κ ρ 1 z) (F0 m 39 ls [.long q14, .long (1000000000000 : Int64), .long q12]) := by
        intro q14 H locs ls hF hH hl
        unfold F_X9_times_j39 at hF
        obtain ⟨h0, hF⟩ := wG_some hF
        refine lv_ldiv hx hb dX9_times_39 h0 ?_
        refine W.lcmp hx hb dX9_times_40 ?_
        refine lv_if_le hx hb dX9_times_41 (tgt := 48) rfl (fun h => ?_) (fun h => ?_)
        · have hF := wx_t h hF
          have hF := wJ_l hq5 hF
          exact hJ48 H locs ls hF hH (lv_sub hl [0, 1, 2] rfl)
        have hF := wx_f h hF
        refine lv_iconst hx hb dX9_times_44 k_iconst_1 ?_
        refine lv_goto hx hb dX9_times_45 (tgt := 49) rfl ?_
        have hF := wJ_r hq5 hF
        have hF := wJ_l hq4 hF
        exact hJ49 (1 : Int32) H locs ls hF hH (lv_sub hl [0, 1, 2] rfl)
      refine lv_if_ge hx hb dX9_times_30 (tgt := 38) rfl (fun h => ?_) (fun h => ?_)
      · have hF := wx_t h hF
        refine lv_lload_n hx hb dX9_times_38 rfl (lv_at hl 1 rfl) ?_
        have hF := wJ_l hq13 hF
        exact hJ39 q2 H locs ls hF hH (lv_sub hl [0, 1, 2] rfl)
      have hF := wx_f h hF
      refine lv_lload_n hx hb dX9_times_33 rfl (lv_at hl 1 rfl) ?_
      refine lv_lneg hx hb dX9_times_34 ?_
      refine lv_goto hx hb dX9_times_35 (tgt := 39) rfl ?_
      have hF := wJ_l hq13 hF
      exact hJ39 (-q2) H locs ls hF hH (lv_sub hl [0, 1, 2] rfl)
    refine lv_if_ge hx hb dX9_times_15 (tgt := 23) rfl (fun h => ?_) (fun h => ?_)
    · have hF := wx_t h hF
      refine lv_lload_n hx hb dX9_times_23 rfl (lv_at hl 2 rfl) ?_
      have hF := wJ_l hq11 hF
      exact hJ24 q3 H locs ls hF hH (lv_sub hl [0, 1, 2] rfl)
    have hF := wx_f h hF
    refine lv_lload_n hx hb dX9_times_18 rfl (lv_at hl 2 rfl) ?_
    refine lv_lneg hx hb dX9_times_19 ?_
    refine lv_goto hx hb dX9_times_20 (tgt := 24) rfl ?_
    have hF := wJ_l hq11 hF
    exact hJ24 (-q3) H locs ls hF hH (lv_sub hl [0, 1, 2] rfl)
  exact key _ _ hH
def F_X9_valueOf_j240 (u0 : wSt) (o1 : Nat) (q18 : Int64) (q11 : Int64) (i30 : Int32) : Option (Int64 × wSt) :=
  wG (i30 = 0 ∨ i30 = 1) (wB (w_sI u0 o1 48 i30) (fun (u31 : wSt) => if (u31.1 o1 48) = 0 then (wG (¬ q18 = 0) (some ((q11 / q18), u31))) else (some ((0 : Int64), u31))))
def F_X9_valueOf_j235 : Option ((Int32) ⊕ (Int64 × wSt)) :=
  some (.inl (1 : Int32))
def F_X9_valueOf (o1 : Nat) (i2 : Int32) (u0 : wSt) : Option (Int64 × wSt) :=
  wR (u0.2.2 o1 34) 14 (fun o3 => wN i2 o3 (fun j4 => if (u0.1 o3 j4) = 0 then (wR (u0.2.2 o1 36) 14 (fun o39 => wN i2 o39 (fun j40 => some (((u0.1 o39 j40).toInt64), u0)))) else (wR (u0.2.2 o1 34) 14 (fun o5 => wN i2 o5 (fun j6 => if (u0.1 o5 j6) = (1 : Int32) then (wR (u0.2.2 o1 46) 16 (fun o35 => wR (u0.2.2 o1 36) 14 (fun o36 => wN i2 o36 (fun j37 => wN (u0.1 o36 j37) o35 (fun j38 => some ((u0.2.1 o35 j38), u0)))))) else (wR (u0.2.2 o1 47) 16 (fun o7 => wR (u0.2.2 o1 36) 14 (fun o8 => wN i2 o8 (fun j9 => wN (u0.1 o8 j9) o7 (fun j10 => wB (u0.2.1 o7 j10) (fun (q11 : Int64) => wR (u0.2.2 o1 34) 14 (fun o12 => wN i2 o12 (fun j13 => if (u0.1 o12 j13) = (2 : Int32) then (if (lg_cmp q11 (0 : Int64)) = 0 then (some ((1 : Int64), u0)) else (some ((0 : Int64), u0))) else (wR (u0.2.2 o1 47) 16 (fun o14 => wR (u0.2.2 o1 37) 14 (fun o15 => wN i2 o15 (fun j16 => wN (u0.1 o15 j16) o14 (fun j17 => wB (u0.2.1 o14 j17) (fun (q18 : Int64) => wR (u0.2.2 o1 34) 14 (fun o19 => wN i2 o19 (fun j20 => wB (u0.1 o19 j20) (fun (i21 : Int32) => if i21 = 3 then (if (lg_cmp q11 (0 : Int64)) = 0 then (some ((0 : Int64), u0)) else (if (lg_cmp q18 (0 : Int64)) = 0 then (some ((0 : Int64), u0)) else (some ((1 : Int64), u0)))) else (if i21 = 4 then (if (lg_cmp q11 (0 : Int64)) = 0 then (if (lg_cmp q18 (0 : Int64)) = 0 then (some ((0 : Int64), u0)) else (some ((1 : Int64), u0))) else (some ((1 : Int64), u0))) else (if i21 = 11 then (wC (F_X9_bounded o1 (q11 + q18) u0) (fun (q23 : Int64) (u22 : wSt) => some (q23, u22))) else (if i21 = 12 then (wC (F_X9_bounded o1 (q11 - q18) u0) (fun (q25 : Int64) (u24 : wSt) => some (q25, u24))) else (if i21 = 13 then (wC (F_X9_times o1 q11 q18 u0) (fun (q27 : Int64) (u26 : wSt) => some (q27, u26))) else (if i21 = 14 then (wJ (X := Int32) (wJ (X := Unit) (if (u0.1 o1 48) = 0 then (if (lg_cmp q18 (0 : Int64)) = 0 then (some (.inl ())) else (some (.inr (.inl (0 : Int32))))) else (some (.inl ()))) (fun x => F_X9_valueOf_j235)) (fun x => F_X9_valueOf_j240 u0 o1 q18 q11 x)) else (wR (u0.2.2 o1 34) 14 (fun o32 => wN i2 o32 (fun j33 => wP (F_X9_compares (u0.1 o32 j33) q11 q18 u0) (fun (i34 : Int32) => if i34 = 0 then (some ((0 : Int64), u0)) else (some ((1 : Int64), u0)))))))))))))))))))))))))))))))))
set_option maxRecDepth 100000 in
set_option maxHeartbeats 4000000 in
theorem c_X9_valueOf {l : Launch} {D : va_G} {κ : Nat → ClassId} {ρ : Nat → Nat} (o1 : Nat) (i2 : Int32) (h_o1 : (w_sh o1).1 = 9) : wML l yX9_valueOf cX9_valueOf 6 (wRm 1 25) [.ref (ρ o1), .int i2] D κ ρ 1 (fun u => F_X9_valueOf o1 i2 u) := by
  refine wML_of (F := fun u => F_X9_valueOf o1 i2 u) rfl (Nat.le_of_ble_eq_true rfl) (fun u0 z p e s m args below meth c ls A hF hC hr hlk hH hl => ?_)
  have hl : lv_has ls 6 [(0, .ref (ρ o1)), (1, .int i2)] := hl
  have hx := hC.1.1
  have hb := hC.1.2.1
  have hF : F_X9_valueOf o1 i2 u0 = some z := hF
  unfold F_X9_valueOf at hF
  change W p l e (wRm 1 25) s m args below meth c s.heap [] 0 0 (wQL below args s A D κ ρ 1 z) (F0 m 0 ls [])
  have key : ∀ (H : Heap) (locs : List Loc), wHp D κ ρ 1 A s.heap H locs u0 → W p l e (wRm 1 25) s m args below meth c H locs 0 0 (wQL below args s A D κ ρ 1 z) (F0 m 0 ls []) := by
    intro H locs hH
    refine lv_aload_n hx hb dX9_valueOf_0 rfl (lv_at hl 0 rfl) ?_
    refine wx_getR hC hH h_o1 rfl f_X9_63 dX9_valueOf_1 hF (fun o3 h_o3 hF => ?_)
    refine lv_iload_n hx hb dX9_valueOf_4 rfl (lv_at hl 1 rfl) ?_
    refine wx_iald hC hH h_o3 ⟨rfl, rfl⟩ dX9_valueOf_5 hF (fun j4 hF => ?_)
    refine lv_if_ne hx hb dX9_valueOf_6 (tgt := 17) rfl (fun h => ?_) (fun h => ?_)
    · have hF := wx_f h hF
      refine lv_aload_n hx hb dX9_valueOf_17 rfl (lv_at hl 0 rfl) ?_
      refine wx_getR hC hH h_o1 rfl f_X9_63 dX9_valueOf_18 hF (fun o5 h_o5 hF => ?_)
      refine lv_iload_n hx hb dX9_valueOf_21 rfl (lv_at hl 1 rfl) ?_
      refine wx_iald hC hH h_o5 ⟨rfl, rfl⟩ dX9_valueOf_22 hF (fun j6 hF => ?_)
      refine lv_iconst hx hb dX9_valueOf_23 k_iconst_1 ?_
      refine lv_icmp_ne hx hb dX9_valueOf_24 (tgt := 39) rfl (fun h => ?_) (fun h => ?_)
      · have hF := wx_f h hF
        refine lv_aload_n hx hb dX9_valueOf_39 rfl (lv_at hl 0 rfl) ?_
        refine wx_getR hC hH h_o1 rfl f_X9_85 dX9_valueOf_40 hF (fun o7 h_o7 hF => ?_)
        refine lv_aload_n hx hb dX9_valueOf_43 rfl (lv_at hl 0 rfl) ?_
        refine wx_getR hC hH h_o1 rfl f_X9_69 dX9_valueOf_44 hF (fun o8 h_o8 hF => ?_)
        refine lv_iload_n hx hb dX9_valueOf_47 rfl (lv_at hl 1 rfl) ?_
        refine wx_iald hC hH h_o8 ⟨rfl, rfl⟩ dX9_valueOf_48 hF (fun j9 hF => ?_)
        refine wx_lald hC hH h_o7 ⟨rfl, rfl⟩ dX9_valueOf_49 hF (fun j10 hF => ?_)
        refine wx_letl hF (fun q11 hF => ?_)
        refine wx_lstore_n hx hb dX9_valueOf_50 rfl hl (by decide) (fun ls hl => ?_)
        have hl : lv_has ls 6 [(2, .long q11), (0, .ref (ρ o1)), (1, .int i2)] := hl
        refine lv_aload_n hx hb dX9_valueOf_51 rfl (lv_at hl 1 rfl) ?_
        refine wx_getR hC hH h_o1 rfl f_X9_63 dX9_valueOf_52 hF (fun o12 h_o12 hF => ?_)
        refine lv_iload_n hx hb dX9_valueOf_55 rfl (lv_at hl 2 rfl) ?_
        refine wx_iald hC hH h_o12 ⟨rfl, rfl⟩ dX9_valueOf_56 hF (fun j13 hF => ?_)
        refine lv_iconst hx hb dX9_valueOf_57 k_iconst_2 ?_
        refine lv_icmp_ne hx hb dX9_valueOf_58 (tgt := 73) rfl (fun h => ?_) (fun h => ?_)
        · have hF := wx_f h hF
          refine lv_aload_n hx hb dX9_valueOf_73 rfl (lv_at hl 1 rfl) ?_
          refine wx_getR hC hH h_o1 rfl f_X9_85 dX9_valueOf_74 hF (fun o14 h_o14 hF => ?_)
          refine lv_aload_n hx hb dX9_valueOf_77 rfl (lv_at hl 1 rfl) ?_
          refine wx_getR hC hH h_o1 rfl f_X9_72 dX9_valueOf_78 hF (fun o15 h_o15 hF => ?_)
          refine lv_iload_n hx hb dX9_valueOf_81 rfl (lv_at hl 2 rfl) ?_
          refine wx_iald hC hH h_o15 ⟨rfl, rfl⟩ dX9_valueOf_82 hF (fun j16 hF => ?_)
          refine wx_lald hC hH h_o14 ⟨rfl, rfl⟩ dX9_valueOf_83 hF (fun j17 hF => ?_)
          refine wx_letl hF (fun q18 hF => ?_)
          refine wx_lstore hx hb dX9_valueOf_84 hl (by decide) (fun ls hl => ?_)
          have hl : lv_has ls 6 [(4, .long q18), (2, .long q11), (0, .ref (ρ o1)), (1, .int i2)] := hl
          refine lv_aload_n hx hb dX9_valueOf_86 rfl (lv_at hl 2 rfl) ?_
          refine wx_getR hC hH h_o1 rfl f_X9_63 dX9_valueOf_87 hF (fun o19 h_o19 hF => ?_)
          refine lv_iload_n hx hb dX9_valueOf_90 rfl (lv_at hl 3 rfl) ?_
          refine wx_iald hC hH h_o19 ⟨rfl, rfl⟩ dX9_valueOf_91 hF (fun j20 hF => ?_)
          refine wx_leti hF (fun i21 hF => ?_)
          by_cases hs0 : i21 = 3
          · have hF := wx_t hs0 hF
            refine wx_sw hx hb dX9_valueOf_92 (by decide) (tgt := 156) (by rw [hs0]; decide) ?_
            refine lv_lload_n hx hb dX9_valueOf_156 rfl (lv_at hl 1 rfl) ?_
            refine lv_lconst hx hb dX9_valueOf_157 k_lconst_0 ?_
            refine W.lcmp hx hb dX9_valueOf_158 ?_
            refine lv_if_eq hx hb dX9_valueOf_159 (tgt := 173) rfl (fun h => ?_) (fun h => ?_)
            · have hF := wx_t h hF
              refine lv_lconst hx hb dX9_valueOf_173 k_lconst_0 ?_
              exact wx_lret hC hH hr hlk dX9_valueOf_174 hF
            have hF := wx_f h hF
            refine lv_lload hx hb dX9_valueOf_162 (lv_at hl 0 rfl) ?_
            refine lv_lconst hx hb dX9_valueOf_164 k_lconst_0 ?_
            refine W.lcmp hx hb dX9_valueOf_165 ?_
            refine lv_if_eq hx hb dX9_valueOf_166 (tgt := 173) rfl (fun h => ?_) (fun h => ?_)
            · have hF := wx_t h hF
              refine lv_lconst hx hb dX9_valueOf_173 k_lconst_0 ?_
              exact wx_lret hC hH hr hlk dX9_valueOf_174 hF
            have hF := wx_f h hF
            refine lv_lconst hx hb dX9_valueOf_169 k_lconst_1 ?_
            refine lv_goto hx hb dX9_valueOf_170 (tgt := 174) rfl ?_
            exact wx_lret hC hH hr hlk dX9_valueOf_174 hF
          have hF := wx_f hs0 hF
          by_cases hs1 : i21 = 4
          · have hF := wx_t hs1 hF
            refine wx_sw hx hb dX9_valueOf_92 (by decide) (tgt := 175) (by rw [hs1]; decide) ?_
            refine lv_lload_n hx hb dX9_valueOf_175 rfl (lv_at hl 1 rfl) ?_
            refine lv_lconst hx hb dX9_valueOf_176 k_lconst_0 ?_
            refine W.lcmp hx hb dX9_valueOf_177 ?_
            refine lv_if_ne hx hb dX9_valueOf_178 (tgt := 188) rfl (fun h => ?_) (fun h => ?_)
            · have hF := wx_f h hF
              refine lv_lconst hx hb dX9_valueOf_188 k_lconst_1 ?_
              refine lv_goto hx hb dX9_valueOf_189 (tgt := 193) rfl ?_
              exact wx_lret hC hH hr hlk dX9_valueOf_193 hF
            have hF := wx_t h hF
            refine lv_lload hx hb dX9_valueOf_181 (lv_at hl 0 rfl) ?_
            refine lv_lconst hx hb dX9_valueOf_183 k_lconst_0 ?_
            refine W.lcmp hx hb dX9_valueOf_184 ?_
            refine lv_if_eq hx hb dX9_valueOf_185 (tgt := 192) rfl (fun h => ?_) (fun h => ?_)
            · have hF := wx_t h hF
              refine lv_lconst hx hb dX9_valueOf_192 k_lconst_0 ?_
              exact wx_lret hC hH hr hlk dX9_valueOf_193 hF
            have hF := wx_f h hF
            refine lv_lconst hx hb dX9_valueOf_188 k_lconst_1 ?_
            refine lv_goto hx hb dX9_valueOf_189 (tgt := 193) rfl ?_
            exact wx_lret hC hH hr hlk dX9_valueOf_193 hF
          have hF := wx_f hs1 hF
          by_cases hs2 : i21 = 11
          · have hF := wx_t hs2 hF
            refine wx_sw hx hb dX9_valueOf_92 (by decide) (tgt := 194) (by rw [hs2]; decide) ?_
            refine lv_aload_n hx hb dX9_valueOf_194 rfl (lv_at hl 2 rfl) ?_
            refine lv_lload_n hx hb dX9_valueOf_195 rfl (lv_at hl 1 rfl) ?_
            refine lv_lload hx hb dX9_valueOf_196 (lv_at hl 0 rfl) ?_
            refine lv_ladd hx hb dX9_valueOf_198 ?_
            refine wx_evl hC hH hl (c_X9_bounded o1 (q11 + q18) h_o1) y_X9_bounded v_X9_bounded h_o1 rfl m_X9_322 rfl ⟨Nat.le_of_ble_eq_true rfl, Nat.le_of_ble_eq_true rfl⟩ ⟨Nat.le_refl _, Nat.le_refl _⟩ rfl (Nat.le_of_ble_eq_true rfl) dX9_valueOf_199 hF (fun q23 u22 H locs hF hH => ?_)
            exact wx_lret hC hH hr hlk dX9_valueOf_202 hF
          have hF := wx_f hs2 hF
          by_cases hs3 : i21 = 12
          · have hF := wx_t hs3 hF
            refine wx_sw hx hb dX9_valueOf_92 (by decide) (tgt := 203) (by rw [hs3]; decide) ?_
            refine lv_aload_n hx hb dX9_valueOf_203 rfl (lv_at hl 2 rfl) ?_
            refine lv_lload_n hx hb dX9_valueOf_204 rfl (lv_at hl 1 rfl) ?_
            refine lv_lload hx hb dX9_valueOf_205 (lv_at hl 0 rfl) ?_
            refine lv_lsub hx hb dX9_valueOf_207 ?_
            refine wx_evl hC hH hl (c_X9_bounded o1 (q11 - q18) h_o1) y_X9_bounded v_X9_bounded h_o1 rfl m_X9_322 rfl ⟨Nat.le_of_ble_eq_true rfl, Nat.le_of_ble_eq_true rfl⟩ ⟨Nat.le_refl _, Nat.le_refl _⟩ rfl (Nat.le_of_ble_eq_true rfl) dX9_valueOf_208 hF (fun q25 u24 H locs hF hH => ?_)
            exact wx_lret hC hH hr hlk dX9_valueOf_211 hF
          have hF := wx_f hs3 hF
          by_cases hs4 : i21 = 13
          · have hF := wx_t hs4 hF
            refine wx_sw hx hb dX9_valueOf_92 (by decide) (tgt := 212) (by rw [hs4]; decide) ?_
            refine lv_aload_n hx hb dX9_valueOf_212 rfl (lv_at hl 2 rfl) ?_
            refine lv_lload_n hx hb dX9_valueOf_213 rfl (lv_at hl 1 rfl) ?_
            refine lv_lload hx hb dX9_valueOf_214 (lv_at hl 0 rfl) ?_
            refine wx_evl hC hH hl (c_X9_times o1 q11 q18 h_o1) y_X9_times v_X9_times h_o1 rfl m_X9_326 rfl ⟨Nat.le_of_ble_eq_true rfl, Nat.le_of_ble_eq_true rfl⟩ ⟨Nat.le_refl _, Nat.le_refl _⟩ rfl (Nat.le_of_ble_eq_true rfl) dX9_valueOf_216 hF (fun q27 u26 H locs hF hH => ?_)
            exact wx_lret hC hH hr hlk dX9_valueOf_219 hF
          have hF := wx_f hs4 hF
          by_cases hs5 : i21 = 14
          · have hF := wx_t hs5 hF
            refine wx_sw hx hb dX9_valueOf_92 (by decide) (tgt := 220) (by rw [hs5]; decide) ?_
            refine lv_aload_n hx hb dX9_valueOf_220 rfl (lv_at hl 2 rfl) ?_
            refine lv_aload_n hx hb dX9_valueOf_221 rfl (lv_at hl 2 rfl) ?_
            refine wx_getI hC hH h_o1 rfl f_X9_315 dX9_valueOf_222 ?_
            obtain ⟨q28_, hF, hq28⟩ := wJ_some hF
            obtain ⟨q29_, hF, hq29⟩ := wJ_some hF
            have hJ240 : ∀ (i30 : Int32) (H : Heap) (locs : List Loc) (ls : Array Slot), F_X9_valueOf_j240 u0 o1 q18 q11 i30 = some z → wHp D κ ρ 1 A s.heap H locs u0 → lv_has ls 6 [(0, .ref (ρ o1)), (2, .long q11), (4, .long q18)] → W p l e (wRm 1 25) s m args below meth c H locs 0 0 (wQL below args s A D κ ρ 1 z) (F0 m 240 ls [.int i30, .ref (ρ o1)]) := by
              intro i30 H locs ls hF hH hl
              unfold F_X9_valueOf_j240 at hF
              obtain ⟨h01, hF⟩ := wG_some hF
              refine wx_putZ hC hH h_o1 rfl f_X9_315 g_9_48 dX9_valueOf_240 h01 hF (fun u31 H locs hF hH => ?_)
              refine lv_aload_n hx hb dX9_valueOf_243 rfl (lv_at hl 0 rfl) ?_
              refine wx_getI hC hH h_o1 rfl f_X9_315 dX9_valueOf_244 ?_
              refine lv_if_eq hx hb dX9_valueOf_247 (tgt := 254) rfl (fun h => ?_) (fun h => ?_)
              · have hF := wx_t h hF
                refine lv_lload_n hx hb dX9_valueOf_254 rfl (lv_at hl 1 rfl) ?_
                refine lv_lload hx hb dX9_valueOf_255 (lv_at hl 2 rfl) ?_
                obtain ⟨h0, hF⟩ := wG_some hF
                refine lv_ldiv hx hb dX9_valueOf_257 h0 ?_
                exact wx_lret hC hH hr hlk dX9_valueOf_258 hF
              have hF := wx_f h hF
              refine lv_lconst hx hb dX9_valueOf_250 k_lconst_0 ?_
              refine lv_goto hx hb dX9_valueOf_251 (tgt := 258) rfl ?_
              exact wx_lret hC hH hr hlk dX9_valueOf_258 hF
            have hJ235 : ∀ (H : Heap) (locs : List Loc) (ls : Array Slot), F_X9_valueOf_j235 = some q28_ → wHp D κ ρ 1 A s.heap H locs u0 → lv_has ls 6 [(0, .ref (ρ o1)), (2, .long q11), (4, .long q18)] → W p l e (wRm 1 25) s m args below meth c H locs 0 0 (wQL below args s A D κ ρ 1 z) (F0 m 235 ls [.ref (ρ o1)]) := by
              intro H locs ls hF hH hl
              unfold F_X9_valueOf_j235 at hF
              refine lv_iconst hx hb dX9_valueOf_235 k_iconst_1 ?_
              refine lv_goto hx hb dX9_valueOf_236 (tgt := 240) rfl ?_
              have hF := wJ_l hq28 hF
              exact hJ240 (1 : Int32) H locs ls hF hH (lv_sub hl [0, 1, 2] rfl)
            refine lv_if_ne hx hb dX9_valueOf_225 (tgt := 235) rfl (fun h => ?_) (fun h => ?_)
            · have hF := wx_f h hF
              have hF := wJ_l hq29 hF
              exact hJ235 H locs ls hF hH (lv_sub hl [2, 1, 0] rfl)
            have hF := wx_t h hF
            refine lv_lload hx hb dX9_valueOf_228 (lv_at hl 0 rfl) ?_
            refine lv_lconst hx hb dX9_valueOf_230 k_lconst_0 ?_
            refine W.lcmp hx hb dX9_valueOf_231 ?_
            refine lv_if_ne hx hb dX9_valueOf_232 (tgt := 239) rfl (fun h => ?_) (fun h => ?_)
            · have hF := wx_f h hF
              refine lv_iconst hx hb dX9_valueOf_239 k_iconst_0 ?_
              have hF := wJ_r hq29 hF
              have hF := wJ_l hq28 hF
              exact hJ240 (0 : Int32) H locs ls hF hH (lv_sub hl [2, 1, 0] rfl)
            have hF := wx_t h hF
            have hF := wJ_l hq29 hF
            exact hJ235 H locs ls hF hH (lv_sub hl [2, 1, 0] rfl)
          have hF := wx_f hs5 hF
          have htg : ((92 : Nat) : Int) + wTg (167) (3) (14) #[64, 83, 167, 167, 167, 167, 167, 167, 102, 111, 120, 128] i21 = ((259 : Nat) : Int) := by
            by_cases e0 : i21 = 5
            · rw [e0]; decide
            by_cases e1 : i21 = 6
            · rw [e1]; decide
            by_cases e2 : i21 = 7
            · rw [e2]; decide
            by_cases e3 : i21 = 8
            · rw [e3]; decide
            by_cases e4 : i21 = 9
            · rw [e4]; decide
            by_cases e5 : i21 = 10
            · rw [e5]; decide
            have n0 : ¬ (i21).toInt = 3 := lv_neT (k := 3) (a := 3) (fun q => hs0 (q)) (by decide)
            have n1 : ¬ (i21).toInt = 4 := lv_neT (k := 4) (a := 4) (fun q => hs1 (q)) (by decide)
            have n2 : ¬ (i21).toInt = 11 := lv_neT (k := 11) (a := 11) (fun q => hs2 (q)) (by decide)
            have n3 : ¬ (i21).toInt = 12 := lv_neT (k := 12) (a := 12) (fun q => hs3 (q)) (by decide)
            have n4 : ¬ (i21).toInt = 13 := lv_neT (k := 13) (a := 13) (fun q => hs4 (q)) (by decide)
            have n5 : ¬ (i21).toInt = 14 := lv_neT (k := 14) (a := 14) (fun q => hs5 (q)) (by decide)
            have w0 : ¬ (i21).toInt = 5 := lv_neT (k := 5) (a := 5) e0 (by decide)
            have w1 : ¬ (i21).toInt = 6 := lv_neT (k := 6) (a := 6) e1 (by decide)
            have w2 : ¬ (i21).toInt = 7 := lv_neT (k := 7) (a := 7) e2 (by decide)
            have w3 : ¬ (i21).toInt = 8 := lv_neT (k := 8) (a := 8) e3 (by decide)
            have w4 : ¬ (i21).toInt = 9 := lv_neT (k := 9) (a := 9) e4 (by decide)
            have w5 : ¬ (i21).toInt = 10 := lv_neT (k := 10) (a := 10) e5 (by decide)
            rw [wTg_lo (by omega)]; rfl
          refine wx_sw hx hb dX9_valueOf_92 (by decide) (tgt := 259) htg ?_
          refine lv_aload_n hx hb dX9_valueOf_259 rfl (lv_at hl 2 rfl) ?_
          refine wx_getR hC hH h_o1 rfl f_X9_63 dX9_valueOf_260 hF (fun o32 h_o32 hF => ?_)
          refine lv_iload_n hx hb dX9_valueOf_263 rfl (lv_at hl 3 rfl) ?_
          refine wx_iald hC hH h_o32 ⟨rfl, rfl⟩ dX9_valueOf_264 hF (fun j33 hF => ?_)
          refine lv_lload_n hx hb dX9_valueOf_265 rfl (lv_at hl 1 rfl) ?_
          refine lv_lload hx hb dX9_valueOf_266 (lv_at hl 0 rfl) ?_
          refine wx_psi hC hH hl (c_X9_compares (u0.1 o32 j33) q11 q18) y_X9_compares v_X9_compares m_X9_330 rfl ⟨Nat.le_of_ble_eq_true rfl, Nat.le_of_ble_eq_true rfl⟩ ⟨Nat.le_refl _, Nat.le_refl _⟩ rfl (Nat.le_of_ble_eq_true rfl) dX9_valueOf_268 hF (fun i34 H locs hF hH => ?_)
          refine lv_if_eq hx hb dX9_valueOf_271 (tgt := 278) rfl (fun h => ?_) (fun h => ?_)
          · have hF := wx_t h hF
            refine lv_lconst hx hb dX9_valueOf_278 k_lconst_0 ?_
            exact wx_lret hC hH hr hlk dX9_valueOf_279 hF
          have hF := wx_f h hF
          refine lv_lconst hx hb dX9_valueOf_274 k_lconst_1 ?_
          refine lv_goto hx hb dX9_valueOf_275 (tgt := 279) rfl ?_
          exact wx_lret hC hH hr hlk dX9_valueOf_279 hF
        have hF := wx_t h hF
        refine lv_lload_n hx hb dX9_valueOf_61 rfl (lv_at hl 0 rfl) ?_
        refine lv_lconst hx hb dX9_valueOf_62 k_lconst_0 ?_
        refine W.lcmp hx hb dX9_valueOf_63 ?_
        refine lv_if_ne hx hb dX9_valueOf_64 (tgt := 71) rfl (fun h => ?_) (fun h => ?_)
        · have hF := wx_f h hF
          refine lv_lconst hx hb dX9_valueOf_71 k_lconst_0 ?_
          exact wx_lret hC hH hr hlk dX9_valueOf_72 hF
        have hF := wx_t h hF
        refine lv_lconst hx hb dX9_valueOf_67 k_lconst_1 ?_
        refine lv_goto hx hb dX9_valueOf_68 (tgt := 72) rfl ?_
        exact wx_lret hC hH hr hlk dX9_valueOf_72 hF
      have hF := wx_t h hF
      refine lv_aload_n hx hb dX9_valueOf_27 rfl (lv_at hl 0 rfl) ?_
      refine wx_getR hC hH h_o1 rfl f_X9_81 dX9_valueOf_28 hF (fun o35 h_o35 hF => ?_)
      refine lv_aload_n hx hb dX9_valueOf_31 rfl (lv_at hl 0 rfl) ?_
      refine wx_getR hC hH h_o1 rfl f_X9_69 dX9_valueOf_32 hF (fun o36 h_o36 hF => ?_)
      refine lv_iload_n hx hb dX9_valueOf_35 rfl (lv_at hl 1 rfl) ?_
      refine wx_iald hC hH h_o36 ⟨rfl, rfl⟩ dX9_valueOf_36 hF (fun j37 hF => ?_)
      refine wx_lald hC hH h_o35 ⟨rfl, rfl⟩ dX9_valueOf_37 hF (fun j38 hF => ?_)
      exact wx_lret hC hH hr hlk dX9_valueOf_38 hF
    have hF := wx_t h hF
    refine lv_aload_n hx hb dX9_valueOf_9 rfl (lv_at hl 0 rfl) ?_
    refine wx_getR hC hH h_o1 rfl f_X9_69 dX9_valueOf_10 hF (fun o39 h_o39 hF => ?_)
    refine lv_iload_n hx hb dX9_valueOf_13 rfl (lv_at hl 1 rfl) ?_
    refine wx_iald hC hH h_o39 ⟨rfl, rfl⟩ dX9_valueOf_14 hF (fun j40 hF => ?_)
    refine lv_i2l hx hb dX9_valueOf_15 rfl ?_
    exact wx_lret hC hH hr hlk dX9_valueOf_16 hF
  exact key _ _ hH
def F_X9_layTried_j148 (o1 : Nat) (u5 : wSt) : Option (Unit × wSt) :=
  wR (u5.2.2 o1 57) 14 (fun o6 => wR (u5.2.2 o1 57) 14 (fun o7 => wN (0 : Int32) o7 (fun j8 => wSI u5 o6 (1 : Int32) (u5.1 o7 j8) (fun (u9 : wSt) => wC (F_X9_plainTried o1 u9) (fun _ (u10 : wSt) => some ((), u10))))))
def F_X9_layTried_b91 (o1 : Nat) (i12 : Int32) (u13 : wSt) : Option ((Int32 × wSt) ⊕ ((wSt) ⊕ (Unit × wSt))) :=
  if (8 : Int32) ≤ i12 then (some (.inr (.inl u13))) else (wR (u13.2.2 o1 54) 14 (fun o14 => wR (u13.2.2 o1 54) 14 (fun o15 => wN i12 o15 (fun j16 => wSI u13 o14 ((8 : Int32) + i12) (u13.1 o15 j16) (fun (u17 : wSt) => wR (u17.2.2 o1 55) 15 (fun o18 => wR (u17.2.2 o1 55) 15 (fun o19 => wN i12 o19 (fun j20 => wSZ u17 o18 ((8 : Int32) + i12) (u17.1 o19 j20) (fun (u21 : wSt) => wR (u21.2.2 o1 56) 14 (fun o22 => wR (u21.2.2 o1 56) 14 (fun o23 => wN i12 o23 (fun j24 => wSI u21 o22 ((8 : Int32) + i12) (u21.1 o23 j24) (fun (u25 : wSt) => wB (i12 + (1 : Int32)) (fun (i26 : Int32) => some (.inl (i26, u25))))))))))))))))
def F_X9_layTried_j89 (o1 : Nat) (u3 : wSt) : Option (Unit × wSt) :=
  wJ (X := wSt) (wL (S := Int32 × wSt) (fun x => F_X9_layTried_b91 o1 x.1 x.2) wFu ((0 : Int32), u3)) (fun x => F_X9_layTried_j148 o1 x)
def F_X9_layTried_b2 (o1 : Nat) (i28 : Int32) (u29 : wSt) : Option ((Int32 × wSt) ⊕ ((wSt) ⊕ (Unit × wSt))) :=
  if (6 : Int32) ≤ i28 then (some (.inr (.inl u29))) else (wR (u29.2.2 o1 49) 14 (fun o30 => wR (u29.2.2 o1 49) 14 (fun o31 => wN i28 o31 (fun j32 => wSI u29 o30 ((6 : Int32) + i28) (u29.1 o31 j32) (fun (u33 : wSt) => wR (u33.2.2 o1 50) 14 (fun o34 => wR (u33.2.2 o1 50) 14 (fun o35 => wN i28 o35 (fun j36 => wSI u33 o34 ((6 : Int32) + i28) (u33.1 o35 j36) (fun (u37 : wSt) => wR (u37.2.2 o1 51) 14 (fun o38 => wR (u37.2.2 o1 51) 14 (fun o39 => wN i28 o39 (fun j40 => wSI u37 o38 ((6 : Int32) + i28) (u37.1 o39 j40) (fun (u41 : wSt) => wR (u41.2.2 o1 52) 15 (fun o42 => wR (u41.2.2 o1 52) 15 (fun o43 => wN i28 o43 (fun j44 => wSZ u41 o42 ((6 : Int32) + i28) (u41.1 o43 j44) (fun (u45 : wSt) => wR (u45.2.2 o1 53) 14 (fun o46 => wR (u45.2.2 o1 53) 14 (fun o47 => wN i28 o47 (fun j48 => wSI u45 o46 ((6 : Int32) + i28) (u45.1 o47 j48) (fun (u49 : wSt) => wB (i28 + (1 : Int32)) (fun (i50 : Int32) => some (.inl (i50, u49))))))))))))))))))))))))
def F_X9_layTried (o1 : Nat) (u0 : wSt) : Option (Unit × wSt) :=
  wJ (X := wSt) (wL (S := Int32 × wSt) (fun x => F_X9_layTried_b2 o1 x.1 x.2) wFu ((0 : Int32), u0)) (fun x => F_X9_layTried_j89 o1 x)
set_option maxRecDepth 100000 in
set_option maxHeartbeats 4000000 in
theorem c_X9_layTried {l : Launch} {D : va_G} {κ : Nat → ClassId} {ρ : Nat → Nat} (o1 : Nat) (h_o1 : (w_sh o1).1 = 9) : wMV l yX9_layTried cX9_layTried 2 (wRm 1 20) [.ref (ρ o1)] D κ ρ 1 (fun u => F_X9_layTried o1 u) := by
  refine wMV_of (F := fun u => F_X9_layTried o1 u) rfl (Nat.le_of_ble_eq_true rfl) (fun u0 z p e s m args below meth c ls A hF hC hr hlk hH hl => ?_)
  have hl : lv_has ls 2 [(0, .ref (ρ o1))] := hl
  have hx := hC.1.1
  have hb := hC.1.2.1
  have hF : F_X9_layTried o1 u0 = some z := hF
  unfold F_X9_layTried at hF
  change W p l e (wRm 1 20) s m args below meth c s.heap [] 0 0 (wQV below args s A D κ ρ 1 z) (F0 m 0 ls [])
  have key : ∀ (H : Heap) (locs : List Loc), wHp D κ ρ 1 A s.heap H locs u0 → W p l e (wRm 1 20) s m args below meth c H locs 0 0 (wQV below args s A D κ ρ 1 z) (F0 m 0 ls []) := by
    intro H locs hH
    refine lv_iconst hx hb dX9_layTried_0 k_iconst_0 ?_
    refine wx_istore_n hx hb dX9_layTried_1 rfl hl (by decide) (fun ls hl => ?_)
    have hl : lv_has ls 2 [(1, .int (0 : Int32)), (0, .ref (ρ o1))] := hl
    obtain ⟨q2_, hF, hq2⟩ := wJ_some hF
    have hJ89 : ∀ (u3 : wSt) (H : Heap) (locs : List Loc) (ls : Array Slot), F_X9_layTried_j89 o1 u3 = some z → wHp D κ ρ 1 A s.heap H locs u3 → lv_has ls 2 [(0, .ref (ρ o1))] → W p l e (wRm 1 20) s m args below meth c H locs 0 0 (wQV below args s A D κ ρ 1 z) (F0 m 89 ls []) := by
      intro u3 H locs ls hF hH hl
      unfold F_X9_layTried_j89 at hF
      refine lv_iconst hx hb dX9_layTried_89 k_iconst_0 ?_
      refine wx_istore_n hx hb dX9_layTried_90 rfl hl (by decide) (fun ls hl => ?_)
      have hl : lv_has ls 2 [(1, .int (0 : Int32)), (0, .ref (ρ o1))] := hl
      obtain ⟨q4_, hF, hq4⟩ := wJ_some hF
      have hJ148 : ∀ (u5 : wSt) (H : Heap) (locs : List Loc) (ls : Array Slot), F_X9_layTried_j148 o1 u5 = some z → wHp D κ ρ 1 A s.heap H locs u5 → lv_has ls 2 [(0, .ref (ρ o1))] → W p l e (wRm 1 20) s m args below meth c H locs 0 0 (wQV below args s A D κ ρ 1 z) (F0 m 148 ls []) := by
        intro u5 H locs ls hF hH hl
        unfold F_X9_layTried_j148 at hF
        refine lv_aload_n hx hb dX9_layTried_148 rfl (lv_at hl 0 rfl) ?_
        refine wx_getR hC hH h_o1 rfl f_X9_112 dX9_layTried_149 hF (fun o6 h_o6 hF => ?_)
        refine lv_iconst hx hb dX9_layTried_152 k_iconst_1 ?_
        refine lv_aload_n hx hb dX9_layTried_153 rfl (lv_at hl 0 rfl) ?_
        refine wx_getR hC hH h_o1 rfl f_X9_112 dX9_layTried_154 hF (fun o7 h_o7 hF => ?_)
        refine lv_iconst hx hb dX9_layTried_157 k_iconst_0 ?_
        refine wx_iald hC hH h_o7 ⟨rfl, rfl⟩ dX9_layTried_158 hF (fun j8 hF => ?_)
        refine wx_iast hC hH h_o6 ⟨rfl, rfl⟩ dX9_layTried_159 hF (fun u9 H locs hF hH => ?_)
        refine lv_aload_n hx hb dX9_layTried_160 rfl (lv_at hl 0 rfl) ?_
        refine wx_evv hC hH hl (c_X9_plainTried o1 h_o1) y_X9_plainTried v_X9_plainTried h_o1 rfl m_X9_341 rfl ⟨Nat.le_of_ble_eq_true rfl, Nat.le_of_ble_eq_true rfl⟩ ⟨Nat.le_refl _, Nat.le_refl _⟩ rfl (Nat.le_of_ble_eq_true rfl) dX9_layTried_161 hF (fun _ u10 H locs hF hH => ?_)
        exact wx_vret hC hH hr hlk dX9_layTried_164 hF
      have hL91 : ∀ (k11_ : Nat) (i12 : Int32) (u13 : wSt) (H : Heap) (locs : List Loc) (ls : Array Slot), wL (S := Int32 × wSt) (fun x => F_X9_layTried_b91 o1 x.1 x.2) k11_ (i12, u13) = some q4_ → wHp D κ ρ 1 A s.heap H locs u13 → lv_has ls 2 [(0, .ref (ρ o1)), (1, .int i12)] → W p l e (wRm 1 20) s m args below meth c H locs 0 0 (wQV below args s A D κ ρ 1 z) (F0 m 91 ls []) := by
        intro k11_
        induction k11_ with
        | zero => intro i12 u13 H locs ls hF; exact wL_zero hF
        | succ k11_ ih11 =>
          intro i12 u13 H locs ls hF hH hl
          obtain ⟨q11_, hF, hq11⟩ := wL_some hF
          have hF : F_X9_layTried_b91 o1 i12 u13 = some q11_ := hF
          unfold F_X9_layTried_b91 at hF
          refine lv_iload_n hx hb dX9_layTried_91 rfl (lv_at hl 1 rfl) ?_
          refine lv_bipush hx hb dX9_layTried_92 k_bipush_8 ?_
          refine lv_icmp_ge hx hb dX9_layTried_94 (tgt := 148) rfl (fun h => ?_) (fun h => ?_)
          · have hF := wx_t h hF
            have hF := wJ_r hq11 hF
            have hF := wJ_l hq4 hF
            exact hJ148 u13 H locs ls hF hH (lv_sub hl [0] rfl)
          have hF := wx_f h hF
          refine lv_aload_n hx hb dX9_layTried_97 rfl (lv_at hl 0 rfl) ?_
          refine wx_getR hC hH h_o1 rfl f_X9_103 dX9_layTried_98 hF (fun o14 h_o14 hF => ?_)
          refine lv_bipush hx hb dX9_layTried_101 k_bipush_8 ?_
          refine lv_iload_n hx hb dX9_layTried_103 rfl (lv_at hl 1 rfl) ?_
          refine lv_iadd hx hb dX9_layTried_104 ?_
          refine lv_aload_n hx hb dX9_layTried_105 rfl (lv_at hl 0 rfl) ?_
          refine wx_getR hC hH h_o1 rfl f_X9_103 dX9_layTried_106 hF (fun o15 h_o15 hF => ?_)
          refine lv_iload_n hx hb dX9_layTried_109 rfl (lv_at hl 1 rfl) ?_
          refine wx_iald hC hH h_o15 ⟨rfl, rfl⟩ dX9_layTried_110 hF (fun j16 hF => ?_)
          refine wx_iast hC hH h_o14 ⟨rfl, rfl⟩ dX9_layTried_111 hF (fun u17 H locs hF hH => ?_)
          refine lv_aload_n hx hb dX9_layTried_112 rfl (lv_at hl 0 rfl) ?_
          refine wx_getR hC hH h_o1 rfl f_X9_106 dX9_layTried_113 hF (fun o18 h_o18 hF => ?_)
          refine lv_bipush hx hb dX9_layTried_116 k_bipush_8 ?_
          refine lv_iload_n hx hb dX9_layTried_118 rfl (lv_at hl 1 rfl) ?_
          refine lv_iadd hx hb dX9_layTried_119 ?_
          refine lv_aload_n hx hb dX9_layTried_120 rfl (lv_at hl 0 rfl) ?_
          refine wx_getR hC hH h_o1 rfl f_X9_106 dX9_layTried_121 hF (fun o19 h_o19 hF => ?_)
          refine lv_iload_n hx hb dX9_layTried_124 rfl (lv_at hl 1 rfl) ?_
          refine wx_zald hC hH h_o19 ⟨rfl, rfl⟩ dX9_layTried_125 hF (fun j20 hF => ?_)
          refine wx_zast hC hH h_o18 ⟨rfl, rfl⟩ dX9_layTried_126 hF (fun u21 H locs hF hH => ?_)
          refine lv_aload_n hx hb dX9_layTried_127 rfl (lv_at hl 0 rfl) ?_
          refine wx_getR hC hH h_o1 rfl f_X9_109 dX9_layTried_128 hF (fun o22 h_o22 hF => ?_)
          refine lv_bipush hx hb dX9_layTried_131 k_bipush_8 ?_
          refine lv_iload_n hx hb dX9_layTried_133 rfl (lv_at hl 1 rfl) ?_
          refine lv_iadd hx hb dX9_layTried_134 ?_
          refine lv_aload_n hx hb dX9_layTried_135 rfl (lv_at hl 0 rfl) ?_
          refine wx_getR hC hH h_o1 rfl f_X9_109 dX9_layTried_136 hF (fun o23 h_o23 hF => ?_)
          refine lv_iload_n hx hb dX9_layTried_139 rfl (lv_at hl 1 rfl) ?_
          refine wx_iald hC hH h_o23 ⟨rfl, rfl⟩ dX9_layTried_140 hF (fun j24 hF => ?_)
          refine wx_iast hC hH h_o22 ⟨rfl, rfl⟩ dX9_layTried_141 hF (fun u25 H locs hF hH => ?_)
          refine wx_iinc hx hb dX9_layTried_142 k_iconst_1 hl (k := 1) rfl (by decide) hF (fun i26 ls hF hl => ?_)
          have hl : lv_has ls 2 [(1, .int i26), (0, .ref (ρ o1))] := hl
          refine lv_goto hx hb dX9_layTried_145 (tgt := 91) rfl ?_
          have hF := wJ_l hq11 hF
          exact ih11 i26 u25 H locs ls hF hH (lv_sub hl [1, 0] rfl)
      exact hL91 wFu (0 : Int32) u3 H locs ls hF hH (lv_sub hl [1, 0] rfl)
    have hL2 : ∀ (k27_ : Nat) (i28 : Int32) (u29 : wSt) (H : Heap) (locs : List Loc) (ls : Array Slot), wL (S := Int32 × wSt) (fun x => F_X9_layTried_b2 o1 x.1 x.2) k27_ (i28, u29) = some q2_ → wHp D κ ρ 1 A s.heap H locs u29 → lv_has ls 2 [(0, .ref (ρ o1)), (1, .int i28)] → W p l e (wRm 1 20) s m args below meth c H locs 0 0 (wQV below args s A D κ ρ 1 z) (F0 m 2 ls []) := by
      intro k27_
      induction k27_ with
      | zero => intro i28 u29 H locs ls hF; exact wL_zero hF
      | succ k27_ ih27 =>
        intro i28 u29 H locs ls hF hH hl
        obtain ⟨q27_, hF, hq27⟩ := wL_some hF
        have hF : F_X9_layTried_b2 o1 i28 u29 = some q27_ := hF
        unfold F_X9_layTried_b2 at hF
        refine lv_iload_n hx hb dX9_layTried_2 rfl (lv_at hl 1 rfl) ?_
        refine lv_bipush hx hb dX9_layTried_3 k_bipush_6 ?_
        refine lv_icmp_ge hx hb dX9_layTried_5 (tgt := 89) rfl (fun h => ?_) (fun h => ?_)
        · have hF := wx_t h hF
          have hF := wJ_r hq27 hF
          have hF := wJ_l hq2 hF
          exact hJ89 u29 H locs ls hF hH (lv_sub hl [0] rfl)
        have hF := wx_f h hF
        refine lv_aload_n hx hb dX9_layTried_8 rfl (lv_at hl 0 rfl) ?_
        refine wx_getR hC hH h_o1 rfl f_X9_88 dX9_layTried_9 hF (fun o30 h_o30 hF => ?_)
        refine lv_bipush hx hb dX9_layTried_12 k_bipush_6 ?_
        refine lv_iload_n hx hb dX9_layTried_14 rfl (lv_at hl 1 rfl) ?_
        refine lv_iadd hx hb dX9_layTried_15 ?_
        refine lv_aload_n hx hb dX9_layTried_16 rfl (lv_at hl 0 rfl) ?_
        refine wx_getR hC hH h_o1 rfl f_X9_88 dX9_layTried_17 hF (fun o31 h_o31 hF => ?_)
        refine lv_iload_n hx hb dX9_layTried_20 rfl (lv_at hl 1 rfl) ?_
        refine wx_iald hC hH h_o31 ⟨rfl, rfl⟩ dX9_layTried_21 hF (fun j32 hF => ?_)
        refine wx_iast hC hH h_o30 ⟨rfl, rfl⟩ dX9_layTried_22 hF (fun u33 H locs hF hH => ?_)
        refine lv_aload_n hx hb dX9_layTried_23 rfl (lv_at hl 0 rfl) ?_
        refine wx_getR hC hH h_o1 rfl f_X9_91 dX9_layTried_24 hF (fun o34 h_o34 hF => ?_)
        refine lv_bipush hx hb dX9_layTried_27 k_bipush_6 ?_
        refine lv_iload_n hx hb dX9_layTried_29 rfl (lv_at hl 1 rfl) ?_
        refine lv_iadd hx hb dX9_layTried_30 ?_
        refine lv_aload_n hx hb dX9_layTried_31 rfl (lv_at hl 0 rfl) ?_
        refine wx_getR hC hH h_o1 rfl f_X9_91 dX9_layTried_32 hF (fun o35 h_o35 hF => ?_)
        refine lv_iload_n hx hb dX9_layTried_35 rfl (lv_at hl 1 rfl) ?_
        refine wx_iald hC hH h_o35 ⟨rfl, rfl⟩ dX9_layTried_36 hF (fun j36 hF => ?_)
        refine wx_iast hC hH h_o34 ⟨rfl, rfl⟩ dX9_layTried_37 hF (fun u37 H locs hF hH => ?_)
        refine lv_aload_n hx hb dX9_layTried_38 rfl (lv_at hl 0 rfl) ?_
        refine wx_getR hC hH h_o1 rfl f_X9_94 dX9_layTried_39 hF (fun o38 h_o38 hF => ?_)
        refine lv_bipush hx hb dX9_layTried_42 k_bipush_6 ?_
        refine lv_iload_n hx hb dX9_layTried_44 rfl (lv_at hl 1 rfl) ?_
        refine lv_iadd hx hb dX9_layTried_45 ?_
        refine lv_aload_n hx hb dX9_layTried_46 rfl (lv_at hl 0 rfl) ?_
        refine wx_getR hC hH h_o1 rfl f_X9_94 dX9_layTried_47 hF (fun o39 h_o39 hF => ?_)
        refine lv_iload_n hx hb dX9_layTried_50 rfl (lv_at hl 1 rfl) ?_
        refine wx_iald hC hH h_o39 ⟨rfl, rfl⟩ dX9_layTried_51 hF (fun j40 hF => ?_)
        refine wx_iast hC hH h_o38 ⟨rfl, rfl⟩ dX9_layTried_52 hF (fun u41 H locs hF hH => ?_)
        refine lv_aload_n hx hb dX9_layTried_53 rfl (lv_at hl 0 rfl) ?_
        refine wx_getR hC hH h_o1 rfl f_X9_97 dX9_layTried_54 hF (fun o42 h_o42 hF => ?_)
        refine lv_bipush hx hb dX9_layTried_57 k_bipush_6 ?_
        refine lv_iload_n hx hb dX9_layTried_59 rfl (lv_at hl 1 rfl) ?_
        refine lv_iadd hx hb dX9_layTried_60 ?_
        refine lv_aload_n hx hb dX9_layTried_61 rfl (lv_at hl 0 rfl) ?_
        refine wx_getR hC hH h_o1 rfl f_X9_97 dX9_layTried_62 hF (fun o43 h_o43 hF => ?_)
        refine lv_iload_n hx hb dX9_layTried_65 rfl (lv_at hl 1 rfl) ?_
        refine wx_zald hC hH h_o43 ⟨rfl, rfl⟩ dX9_layTried_66 hF (fun j44 hF => ?_)
        refine wx_zast hC hH h_o42 ⟨rfl, rfl⟩ dX9_layTried_67 hF (fun u45 H locs hF hH => ?_)
        refine lv_aload_n hx hb dX9_layTried_68 rfl (lv_at hl 0 rfl) ?_
        refine wx_getR hC hH h_o1 rfl f_X9_100 dX9_layTried_69 hF (fun o46 h_o46 hF => ?_)
        refine lv_bipush hx hb dX9_layTried_72 k_bipush_6 ?_
        refine lv_iload_n hx hb dX9_layTried_74 rfl (lv_at hl 1 rfl) ?_
        refine lv_iadd hx hb dX9_layTried_75 ?_
        refine lv_aload_n hx hb dX9_layTried_76 rfl (lv_at hl 0 rfl) ?_
        refine wx_getR hC hH h_o1 rfl f_X9_100 dX9_layTried_77 hF (fun o47 h_o47 hF => ?_)
        refine lv_iload_n hx hb dX9_layTried_80 rfl (lv_at hl 1 rfl) ?_
        refine wx_iald hC hH h_o47 ⟨rfl, rfl⟩ dX9_layTried_81 hF (fun j48 hF => ?_)
        refine wx_iast hC hH h_o46 ⟨rfl, rfl⟩ dX9_layTried_82 hF (fun u49 H locs hF hH => ?_)
        refine wx_iinc hx hb dX9_layTried_83 k_iconst_1 hl (k := 1) rfl (by decide) hF (fun i50 ls hF hl => ?_)
        have hl : lv_has ls 2 [(1, .int i50), (0, .ref (ρ o1))] := hl
        refine lv_goto hx hb dX9_layTried_86 (tgt := 2) rfl ?_
        have hF := wJ_l hq27 hF
        exact ih27 i50 u49 H locs ls hF hH (lv_sub hl [1, 0] rfl)
    exact hL2 wFu (0 : Int32) u0 H locs ls hF hH (lv_sub hl [1, 0] rfl)
  exact key _ _ hH
def F_X9_isGuest (o1 : Nat) (i2 : Int32) (u0 : wSt) : Option Int32 :=
  if i2 < 0 then (some ((0 : Int32))) else (if (u0.1 o1 12) ≤ i2 then (some ((0 : Int32))) else (some ((1 : Int32))))
set_option maxRecDepth 100000 in
set_option maxHeartbeats 4000000 in
theorem c_X9_isGuest {l : Launch} {D : va_G} {κ : Nat → ClassId} {ρ : Nat → Nat} (o1 : Nat) (i2 : Int32) (h_o1 : (w_sh o1).1 = 9) : wMI l yX9_isGuest cX9_isGuest 2 .boolean (wRm 0 0) [.ref (ρ o1), .int i2] D κ ρ 1 (fun u => wPu (F_X9_isGuest o1 i2 u) u) := by
  refine wMP_of (F := fun u => F_X9_isGuest o1 i2 u) rfl (Nat.le_of_ble_eq_true rfl) (fun u0 z p e s m args below meth c ls A hF hC hr hlk hH hl => ?_)
  have hl : lv_has ls 2 [(0, .ref (ρ o1)), (1, .int i2)] := hl
  have hx := hC.1.1
  have hb := hC.1.2.1
  have hF : F_X9_isGuest o1 i2 u0 = some z := hF
  unfold F_X9_isGuest at hF
  change W p l e (wRm 0 0) s m args below meth c s.heap [] 0 0 (wQI below args s A D κ ρ 1 (z, u0)) (F0 m 0 ls [])
  have key : ∀ (H : Heap) (locs : List Loc), wHp D κ ρ 1 A s.heap H locs u0 → W p l e (wRm 0 0) s m args below meth c H locs 0 0 (wQI below args s A D κ ρ 1 (z, u0)) (F0 m 0 ls []) := by
    intro H locs hH
    refine lv_iload_n hx hb dX9_isGuest_0 rfl (lv_at hl 1 rfl) ?_
    refine lv_if_lt hx hb dX9_isGuest_1 (tgt := 16) rfl (fun h => ?_) (fun h => ?_)
    · have hF := wx_t h hF
      refine lv_iconst hx hb dX9_isGuest_16 k_iconst_0 ?_
      exact wx_zret hC hH hr hlk dX9_isGuest_17 (Or.inl rfl) (wx_pr hF)
    have hF := wx_f h hF
    refine lv_iload_n hx hb dX9_isGuest_4 rfl (lv_at hl 1 rfl) ?_
    refine lv_aload_n hx hb dX9_isGuest_5 rfl (lv_at hl 0 rfl) ?_
    refine wx_getI hC hH h_o1 rfl f_X9_219 dX9_isGuest_6 ?_
    refine lv_icmp_ge hx hb dX9_isGuest_9 (tgt := 16) rfl (fun h => ?_) (fun h => ?_)
    · have hF := wx_t h hF
      refine lv_iconst hx hb dX9_isGuest_16 k_iconst_0 ?_
      exact wx_zret hC hH hr hlk dX9_isGuest_17 (Or.inl rfl) (wx_pr hF)
    have hF := wx_f h hF
    refine lv_iconst hx hb dX9_isGuest_12 k_iconst_1 ?_
    refine lv_goto hx hb dX9_isGuest_13 (tgt := 17) rfl ?_
    exact wx_zret hC hH hr hlk dX9_isGuest_17 (Or.inr rfl) (wx_pr hF)
  exact key _ _ hH
def F_X9_isFruit (o1 : Nat) (i2 : Int32) (u0 : wSt) : Option Int32 :=
  if i2 < 0 then (some ((0 : Int32))) else (if (u0.1 o1 13) ≤ i2 then (some ((0 : Int32))) else (some ((1 : Int32))))
set_option maxRecDepth 100000 in
set_option maxHeartbeats 4000000 in
theorem c_X9_isFruit {l : Launch} {D : va_G} {κ : Nat → ClassId} {ρ : Nat → Nat} (o1 : Nat) (i2 : Int32) (h_o1 : (w_sh o1).1 = 9) : wMI l yX9_isFruit cX9_isFruit 2 .boolean (wRm 0 0) [.ref (ρ o1), .int i2] D κ ρ 1 (fun u => wPu (F_X9_isFruit o1 i2 u) u) := by
  refine wMP_of (F := fun u => F_X9_isFruit o1 i2 u) rfl (Nat.le_of_ble_eq_true rfl) (fun u0 z p e s m args below meth c ls A hF hC hr hlk hH hl => ?_)
  have hl : lv_has ls 2 [(0, .ref (ρ o1)), (1, .int i2)] := hl
  have hx := hC.1.1
  have hb := hC.1.2.1
  have hF : F_X9_isFruit o1 i2 u0 = some z := hF
  unfold F_X9_isFruit at hF
  change W p l e (wRm 0 0) s m args below meth c s.heap [] 0 0 (wQI below args s A D κ ρ 1 (z, u0)) (F0 m 0 ls [])
  have key : ∀ (H : Heap) (locs : List Loc), wHp D κ ρ 1 A s.heap H locs u0 → W p l e (wRm 0 0) s m args below meth c H locs 0 0 (wQI below args s A D κ ρ 1 (z, u0)) (F0 m 0 ls []) := by
    intro H locs hH
    refine lv_iload_n hx hb dX9_isFruit_0 rfl (lv_at hl 1 rfl) ?_
    refine lv_if_lt hx hb dX9_isFruit_1 (tgt := 16) rfl (fun h => ?_) (fun h => ?_)
    · have hF := wx_t h hF
      refine lv_iconst hx hb dX9_isFruit_16 k_iconst_0 ?_
      exact wx_zret hC hH hr hlk dX9_isFruit_17 (Or.inl rfl) (wx_pr hF)
    have hF := wx_f h hF
    refine lv_iload_n hx hb dX9_isFruit_4 rfl (lv_at hl 1 rfl) ?_
    refine lv_aload_n hx hb dX9_isFruit_5 rfl (lv_at hl 0 rfl) ?_
    refine wx_getI hC hH h_o1 rfl f_X9_222 dX9_isFruit_6 ?_
    refine lv_icmp_ge hx hb dX9_isFruit_9 (tgt := 16) rfl (fun h => ?_) (fun h => ?_)
    · have hF := wx_t h hF
      refine lv_iconst hx hb dX9_isFruit_16 k_iconst_0 ?_
      exact wx_zret hC hH hr hlk dX9_isFruit_17 (Or.inl rfl) (wx_pr hF)
    have hF := wx_f h hF
    refine lv_iconst hx hb dX9_isFruit_12 k_iconst_1 ?_
    refine lv_goto hx hb dX9_isFruit_13 (tgt := 17) rfl ?_
    exact wx_zret hC hH hr hlk dX9_isFruit_17 (Or.inr rfl) (wx_pr hF)
  exact key _ _ hH
def F_X9_isOn (o1 : Nat) (i2 : Int32) (i3 : Int32) (u0 : wSt) : Option Int32 :=
  wP (F_X9_isGuest o1 i3 u0) (fun (i4 : Int32) => if i4 = 0 then (some ((0 : Int32))) else (wR (u0.2.2 o1 52) 15 (fun o5 => wN (((6 : Int32) * i2) + i3) o5 (fun j6 => if (u0.1 o5 j6) = 0 then (some ((0 : Int32))) else (wP (F_X9_isOf (u0.1 o1 66) i3 u0) (fun (i7 : Int32) => if i7 = 0 then (some ((1 : Int32))) else (some ((0 : Int32)))))))))
set_option maxRecDepth 100000 in
set_option maxHeartbeats 4000000 in
theorem c_X9_isOn {l : Launch} {D : va_G} {κ : Nat → ClassId} {ρ : Nat → Nat} (o1 : Nat) (i2 : Int32) (i3 : Int32) (h_o1 : (w_sh o1).1 = 9) : wMI l yX9_isOn cX9_isOn 3 .boolean (wRm 1 21) [.ref (ρ o1), .int i2, .int i3] D κ ρ 1 (fun u => wPu (F_X9_isOn o1 i2 i3 u) u) := by
  refine wMP_of (F := fun u => F_X9_isOn o1 i2 i3 u) rfl (Nat.le_of_ble_eq_true rfl) (fun u0 z p e s m args below meth c ls A hF hC hr hlk hH hl => ?_)
  have hl : lv_has ls 3 [(0, .ref (ρ o1)), (1, .int i2), (2, .int i3)] := hl
  have hx := hC.1.1
  have hb := hC.1.2.1
  have hF : F_X9_isOn o1 i2 i3 u0 = some z := hF
  unfold F_X9_isOn at hF
  change W p l e (wRm 1 21) s m args below meth c s.heap [] 0 0 (wQI below args s A D κ ρ 1 (z, u0)) (F0 m 0 ls [])
  have key : ∀ (H : Heap) (locs : List Loc), wHp D κ ρ 1 A s.heap H locs u0 → W p l e (wRm 1 21) s m args below meth c H locs 0 0 (wQI below args s A D κ ρ 1 (z, u0)) (F0 m 0 ls []) := by
    intro H locs hH
    refine lv_aload_n hx hb dX9_isOn_0 rfl (lv_at hl 0 rfl) ?_
    refine lv_iload_n hx hb dX9_isOn_1 rfl (lv_at hl 2 rfl) ?_
    refine wx_pvi hC hH hl (c_X9_isGuest o1 i3 h_o1) y_X9_isGuest v_X9_isGuest h_o1 rfl m_X9_380 rfl ⟨Nat.le_of_ble_eq_true rfl, Nat.le_of_ble_eq_true rfl⟩ ⟨Nat.le_refl _, Nat.le_refl _⟩ rfl (Nat.le_of_ble_eq_true rfl) dX9_isOn_2 hF (fun i4 H locs hF hH => ?_)
    refine lv_if_eq hx hb dX9_isOn_5 (tgt := 37) rfl (fun h => ?_) (fun h => ?_)
    · have hF := wx_t h hF
      refine lv_iconst hx hb dX9_isOn_37 k_iconst_0 ?_
      exact wx_zret hC hH hr hlk dX9_isOn_38 (Or.inl rfl) (wx_pr hF)
    have hF := wx_f h hF
    refine lv_aload_n hx hb dX9_isOn_8 rfl (lv_at hl 0 rfl) ?_
    refine wx_getR hC hH h_o1 rfl f_X9_97 dX9_isOn_9 hF (fun o5 h_o5 hF => ?_)
    refine lv_bipush hx hb dX9_isOn_12 k_bipush_6 ?_
    refine lv_iload_n hx hb dX9_isOn_14 rfl (lv_at hl 1 rfl) ?_
    refine lv_imul hx hb dX9_isOn_15 ?_
    refine lv_iload_n hx hb dX9_isOn_16 rfl (lv_at hl 2 rfl) ?_
    refine lv_iadd hx hb dX9_isOn_17 ?_
    refine wx_zald hC hH h_o5 ⟨rfl, rfl⟩ dX9_isOn_18 hF (fun j6 hF => ?_)
    refine lv_if_eq hx hb dX9_isOn_19 (tgt := 37) rfl (fun h => ?_) (fun h => ?_)
    · have hF := wx_t h hF
      refine lv_iconst hx hb dX9_isOn_37 k_iconst_0 ?_
      exact wx_zret hC hH hr hlk dX9_isOn_38 (Or.inl rfl) (wx_pr hF)
    have hF := wx_f h hF
    refine lv_aload_n hx hb dX9_isOn_22 rfl (lv_at hl 0 rfl) ?_
    refine wx_getI hC hH h_o1 rfl f_X9_371 dX9_isOn_23 ?_
    refine lv_iload_n hx hb dX9_isOn_26 rfl (lv_at hl 2 rfl) ?_
    refine wx_psi hC hH hl (c_X9_isOf (u0.1 o1 66) i3) y_X9_isOf v_X9_isOf m_X9_383 rfl ⟨Nat.le_of_ble_eq_true rfl, Nat.le_of_ble_eq_true rfl⟩ ⟨Nat.le_refl _, Nat.le_refl _⟩ rfl (Nat.le_of_ble_eq_true rfl) dX9_isOn_27 hF (fun i7 H locs hF hH => ?_)
    refine lv_if_ne hx hb dX9_isOn_30 (tgt := 37) rfl (fun h => ?_) (fun h => ?_)
    · have hF := wx_f h hF
      refine lv_iconst hx hb dX9_isOn_37 k_iconst_0 ?_
      exact wx_zret hC hH hr hlk dX9_isOn_38 (Or.inl rfl) (wx_pr hF)
    have hF := wx_t h hF
    refine lv_iconst hx hb dX9_isOn_33 k_iconst_1 ?_
    refine lv_goto hx hb dX9_isOn_34 (tgt := 38) rfl ?_
    exact wx_zret hC hH hr hlk dX9_isOn_38 (Or.inr rfl) (wx_pr hF)
  exact key _ _ hH
def F_X9_thereMany_j27 (i4 : Int32) (i5 : Int32) (i8 : Int32) : Option ((Int32 × Int32) ⊕ Int32) :=
  wB (i4 + i8) (fun (i9 : Int32) => wB (i5 + (1 : Int32)) (fun (i10 : Int32) => some (.inl (i9, i10))))
def F_X9_thereMany_b4 (u0 : wSt) (o1 : Nat) (i2 : Int32) (i4 : Int32) (i5 : Int32) : Option ((Int32 × Int32) ⊕ Int32) :=
  if (u0.1 o1 12) ≤ i5 then (some (.inr (i4))) else (wP (F_X9_isOn o1 i2 i5 u0) (fun (i6 : Int32) => wJ (X := Int32) (if i6 = 0 then (some (.inl (0 : Int32))) else (some (.inl (1 : Int32)))) (fun x => F_X9_thereMany_j27 i4 i5 x)))
def F_X9_thereMany (o1 : Nat) (i2 : Int32) (u0 : wSt) : Option Int32 :=
  wL (S := Int32 × Int32) (fun x => F_X9_thereMany_b4 u0 o1 i2 x.1 x.2) wFu ((0 : Int32), (0 : Int32))
set_option maxRecDepth 100000 in
set_option maxHeartbeats 4000000 in
theorem c_X9_thereMany {l : Launch} {D : va_G} {κ : Nat → ClassId} {ρ : Nat → Nat} (o1 : Nat) (i2 : Int32) (h_o1 : (w_sh o1).1 = 9) : wMI l yX9_thereMany cX9_thereMany 4 .int (wRm 2 43) [.ref (ρ o1), .int i2] D κ ρ 1 (fun u => wPu (F_X9_thereMany o1 i2 u) u) := by
  refine wMP_of (F := fun u => F_X9_thereMany o1 i2 u) rfl (Nat.le_of_ble_eq_true rfl) (fun u0 z p e s m args below meth c ls A hF hC hr hlk hH hl => ?_)
  have hl : lv_has ls 4 [(0, .ref (ρ o1)), (1, .int i2)] := hl
  have hx := hC.1.1
  have hb := hC.1.2.1
  have hF : F_X9_thereMany o1 i2 u0 = some z := hF
  unfold F_X9_thereMany at hF
  change W p l e (wRm 2 43) s m args below meth c s.heap [] 0 0 (wQI below args s A D κ ρ 1 (z, u0)) (F0 m 0 ls [])
  have key : ∀ (H : Heap) (locs : List Loc), wHp D κ ρ 1 A s.heap H locs u0 → W p l e (wRm 2 43) s m args below meth c H locs 0 0 (wQI below args s A D κ ρ 1 (z, u0)) (F0 m 0 ls []) := by
    intro H locs hH
    refine lv_iconst hx hb dX9_thereMany_0 k_iconst_0 ?_
    refine wx_istore_n hx hb dX9_thereMany_1 rfl hl (by decide) (fun ls hl => ?_)
    have hl : lv_has ls 4 [(2, .int (0 : Int32)), (0, .ref (ρ o1)), (1, .int i2)] := hl
    refine lv_iconst hx hb dX9_thereMany_2 k_iconst_0 ?_
    refine wx_istore_n hx hb dX9_thereMany_3 rfl hl (by decide) (fun ls hl => ?_)
    have hl : lv_has ls 4 [(3, .int (0 : Int32)), (2, .int (0 : Int32)), (0, .ref (ρ o1)), (1, .int i2)] := hl
    have hL4 : ∀ (k3_ : Nat) (i4 : Int32) (i5 : Int32) (H : Heap) (locs : List Loc) (ls : Array Slot), wL (S := Int32 × Int32) (fun x => F_X9_thereMany_b4 u0 o1 i2 x.1 x.2) k3_ (i4, i5) = some z → wHp D κ ρ 1 A s.heap H locs u0 → lv_has ls 4 [(0, .ref (ρ o1)), (1, .int i2), (2, .int i4), (3, .int i5)] → W p l e (wRm 2 43) s m args below meth c H locs 0 0 (wQI below args s A D κ ρ 1 (z, u0)) (F0 m 4 ls []) := by
      intro k3_
      induction k3_ with
      | zero => intro i4 i5 H locs ls hF; exact wL_zero hF
      | succ k3_ ih3 =>
        intro i4 i5 H locs ls hF hH hl
        obtain ⟨q3_, hF, hq3⟩ := wL_some hF
        have hF : F_X9_thereMany_b4 u0 o1 i2 i4 i5 = some q3_ := hF
        unfold F_X9_thereMany_b4 at hF
        refine lv_iload_n hx hb dX9_thereMany_4 rfl (lv_at hl 3 rfl) ?_
        refine lv_aload_n hx hb dX9_thereMany_5 rfl (lv_at hl 0 rfl) ?_
        refine wx_getI hC hH h_o1 rfl f_X9_219 dX9_thereMany_6 ?_
        refine lv_icmp_ge hx hb dX9_thereMany_9 (tgt := 35) rfl (fun h => ?_) (fun h => ?_)
        · have hF := wx_t h hF
          refine lv_iload_n hx hb dX9_thereMany_35 rfl (lv_at hl 2 rfl) ?_
          have hF := wJ_r hq3 hF
          exact wx_iret hC hH hr hlk dX9_thereMany_36 (wx_pr hF)
        have hF := wx_f h hF
        refine lv_iload_n hx hb dX9_thereMany_12 rfl (lv_at hl 2 rfl) ?_
        refine lv_aload_n hx hb dX9_thereMany_13 rfl (lv_at hl 0 rfl) ?_
        refine lv_iload_n hx hb dX9_thereMany_14 rfl (lv_at hl 1 rfl) ?_
        refine lv_iload_n hx hb dX9_thereMany_15 rfl (lv_at hl 3 rfl) ?_
        refine wx_pvi hC hH hl (c_X9_isOn o1 i2 i5 h_o1) y_X9_isOn v_X9_isOn h_o1 rfl m_X9_386 rfl ⟨Nat.le_of_ble_eq_true rfl, Nat.le_of_ble_eq_true rfl⟩ ⟨Nat.le_refl _, Nat.le_refl _⟩ rfl (Nat.le_of_ble_eq_true rfl) dX9_thereMany_16 hF (fun i6 H locs hF hH => ?_)
        obtain ⟨q7_, hF, hq7⟩ := wJ_some hF
        have hJ27 : ∀ (i8 : Int32) (H : Heap) (locs : List Loc) (ls : Array Slot), F_X9_thereMany_j27 i4 i5 i8 = some q3_ → wHp D κ ρ 1 A s.heap H locs u0 → lv_has ls 4 [(0, .ref (ρ o1)), (1, .int i2), (3, .int i5)] → W p l e (wRm 2 43) s m args below meth c H locs 0 0 (wQI below args s A D κ ρ 1 (z, u0)) (F0 m 27 ls [.int i8, .int i4]) := by
          intro i8 H locs ls hF hH hl
          unfold F_X9_thereMany_j27 at hF
          refine lv_iadd hx hb dX9_thereMany_27 ?_
          refine wx_leti hF (fun i9 hF => ?_)
          refine wx_istore_n hx hb dX9_thereMany_28 rfl hl (by decide) (fun ls hl => ?_)
          have hl : lv_has ls 4 [(2, .int i9), (0, .ref (ρ o1)), (1, .int i2), (3, .int i5)] := hl
          refine wx_iinc hx hb dX9_thereMany_29 k_iconst_1 hl (k := 3) rfl (by decide) hF (fun i10 ls hF hl => ?_)
          have hl : lv_has ls 4 [(3, .int i10), (2, .int i9), (0, .ref (ρ o1)), (1, .int i2)] := hl
          refine lv_goto hx hb dX9_thereMany_32 (tgt := 4) rfl ?_
          have hF := wJ_l hq3 hF
          exact ih3 i9 i10 H locs ls hF hH (lv_sub hl [2, 3, 1, 0] rfl)
        refine lv_if_eq hx hb dX9_thereMany_19 (tgt := 26) rfl (fun h => ?_) (fun h => ?_)
        · have hF := wx_t h hF
          refine lv_iconst hx hb dX9_thereMany_26 k_iconst_0 ?_
          have hF := wJ_l hq7 hF
          exact hJ27 (0 : Int32) H locs ls hF hH (lv_sub hl [0, 1, 3] rfl)
        have hF := wx_f h hF
        refine lv_iconst hx hb dX9_thereMany_22 k_iconst_1 ?_
        refine lv_goto hx hb dX9_thereMany_23 (tgt := 27) rfl ?_
        have hF := wJ_l hq7 hF
        exact hJ27 (1 : Int32) H locs ls hF hH (lv_sub hl [0, 1, 3] rfl)
    exact hL4 wFu (0 : Int32) (0 : Int32) H locs ls hF hH (lv_sub hl [2, 3, 1, 0] rfl)
  exact key _ _ hH
def F_X9_sweetIn (o1 : Nat) (i2 : Int32) (u0 : wSt) : Option Int32 :=
  if i2 = (u0.1 o1 67) then (some ((u0.1 o1 68))) else (wR (u0.2.2 o1 27) 14 (fun o3 => wN i2 o3 (fun j4 => some ((u0.1 o3 j4)))))
set_option maxRecDepth 100000 in
set_option maxHeartbeats 4000000 in
theorem c_X9_sweetIn {l : Launch} {D : va_G} {κ : Nat → ClassId} {ρ : Nat → Nat} (o1 : Nat) (i2 : Int32) (h_o1 : (w_sh o1).1 = 9) : wMI l yX9_sweetIn cX9_sweetIn 2 .int (wRm 0 0) [.ref (ρ o1), .int i2] D κ ρ 1 (fun u => wPu (F_X9_sweetIn o1 i2 u) u) := by
  refine wMP_of (F := fun u => F_X9_sweetIn o1 i2 u) rfl (Nat.le_of_ble_eq_true rfl) (fun u0 z p e s m args below meth c ls A hF hC hr hlk hH hl => ?_)
  have hl : lv_has ls 2 [(0, .ref (ρ o1)), (1, .int i2)] := hl
  have hx := hC.1.1
  have hb := hC.1.2.1
  have hF : F_X9_sweetIn o1 i2 u0 = some z := hF
  unfold F_X9_sweetIn at hF
  change W p l e (wRm 0 0) s m args below meth c s.heap [] 0 0 (wQI below args s A D κ ρ 1 (z, u0)) (F0 m 0 ls [])
  have key : ∀ (H : Heap) (locs : List Loc), wHp D κ ρ 1 A s.heap H locs u0 → W p l e (wRm 0 0) s m args below meth c H locs 0 0 (wQI below args s A D κ ρ 1 (z, u0)) (F0 m 0 ls []) := by
    intro H locs hH
    refine lv_iload_n hx hb dX9_sweetIn_0 rfl (lv_at hl 1 rfl) ?_
    refine lv_aload_n hx hb dX9_sweetIn_1 rfl (lv_at hl 0 rfl) ?_
    refine wx_getI hC hH h_o1 rfl f_X9_374 dX9_sweetIn_2 ?_
    refine lv_icmp_ne hx hb dX9_sweetIn_5 (tgt := 15) rfl (fun h => ?_) (fun h => ?_)
    · have hF := wx_f h hF
      refine lv_aload_n hx hb dX9_sweetIn_15 rfl (lv_at hl 0 rfl) ?_
      refine wx_getR hC hH h_o1 rfl f_X9_42 dX9_sweetIn_16 hF (fun o3 h_o3 hF => ?_)
      refine lv_iload_n hx hb dX9_sweetIn_19 rfl (lv_at hl 1 rfl) ?_
      refine wx_iald hC hH h_o3 ⟨rfl, rfl⟩ dX9_sweetIn_20 hF (fun j4 hF => ?_)
      exact wx_iret hC hH hr hlk dX9_sweetIn_21 (wx_pr hF)
    have hF := wx_t h hF
    refine lv_aload_n hx hb dX9_sweetIn_8 rfl (lv_at hl 0 rfl) ?_
    refine wx_getI hC hH h_o1 rfl f_X9_377 dX9_sweetIn_9 ?_
    refine lv_goto hx hb dX9_sweetIn_12 (tgt := 21) rfl ?_
    exact wx_iret hC hH hr hlk dX9_sweetIn_21 (wx_pr hF)
  exact key _ _ hH
def F_X9_isReal (o1 : Nat) (i2 : Int32) (u0 : wSt) : Option Int32 :=
  if (u0.1 o1 63) = 0 then (wR (u0.2.2 o1 28) 14 (fun o3 => wN i2 o3 (fun j4 => if (u0.1 o3 j4) = (1 : Int32) then (some ((1 : Int32))) else (some ((0 : Int32)))))) else (some ((1 : Int32)))
set_option maxRecDepth 100000 in
set_option maxHeartbeats 4000000 in
theorem c_X9_isReal {l : Launch} {D : va_G} {κ : Nat → ClassId} {ρ : Nat → Nat} (o1 : Nat) (i2 : Int32) (h_o1 : (w_sh o1).1 = 9) : wMI l yX9_isReal cX9_isReal 2 .boolean (wRm 0 0) [.ref (ρ o1), .int i2] D κ ρ 1 (fun u => wPu (F_X9_isReal o1 i2 u) u) := by
  refine wMP_of (F := fun u => F_X9_isReal o1 i2 u) rfl (Nat.le_of_ble_eq_true rfl) (fun u0 z p e s m args below meth c ls A hF hC hr hlk hH hl => ?_)
  have hl : lv_has ls 2 [(0, .ref (ρ o1)), (1, .int i2)] := hl
  have hx := hC.1.1
  have hb := hC.1.2.1
  have hF : F_X9_isReal o1 i2 u0 = some z := hF
  unfold F_X9_isReal at hF
  change W p l e (wRm 0 0) s m args below meth c s.heap [] 0 0 (wQI below args s A D κ ρ 1 (z, u0)) (F0 m 0 ls [])
  have key : ∀ (H : Heap) (locs : List Loc), wHp D κ ρ 1 A s.heap H locs u0 → W p l e (wRm 0 0) s m args below meth c H locs 0 0 (wQI below args s A D κ ρ 1 (z, u0)) (F0 m 0 ls []) := by
    intro H locs hH
    refine lv_aload_n hx hb dX9_isReal_0 rfl (lv_at hl 0 rfl) ?_
    refine wx_getI hC hH h_o1 rfl f_X9_362 dX9_isReal_1 ?_
    refine lv_if_ne hx hb dX9_isReal_4 (tgt := 17) rfl (fun h => ?_) (fun h => ?_)
    · have hF := wx_f h hF
      refine lv_iconst hx hb dX9_isReal_17 k_iconst_1 ?_
      refine lv_goto hx hb dX9_isReal_18 (tgt := 22) rfl ?_
      exact wx_zret hC hH hr hlk dX9_isReal_22 (Or.inr rfl) (wx_pr hF)
    have hF := wx_t h hF
    refine lv_aload_n hx hb dX9_isReal_7 rfl (lv_at hl 0 rfl) ?_
    refine wx_getR hC hH h_o1 rfl f_X9_45 dX9_isReal_8 hF (fun o3 h_o3 hF => ?_)
    refine lv_iload_n hx hb dX9_isReal_11 rfl (lv_at hl 1 rfl) ?_
    refine wx_iald hC hH h_o3 ⟨rfl, rfl⟩ dX9_isReal_12 hF (fun j4 hF => ?_)
    refine lv_iconst hx hb dX9_isReal_13 k_iconst_1 ?_
    refine lv_icmp_ne hx hb dX9_isReal_14 (tgt := 21) rfl (fun h => ?_) (fun h => ?_)
    · have hF := wx_f h hF
      refine lv_iconst hx hb dX9_isReal_21 k_iconst_0 ?_
      exact wx_zret hC hH hr hlk dX9_isReal_22 (Or.inl rfl) (wx_pr hF)
    have hF := wx_t h hF
    refine lv_iconst hx hb dX9_isReal_17 k_iconst_1 ?_
    refine lv_goto hx hb dX9_isReal_18 (tgt := 22) rfl ?_
    exact wx_zret hC hH hr hlk dX9_isReal_22 (Or.inr rfl) (wx_pr hF)
  exact key _ _ hH
def F_X9_layNames (o1 : Nat) (i2 : Int32) (i3 : Int32) (i4 : Int32) (u0 : wSt) : Option (Unit × wSt) :=
  wR (u0.2.2 o1 46) 16 (fun o5 => wR (u0.2.2 o1 49) 14 (fun o6 => wN (((6 : Int32) * i2) + i3) o6 (fun j7 => wSL u0 o5 (0 : Int32) ((u0.1 o6 j7).toInt64) (fun (u8 : wSt) => wR (u8.2.2 o1 46) 16 (fun o9 => wR (u8.2.2 o1 50) 14 (fun o10 => wN (((6 : Int32) * i2) + i3) o10 (fun j11 => wSL u8 o9 (1 : Int32) ((u8.1 o10 j11).toInt64) (fun (u12 : wSt) => wR (u12.2.2 o1 46) 16 (fun o13 => wR (u12.2.2 o1 25) 14 (fun o14 => wN i3 o14 (fun j15 => wSL u12 o13 (2 : Int32) ((u12.1 o14 j15).toInt64) (fun (u16 : wSt) => wR (u16.2.2 o1 46) 16 (fun o17 => wP (F_X9_sweetIn o1 i4 u16) (fun (i18 : Int32) => wSL u16 o17 (3 : Int32) (i18.toInt64) (fun (u19 : wSt) => wR (u19.2.2 o1 46) 16 (fun o20 => wR (u19.2.2 o1 54) 14 (fun o21 => wN (((8 : Int32) * i2) + i4) o21 (fun j22 => wSL u19 o20 (4 : Int32) ((u19.1 o21 j22).toInt64) (fun (u23 : wSt) => wR (u23.2.2 o1 46) 16 (fun o24 => wP (F_X9_thereMany o1 i2 u23) (fun (i25 : Int32) => wSL u23 o24 (5 : Int32) (i25.toInt64) (fun (u26 : wSt) => wR (u26.2.2 o1 46) 16 (fun o27 => wR (u26.2.2 o1 57) 14 (fun o28 => wN i2 o28 (fun j29 => wSL u26 o27 (6 : Int32) ((u26.1 o28 j29).toInt64) (fun (u30 : wSt) => some ((), u30)))))))))))))))))))))))))))
set_option maxRecDepth 100000 in
set_option maxHeartbeats 4000000 in
theorem c_X9_layNames {l : Launch} {D : va_G} {κ : Nat → ClassId} {ρ : Nat → Nat} (o1 : Nat) (i2 : Int32) (i3 : Int32) (i4 : Int32) (h_o1 : (w_sh o1).1 = 9) : wMV l yX9_layNames cX9_layNames 4 (wRm 3 66) [.ref (ρ o1), .int i2, .int i3, .int i4] D κ ρ 1 (fun u => F_X9_layNames o1 i2 i3 i4 u) := by
  refine wMV_of (F := fun u => F_X9_layNames o1 i2 i3 i4 u) rfl (Nat.le_of_ble_eq_true rfl) (fun u0 z p e s m args below meth c ls A hF hC hr hlk hH hl => ?_)
  have hl : lv_has ls 4 [(0, .ref (ρ o1)), (1, .int i2), (2, .int i3), (3, .int i4)] := hl
  have hx := hC.1.1
  have hb := hC.1.2.1
  have hF : F_X9_layNames o1 i2 i3 i4 u0 = some z := hF
  unfold F_X9_layNames at hF
  change W p l e (wRm 3 66) s m args below meth c s.heap [] 0 0 (wQV below args s A D κ ρ 1 z) (F0 m 0 ls [])
  have key : ∀ (H : Heap) (locs : List Loc), wHp D κ ρ 1 A s.heap H locs u0 → W p l e (wRm 3 66) s m args below meth c H locs 0 0 (wQV below args s A D κ ρ 1 z) (F0 m 0 ls []) := by
    intro H locs hH
    refine lv_aload_n hx hb dX9_layNames_0 rfl (lv_at hl 0 rfl) ?_
    refine wx_getR hC hH h_o1 rfl f_X9_81 dX9_layNames_1 hF (fun o5 h_o5 hF => ?_)
    refine lv_iconst hx hb dX9_layNames_4 k_iconst_0 ?_
    refine lv_aload_n hx hb dX9_layNames_5 rfl (lv_at hl 0 rfl) ?_
    refine wx_getR hC hH h_o1 rfl f_X9_88 dX9_layNames_6 hF (fun o6 h_o6 hF => ?_)
    refine lv_bipush hx hb dX9_layNames_9 k_bipush_6 ?_
    refine lv_iload_n hx hb dX9_layNames_11 rfl (lv_at hl 1 rfl) ?_
    refine lv_imul hx hb dX9_layNames_12 ?_
    refine lv_iload_n hx hb dX9_layNames_13 rfl (lv_at hl 2 rfl) ?_
    refine lv_iadd hx hb dX9_layNames_14 ?_
    refine wx_iald hC hH h_o6 ⟨rfl, rfl⟩ dX9_layNames_15 hF (fun j7 hF => ?_)
    refine lv_i2l hx hb dX9_layNames_16 rfl ?_
    refine wx_last hC hH h_o5 ⟨rfl, rfl⟩ dX9_layNames_17 hF (fun u8 H locs hF hH => ?_)
    refine lv_aload_n hx hb dX9_layNames_18 rfl (lv_at hl 0 rfl) ?_
    refine wx_getR hC hH h_o1 rfl f_X9_81 dX9_layNames_19 hF (fun o9 h_o9 hF => ?_)
    refine lv_iconst hx hb dX9_layNames_22 k_iconst_1 ?_
    refine lv_aload_n hx hb dX9_layNames_23 rfl (lv_at hl 0 rfl) ?_
    refine wx_getR hC hH h_o1 rfl f_X9_91 dX9_layNames_24 hF (fun o10 h_o10 hF => ?_)
    refine lv_bipush hx hb dX9_layNames_27 k_bipush_6 ?_
    refine lv_iload_n hx hb dX9_layNames_29 rfl (lv_at hl 1 rfl) ?_
    refine lv_imul hx hb dX9_layNames_30 ?_
    refine lv_iload_n hx hb dX9_layNames_31 rfl (lv_at hl 2 rfl) ?_
    refine lv_iadd hx hb dX9_layNames_32 ?_
    refine wx_iald hC hH h_o10 ⟨rfl, rfl⟩ dX9_layNames_33 hF (fun j11 hF => ?_)
    refine lv_i2l hx hb dX9_layNames_34 rfl ?_
    refine wx_last hC hH h_o9 ⟨rfl, rfl⟩ dX9_layNames_35 hF (fun u12 H locs hF hH => ?_)
    refine lv_aload_n hx hb dX9_layNames_36 rfl (lv_at hl 0 rfl) ?_
    refine wx_getR hC hH h_o1 rfl f_X9_81 dX9_layNames_37 hF (fun o13 h_o13 hF => ?_)
    refine lv_iconst hx hb dX9_layNames_40 k_iconst_2 ?_
    refine lv_aload_n hx hb dX9_layNames_41 rfl (lv_at hl 0 rfl) ?_
    refine wx_getR hC hH h_o1 rfl f_X9_36 dX9_layNames_42 hF (fun o14 h_o14 hF => ?_)
    refine lv_iload_n hx hb dX9_layNames_45 rfl (lv_at hl 2 rfl) ?_
    refine wx_iald hC hH h_o14 ⟨rfl, rfl⟩ dX9_layNames_46 hF (fun j15 hF => ?_)
    refine lv_i2l hx hb dX9_layNames_47 rfl ?_
    refine wx_last hC hH h_o13 ⟨rfl, rfl⟩ dX9_layNames_48 hF (fun u16 H locs hF hH => ?_)
    refine lv_aload_n hx hb dX9_layNames_49 rfl (lv_at hl 0 rfl) ?_
    refine wx_getR hC hH h_o1 rfl f_X9_81 dX9_layNames_50 hF (fun o17 h_o17 hF => ?_)
    refine lv_iconst hx hb dX9_layNames_53 k_iconst_3 ?_
    refine lv_aload_n hx hb dX9_layNames_54 rfl (lv_at hl 0 rfl) ?_
    refine lv_iload_n hx hb dX9_layNames_55 rfl (lv_at hl 3 rfl) ?_
    refine wx_pvi hC hH hl (c_X9_sweetIn o1 i4 h_o1) y_X9_sweetIn v_X9_sweetIn h_o1 rfl m_X9_389 rfl ⟨Nat.le_of_ble_eq_true rfl, Nat.le_of_ble_eq_true rfl⟩ ⟨Nat.le_refl _, Nat.le_refl _⟩ rfl (Nat.le_of_ble_eq_true rfl) dX9_layNames_56 hF (fun i18 H locs hF hH => ?_)
    refine lv_i2l hx hb dX9_layNames_59 rfl ?_
    refine wx_last hC hH h_o17 ⟨rfl, rfl⟩ dX9_layNames_60 hF (fun u19 H locs hF hH => ?_)
    refine lv_aload_n hx hb dX9_layNames_61 rfl (lv_at hl 0 rfl) ?_
    refine wx_getR hC hH h_o1 rfl f_X9_81 dX9_layNames_62 hF (fun o20 h_o20 hF => ?_)
    refine lv_iconst hx hb dX9_layNames_65 k_iconst_4 ?_
    refine lv_aload_n hx hb dX9_layNames_66 rfl (lv_at hl 0 rfl) ?_
    refine wx_getR hC hH h_o1 rfl f_X9_103 dX9_layNames_67 hF (fun o21 h_o21 hF => ?_)
    refine lv_bipush hx hb dX9_layNames_70 k_bipush_8 ?_
    refine lv_iload_n hx hb dX9_layNames_72 rfl (lv_at hl 1 rfl) ?_
    refine lv_imul hx hb dX9_layNames_73 ?_
    refine lv_iload_n hx hb dX9_layNames_74 rfl (lv_at hl 3 rfl) ?_
    refine lv_iadd hx hb dX9_layNames_75 ?_
    refine wx_iald hC hH h_o21 ⟨rfl, rfl⟩ dX9_layNames_76 hF (fun j22 hF => ?_)
    refine lv_i2l hx hb dX9_layNames_77 rfl ?_
    refine wx_last hC hH h_o20 ⟨rfl, rfl⟩ dX9_layNames_78 hF (fun u23 H locs hF hH => ?_)
    refine lv_aload_n hx hb dX9_layNames_79 rfl (lv_at hl 0 rfl) ?_
    refine wx_getR hC hH h_o1 rfl f_X9_81 dX9_layNames_80 hF (fun o24 h_o24 hF => ?_)
    refine lv_iconst hx hb dX9_layNames_83 k_iconst_5 ?_
    refine lv_aload_n hx hb dX9_layNames_84 rfl (lv_at hl 0 rfl) ?_
    refine lv_iload_n hx hb dX9_layNames_85 rfl (lv_at hl 1 rfl) ?_
    refine wx_pvi hC hH hl (c_X9_thereMany o1 i2 h_o1) y_X9_thereMany v_X9_thereMany h_o1 rfl m_X9_392 rfl ⟨Nat.le_of_ble_eq_true rfl, Nat.le_of_ble_eq_true rfl⟩ ⟨Nat.le_refl _, Nat.le_refl _⟩ rfl (Nat.le_of_ble_eq_true rfl) dX9_layNames_86 hF (fun i25 H locs hF hH => ?_)
    refine lv_i2l hx hb dX9_layNames_89 rfl ?_
    refine wx_last hC hH h_o24 ⟨rfl, rfl⟩ dX9_layNames_90 hF (fun u26 H locs hF hH => ?_)
    refine lv_aload_n hx hb dX9_layNames_91 rfl (lv_at hl 0 rfl) ?_
    refine wx_getR hC hH h_o1 rfl f_X9_81 dX9_layNames_92 hF (fun o27 h_o27 hF => ?_)
    refine lv_bipush hx hb dX9_layNames_95 k_bipush_6 ?_
    refine lv_aload_n hx hb dX9_layNames_97 rfl (lv_at hl 0 rfl) ?_
    refine wx_getR hC hH h_o1 rfl f_X9_112 dX9_layNames_98 hF (fun o28 h_o28 hF => ?_)
    refine lv_iload_n hx hb dX9_layNames_101 rfl (lv_at hl 1 rfl) ?_
    refine wx_iald hC hH h_o28 ⟨rfl, rfl⟩ dX9_layNames_102 hF (fun j29 hF => ?_)
    refine lv_i2l hx hb dX9_layNames_103 rfl ?_
    refine wx_last hC hH h_o27 ⟨rfl, rfl⟩ dX9_layNames_104 hF (fun u30 H locs hF hH => ?_)
    exact wx_vret hC hH hr hlk dX9_layNames_105 hF
  exact key _ _ hH
def F_X9_lawOf_j39 (o1 : Nat) (i2 : Int32) (u8 : wSt) : Option (Int64 × wSt) :=
  if (u8.1 o1 48) = 0 then (wR (u8.2.2 o1 47) 16 (fun o9 => wR (u8.2.2 o1 33) 14 (fun o10 => wN i2 o10 (fun j11 => wN ((u8.1 o10 j11) - (1 : Int32)) o9 (fun j12 => some ((u8.2.1 o9 j12), u8)))))) else (some ((0 : Int64), u8))
def F_X9_lawOf_b12 (o1 : Nat) (i2 : Int32) (i14 : Int32) (u15 : wSt) : Option ((Int32 × wSt) ⊕ ((wSt) ⊕ (Int64 × wSt))) :=
  wR (u15.2.2 o1 33) 14 (fun o16 => wN i2 o16 (fun j17 => if (u15.1 o16 j17) ≤ i14 then (some (.inr (.inl u15))) else (wR (u15.2.2 o1 47) 16 (fun o18 => wC (F_X9_valueOf o1 i14 u15) (fun (q20 : Int64) (u19 : wSt) => wSL u19 o18 i14 q20 (fun (u21 : wSt) => wB (i14 + (1 : Int32)) (fun (i22 : Int32) => some (.inl (i22, u21)))))))))
def F_X9_lawOf (o1 : Nat) (i2 : Int32) (u0 : wSt) : Option (Int64 × wSt) :=
  wB (w_sI u0 o1 48 (0 : Int32)) (fun (u3 : wSt) => wR (u3.2.2 o1 32) 14 (fun o4 => wN i2 o4 (fun j5 => wB (u3.1 o4 j5) (fun (i6 : Int32) => wJ (X := wSt) (wL (S := Int32 × wSt) (fun x => F_X9_lawOf_b12 o1 i2 x.1 x.2) wFu (i6, u3)) (fun x => F_X9_lawOf_j39 o1 i2 x)))))
set_option maxRecDepth 100000 in
set_option maxHeartbeats 4000000 in
theorem c_X9_lawOf {l : Launch} {D : va_G} {κ : Nat → ClassId} {ρ : Nat → Nat} (o1 : Nat) (i2 : Int32) (h_o1 : (w_sh o1).1 = 9) : wML l yX9_lawOf cX9_lawOf 3 (wRm 2 50) [.ref (ρ o1), .int i2] D κ ρ 1 (fun u => F_X9_lawOf o1 i2 u) := by
  refine wML_of (F := fun u => F_X9_lawOf o1 i2 u) rfl (Nat.le_of_ble_eq_true rfl) (fun u0 z p e s m args below meth c ls A hF hC hr hlk hH hl => ?_)
  have hl : lv_has ls 3 [(0, .ref (ρ o1)), (1, .int i2)] := hl
  have hx := hC.1.1
  have hb := hC.1.2.1
  have hF : F_X9_lawOf o1 i2 u0 = some z := hF
  unfold F_X9_lawOf at hF
  change W p l e (wRm 2 50) s m args below meth c s.heap [] 0 0 (wQL below args s A D κ ρ 1 z) (F0 m 0 ls [])
  have key : ∀ (H : Heap) (locs : List Loc), wHp D κ ρ 1 A s.heap H locs u0 → W p l e (wRm 2 50) s m args below meth c H locs 0 0 (wQL below args s A D κ ρ 1 z) (F0 m 0 ls []) := by
    intro H locs hH
    refine lv_aload_n hx hb dX9_lawOf_0 rfl (lv_at hl 0 rfl) ?_
    refine lv_iconst hx hb dX9_lawOf_1 k_iconst_0 ?_
    refine wx_putZ hC hH h_o1 rfl f_X9_315 g_9_48 dX9_lawOf_2 (Or.inl rfl) hF (fun u3 H locs hF hH => ?_)
    refine lv_aload_n hx hb dX9_lawOf_5 rfl (lv_at hl 0 rfl) ?_
    refine wx_getR hC hH h_o1 rfl f_X9_57 dX9_lawOf_6 hF (fun o4 h_o4 hF => ?_)
    refine lv_iload_n hx hb dX9_lawOf_9 rfl (lv_at hl 1 rfl) ?_
    refine wx_iald hC hH h_o4 ⟨rfl, rfl⟩ dX9_lawOf_10 hF (fun j5 hF => ?_)
    refine wx_leti hF (fun i6 hF => ?_)
    refine wx_istore_n hx hb dX9_lawOf_11 rfl hl (by decide) (fun ls hl => ?_)
    have hl : lv_has ls 3 [(2, .int i6), (0, .ref (ρ o1)), (1, .int i2)] := hl
    obtain ⟨q7_, hF, hq7⟩ := wJ_some hF
    have hJ39 : ∀ (u8 : wSt) (H : Heap) (locs : List Loc) (ls : Array Slot), F_X9_lawOf_j39 o1 i2 u8 = some z → wHp D κ ρ 1 A s.heap H locs u8 → lv_has ls 3 [(0, .ref (ρ o1)), (1, .int i2)] → W p l e (wRm 2 50) s m args below meth c H locs 0 0 (wQL below args s A D κ ρ 1 z) (F0 m 39 ls []) := by
      intro u8 H locs ls hF hH hl
      unfold F_X9_lawOf_j39 at hF
      refine lv_aload_n hx hb dX9_lawOf_39 rfl (lv_at hl 0 rfl) ?_
      refine wx_getI hC hH h_o1 rfl f_X9_315 dX9_lawOf_40 ?_
      refine lv_if_eq hx hb dX9_lawOf_43 (tgt := 50) rfl (fun h => ?_) (fun h => ?_)
      · have hF := wx_t h hF
        refine lv_aload_n hx hb dX9_lawOf_50 rfl (lv_at hl 0 rfl) ?_
        refine wx_getR hC hH h_o1 rfl f_X9_85 dX9_lawOf_51 hF (fun o9 h_o9 hF => ?_)
        refine lv_aload_n hx hb dX9_lawOf_54 rfl (lv_at hl 0 rfl) ?_
        refine wx_getR hC hH h_o1 rfl f_X9_60 dX9_lawOf_55 hF (fun o10 h_o10 hF => ?_)
        refine lv_iload_n hx hb dX9_lawOf_58 rfl (lv_at hl 1 rfl) ?_
        refine wx_iald hC hH h_o10 ⟨rfl, rfl⟩ dX9_lawOf_59 hF (fun j11 hF => ?_)
        refine lv_iconst hx hb dX9_lawOf_60 k_iconst_1 ?_
        refine lv_isub hx hb dX9_lawOf_61 ?_
        refine wx_lald hC hH h_o9 ⟨rfl, rfl⟩ dX9_lawOf_62 hF (fun j12 hF => ?_)
        exact wx_lret hC hH hr hlk dX9_lawOf_63 hF
      have hF := wx_f h hF
      refine lv_lconst hx hb dX9_lawOf_46 k_lconst_0 ?_
      refine lv_goto hx hb dX9_lawOf_47 (tgt := 63) rfl ?_
      exact wx_lret hC hH hr hlk dX9_lawOf_63 hF
    have hL12 : ∀ (k13_ : Nat) (i14 : Int32) (u15 : wSt) (H : Heap) (locs : List Loc) (ls : Array Slot), wL (S := Int32 × wSt) (fun x => F_X9_lawOf_b12 o1 i2 x.1 x.2) k13_ (i14, u15) = some q7_ → wHp D κ ρ 1 A s.heap H locs u15 → lv_has ls 3 [(0, .ref (ρ o1)), (1, .int i2), (2, .int i14)] → W p l e (wRm 2 50) s m args below meth c H locs 0 0 (wQL below args s A D κ ρ 1 z) (F0 m 12 ls []) := by
      intro k13_
      induction k13_ with
      | zero => intro i14 u15 H locs ls hF; exact wL_zero hF
      | succ k13_ ih13 =>
        intro i14 u15 H locs ls hF hH hl
        obtain ⟨q13_, hF, hq13⟩ := wL_some hF
        have hF : F_X9_lawOf_b12 o1 i2 i14 u15 = some q13_ := hF
        unfold F_X9_lawOf_b12 at hF
        refine lv_iload_n hx hb dX9_lawOf_12 rfl (lv_at hl 2 rfl) ?_
        refine lv_aload_n hx hb dX9_lawOf_13 rfl (lv_at hl 0 rfl) ?_
        refine wx_getR hC hH h_o1 rfl f_X9_60 dX9_lawOf_14 hF (fun o16 h_o16 hF => ?_)
        refine lv_iload_n hx hb dX9_lawOf_17 rfl (lv_at hl 1 rfl) ?_
        refine wx_iald hC hH h_o16 ⟨rfl, rfl⟩ dX9_lawOf_18 hF (fun j17 hF => ?_)
        refine lv_icmp_ge hx hb dX9_lawOf_19 (tgt := 39) rfl (fun h => ?_) (fun h => ?_)
        · have hF := wx_t h hF
          have hF := wJ_r hq13 hF
          have hF := wJ_l hq7 hF
          exact hJ39 u15 H locs ls hF hH (lv_sub hl [0, 1] rfl)
        have hF := wx_f h hF
        refine lv_aload_n hx hb dX9_lawOf_22 rfl (lv_at hl 0 rfl) ?_
        refine wx_getR hC hH h_o1 rfl f_X9_85 dX9_lawOf_23 hF (fun o18 h_o18 hF => ?_)
        refine lv_iload_n hx hb dX9_lawOf_26 rfl (lv_at hl 2 rfl) ?_
        refine lv_aload_n hx hb dX9_lawOf_27 rfl (lv_at hl 0 rfl) ?_
        refine lv_iload_n hx hb dX9_lawOf_28 rfl (lv_at hl 2 rfl) ?_
        refine wx_evl hC hH hl (c_X9_valueOf o1 i14 h_o1) y_X9_valueOf v_X9_valueOf h_o1 rfl m_X9_395 rfl ⟨Nat.le_of_ble_eq_true rfl, Nat.le_of_ble_eq_true rfl⟩ ⟨Nat.le_refl _, Nat.le_refl _⟩ rfl (Nat.le_of_ble_eq_true rfl) dX9_lawOf_29 hF (fun q20 u19 H locs hF hH => ?_)
        refine wx_last hC hH h_o18 ⟨rfl, rfl⟩ dX9_lawOf_32 hF (fun u21 H locs hF hH => ?_)
        refine wx_iinc hx hb dX9_lawOf_33 k_iconst_1 hl (k := 2) rfl (by decide) hF (fun i22 ls hF hl => ?_)
        have hl : lv_has ls 3 [(2, .int i22), (0, .ref (ρ o1)), (1, .int i2)] := hl
        refine lv_goto hx hb dX9_lawOf_36 (tgt := 12) rfl ?_
        have hF := wJ_l hq13 hF
        exact ih13 i22 u21 H locs ls hF hH (lv_sub hl [1, 2, 0] rfl)
    exact hL12 wFu i6 u3 H locs ls hF hH (lv_sub hl [1, 2, 0] rfl)
  exact key _ _ hH
def F_X9_boundLaw (o1 : Nat) (i2 : Int32) (i3 : Int32) (u0 : wSt) : Option (Int32 × wSt) :=
  wR (u0.2.2 o1 31) 15 (fun o4 => wN i2 o4 (fun j5 => if (u0.1 o4 j5) = 0 then (some (i3, u0)) else (wC (F_X9_lawOf o1 i2 u0) (fun (q7 : Int64) (u6 : wSt) => if (u6.1 o1 48) = 0 then (if 0 ≤ (lg_cmp q7 (0 : Int64)) then (if (lg_cmp q7 (99 : Int64)) ≤ 0 then (some ((q7.toInt32), u6)) else (some ((99 : Int32), u6))) else (some ((0 : Int32), u6))) else (some (i3, u6))))))
set_option maxRecDepth 100000 in
set_option maxHeartbeats 4000000 in
theorem c_X9_boundLaw {l : Launch} {D : va_G} {κ : Nat → ClassId} {ρ : Nat → Nat} (o1 : Nat) (i2 : Int32) (i3 : Int32) (h_o1 : (w_sh o1).1 = 9) : wMI l yX9_boundLaw cX9_boundLaw 5 .int (wRm 3 72) [.ref (ρ o1), .int i2, .int i3] D κ ρ 1 (fun u => F_X9_boundLaw o1 i2 i3 u) := by
  refine wMI_of (F := fun u => F_X9_boundLaw o1 i2 i3 u) rfl (Nat.le_of_ble_eq_true rfl) (fun u0 z p e s m args below meth c ls A hF hC hr hlk hH hl => ?_)
  have hl : lv_has ls 5 [(0, .ref (ρ o1)), (1, .int i2), (2, .int i3)] := hl
  have hx := hC.1.1
  have hb := hC.1.2.1
  have hF : F_X9_boundLaw o1 i2 i3 u0 = some z := hF
  unfold F_X9_boundLaw at hF
  change W p l e (wRm 3 72) s m args below meth c s.heap [] 0 0 (wQI below args s A D κ ρ 1 z) (F0 m 0 ls [])
  have key : ∀ (H : Heap) (locs : List Loc), wHp D κ ρ 1 A s.heap H locs u0 → W p l e (wRm 3 72) s m args below meth c H locs 0 0 (wQI below args s A D κ ρ 1 z) (F0 m 0 ls []) := by
    intro H locs hH
    refine lv_aload_n hx hb dX9_boundLaw_0 rfl (lv_at hl 0 rfl) ?_
    refine wx_getR hC hH h_o1 rfl f_X9_54 dX9_boundLaw_1 hF (fun o4 h_o4 hF => ?_)
    refine lv_iload_n hx hb dX9_boundLaw_4 rfl (lv_at hl 1 rfl) ?_
    refine wx_zald hC hH h_o4 ⟨rfl, rfl⟩ dX9_boundLaw_5 hF (fun j5 hF => ?_)
    refine lv_if_ne hx hb dX9_boundLaw_6 (tgt := 11) rfl (fun h => ?_) (fun h => ?_)
    · have hF := wx_f h hF
      refine lv_aload_n hx hb dX9_boundLaw_11 rfl (lv_at hl 0 rfl) ?_
      refine lv_iload_n hx hb dX9_boundLaw_12 rfl (lv_at hl 1 rfl) ?_
      refine wx_evl hC hH hl (c_X9_lawOf o1 i2 h_o1) y_X9_lawOf v_X9_lawOf h_o1 rfl m_X9_399 rfl ⟨Nat.le_of_ble_eq_true rfl, Nat.le_of_ble_eq_true rfl⟩ ⟨Nat.le_refl _, Nat.le_refl _⟩ rfl (Nat.le_of_ble_eq_true rfl) dX9_boundLaw_13 hF (fun q7 u6 H locs hF hH => ?_)
      refine wx_lstore_n hx hb dX9_boundLaw_16 rfl hl (by decide) (fun ls hl => ?_)
      have hl : lv_has ls 5 [(3, .long q7), (0, .ref (ρ o1)), (1, .int i2), (2, .int i3)] := hl
      refine lv_aload_n hx hb dX9_boundLaw_17 rfl (lv_at hl 1 rfl) ?_
      refine wx_getI hC hH h_o1 rfl f_X9_315 dX9_boundLaw_18 ?_
      refine lv_if_eq hx hb dX9_boundLaw_21 (tgt := 26) rfl (fun h => ?_) (fun h => ?_)
      · have hF := wx_t h hF
        refine lv_lload_n hx hb dX9_boundLaw_26 rfl (lv_at hl 0 rfl) ?_
        refine lv_lconst hx hb dX9_boundLaw_27 k_lconst_0 ?_
        refine W.lcmp hx hb dX9_boundLaw_28 ?_
        refine lv_if_ge hx hb dX9_boundLaw_29 (tgt := 36) rfl (fun h => ?_) (fun h => ?_)
        · have hF := wx_t h hF
          refine lv_lload_n hx hb dX9_boundLaw_36 rfl (lv_at hl 0 rfl) ?_
          refine lv_ldc2 hx hb hC.1.2.2.2.1 (hC.1.2.2.2.2 _ l_X9_402) dX9_boundLaw_37 ?_
          refine W.lcmp hx hb dX9_boundLaw_40 ?_
          refine lv_if_le hx hb dX9_boundLaw_41 (tgt := 49) rfl (fun h => ?_) (fun h => ?_)
          · have hF := wx_t h hF
            refine lv_lload_n hx hb dX9_boundLaw_49 rfl (lv_at hl 0 rfl) ?_
            refine lv_l2i hx hb dX9_boundLaw_50 rfl ?_
            exact wx_iret hC hH hr hlk dX9_boundLaw_51 hF
          have hF := wx_f h hF
          refine lv_bipush hx hb dX9_boundLaw_44 k_bipush_99 ?_
          refine lv_goto hx hb dX9_boundLaw_46 (tgt := 51) rfl ?_
          exact wx_iret hC hH hr hlk dX9_boundLaw_51 hF
        have hF := wx_f h hF
        refine lv_iconst hx hb dX9_boundLaw_32 k_iconst_0 ?_
        refine lv_goto hx hb dX9_boundLaw_33 (tgt := 51) rfl ?_
        exact wx_iret hC hH hr hlk dX9_boundLaw_51 hF
      have hF := wx_f h hF
      refine lv_iload_n hx hb dX9_boundLaw_24 rfl (lv_at hl 3 rfl) ?_
      exact wx_iret hC hH hr hlk dX9_boundLaw_25 hF
    have hF := wx_t h hF
    refine lv_iload_n hx hb dX9_boundLaw_9 rfl (lv_at hl 2 rfl) ?_
    exact wx_iret hC hH hr hlk dX9_boundLaw_10 hF
  exact key _ _ hH
def F_X9_praiseOf_j46 (o1 : Nat) (i13 : Int32) (u14 : wSt) : Option (Int32 × wSt) :=
  wC (F_X9_boundLaw o1 (0 : Int32) i13 u14) (fun (i16 : Int32) (u15 : wSt) => some (i16, u15))
def F_X9_praiseOf (o1 : Nat) (i2 : Int32) (i3 : Int32) (i4 : Int32) (u0 : wSt) : Option (Int32 × wSt) :=
  wC (F_X9_layNames o1 i2 i3 i4 u0) (fun _ (u5 : wSt) => wR (u5.2.2 o1 25) 14 (fun o6 => wN i3 o6 (fun j7 => wP (F_X9_sweetIn o1 i4 u5) (fun (i8 : Int32) => wR (u5.2.2 o1 54) 14 (fun o9 => wN (((8 : Int32) * i2) + i4) o9 (fun j10 => wB (((u5.1 o6 j7) + i8) - (u5.1 o9 j10)) (fun (i11 : Int32) => wJ (X := Int32 × wSt) (if 0 ≤ i11 then (some (.inl (i11, u5))) else (some (.inl ((0 : Int32), u5)))) (fun x => F_X9_praiseOf_j46 o1 x.1 x.2))))))))
set_option maxRecDepth 100000 in
set_option maxHeartbeats 4000000 in
theorem c_X9_praiseOf {l : Launch} {D : va_G} {κ : Nat → ClassId} {ρ : Nat → Nat} (o1 : Nat) (i2 : Int32) (i3 : Int32) (i4 : Int32) (h_o1 : (w_sh o1).1 = 9) : wMI l yX9_praiseOf cX9_praiseOf 5 .int (wRm 4 96) [.ref (ρ o1), .int i2, .int i3, .int i4] D κ ρ 1 (fun u => F_X9_praiseOf o1 i2 i3 i4 u) := by
  refine wMI_of (F := fun u => F_X9_praiseOf o1 i2 i3 i4 u) rfl (Nat.le_of_ble_eq_true rfl) (fun u0 z p e s m args below meth c ls A hF hC hr hlk hH hl => ?_)
  have hl : lv_has ls 5 [(0, .ref (ρ o1)), (1, .int i2), (2, .int i3), (3, .int i4)] := hl
  have hx := hC.1.1
  have hb := hC.1.2.1
  have hF : F_X9_praiseOf o1 i2 i3 i4 u0 = some z := hF
  unfold F_X9_praiseOf at hF
  change W p l e (wRm 4 96) s m args below meth c s.heap [] 0 0 (wQI below args s A D κ ρ 1 z) (F0 m 0 ls [])
  have key : ∀ (H : Heap) (locs : List Loc), wHp D κ ρ 1 A s.heap H locs u0 → W p l e (wRm 4 96) s m args below meth c H locs 0 0 (wQI below args s A D κ ρ 1 z) (F0 m 0 ls []) := by
    intro H locs hH
    refine lv_aload_n hx hb dX9_praiseOf_0 rfl (lv_at hl 0 rfl) ?_
    refine lv_iload_n hx hb dX9_praiseOf_1 rfl (lv_at hl 1 rfl) ?_
    refine lv_iload_n hx hb dX9_praiseOf_2 rfl (lv_at hl 2 rfl) ?_
    refine lv_iload_n hx hb dX9_praiseOf_3 rfl (lv_at hl 3 rfl) ?_
    refine wx_evv hC hH hl (c_X9_layNames o1 i2 i3 i4 h_o1) y_X9_layNames v_X9_layNames h_o1 rfl m_X9_404 rfl ⟨Nat.le_of_ble_eq_true rfl, Nat.le_of_ble_eq_true rfl⟩ ⟨Nat.le_refl _, Nat.le_refl _⟩ rfl (Nat.le_of_ble_eq_true rfl) dX9_praiseOf_4 hF (fun _ u5 H locs hF hH => ?_)
    refine lv_aload_n hx hb dX9_praiseOf_7 rfl (lv_at hl 0 rfl) ?_
    refine wx_getR hC hH h_o1 rfl f_X9_36 dX9_praiseOf_8 hF (fun o6 h_o6 hF => ?_)
    refine lv_iload_n hx hb dX9_praiseOf_11 rfl (lv_at hl 2 rfl) ?_
    refine wx_iald hC hH h_o6 ⟨rfl, rfl⟩ dX9_praiseOf_12 hF (fun j7 hF => ?_)
    refine lv_aload_n hx hb dX9_praiseOf_13 rfl (lv_at hl 0 rfl) ?_
    refine lv_iload_n hx hb dX9_praiseOf_14 rfl (lv_at hl 3 rfl) ?_
    refine wx_pvi hC hH hl (c_X9_sweetIn o1 i4 h_o1) y_X9_sweetIn v_X9_sweetIn h_o1 rfl m_X9_389 rfl ⟨Nat.le_of_ble_eq_true rfl, Nat.le_of_ble_eq_true rfl⟩ ⟨Nat.le_refl _, Nat.le_refl _⟩ rfl (Nat.le_of_ble_eq_true rfl) dX9_praiseOf_15 hF (fun i8 H locs hF hH => ?_)
    refine lv_iadd hx hb dX9_praiseOf_18 ?_
    refine lv_aload_n hx hb dX9_praiseOf_19 rfl (lv_at hl 0 rfl) ?_
    refine wx_getR hC hH h_o1 rfl f_X9_103 dX9_praiseOf_20 hF (fun o9 h_o9 hF => ?_)
    refine lv_bipush hx hb dX9_praiseOf_23 k_bipush_8 ?_
    refine lv_iload_n hx hb dX9_praiseOf_25 rfl (lv_at hl 1 rfl) ?_
    refine lv_imul hx hb dX9_praiseOf_26 ?_
    refine lv_iload_n hx hb dX9_praiseOf_27 rfl (lv_at hl 3 rfl) ?_
    refine lv_iadd hx hb dX9_praiseOf_28 ?_
    refine wx_iald hC hH h_o9 ⟨rfl, rfl⟩ dX9_praiseOf_29 hF (fun j10 hF => ?_)
    refine lv_isub hx hb dX9_praiseOf_30 ?_
    refine wx_leti hF (fun i11 hF => ?_)
    refine wx_istore hx hb dX9_praiseOf_31 hl (by decide) (fun ls hl => ?_)
    have hl : lv_has ls 5 [(4, .int i11), (0, .ref (ρ o1)), (1, .int i2), (2, .int i3), (3, .int i4)] := hl
    refine lv_aload_n hx hb dX9_praiseOf_33 rfl (lv_at hl 1 rfl) ?_
    refine lv_iconst hx hb dX9_praiseOf_34 k_iconst_0 ?_
    refine lv_iload hx hb dX9_praiseOf_35 (lv_at hl 0 rfl) ?_
    obtain ⟨q12_, hF, hq12⟩ := wJ_some hF
    have hJ46 : ∀ (i13 : Int32) (u14 : wSt) (H : Heap) (locs : List Loc) (ls : Array Slot), F_X9_praiseOf_j46 o1 i13 u14 = some z → wHp D κ ρ 1 A s.heap H locs u14 → lv_has ls 5 [] → W p l e (wRm 4 96) s m args below meth c H locs 0 0 (wQI below args s A D κ ρ 1 z) (F0 m 46 ls [.int i13, .int (0 : Int32), .ref (ρ o1)]) := by
      intro i13 u14 H locs ls hF hH hl
      unfold F_X9_praiseOf_j46 at hF
      refine wx_evi hC hH hl (c_X9_boundLaw o1 (0 : Int32) i13 h_o1) y_X9_boundLaw v_X9_boundLaw h_o1 rfl m_X9_407 rfl ⟨Nat.le_of_ble_eq_true rfl, Nat.le_of_ble_eq_true rfl⟩ ⟨Nat.le_refl _, Nat.le_refl _⟩ rfl (Nat.le_of_ble_eq_true rfl) dX9_praiseOf_46 hF (fun i16 u15 H locs hF hH => ?_)
      exact wx_iret hC hH hr hlk dX9_praiseOf_49 hF
    refine lv_if_ge hx hb dX9_praiseOf_37 (tgt := 44) rfl (fun h => ?_) (fun h => ?_)
    · have hF := wx_t h hF
      refine lv_iload hx hb dX9_praiseOf_44 (lv_at hl 0 rfl) ?_
      have hF := wJ_l hq12 hF
      exact hJ46 i11 u5 H locs ls hF hH (lv_sub hl [] rfl)
    have hF := wx_f h hF
    refine lv_iconst hx hb dX9_praiseOf_40 k_iconst_0 ?_
    refine lv_goto hx hb dX9_praiseOf_41 (tgt := 46) rfl ?_
    have hF := wJ_l hq12 hF
    exact hJ46 (0 : Int32) u5 H locs ls hF hH (lv_sub hl [] rfl)
  exact key _ _ hH
def F_X9_isDaring_j30 (u0 : wSt) (o1 : Nat) (i2 : Int32) (i3 : Int32) (i4 : Int32) (i10 : Int32) : Option (Int32 × wSt) :=
  wR (u0.2.2 o1 31) 15 (fun o11 => wN (1 : Int32) o11 (fun j12 => if (u0.1 o11 j12) = 0 then (wG (i10 = 0 ∨ i10 = 1) (some (i10, u0))) else (wC (F_X9_layNames o1 i2 i3 i4 u0) (fun _ (u13 : wSt) => wC (F_X9_lawOf o1 (1 : Int32) u13) (fun (q15 : Int64) (u14 : wSt) => if (u14.1 o1 48) = 0 then (if (lg_cmp q15 (0 : Int64)) = 0 then (some ((0 : Int32), u14)) else (some ((1 : Int32), u14))) else (wG (i10 = 0 ∨ i10 = 1) (some (i10, u14))))))))
def F_X9_isDaring (o1 : Nat) (i2 : Int32) (i3 : Int32) (i4 : Int32) (u0 : wSt) : Option (Int32 × wSt) :=
  wR (u0.2.2 o1 50) 14 (fun o5 => wN (((6 : Int32) * i2) + i3) o5 (fun j6 => wR (u0.2.2 o1 49) 14 (fun o7 => wN (((6 : Int32) * i2) + i3) o7 (fun j8 => wJ (X := Int32) (if (u0.1 o5 j6) ≤ (u0.1 o7 j8) then (some (.inl (0 : Int32))) else (some (.inl (1 : Int32)))) (fun x => F_X9_isDaring_j30 u0 o1 i2 i3 i4 x)))))
set_option maxRecDepth 100000 in
set_option maxHeartbeats 4000000 in
theorem c_X9_isDaring {l : Launch} {D : va_G} {κ : Nat → ClassId} {ρ : Nat → Nat} (o1 : Nat) (i2 : Int32) (i3 : Int32) (i4 : Int32) (h_o1 : (w_sh o1).1 = 9) : wMI l yX9_isDaring cX9_isDaring 7 .boolean (wRm 4 89) [.ref (ρ o1), .int i2, .int i3, .int i4] D κ ρ 1 (fun u => F_X9_isDaring o1 i2 i3 i4 u) := by
  refine wMI_of (F := fun u => F_X9_isDaring o1 i2 i3 i4 u) rfl (Nat.le_of_ble_eq_true rfl) (fun u0 z p e s m args below meth c ls A hF hC hr hlk hH hl => ?_)
  have hl : lv_has ls 7 [(0, .ref (ρ o1)), (1, .int i2), (2, .int i3), (3, .int i4)] := hl
  have hx := hC.1.1
  have hb := hC.1.2.1
  have hF : F_X9_isDaring o1 i2 i3 i4 u0 = some z := hF
  unfold F_X9_isDaring at hF
  change W p l e (wRm 4 89) s m args below meth c s.heap [] 0 0 (wQI below args s A D κ ρ 1 z) (F0 m 0 ls [])
  have key : ∀ (H : Heap) (locs : List Loc), wHp D κ ρ 1 A s.heap H locs u0 → W p l e (wRm 4 89) s m args below meth c H locs 0 0 (wQI below args s A D κ ρ 1 z) (F0 m 0 ls []) := by
    intro H locs hH
    refine lv_aload_n hx hb dX9_isDaring_0 rfl (lv_at hl 0 rfl) ?_
    refine wx_getR hC hH h_o1 rfl f_X9_91 dX9_isDaring_1 hF (fun o5 h_o5 hF => ?_)
    refine lv_bipush hx hb dX9_isDaring_4 k_bipush_6 ?_
    refine lv_iload_n hx hb dX9_isDaring_6 rfl (lv_at hl 1 rfl) ?_
    refine lv_imul hx hb dX9_isDaring_7 ?_
    refine lv_iload_n hx hb dX9_isDaring_8 rfl (lv_at hl 2 rfl) ?_
    refine lv_iadd hx hb dX9_isDaring_9 ?_
    refine wx_iald hC hH h_o5 ⟨rfl, rfl⟩ dX9_isDaring_10 hF (fun j6 hF => ?_)
    refine lv_aload_n hx hb dX9_isDaring_11 rfl (lv_at hl 0 rfl) ?_
    refine wx_getR hC hH h_o1 rfl f_X9_88 dX9_isDaring_12 hF (fun o7 h_o7 hF => ?_)
    refine lv_bipush hx hb dX9_isDaring_15 k_bipush_6 ?_
    refine lv_iload_n hx hb dX9_isDaring_17 rfl (lv_at hl 1 rfl) ?_
    refine lv_imul hx hb dX9_isDaring_18 ?_
    refine lv_iload_n hx hb dX9_isDaring_19 rfl (lv_at hl 2 rfl) ?_
    refine lv_iadd hx hb dX9_isDaring_20 ?_
    refine wx_iald hC hH h_o7 ⟨rfl, rfl⟩ dX9_isDaring_21 hF (fun j8 hF => ?_)
    obtain ⟨q9_, hF, hq9⟩ := wJ_some hF
    have hJ30 : ∀ (i10 : Int32) (H : Heap) (locs : List Loc) (ls : Array Slot), F_X9_isDaring_j30 u0 o1 i2 i3 i4 i10 = some z → wHp D κ ρ 1 A s.heap H locs u0 → lv_has ls 7 [(0, .ref (ρ o1)), (1, .int i2), (2, .int i3), (3, .int i4)] → W p l e (wRm 4 89) s m args below meth c H locs 0 0 (wQI below args s A D κ ρ 1 z) (F0 m 30 ls [.int i10]) := by
      intro i10 H locs ls hF hH hl
      unfold F_X9_isDaring_j30 at hF
      refine wx_istore hx hb dX9_isDaring_30 hl (by decide) (fun ls hl => ?_)
      have hl : lv_has ls 7 [(4, .int i10), (0, .ref (ρ o1)), (1, .int i2), (2, .int i3), (3, .int i4)] := hl
      refine lv_aload_n hx hb dX9_isDaring_32 rfl (lv_at hl 1 rfl) ?_
      refine wx_getR hC hH h_o1 rfl f_X9_54 dX9_isDaring_33 hF (fun o11 h_o11 hF => ?_)
      refine lv_iconst hx hb dX9_isDaring_36 k_iconst_1 ?_
      refine wx_zald hC hH h_o11 ⟨rfl, rfl⟩ dX9_isDaring_37 hF (fun j12 hF => ?_)
      refine lv_if_ne hx hb dX9_isDaring_38 (tgt := 44) rfl (fun h => ?_) (fun h => ?_)
      · have hF := wx_f h hF
        refine lv_aload_n hx hb dX9_isDaring_44 rfl (lv_at hl 1 rfl) ?_
        refine lv_iload_n hx hb dX9_isDaring_45 rfl (lv_at hl 2 rfl) ?_
        refine lv_iload_n hx hb dX9_isDaring_46 rfl (lv_at hl 3 rfl) ?_
        refine lv_iload_n hx hb dX9_isDaring_47 rfl (lv_at hl 4 rfl) ?_
        refine wx_evv hC hH hl (c_X9_layNames o1 i2 i3 i4 h_o1) y_X9_layNames v_X9_layNames h_o1 rfl m_X9_404 rfl ⟨Nat.le_of_ble_eq_true rfl, Nat.le_of_ble_eq_true rfl⟩ ⟨Nat.le_refl _, Nat.le_refl _⟩ rfl (Nat.le_of_ble_eq_true rfl) dX9_isDaring_48 hF (fun _ u13 H locs hF hH => ?_)
        refine lv_aload_n hx hb dX9_isDaring_51 rfl (lv_at hl 1 rfl) ?_
        refine lv_iconst hx hb dX9_isDaring_52 k_iconst_1 ?_
        refine wx_evl hC hH hl (c_X9_lawOf o1 (1 : Int32) h_o1) y_X9_lawOf v_X9_lawOf h_o1 rfl m_X9_399 rfl ⟨Nat.le_of_ble_eq_true rfl, Nat.le_of_ble_eq_true rfl⟩ ⟨Nat.le_refl _, Nat.le_refl _⟩ rfl (Nat.le_of_ble_eq_true rfl) dX9_isDaring_53 hF (fun q15 u14 H locs hF hH => ?_)
        refine wx_lstore hx hb dX9_isDaring_56 hl (by decide) (fun ls hl => ?_)
        have hl : lv_has ls 7 [(5, .long q15), (4, .int i10), (0, .ref (ρ o1)), (1, .int i2), (2, .int i3), (3, .int i4)] := hl
        refine lv_aload_n hx hb dX9_isDaring_58 rfl (lv_at hl 2 rfl) ?_
        refine wx_getI hC hH h_o1 rfl f_X9_315 dX9_isDaring_59 ?_
        refine lv_if_eq hx hb dX9_isDaring_62 (tgt := 70) rfl (fun h => ?_) (fun h => ?_)
        · have hF := wx_t h hF
          refine lv_lload hx hb dX9_isDaring_70 (lv_at hl 0 rfl) ?_
          refine lv_lconst hx hb dX9_isDaring_72 k_lconst_0 ?_
          refine W.lcmp hx hb dX9_isDaring_73 ?_
          refine lv_if_eq hx hb dX9_isDaring_74 (tgt := 81) rfl (fun h => ?_) (fun h => ?_)
          · have hF := wx_t h hF
            refine lv_iconst hx hb dX9_isDaring_81 k_iconst_0 ?_
            exact wx_zret hC hH hr hlk dX9_isDaring_82 (Or.inl rfl) hF
          have hF := wx_f h hF
          refine lv_iconst hx hb dX9_isDaring_77 k_iconst_1 ?_
          refine lv_goto hx hb dX9_isDaring_78 (tgt := 82) rfl ?_
          exact wx_zret hC hH hr hlk dX9_isDaring_82 (Or.inr rfl) hF
        have hF := wx_f h hF
        refine lv_iload hx hb dX9_isDaring_65 (lv_at hl 1 rfl) ?_
        refine lv_goto hx hb dX9_isDaring_67 (tgt := 82) rfl ?_
        obtain ⟨h01, hF⟩ := wG_some hF
        exact wx_zret hC hH hr hlk dX9_isDaring_82 h01 hF
      have hF := wx_t h hF
      refine lv_iload hx hb dX9_isDaring_41 (lv_at hl 0 rfl) ?_
      obtain ⟨h01, hF⟩ := wG_some hF
      exact wx_zret hC hH hr hlk dX9_isDaring_43 h01 hF
    refine lv_icmp_le hx hb dX9_isDaring_22 (tgt := 29) rfl (fun h => ?_) (fun h => ?_)
    · have hF := wx_t h hF
      refine lv_iconst hx hb dX9_isDaring_29 k_iconst_0 ?_
      have hF := wJ_l hq9 hF
      exact hJ30 (0 : Int32) H locs ls hF hH (lv_sub hl [0, 1, 2, 3] rfl)
    have hF := wx_f h hF
    refine lv_iconst hx hb dX9_isDaring_25 k_iconst_1 ?_
    refine lv_goto hx hb dX9_isDaring_26 (tgt := 30) rfl ?_
    have hF := wJ_l hq9 hF
    exact hJ30 (1 : Int32) H locs ls hF hH (lv_sub hl [0, 1, 2, 3] rfl)
  exact key _ _ hH
def F_X9_far_j46 (u0 : wSt) (o1 : Nat) (i12 : Int32) : Option Int32 :=
  if i12 ≤ ((u0.1 o1 12) - i12) then (some (i12)) else (some (((u0.1 o1 12) - i12)))
def F_X9_far (o1 : Nat) (i2 : Int32) (i3 : Int32) (i4 : Int32) (u0 : wSt) : Option Int32 :=
  wR (u0.2.2 o1 51) 14 (fun o5 => wN (((6 : Int32) * i2) + i3) o5 (fun j6 => wB (u0.1 o5 j6) (fun (i7 : Int32) => wR (u0.2.2 o1 51) 14 (fun o8 => wN (((6 : Int32) * i2) + i4) o8 (fun j9 => wB (u0.1 o8 j9) (fun (i10 : Int32) => wJ (X := Int32) (if i7 ≤ i10 then (some (.inl (i10 - i7))) else (some (.inl (i7 - i10)))) (fun x => F_X9_far_j46 u0 o1 x)))))))
set_option maxRecDepth 100000 in
set_option maxHeartbeats 4000000 in
theorem c_X9_far {l : Launch} {D : va_G} {κ : Nat → ClassId} {ρ : Nat → Nat} (o1 : Nat) (i2 : Int32) (i3 : Int32) (i4 : Int32) (h_o1 : (w_sh o1).1 = 9) : wMI l yX9_far cX9_far 7 .int (wRm 0 0) [.ref (ρ o1), .int i2, .int i3, .int i4] D κ ρ 1 (fun u => wPu (F_X9_far o1 i2 i3 i4 u) u) := by
  refine wMP_of (F := fun u => F_X9_far o1 i2 i3 i4 u) rfl (Nat.le_of_ble_eq_true rfl) (fun u0 z p e s m args below meth c ls A hF hC hr hlk hH hl => ?_)
  have hl : lv_has ls 7 [(0, .ref (ρ o1)), (1, .int i2), (2, .int i3), (3, .int i4)] := hl
  have hx := hC.1.1
  have hb := hC.1.2.1
  have hF : F_X9_far o1 i2 i3 i4 u0 = some z := hF
  unfold F_X9_far at hF
  change W p l e (wRm 0 0) s m args below meth c s.heap [] 0 0 (wQI below args s A D κ ρ 1 (z, u0)) (F0 m 0 ls [])
  have key : ∀ (H : Heap) (locs : List Loc), wHp D κ ρ 1 A s.heap H locs u0 → W p l e (wRm 0 0) s m args below meth c H locs 0 0 (wQI below args s A D κ ρ 1 (z, u0)) (F0 m 0 ls []) := by
    intro H locs hH
    refine lv_aload_n hx hb dX9_far_0 rfl (lv_at hl 0 rfl) ?_
    refine wx_getR hC hH h_o1 rfl f_X9_94 dX9_far_1 hF (fun o5 h_o5 hF => ?_)
    refine lv_bipush hx hb dX9_far_4 k_bipush_6 ?_
    refine lv_iload_n hx hb dX9_far_6 rfl (lv_at hl 1 rfl) ?_
    refine lv_imul hx hb dX9_far_7 ?_
    refine lv_iload_n hx hb dX9_far_8 rfl (lv_at hl 2 rfl) ?_
    refine lv_iadd hx hb dX9_far_9 ?_
    refine wx_iald hC hH h_o5 ⟨rfl, rfl⟩ dX9_far_10 hF (fun j6 hF => ?_)
    refine wx_leti hF (fun i7 hF => ?_)
    refine wx_istore hx hb dX9_far_11 hl (by decide) (fun ls hl => ?_)
    have hl : lv_has ls 7 [(4, .int i7), (0, .ref (ρ o1)), (1, .int i2), (2, .int i3), (3, .int i4)] := hl
    refine lv_aload_n hx hb dX9_far_13 rfl (lv_at hl 1 rfl) ?_
    refine wx_getR hC hH h_o1 rfl f_X9_94 dX9_far_14 hF (fun o8 h_o8 hF => ?_)
    refine lv_bipush hx hb dX9_far_17 k_bipush_6 ?_
    refine lv_iload_n hx hb dX9_far_19 rfl (lv_at hl 2 rfl) ?_
    refine lv_imul hx hb dX9_far_20 ?_
    refine lv_iload_n hx hb dX9_far_21 rfl (lv_at hl 4 rfl) ?_
    refine lv_iadd hx hb dX9_far_22 ?_
    refine wx_iald hC hH h_o8 ⟨rfl, rfl⟩ dX9_far_23 hF (fun j9 hF => ?_)
    refine wx_leti hF (fun i10 hF => ?_)
    refine wx_istore hx hb dX9_far_24 hl (by decide) (fun ls hl => ?_)
    have hl : lv_has ls 7 [(5, .int i10), (4, .int i7), (0, .ref (ρ o1)), (1, .int i2), (2, .int i3), (3, .int i4)] := hl
    refine lv_iload hx hb dX9_far_26 (lv_at hl 1 rfl) ?_
    refine lv_iload hx hb dX9_far_28 (lv_at hl 0 rfl) ?_
    obtain ⟨q11_, hF, hq11⟩ := wJ_some hF
    have hJ46 : ∀ (i12 : Int32) (H : Heap) (locs : List Loc) (ls : Array Slot), F_X9_far_j46 u0 o1 i12 = some z → wHp D κ ρ 1 A s.heap H locs u0 → lv_has ls 7 [(0, .ref (ρ o1))] → W p l e (wRm 0 0) s m args below meth c H locs 0 0 (wQI below args s A D κ ρ 1 (z, u0)) (F0 m 46 ls [.int i12]) := by
      intro i12 H locs ls hF hH hl
      unfold F_X9_far_j46 at hF
      refine wx_istore hx hb dX9_far_46 hl (by decide) (fun ls hl => ?_)
      have hl : lv_has ls 7 [(6, .int i12), (0, .ref (ρ o1))] := hl
      refine lv_iload hx hb dX9_far_48 (lv_at hl 0 rfl) ?_
      refine lv_aload_n hx hb dX9_far_50 rfl (lv_at hl 1 rfl) ?_
      refine wx_getI hC hH h_o1 rfl f_X9_219 dX9_far_51 ?_
      refine lv_iload hx hb dX9_far_54 (lv_at hl 0 rfl) ?_
      refine lv_isub hx hb dX9_far_56 ?_
      refine lv_icmp_le hx hb dX9_far_57 (tgt := 70) rfl (fun h => ?_) (fun h => ?_)
      · have hF := wx_t h hF
        refine lv_iload hx hb dX9_far_70 (lv_at hl 0 rfl) ?_
        exact wx_iret hC hH hr hlk dX9_far_72 (wx_pr hF)
      have hF := wx_f h hF
      refine lv_aload_n hx hb dX9_far_60 rfl (lv_at hl 1 rfl) ?_
      refine wx_getI hC hH h_o1 rfl f_X9_219 dX9_far_61 ?_
      refine lv_iload hx hb dX9_far_64 (lv_at hl 0 rfl) ?_
      refine lv_isub hx hb dX9_far_66 ?_
      refine lv_goto hx hb dX9_far_67 (tgt := 72) rfl ?_
      exact wx_iret hC hH hr hlk dX9_far_72 (wx_pr hF)
    refine lv_icmp_le hx hb dX9_far_30 (tgt := 41) rfl (fun h => ?_) (fun h => ?_)
    · have hF := wx_t h hF
      refine lv_iload hx hb dX9_far_41 (lv_at hl 0 rfl) ?_
      refine lv_iload hx hb dX9_far_43 (lv_at hl 1 rfl) ?_
      refine lv_isub hx hb dX9_far_45 ?_
      have hF := wJ_l hq11 hF
      exact hJ46 (i10 - i7) H locs ls hF hH (lv_sub hl [2] rfl)
    have hF := wx_f h hF
    refine lv_iload hx hb dX9_far_33 (lv_at hl 1 rfl) ?_
    refine lv_iload hx hb dX9_far_35 (lv_at hl 0 rfl) ?_
    refine lv_isub hx hb dX9_far_37 ?_
    refine lv_goto hx hb dX9_far_38 (tgt := 46) rfl ?_
    have hF := wJ_l hq11 hF
    exact hJ46 (i7 - i10) H locs ls hF hH (lv_sub hl [2] rfl)
  exact key _ _ hH
def F_X9_hears (o1 : Nat) (i2 : Int32) (i3 : Int32) (i4 : Int32) (u0 : wSt) : Option Int32 :=
  if i3 = i4 then (some ((0 : Int32))) else (wP (F_X9_isOn o1 i2 i3 u0) (fun (i5 : Int32) => if i5 = 0 then (some ((0 : Int32))) else (wP (F_X9_isOn o1 i2 i4 u0) (fun (i6 : Int32) => if i6 = 0 then (some ((0 : Int32))) else (if (u0.1 o1 64) = 0 then (wP (F_X9_far o1 i2 i3 i4 u0) (fun (i7 : Int32) => wR (u0.2.2 o1 21) 14 (fun o8 => wN (0 : Int32) o8 (fun j9 => if (u0.1 o8 j9) < i7 then (some ((0 : Int32))) else (some ((1 : Int32))))))) else (some ((1 : Int32))))))))
set_option maxRecDepth 100000 in
set_option maxHeartbeats 4000000 in
theorem c_X9_hears {l : Launch} {D : va_G} {κ : Nat → ClassId} {ρ : Nat → Nat} (o1 : Nat) (i2 : Int32) (i3 : Int32) (i4 : Int32) (h_o1 : (w_sh o1).1 = 9) : wMI l yX9_hears cX9_hears 4 .boolean (wRm 2 43) [.ref (ρ o1), .int i2, .int i3, .int i4] D κ ρ 1 (fun u => wPu (F_X9_hears o1 i2 i3 i4 u) u) := by
  refine wMP_of (F := fun u => F_X9_hears o1 i2 i3 i4 u) rfl (Nat.le_of_ble_eq_true rfl) (fun u0 z p e s m args below meth c ls A hF hC hr hlk hH hl => ?_)
  have hl : lv_has ls 4 [(0, .ref (ρ o1)), (1, .int i2), (2, .int i3), (3, .int i4)] := hl
  have hx := hC.1.1
  have hb := hC.1.2.1
  have hF : F_X9_hears o1 i2 i3 i4 u0 = some z := hF
  unfold F_X9_hears at hF
  change W p l e (wRm 2 43) s m args below meth c s.heap [] 0 0 (wQI below args s A D κ ρ 1 (z, u0)) (F0 m 0 ls [])
  have key : ∀ (H : Heap) (locs : List Loc), wHp D κ ρ 1 A s.heap H locs u0 → W p l e (wRm 2 43) s m args below meth c H locs 0 0 (wQI below args s A D κ ρ 1 (z, u0)) (F0 m 0 ls []) := by
    intro H locs hH
    refine lv_iload_n hx hb dX9_hears_0 rfl (lv_at hl 2 rfl) ?_
    refine lv_iload_n hx hb dX9_hears_1 rfl (lv_at hl 3 rfl) ?_
    refine lv_icmp_eq hx hb dX9_hears_2 (tgt := 50) rfl (fun h => ?_) (fun h => ?_)
    · have hF := wx_t h hF
      refine lv_iconst hx hb dX9_hears_50 k_iconst_0 ?_
      exact wx_zret hC hH hr hlk dX9_hears_51 (Or.inl rfl) (wx_pr hF)
    have hF := wx_f h hF
    refine lv_aload_n hx hb dX9_hears_5 rfl (lv_at hl 0 rfl) ?_
    refine lv_iload_n hx hb dX9_hears_6 rfl (lv_at hl 1 rfl) ?_
    refine lv_iload_n hx hb dX9_hears_7 rfl (lv_at hl 2 rfl) ?_
    refine wx_pvi hC hH hl (c_X9_isOn o1 i2 i3 h_o1) y_X9_isOn v_X9_isOn h_o1 rfl m_X9_386 rfl ⟨Nat.le_of_ble_eq_true rfl, Nat.le_of_ble_eq_true rfl⟩ ⟨Nat.le_refl _, Nat.le_refl _⟩ rfl (Nat.le_of_ble_eq_true rfl) dX9_hears_8 hF (fun i5 H locs hF hH => ?_)
    refine lv_if_eq hx hb dX9_hears_11 (tgt := 50) rfl (fun h => ?_) (fun h => ?_)
    · have hF := wx_t h hF
      refine lv_iconst hx hb dX9_hears_50 k_iconst_0 ?_
      exact wx_zret hC hH hr hlk dX9_hears_51 (Or.inl rfl) (wx_pr hF)
    have hF := wx_f h hF
    refine lv_aload_n hx hb dX9_hears_14 rfl (lv_at hl 0 rfl) ?_
    refine lv_iload_n hx hb dX9_hears_15 rfl (lv_at hl 1 rfl) ?_
    refine lv_iload_n hx hb dX9_hears_16 rfl (lv_at hl 3 rfl) ?_
    refine wx_pvi hC hH hl (c_X9_isOn o1 i2 i4 h_o1) y_X9_isOn v_X9_isOn h_o1 rfl m_X9_386 rfl ⟨Nat.le_of_ble_eq_true rfl, Nat.le_of_ble_eq_true rfl⟩ ⟨Nat.le_refl _, Nat.le_refl _⟩ rfl (Nat.le_of_ble_eq_true rfl) dX9_hears_17 hF (fun i6 H locs hF hH => ?_)
    refine lv_if_eq hx hb dX9_hears_20 (tgt := 50) rfl (fun h => ?_) (fun h => ?_)
    · have hF := wx_t h hF
      refine lv_iconst hx hb dX9_hears_50 k_iconst_0 ?_
      exact wx_zret hC hH hr hlk dX9_hears_51 (Or.inl rfl) (wx_pr hF)
    have hF := wx_f h hF
    refine lv_aload_n hx hb dX9_hears_23 rfl (lv_at hl 0 rfl) ?_
    refine wx_getI hC hH h_o1 rfl f_X9_365 dX9_hears_24 ?_
    refine lv_if_ne hx hb dX9_hears_27 (tgt := 46) rfl (fun h => ?_) (fun h => ?_)
    · have hF := wx_f h hF
      refine lv_iconst hx hb dX9_hears_46 k_iconst_1 ?_
      refine lv_goto hx hb dX9_hears_47 (tgt := 51) rfl ?_
      exact wx_zret hC hH hr hlk dX9_hears_51 (Or.inr rfl) (wx_pr hF)
    have hF := wx_t h hF
    refine lv_aload_n hx hb dX9_hears_30 rfl (lv_at hl 0 rfl) ?_
    refine lv_iload_n hx hb dX9_hears_31 rfl (lv_at hl 1 rfl) ?_
    refine lv_iload_n hx hb dX9_hears_32 rfl (lv_at hl 2 rfl) ?_
    refine lv_iload_n hx hb dX9_hears_33 rfl (lv_at hl 3 rfl) ?_
    refine wx_pvi hC hH hl (c_X9_far o1 i2 i3 i4 h_o1) y_X9_far v_X9_far h_o1 rfl m_X9_410 rfl ⟨Nat.le_of_ble_eq_true rfl, Nat.le_of_ble_eq_true rfl⟩ ⟨Nat.le_refl _, Nat.le_refl _⟩ rfl (Nat.le_of_ble_eq_true rfl) dX9_hears_34 hF (fun i7 H locs hF hH => ?_)
    refine lv_aload_n hx hb dX9_hears_37 rfl (lv_at hl 0 rfl) ?_
    refine wx_getR hC hH h_o1 rfl f_X9_24 dX9_hears_38 hF (fun o8 h_o8 hF => ?_)
    refine lv_iconst hx hb dX9_hears_41 k_iconst_0 ?_
    refine wx_iald hC hH h_o8 ⟨rfl, rfl⟩ dX9_hears_42 hF (fun j9 hF => ?_)
    refine lv_icmp_gt hx hb dX9_hears_43 (tgt := 50) rfl (fun h => ?_) (fun h => ?_)
    · have hF := wx_t h hF
      refine lv_iconst hx hb dX9_hears_50 k_iconst_0 ?_
      exact wx_zret hC hH hr hlk dX9_hears_51 (Or.inl rfl) (wx_pr hF)
    have hF := wx_f h hF
    refine lv_iconst hx hb dX9_hears_46 k_iconst_1 ?_
    refine lv_goto hx hb dX9_hears_47 (tgt := 51) rfl ?_
    exact wx_zret hC hH hr hlk dX9_hears_51 (Or.inr rfl) (wx_pr hF)
  exact key _ _ hH
def F_X9_number1 (o1 : Nat) (i2 : Int32) (u0 : wSt) : Option (Int32 × wSt) :=
  wB (w_sL u0 o1 58 ((((u0.2.1 o1 58) * (1103515245 : Int64)) + (12345 : Int64)) &&& (2147483647 : Int64))) (fun (u3 : wSt) => wG (¬ (i2.toInt64) = 0) (some (((w_reml ((u3.2.1 o1 58) / (65536 : Int64)) (i2.toInt64)).toInt32), u3)))
set_option maxRecDepth 100000 in
set_option maxHeartbeats 4000000 in
theorem c_X9_number1 {l : Launch} {D : va_G} {κ : Nat → ClassId} {ρ : Nat → Nat} (o1 : Nat) (i2 : Int32) (h_o1 : (w_sh o1).1 = 9) : wMI l yX9_number1 cX9_number1 2 .int (wRm 0 0) [.ref (ρ o1), .int i2] D κ ρ 1 (fun u => F_X9_number1 o1 i2 u) := by
  refine wMI_of (F := fun u => F_X9_number1 o1 i2 u) rfl (Nat.le_of_ble_eq_true rfl) (fun u0 z p e s m args below meth c ls A hF hC hr hlk hH hl => ?_)
  have hl : lv_has ls 2 [(0, .ref (ρ o1)), (1, .int i2)] := hl
  have hx := hC.1.1
  have hb := hC.1.2.1
  have hF : F_X9_number1 o1 i2 u0 = some z := hF
  unfold F_X9_number1 at hF
  change W p l e (wRm 0 0) s m args below meth c s.heap [] 0 0 (wQI below args s A D κ ρ 1 z) (F0 m 0 ls [])
  have key : ∀ (H : Heap) (locs : List Loc), wHp D κ ρ 1 A s.heap H locs u0 → W p l e (wRm 0 0) s m args below meth c H locs 0 0 (wQI below args s A D κ ρ 1 z) (F0 m 0 ls []) := by
    intro H locs hH
    refine lv_aload_n hx hb dX9_number1_0 rfl (lv_at hl 0 rfl) ?_
    refine lv_aload_n hx hb dX9_number1_1 rfl (lv_at hl 0 rfl) ?_
    refine wx_getL hC hH h_o1 rfl f_X9_337 dX9_number1_2 ?_
    refine lv_ldc2 hx hb hC.1.2.2.2.1 (hC.1.2.2.2.2 _ l_X9_414) dX9_number1_5 ?_
    refine lv_lmul hx hb dX9_number1_8 ?_
    refine lv_ldc2 hx hb hC.1.2.2.2.1 (hC.1.2.2.2.2 _ l_X9_416) dX9_number1_9 ?_
    refine lv_ladd hx hb dX9_number1_12 ?_
    refine lv_ldc2 hx hb hC.1.2.2.2.1 (hC.1.2.2.2.2 _ l_X9_418) dX9_number1_13 ?_
    refine lv_land hx hb dX9_number1_16 ?_
    refine wx_putL hC hH h_o1 rfl f_X9_337 g_9_58 dX9_number1_17 hF (fun u3 H locs hF hH => ?_)
    refine lv_aload_n hx hb dX9_number1_20 rfl (lv_at hl 0 rfl) ?_
    refine wx_getL hC hH h_o1 rfl f_X9_337 dX9_number1_21 ?_
    refine lv_ldc2 hx hb hC.1.2.2.2.1 (hC.1.2.2.2.2 _ l_X9_420) dX9_number1_24 ?_
    refine lv_ldiv hx hb dX9_number1_27 (by decide) ?_
    refine lv_iload_n hx hb dX9_number1_28 rfl (lv_at hl 1 rfl) ?_
    refine lv_i2l hx hb dX9_number1_29 rfl ?_
    obtain ⟨h0, hF⟩ := wG_some hF
    refine wx_lrem hx hb dX9_number1_30 h0 ?_
    refine lv_l2i hx hb dX9_number1_31 rfl ?_
    exact wx_iret hC hH hr hlk dX9_number1_32 hF
  exact key _ _ hH

def F_X8_swoon_b16 (o1 : Nat) (i2 : Int32) (i6 : Int32) (u7 : wSt) : Option ((Int32 × wSt) ⊕ (Int32 × wSt)) :=
  if (199 : Int32) < i6 then (some (.inr ((-2 : Int32), u7))) else (wR (u7.2.2 o1 7) 3 (fun o8 => wP (F_X3_hasFainted o8 i2 u7) (fun (i9 : Int32) => if i9 = 0 then (wR (u7.2.2 o1 9) 0 (fun o10 => wR (u7.2.2 o1 7) 3 (fun o11 => wC (F_X0_goOn o10 o11 u7) (fun (i13 : Int32) (u12 : wSt) => wB (i6 + (1 : Int32)) (fun (i14 : Int32) => some (.inl (i14, u12))))))) else (some (.inr (i6, u7))))))
def F_X8_swoon (o1 : Nat) (i2 : Int32) (u0 : wSt) : Option (Int32 × wSt) :=
  wP (F_X8_isGuest o1 i2 u0) (fun (i3 : Int32) => if i3 = 0 then (some ((-1 : Int32), u0)) else (wC (F_X8_startTrial o1 u0) (fun _ (u4 : wSt) => wL (S := Int32 × wSt) (fun x => F_X8_swoon_b16 o1 i2 x.1 x.2) wFu ((0 : Int32), u4))))
set_option maxRecDepth 100000 in
set_option maxHeartbeats 4000000 in
theorem c_X8_swoon {l : Launch} {D : va_G} {κ : Nat → ClassId} {ρ : Nat → Nat} (o1 : Nat) (i2 : Int32) (h_o1 : (w_sh o1).1 = 8) : wMI l yX8_swoon cX8_swoon 3 .int (wRm 6 155) [.ref (ρ o1), .int i2] D κ ρ 0 (fun u => F_X8_swoon o1 i2 u) := by
  refine wMI_of (F := fun u => F_X8_swoon o1 i2 u) rfl (Nat.le_of_ble_eq_true rfl) (fun u0 z p e s m args below meth c ls A hF hC hr hlk hH hl => ?_)
  have hl : lv_has ls 3 [(0, .ref (ρ o1)), (1, .int i2)] := hl
  have hx := hC.1.1
  have hb := hC.1.2.1
  have hF : F_X8_swoon o1 i2 u0 = some z := hF
  unfold F_X8_swoon at hF
  change W p l e (wRm 6 155) s m args below meth c s.heap [] 0 0 (wQI below args s A D κ ρ 0 z) (F0 m 0 ls [])
  have key : ∀ (H : Heap) (locs : List Loc), wHp D κ ρ 0 A s.heap H locs u0 → W p l e (wRm 6 155) s m args below meth c H locs 0 0 (wQI below args s A D κ ρ 0 z) (F0 m 0 ls []) := by
    intro H locs hH
    refine lv_aload_n hx hb dX8_swoon_0 rfl (lv_at hl 0 rfl) ?_
    refine lv_iload_n hx hb dX8_swoon_1 rfl (lv_at hl 1 rfl) ?_
    refine wx_pvi hC hH hl (c_X8_isGuest o1 i2 h_o1) y_X8_isGuest v_X8_isGuest h_o1 rfl m_X8_118 rfl ⟨Nat.le_of_ble_eq_true rfl, Nat.le_of_ble_eq_true rfl⟩ ⟨Nat.le_refl _, Nat.le_refl _⟩ rfl (Nat.le_of_ble_eq_true rfl) dX8_swoon_2 hF (fun i3 H locs hF hH => ?_)
    refine lv_if_ne hx hb dX8_swoon_5 (tgt := 10) rfl (fun h => ?_) (fun h => ?_)
    · have hF := wx_f h hF
      refine lv_aload_n hx hb dX8_swoon_10 rfl (lv_at hl 0 rfl) ?_
      refine wx_evv hC hH hl (c_X8_startTrial o1 h_o1) y_X8_startTrial v_X8_startTrial h_o1 rfl m_X8_218 rfl ⟨Nat.le_of_ble_eq_true rfl, Nat.le_of_ble_eq_true rfl⟩ ⟨Nat.le_refl _, Nat.le_refl _⟩ rfl (Nat.le_of_ble_eq_true rfl) dX8_swoon_11 hF (fun _ u4 H locs hF hH => ?_)
      refine lv_iconst hx hb dX8_swoon_14 k_iconst_0 ?_
      refine wx_istore_n hx hb dX8_swoon_15 rfl hl (by decide) (fun ls hl => ?_)
      have hl : lv_has ls 3 [(2, .int (0 : Int32)), (0, .ref (ρ o1)), (1, .int i2)] := hl
      have hL16 : ∀ (k5_ : Nat) (i6 : Int32) (u7 : wSt) (H : Heap) (locs : List Loc) (ls : Array Slot), wL (S := Int32 × wSt) (fun x => F_X8_swoon_b16 o1 i2 x.1 x.2) k5_ (i6, u7) = some z → wHp D κ ρ 0 A s.heap H locs u7 → lv_has ls 3 [(0, .ref (ρ o1)), (1, .int i2), (2, .int i6)] → W p l e (wRm 6 155) s m args below meth c H locs 0 0 (wQI below args s A D κ ρ 0 z) (F0 m 16 ls []) := by
        intro k5_
        induction k5_ with
        | zero => intro i6 u7 H locs ls hF; exact wL_zero hF
        | succ k5_ ih5 =>
          intro i6 u7 H locs ls hF hH hl
          obtain ⟨q5_, hF, hq5⟩ := wL_some hF
          have hF : F_X8_swoon_b16 o1 i2 i6 u7 = some q5_ := hF
          unfold F_X8_swoon_b16 at hF
          refine lv_iload_n hx hb dX8_swoon_16 rfl (lv_at hl 2 rfl) ?_
          refine lv_sipush hx hb dX8_swoon_17 k_sipush_199 ?_
          refine lv_icmp_gt hx hb dX8_swoon_20 (tgt := 54) rfl (fun h => ?_) (fun h => ?_)
          · have hF := wx_t h hF
            refine lv_bipush hx hb dX8_swoon_54 k_bipush_m2 ?_
            have hF := wJ_r hq5 hF
            exact wx_iret hC hH hr hlk dX8_swoon_56 hF
          have hF := wx_f h hF
          refine lv_aload_n hx hb dX8_swoon_23 rfl (lv_at hl 0 rfl) ?_
          refine wx_getR hC hH h_o1 rfl f_X8_48 dX8_swoon_24 hF (fun o8 h_o8 hF => ?_)
          refine lv_iload_n hx hb dX8_swoon_27 rfl (lv_at hl 1 rfl) ?_
          refine wx_pvi hC hH hl (c_X3_hasFainted o8 i2 h_o8) y_X3_hasFainted v_X3_hasFainted h_o8 rfl m_X8_141 rfl ⟨Nat.le_of_ble_eq_true rfl, Nat.le_of_ble_eq_true rfl⟩ ⟨Nat.le_refl _, Nat.le_refl _⟩ rfl (Nat.le_of_ble_eq_true rfl) dX8_swoon_28 hF (fun i9 H locs hF hH => ?_)
          refine lv_if_eq hx hb dX8_swoon_31 (tgt := 36) rfl (fun h => ?_) (fun h => ?_)
          · have hF := wx_t h hF
            refine lv_aload_n hx hb dX8_swoon_36 rfl (lv_at hl 0 rfl) ?_
            refine wx_getR hC hH h_o1 rfl f_X8_60 dX8_swoon_37 hF (fun o10 h_o10 hF => ?_)
            refine lv_aload_n hx hb dX8_swoon_40 rfl (lv_at hl 0 rfl) ?_
            refine wx_getR hC hH h_o1 rfl f_X8_48 dX8_swoon_41 hF (fun o11 h_o11 hF => ?_)
            refine wx_evi hC hH hl (c_X0_goOn o10 o11 h_o10 h_o11) y_X0_goOn v_X0_goOn h_o10 rfl m_X8_232 rfl ⟨Nat.le_of_ble_eq_true rfl, Nat.le_of_ble_eq_true rfl⟩ ⟨Nat.le_refl _, Nat.le_refl _⟩ rfl (Nat.le_of_ble_eq_true rfl) dX8_swoon_44 hF (fun i13 u12 H locs hF hH => ?_)
            refine lv_pop hx hb dX8_swoon_47 rfl ?_
            refine wx_iinc hx hb dX8_swoon_48 k_iconst_1 hl (k := 2) rfl (by decide) hF (fun i14 ls hF hl => ?_)
            have hl : lv_has ls 3 [(2, .int i14), (0, .ref (ρ o1)), (1, .int i2)] := hl
            refine lv_goto hx hb dX8_swoon_51 (tgt := 16) rfl ?_
            have hF := wJ_l hq5 hF
            exact ih5 i14 u12 H locs ls hF hH (lv_sub hl [1, 2, 0] rfl)
          have hF := wx_f h hF
          refine lv_iload_n hx hb dX8_swoon_34 rfl (lv_at hl 2 rfl) ?_
          have hF := wJ_r hq5 hF
          exact wx_iret hC hH hr hlk dX8_swoon_35 hF
      exact hL16 wFu (0 : Int32) u4 H locs ls hF hH (lv_sub hl [1, 2, 0] rfl)
    have hF := wx_t h hF
    refine lv_iconst hx hb dX8_swoon_8 k_iconst_m1 ?_
    exact wx_iret hC hH hr hlk dX8_swoon_9 hF
  exact key _ _ hH
def F_X8_nextBite_j41 (i2 : Int32) (i5 : Int32) (i6 : Int32) (u7 : wSt) : Option (Int32 × wSt) :=
  if i2 = 0 then (some (i5, u7)) else (some (i6, u7))
def F_X8_nextBite_b17 (o1 : Nat) (i9 : Int32) (u10 : wSt) : Option ((Int32 × wSt) ⊕ ((Int32 × Int32 × wSt) ⊕ (Int32 × wSt))) :=
  if (199 : Int32) < i9 then (some (.inr (.inr ((-2 : Int32), u10)))) else (wR (u10.2.2 o1 9) 0 (fun o11 => wR (u10.2.2 o1 7) 3 (fun o12 => wC (F_X0_goOn o11 o12 u10) (fun (i14 : Int32) (u13 : wSt) => if i14 = (-1 : Int32) then (wB (i9 + (1 : Int32)) (fun (i15 : Int32) => some (.inl (i15, u13)))) else (some (.inr (.inl (i9, i14, u13))))))))
def F_X8_nextBite (o1 : Nat) (i2 : Int32) (u0 : wSt) : Option (Int32 × wSt) :=
  if i2 < 0 then (some ((-1 : Int32), u0)) else (if i2 ≤ (1 : Int32) then (wC (F_X8_startTrial o1 u0) (fun _ (u3 : wSt) => wJ (X := Int32 × Int32 × wSt) (wL (S := Int32 × wSt) (fun x => F_X8_nextBite_b17 o1 x.1 x.2) wFu ((1 : Int32), u3)) (fun x => F_X8_nextBite_j41 i2 x.1 x.2.1 x.2.2))) else (some ((-1 : Int32), u0)))
set_option maxRecDepth 100000 in
set_option maxHeartbeats 4000000 in
theorem c_X8_nextBite {l : Launch} {D : va_G} {κ : Nat → ClassId} {ρ : Nat → Nat} (o1 : Nat) (i2 : Int32) (h_o1 : (w_sh o1).1 = 8) : wMI l yX8_nextBite cX8_nextBite 4 .int (wRm 6 155) [.ref (ρ o1), .int i2] D κ ρ 0 (fun u => F_X8_nextBite o1 i2 u) := by
  refine wMI_of (F := fun u => F_X8_nextBite o1 i2 u) rfl (Nat.le_of_ble_eq_true rfl) (fun u0 z p e s m args below meth c ls A hF hC hr hlk hH hl => ?_)
  have hl : lv_has ls 4 [(0, .ref (ρ o1)), (1, .int i2)] := hl
  have hx := hC.1.1
  have hb := hC.1.2.1
  have hF : F_X8_nextBite o1 i2 u0 = some z := hF
  unfold F_X8_nextBite at hF
  change W p l e (wRm 6 155) s m args below meth c s.heap [] 0 0 (wQI below args s A D κ ρ 0 z) (F0 m 0 ls [])
  have key : ∀ (H : Heap) (locs : List Loc), wHp D κ ρ 0 A s.heap H locs u0 → W p l e (wRm 6 155) s m args below meth c H locs 0 0 (wQI below args s A D κ ρ 0 z) (F0 m 0 ls []) := by
    intro H locs hH
    refine lv_iload_n hx hb dX8_nextBite_0 rfl (lv_at hl 1 rfl) ?_
    refine lv_if_lt hx hb dX8_nextBite_1 (tgt := 9) rfl (fun h => ?_) (fun h => ?_)
    · have hF := wx_t h hF
      refine lv_iconst hx hb dX8_nextBite_9 k_iconst_m1 ?_
      exact wx_iret hC hH hr hlk dX8_nextBite_10 hF
    have hF := wx_f h hF
    refine lv_iload_n hx hb dX8_nextBite_4 rfl (lv_at hl 1 rfl) ?_
    refine lv_iconst hx hb dX8_nextBite_5 k_iconst_1 ?_
    refine lv_icmp_le hx hb dX8_nextBite_6 (tgt := 11) rfl (fun h => ?_) (fun h => ?_)
    · have hF := wx_t h hF
      refine lv_aload_n hx hb dX8_nextBite_11 rfl (lv_at hl 0 rfl) ?_
      refine wx_evv hC hH hl (c_X8_startTrial o1 h_o1) y_X8_startTrial v_X8_startTrial h_o1 rfl m_X8_218 rfl ⟨Nat.le_of_ble_eq_true rfl, Nat.le_of_ble_eq_true rfl⟩ ⟨Nat.le_refl _, Nat.le_refl _⟩ rfl (Nat.le_of_ble_eq_true rfl) dX8_nextBite_12 hF (fun _ u3 H locs hF hH => ?_)
      refine lv_iconst hx hb dX8_nextBite_15 k_iconst_1 ?_
      refine wx_istore_n hx hb dX8_nextBite_16 rfl hl (by decide) (fun ls hl => ?_)
      have hl : lv_has ls 4 [(2, .int (1 : Int32)), (0, .ref (ρ o1)), (1, .int i2)] := hl
      obtain ⟨q4_, hF, hq4⟩ := wJ_some hF
      have hJ41 : ∀ (i5 : Int32) (i6 : Int32) (u7 : wSt) (H : Heap) (locs : List Loc) (ls : Array Slot), F_X8_nextBite_j41 i2 i5 i6 u7 = some z → wHp D κ ρ 0 A s.heap H locs u7 → lv_has ls 4 [(1, .int i2), (2, .int i5), (3, .int i6)] → W p l e (wRm 6 155) s m args below meth c H locs 0 0 (wQI below args s A D κ ρ 0 z) (F0 m 41 ls []) := by
        intro i5 i6 u7 H locs ls hF hH hl
        unfold F_X8_nextBite_j41 at hF
        refine lv_iload_n hx hb dX8_nextBite_41 rfl (lv_at hl 0 rfl) ?_
        refine lv_if_ne hx hb dX8_nextBite_42 (tgt := 49) rfl (fun h => ?_) (fun h => ?_)
        · have hF := wx_f h hF
          refine lv_iload_n hx hb dX8_nextBite_49 rfl (lv_at hl 2 rfl) ?_
          exact wx_iret hC hH hr hlk dX8_nextBite_50 hF
        have hF := wx_t h hF
        refine lv_iload_n hx hb dX8_nextBite_45 rfl (lv_at hl 1 rfl) ?_
        refine lv_goto hx hb dX8_nextBite_46 (tgt := 50) rfl ?_
        exact wx_iret hC hH hr hlk dX8_nextBite_50 hF
      have hL17 : ∀ (k8_ : Nat) (i9 : Int32) (u10 : wSt) (H : Heap) (locs : List Loc) (ls : Array Slot), wL (S := Int32 × wSt) (fun x => F_X8_nextBite_b17 o1 x.1 x.2) k8_ (i9, u10) = some q4_ → wHp D κ ρ 0 A s.heap H locs u10 → lv_has ls 4 [(0, .ref (ρ o1)), (1, .int i2), (2, .int i9)] → W p l e (wRm 6 155) s m args below meth c H locs 0 0 (wQI below args s A D κ ρ 0 z) (F0 m 17 ls []) := by
        intro k8_
        induction k8_ with
        | zero => intro i9 u10 H locs ls hF; exact wL_zero hF
        | succ k8_ ih8 =>
          intro i9 u10 H locs ls hF hH hl
          obtain ⟨q8_, hF, hq8⟩ := wL_some hF
          have hF : F_X8_nextBite_b17 o1 i9 u10 = some q8_ := hF
          unfold F_X8_nextBite_b17 at hF
          refine lv_iload_n hx hb dX8_nextBite_17 rfl (lv_at hl 2 rfl) ?_
          refine lv_sipush hx hb dX8_nextBite_18 k_sipush_199 ?_
          refine lv_icmp_gt hx hb dX8_nextBite_21 (tgt := 57) rfl (fun h => ?_) (fun h => ?_)
          · have hF := wx_t h hF
            refine lv_bipush hx hb dX8_nextBite_57 k_bipush_m2 ?_
            have hF := wJ_r hq8 hF
            have hF := wJ_r hq4 hF
            exact wx_iret hC hH hr hlk dX8_nextBite_59 hF
          have hF := wx_f h hF
          refine lv_aload_n hx hb dX8_nextBite_24 rfl (lv_at hl 0 rfl) ?_
          refine wx_getR hC hH h_o1 rfl f_X8_60 dX8_nextBite_25 hF (fun o11 h_o11 hF => ?_)
          refine lv_aload_n hx hb dX8_nextBite_28 rfl (lv_at hl 0 rfl) ?_
          refine wx_getR hC hH h_o1 rfl f_X8_48 dX8_nextBite_29 hF (fun o12 h_o12 hF => ?_)
          refine wx_evi hC hH hl (c_X0_goOn o11 o12 h_o11 h_o12) y_X0_goOn v_X0_goOn h_o11 rfl m_X8_232 rfl ⟨Nat.le_of_ble_eq_true rfl, Nat.le_of_ble_eq_true rfl⟩ ⟨Nat.le_refl _, Nat.le_refl _⟩ rfl (Nat.le_of_ble_eq_true rfl) dX8_nextBite_32 hF (fun i14 u13 H locs hF hH => ?_)
          refine wx_istore_n hx hb dX8_nextBite_35 rfl hl (by decide) (fun ls hl => ?_)
          have hl : lv_has ls 4 [(3, .int i14), (0, .ref (ρ o1)), (1, .int i2), (2, .int i9)] := hl
          refine lv_iload_n hx hb dX8_nextBite_36 rfl (lv_at hl 0 rfl) ?_
          refine lv_iconst hx hb dX8_nextBite_37 k_iconst_m1 ?_
          refine lv_icmp_eq hx hb dX8_nextBite_38 (tgt := 51) rfl (fun h => ?_) (fun h => ?_)
          · have hF := wx_t h hF
            refine wx_iinc hx hb dX8_nextBite_51 k_iconst_1 hl (k := 3) rfl (by decide) hF (fun i15 ls hF hl => ?_)
            have hl : lv_has ls 4 [(2, .int i15), (3, .int i14), (0, .ref (ρ o1)), (1, .int i2)] := hl
            refine lv_goto hx hb dX8_nextBite_54 (tgt := 17) rfl ?_
            have hF := wJ_l hq8 hF
            exact ih8 i15 u13 H locs ls hF hH (lv_sub hl [2, 3, 0] rfl)
          have hF := wx_f h hF
          have hF := wJ_r hq8 hF
          have hF := wJ_l hq4 hF
          exact hJ41 i9 i14 u13 H locs ls hF hH (lv_sub hl [2, 3, 0] rfl)
      exact hL17 wFu (1 : Int32) u3 H locs ls hF hH (lv_sub hl [1, 2, 0] rfl)
    have hF := wx_f h hF
    refine lv_iconst hx hb dX8_nextBite_9 k_iconst_m1 ?_
    exact wx_iret hC hH hr hlk dX8_nextBite_10 hF
  exact key _ _ hH
def F_X8_firstSeating_j53 (i4 : Int32) (i11 : Int32) (u12 : wSt) : Option ((Int32 × Int32 × wSt) ⊕ (Unit × wSt)) :=
  wB (i4 + (1 : Int32)) (fun (i13 : Int32) => some (.inl (i11, i13, u12)))
def F_X8_firstSeating_b4 (o1 : Nat) (i3 : Int32) (i4 : Int32) (u5 : wSt) : Option ((Int32 × Int32 × wSt) ⊕ (Unit × wSt)) :=
  wR (u5.2.2 o1 2) 6 (fun o6 => if (u5.1 o6 1) ≤ i4 then (some (.inr ((), u5))) else (wR (u5.2.2 o1 5) 3 (fun o7 => wR (u5.2.2 o7 4) 10 (fun o8 => wN i4 o8 (fun j9 => wJ (X := Int32 × wSt) (if (u5.1 o8 j9) = 0 then (wR (u5.2.2 o1 12) 10 (fun o17 => wSI u5 o17 (0 : Int32) i4 (fun (u18 : wSt) => some (.inl (i3, u18))))) else (if (6 : Int32) ≤ i3 then (some (.inl (i3, u5))) else (wR (u5.2.2 o1 12) 10 (fun o14 => wSI u5 o14 i3 i4 (fun (u15 : wSt) => wB (i3 + (1 : Int32)) (fun (i16 : Int32) => some (.inl (i16, u15)))))))) (fun x => F_X8_firstSeating_j53 i4 x.1 x.2))))))
def F_X8_firstSeating (o1 : Nat) (u0 : wSt) : Option (Unit × wSt) :=
  wL (S := Int32 × Int32 × wSt) (fun x => F_X8_firstSeating_b4 o1 x.1 x.2.1 x.2.2) wFu ((1 : Int32), (0 : Int32), u0)
set_option maxRecDepth 100000 in
set_option maxHeartbeats 4000000 in
theorem c_X8_firstSeating {l : Launch} {D : va_G} {κ : Nat → ClassId} {ρ : Nat → Nat} (o1 : Nat) (h_o1 : (w_sh o1).1 = 8) : wMV l yX8_firstSeating cX8_firstSeating 3 (wRm 0 0) [.ref (ρ o1)] D κ ρ 0 (fun u => F_X8_firstSeating o1 u) := by
  refine wMV_of (F := fun u => F_X8_firstSeating o1 u) rfl (Nat.le_of_ble_eq_true rfl) (fun u0 z p e s m args below meth c ls A hF hC hr hlk hH hl => ?_)
  have hl : lv_has ls 3 [(0, .ref (ρ o1))] := hl
  have hx := hC.1.1
  have hb := hC.1.2.1
  have hF : F_X8_firstSeating o1 u0 = some z := hF
  unfold F_X8_firstSeating at hF
  change W p l e (wRm 0 0) s m args below meth c s.heap [] 0 0 (wQV below args s A D κ ρ 0 z) (F0 m 0 ls [])
  have key : ∀ (H : Heap) (locs : List Loc), wHp D κ ρ 0 A s.heap H locs u0 → W p l e (wRm 0 0) s m args below meth c H locs 0 0 (wQV below args s A D κ ρ 0 z) (F0 m 0 ls []) := by
    intro H locs hH
    refine lv_iconst hx hb dX8_firstSeating_0 k_iconst_1 ?_
    refine wx_istore_n hx hb dX8_firstSeating_1 rfl hl (by decide) (fun ls hl => ?_)
    have hl : lv_has ls 3 [(1, .int (1 : Int32)), (0, .ref (ρ o1))] := hl
    refine lv_iconst hx hb dX8_firstSeating_2 k_iconst_0 ?_
    refine wx_istore_n hx hb dX8_firstSeating_3 rfl hl (by decide) (fun ls hl => ?_)
    have hl : lv_has ls 3 [(2, .int (0 : Int32)), (1, .int (1 : Int32)), (0, .ref (ρ o1))] := hl
    have hL4 : ∀ (k2_ : Nat) (i3 : Int32) (i4 : Int32) (u5 : wSt) (H : Heap) (locs : List Loc) (ls : Array Slot), wL (S := Int32 × Int32 × wSt) (fun x => F_X8_firstSeating_b4 o1 x.1 x.2.1 x.2.2) k2_ (i3, i4, u5) = some z → wHp D κ ρ 0 A s.heap H locs u5 → lv_has ls 3 [(0, .ref (ρ o1)), (1, .int i3), (2, .int i4)] → W p l e (wRm 0 0) s m args below meth c H locs 0 0 (wQV below args s A D κ ρ 0 z) (F0 m 4 ls []) := by
      intro k2_
      induction k2_ with
      | zero => intro i3 i4 u5 H locs ls hF; exact wL_zero hF
      | succ k2_ ih2 =>
        intro i3 i4 u5 H locs ls hF hH hl
        obtain ⟨q2_, hF, hq2⟩ := wL_some hF
        have hF : F_X8_firstSeating_b4 o1 i3 i4 u5 = some q2_ := hF
        unfold F_X8_firstSeating_b4 at hF
        refine lv_iload_n hx hb dX8_firstSeating_4 rfl (lv_at hl 2 rfl) ?_
        refine lv_aload_n hx hb dX8_firstSeating_5 rfl (lv_at hl 0 rfl) ?_
        refine wx_getR hC hH h_o1 rfl f_X8_22 dX8_firstSeating_6 hF (fun o6 h_o6 hF => ?_)
        refine wx_getI hC hH h_o6 rfl f_X8_235 dX8_firstSeating_9 ?_
        refine lv_icmp_ge hx hb dX8_firstSeating_12 (tgt := 59) rfl (fun h => ?_) (fun h => ?_)
        · have hF := wx_t h hF
          have hF := wJ_r hq2 hF
          exact wx_vret hC hH hr hlk dX8_firstSeating_59 hF
        have hF := wx_f h hF
        refine lv_aload_n hx hb dX8_firstSeating_15 rfl (lv_at hl 0 rfl) ?_
        refine wx_getR hC hH h_o1 rfl f_X8_41 dX8_firstSeating_16 hF (fun o7 h_o7 hF => ?_)
        refine wx_getR hC hH h_o7 rfl f_X8_138 dX8_firstSeating_19 hF (fun o8 h_o8 hF => ?_)
        refine lv_iload_n hx hb dX8_firstSeating_22 rfl (lv_at hl 2 rfl) ?_
        refine wx_iald hC hH h_o8 ⟨rfl, rfl⟩ dX8_firstSeating_23 hF (fun j9 hF => ?_)
        obtain ⟨q10_, hF, hq10⟩ := wJ_some hF
        have hJ53 : ∀ (i11 : Int32) (u12 : wSt) (H : Heap) (locs : List Loc) (ls : Array Slot), F_X8_firstSeating_j53 i4 i11 u12 = some q2_ → wHp D κ ρ 0 A s.heap H locs u12 → lv_has ls 3 [(0, .ref (ρ o1)), (1, .int i11), (2, .int i4)] → W p l e (wRm 0 0) s m args below meth c H locs 0 0 (wQV below args s A D κ ρ 0 z) (F0 m 53 ls []) := by
          intro i11 u12 H locs ls hF hH hl
          unfold F_X8_firstSeating_j53 at hF
          refine wx_iinc hx hb dX8_firstSeating_53 k_iconst_1 hl (k := 2) rfl (by decide) hF (fun i13 ls hF hl => ?_)
          have hl : lv_has ls 3 [(2, .int i13), (0, .ref (ρ o1)), (1, .int i11)] := hl
          refine lv_goto hx hb dX8_firstSeating_56 (tgt := 4) rfl ?_
          have hF := wJ_l hq2 hF
          exact ih2 i11 i13 u12 H locs ls hF hH (lv_sub hl [1, 2, 0] rfl)
        refine lv_if_ne hx hb dX8_firstSeating_24 (tgt := 37) rfl (fun h => ?_) (fun h => ?_)
        · have hF := wx_f h hF
          refine lv_iload_n hx hb dX8_firstSeating_37 rfl (lv_at hl 1 rfl) ?_
          refine lv_bipush hx hb dX8_firstSeating_38 k_bipush_6 ?_
          refine lv_icmp_ge hx hb dX8_firstSeating_40 (tgt := 53) rfl (fun h => ?_) (fun h => ?_)
          · have hF := wx_t h hF
            have hF := wJ_l hq10 hF
            exact hJ53 i3 u5 H locs ls hF hH (lv_sub hl [0, 1, 2] rfl)
          have hF := wx_f h hF
          refine lv_aload_n hx hb dX8_firstSeating_43 rfl (lv_at hl 0 rfl) ?_
          refine wx_getR hC hH h_o1 rfl f_X8_78 dX8_firstSeating_44 hF (fun o14 h_o14 hF => ?_)
          refine lv_iload_n hx hb dX8_firstSeating_47 rfl (lv_at hl 1 rfl) ?_
          refine lv_iload_n hx hb dX8_firstSeating_48 rfl (lv_at hl 2 rfl) ?_
          refine wx_iast hC hH h_o14 ⟨rfl, rfl⟩ dX8_firstSeating_49 hF (fun u15 H locs hF hH => ?_)
          refine wx_iinc hx hb dX8_firstSeating_50 k_iconst_1 hl (k := 1) rfl (by decide) hF (fun i16 ls hF hl => ?_)
          have hl : lv_has ls 3 [(1, .int i16), (0, .ref (ρ o1)), (2, .int i4)] := hl
          have hF := wJ_l hq10 hF
          exact hJ53 i16 u15 H locs ls hF hH (lv_sub hl [1, 0, 2] rfl)
        have hF := wx_t h hF
        refine lv_aload_n hx hb dX8_firstSeating_27 rfl (lv_at hl 0 rfl) ?_
        refine wx_getR hC hH h_o1 rfl f_X8_78 dX8_firstSeating_28 hF (fun o17 h_o17 hF => ?_)
        refine lv_iconst hx hb dX8_firstSeating_31 k_iconst_0 ?_
        refine lv_iload_n hx hb dX8_firstSeating_32 rfl (lv_at hl 2 rfl) ?_
        refine wx_iast hC hH h_o17 ⟨rfl, rfl⟩ dX8_firstSeating_33 hF (fun u18 H locs hF hH => ?_)
        refine lv_goto hx hb dX8_firstSeating_34 (tgt := 53) rfl ?_
        have hF := wJ_l hq10 hF
        exact hJ53 i3 u18 H locs ls hF hH (lv_sub hl [0, 1, 2] rfl)
    exact hL4 wFu (1 : Int32) (0 : Int32) u0 H locs ls hF hH (lv_sub hl [2, 1, 0] rfl)
  exact key _ _ hH
def F_X8_fallenBySeating_b42 (i2 : Int32) (o1 : Nat) (i7 : Int32) (i8 : Int32) (u9 : wSt) : Option ((Int32 × Int32 × wSt) ⊕ (Int32 × wSt)) :=
  if (40 : Int32) ≤ i8 then (some (.inr (i7, u9))) else (if i2 ≤ i7 then (some (.inr (i7, u9))) else (wR (u9.2.2 o1 9) 0 (fun o10 => wR (u9.2.2 o1 7) 3 (fun o11 => wC (F_X0_goOn o10 o11 u9) (fun (i13 : Int32) (u12 : wSt) => wP (F_X8_fallenInTrial o1 u12) (fun (i14 : Int32) => wB (i8 + (1 : Int32)) (fun (i15 : Int32) => some (.inl (i14, i15, u12)))))))))
def F_X8_fallenBySeating_j38 (i2 : Int32) (o1 : Nat) (u5 : wSt) : Option (Int32 × wSt) :=
  wL (S := Int32 × Int32 × wSt) (fun x => F_X8_fallenBySeating_b42 i2 o1 x.1 x.2.1 x.2.2) wFu ((0 : Int32), (0 : Int32), u5)
def F_X8_fallenBySeating_b6 (o1 : Nat) (i17 : Int32) (u18 : wSt) : Option ((Int32 × wSt) ⊕ ((wSt) ⊕ (Int32 × wSt))) :=
  wR (u18.2.2 o1 2) 6 (fun o19 => if (u18.1 o19 1) ≤ i17 then (some (.inr (.inl u18))) else (wR (u18.2.2 o1 7) 3 (fun o20 => wR (u18.2.2 o20 4) 10 (fun o21 => wR (u18.2.2 o1 12) 10 (fun o22 => wN i17 o22 (fun j23 => wSI u18 o21 (u18.1 o22 j23) i17 (fun (u24 : wSt) => wB (i17 + (1 : Int32)) (fun (i25 : Int32) => some (.inl (i25, u24))))))))))
def F_X8_fallenBySeating (o1 : Nat) (i2 : Int32) (u0 : wSt) : Option (Int32 × wSt) :=
  wC (F_X8_startTrial o1 u0) (fun _ (u3 : wSt) => wJ (X := wSt) (wL (S := Int32 × wSt) (fun x => F_X8_fallenBySeating_b6 o1 x.1 x.2) wFu ((0 : Int32), u3)) (fun x => F_X8_fallenBySeating_j38 i2 o1 x))
set_option maxRecDepth 100000 in
set_option maxHeartbeats 4000000 in
theorem c_X8_fallenBySeating {l : Launch} {D : va_G} {κ : Nat → ClassId} {ρ : Nat → Nat} (o1 : Nat) (i2 : Int32) (h_o1 : (w_sh o1).1 = 8) : wMI l yX8_fallenBySeating cX8_fallenBySeating 4 .int (wRm 6 155) [.ref (ρ o1), .int i2] D κ ρ 0 (fun u => F_X8_fallenBySeating o1 i2 u) := by
  refine wMI_of (F := fun u => F_X8_fallenBySeating o1 i2 u) rfl (Nat.le_of_ble_eq_true rfl) (fun u0 z p e s m args below meth c ls A hF hC hr hlk hH hl => ?_)
  have hl : lv_has ls 4 [(0, .ref (ρ o1)), (1, .int i2)] := hl
  have hx := hC.1.1
  have hb := hC.1.2.1
  have hF : F_X8_fallenBySeating o1 i2 u0 = some z := hF
  unfold F_X8_fallenBySeating at hF
  change W p l e (wRm 6 155) s m args below meth c s.heap [] 0 0 (wQI below args s A D κ ρ 0 z) (F0 m 0 ls [])
  have key : ∀ (H : Heap) (locs : List Loc), wHp D κ ρ 0 A s.heap H locs u0 → W p l e (wRm 6 155) s m args below meth c H locs 0 0 (wQI below args s A D κ ρ 0 z) (F0 m 0 ls []) := by
    intro H locs hH
    refine lv_aload_n hx hb dX8_fallenBySeating_0 rfl (lv_at hl 0 rfl) ?_
    refine wx_evv hC hH hl (c_X8_startTrial o1 h_o1) y_X8_startTrial v_X8_startTrial h_o1 rfl m_X8_218 rfl ⟨Nat.le_of_ble_eq_true rfl, Nat.le_of_ble_eq_true rfl⟩ ⟨Nat.le_refl _, Nat.le_refl _⟩ rfl (Nat.le_of_ble_eq_true rfl) dX8_fallenBySeating_1 hF (fun _ u3 H locs hF hH => ?_)
    refine lv_iconst hx hb dX8_fallenBySeating_4 k_iconst_0 ?_
    refine wx_istore_n hx hb dX8_fallenBySeating_5 rfl hl (by decide) (fun ls hl => ?_)
    have hl : lv_has ls 4 [(2, .int (0 : Int32)), (0, .ref (ρ o1)), (1, .int i2)] := hl
    obtain ⟨q4_, hF, hq4⟩ := wJ_some hF
    have hJ38 : ∀ (u5 : wSt) (H : Heap) (locs : List Loc) (ls : Array Slot), F_X8_fallenBySeating_j38 i2 o1 u5 = some z → wHp D κ ρ 0 A s.heap H locs u5 → lv_has ls 4 [(0, .ref (ρ o1)), (1, .int i2)] → W p l e (wRm 6 155) s m args below meth c H locs 0 0 (wQI below args s A D κ ρ 0 z) (F0 m 38 ls []) := by
      intro u5 H locs ls hF hH hl
      unfold F_X8_fallenBySeating_j38 at hF
      refine lv_iconst hx hb dX8_fallenBySeating_38 k_iconst_0 ?_
      refine wx_istore_n hx hb dX8_fallenBySeating_39 rfl hl (by decide) (fun ls hl => ?_)
      have hl : lv_has ls 4 [(2, .int (0 : Int32)), (0, .ref (ρ o1)), (1, .int i2)] := hl
      refine lv_iconst hx hb dX8_fallenBySeating_40 k_iconst_0 ?_
      refine wx_istore_n hx hb dX8_fallenBySeating_41 rfl hl (by decide) (fun ls hl => ?_)
      have hl : lv_has ls 4 [(3, .int (0 : Int32)), (2, .int (0 : Int32)), (0, .ref (ρ o1)), (1, .int i2)] := hl
      have hL42 : ∀ (k6_ : Nat) (i7 : Int32) (i8 : Int32) (u9 : wSt) (H : Heap) (locs : List Loc) (ls : Array Slot), wL (S := Int32 × Int32 × wSt) (fun x => F_X8_fallenBySeating_b42 i2 o1 x.1 x.2.1 x.2.2) k6_ (i7, i8, u9) = some z → wHp D κ ρ 0 A s.heap H locs u9 → lv_has ls 4 [(0, .ref (ρ o1)), (1, .int i2), (2, .int i7), (3, .int i8)] → W p l e (wRm 6 155) s m args below meth c H locs 0 0 (wQI below args s A D κ ρ 0 z) (F0 m 42 ls []) := by
        intro k6_
        induction k6_ with
        | zero => intro i7 i8 u9 H locs ls hF; exact wL_zero hF
        | succ k6_ ih6 =>
          intro i7 i8 u9 H locs ls hF hH hl
          obtain ⟨q6_, hF, hq6⟩ := wL_some hF
          have hF : F_X8_fallenBySeating_b42 i2 o1 i7 i8 u9 = some q6_ := hF
          unfold F_X8_fallenBySeating_b42 at hF
          refine lv_iload_n hx hb dX8_fallenBySeating_42 rfl (lv_at hl 3 rfl) ?_
          refine lv_bipush hx hb dX8_fallenBySeating_43 k_bipush_40 ?_
          refine lv_icmp_ge hx hb dX8_fallenBySeating_45 (tgt := 76) rfl (fun h => ?_) (fun h => ?_)
          · have hF := wx_t h hF
            refine lv_iload_n hx hb dX8_fallenBySeating_76 rfl (lv_at hl 2 rfl) ?_
            have hF := wJ_r hq6 hF
            exact wx_iret hC hH hr hlk dX8_fallenBySeating_77 hF
          have hF := wx_f h hF
          refine lv_iload_n hx hb dX8_fallenBySeating_48 rfl (lv_at hl 2 rfl) ?_
          refine lv_iload_n hx hb dX8_fallenBySeating_49 rfl (lv_at hl 1 rfl) ?_
          refine lv_icmp_ge hx hb dX8_fallenBySeating_50 (tgt := 76) rfl (fun h => ?_) (fun h => ?_)
          · have hF := wx_t h hF
            refine lv_iload_n hx hb dX8_fallenBySeating_76 rfl (lv_at hl 2 rfl) ?_
            have hF := wJ_r hq6 hF
            exact wx_iret hC hH hr hlk dX8_fallenBySeating_77 hF
          have hF := wx_f h hF
          refine lv_aload_n hx hb dX8_fallenBySeating_53 rfl (lv_at hl 0 rfl) ?_
          refine wx_getR hC hH h_o1 rfl f_X8_60 dX8_fallenBySeating_54 hF (fun o10 h_o10 hF => ?_)
          refine lv_aload_n hx hb dX8_fallenBySeating_57 rfl (lv_at hl 0 rfl) ?_
          refine wx_getR hC hH h_o1 rfl f_X8_48 dX8_fallenBySeating_58 hF (fun o11 h_o11 hF => ?_)
          refine wx_evi hC hH hl (c_X0_goOn o10 o11 h_o10 h_o11) y_X0_goOn v_X0_goOn h_o10 rfl m_X8_232 rfl ⟨Nat.le_of_ble_eq_true rfl, Nat.le_of_ble_eq_true rfl⟩ ⟨Nat.le_refl _, Nat.le_refl _⟩ rfl (Nat.le_of_ble_eq_true rfl) dX8_fallenBySeating_61 hF (fun i13 u12 H locs hF hH => ?_)
          refine lv_pop hx hb dX8_fallenBySeating_64 rfl ?_
          refine lv_aload_n hx hb dX8_fallenBySeating_65 rfl (lv_at hl 0 rfl) ?_
          refine wx_pvi hC hH hl (c_X8_fallenInTrial o1 h_o1) y_X8_fallenInTrial v_X8_fallenInTrial h_o1 rfl m_X8_225 rfl ⟨Nat.le_of_ble_eq_true rfl, Nat.le_of_ble_eq_true rfl⟩ ⟨Nat.le_refl _, Nat.le_refl _⟩ rfl (Nat.le_of_ble_eq_true rfl) dX8_fallenBySeating_66 hF (fun i14 H locs hF hH => ?_)
          refine wx_istore_n hx hb dX8_fallenBySeating_69 rfl hl (by decide) (fun ls hl => ?_)
          have hl : lv_has ls 4 [(2, .int i14), (0, .ref (ρ o1)), (1, .int i2), (3, .int i8)] := hl
          refine wx_iinc hx hb dX8_fallenBySeating_70 k_iconst_1 hl (k := 3) rfl (by decide) hF (fun i15 ls hF hl => ?_)
          have hl : lv_has ls 4 [(3, .int i15), (2, .int i14), (0, .ref (ρ o1)), (1, .int i2)] := hl
          refine lv_goto hx hb dX8_fallenBySeating_73 (tgt := 42) rfl ?_
          have hF := wJ_l hq6 hF
          exact ih6 i14 i15 u12 H locs ls hF hH (lv_sub hl [2, 3, 1, 0] rfl)
      exact hL42 wFu (0 : Int32) (0 : Int32) u5 H locs ls hF hH (lv_sub hl [2, 3, 1, 0] rfl)
    have hL6 : ∀ (k16_ : Nat) (i17 : Int32) (u18 : wSt) (H : Heap) (locs : List Loc) (ls : Array Slot), wL (S := Int32 × wSt) (fun x => F_X8_fallenBySeating_b6 o1 x.1 x.2) k16_ (i17, u18) = some q4_ → wHp D κ ρ 0 A s.heap H locs u18 → lv_has ls 4 [(0, .ref (ρ o1)), (1, .int i2), (2, .int i17)] → W p l e (wRm 6 155) s m args below meth c H locs 0 0 (wQI below args s A D κ ρ 0 z) (F0 m 6 ls []) := by
      intro k16_
      induction k16_ with
      | zero => intro i17 u18 H locs ls hF; exact wL_zero hF
      | succ k16_ ih16 =>
        intro i17 u18 H locs ls hF hH hl
        obtain ⟨q16_, hF, hq16⟩ := wL_some hF
        have hF : F_X8_fallenBySeating_b6 o1 i17 u18 = some q16_ := hF
        unfold F_X8_fallenBySeating_b6 at hF
        refine lv_iload_n hx hb dX8_fallenBySeating_6 rfl (lv_at hl 2 rfl) ?_
        refine lv_aload_n hx hb dX8_fallenBySeating_7 rfl (lv_at hl 0 rfl) ?_
        refine wx_getR hC hH h_o1 rfl f_X8_22 dX8_fallenBySeating_8 hF (fun o19 h_o19 hF => ?_)
        refine wx_getI hC hH h_o19 rfl f_X8_235 dX8_fallenBySeating_11 ?_
        refine lv_icmp_ge hx hb dX8_fallenBySeating_14 (tgt := 38) rfl (fun h => ?_) (fun h => ?_)
        · have hF := wx_t h hF
          have hF := wJ_r hq16 hF
          have hF := wJ_l hq4 hF
          exact hJ38 u18 H locs ls hF hH (lv_sub hl [0, 1] rfl)
        have hF := wx_f h hF
        refine lv_aload_n hx hb dX8_fallenBySeating_17 rfl (lv_at hl 0 rfl) ?_
        refine wx_getR hC hH h_o1 rfl f_X8_48 dX8_fallenBySeating_18 hF (fun o20 h_o20 hF => ?_)
        refine wx_getR hC hH h_o20 rfl f_X8_138 dX8_fallenBySeating_21 hF (fun o21 h_o21 hF => ?_)
        refine lv_aload_n hx hb dX8_fallenBySeating_24 rfl (lv_at hl 0 rfl) ?_
        refine wx_getR hC hH h_o1 rfl f_X8_78 dX8_fallenBySeating_25 hF (fun o22 h_o22 hF => ?_)
        refine lv_iload_n hx hb dX8_fallenBySeating_28 rfl (lv_at hl 2 rfl) ?_
        refine wx_iald hC hH h_o22 ⟨rfl, rfl⟩ dX8_fallenBySeating_29 hF (fun j23 hF => ?_)
        refine lv_iload_n hx hb dX8_fallenBySeating_30 rfl (lv_at hl 2 rfl) ?_
        refine wx_iast hC hH h_o21 ⟨rfl, rfl⟩ dX8_fallenBySeating_31 hF (fun u24 H locs hF hH => ?_)
        refine wx_iinc hx hb dX8_fallenBySeating_32 k_iconst_1 hl (k := 2) rfl (by decide) hF (fun i25 ls hF hl => ?_)
        have hl : lv_has ls 4 [(2, .int i25), (0, .ref (ρ o1)), (1, .int i2)] := hl
        refine lv_goto hx hb dX8_fallenBySeating_35 (tgt := 6) rfl ?_
        have hF := wJ_l hq16 hF
        exact ih16 i25 u24 H locs ls hF hH (lv_sub hl [1, 2, 0] rfl)
    exact hL6 wFu (0 : Int32) u3 H locs ls hF hH (lv_sub hl [1, 2, 0] rfl)
  exact key _ _ hH
def F_X8_exchange (o1 : Nat) (i2 : Int32) (i3 : Int32) (u0 : wSt) : Option (Unit × wSt) :=
  wR (u0.2.2 o1 12) 10 (fun o4 => wN i2 o4 (fun j5 => wB (u0.1 o4 j5) (fun (i6 : Int32) => wR (u0.2.2 o1 12) 10 (fun o7 => wR (u0.2.2 o1 12) 10 (fun o8 => wN i3 o8 (fun j9 => wSI u0 o7 i2 (u0.1 o8 j9) (fun (u10 : wSt) => wR (u10.2.2 o1 12) 10 (fun o11 => wSI u10 o11 i3 i6 (fun (u12 : wSt) => some ((), u12))))))))))
set_option maxRecDepth 100000 in
set_option maxHeartbeats 4000000 in
theorem c_X8_exchange {l : Launch} {D : va_G} {κ : Nat → ClassId} {ρ : Nat → Nat} (o1 : Nat) (i2 : Int32) (i3 : Int32) (h_o1 : (w_sh o1).1 = 8) : wMV l yX8_exchange cX8_exchange 4 (wRm 0 0) [.ref (ρ o1), .int i2, .int i3] D κ ρ 0 (fun u => F_X8_exchange o1 i2 i3 u) := by
  refine wMV_of (F := fun u => F_X8_exchange o1 i2 i3 u) rfl (Nat.le_of_ble_eq_true rfl) (fun u0 z p e s m args below meth c ls A hF hC hr hlk hH hl => ?_)
  have hl : lv_has ls 4 [(0, .ref (ρ o1)), (1, .int i2), (2, .int i3)] := hl
  have hx := hC.1.1
  have hb := hC.1.2.1
  have hF : F_X8_exchange o1 i2 i3 u0 = some z := hF
  unfold F_X8_exchange at hF
  change W p l e (wRm 0 0) s m args below meth c s.heap [] 0 0 (wQV below args s A D κ ρ 0 z) (F0 m 0 ls [])
  have key : ∀ (H : Heap) (locs : List Loc), wHp D κ ρ 0 A s.heap H locs u0 → W p l e (wRm 0 0) s m args below meth c H locs 0 0 (wQV below args s A D κ ρ 0 z) (F0 m 0 ls []) := by
    intro H locs hH
    refine lv_aload_n hx hb dX8_exchange_0 rfl (lv_at hl 0 rfl) ?_
    refine wx_getR hC hH h_o1 rfl f_X8_78 dX8_exchange_1 hF (fun o4 h_o4 hF => ?_)
    refine lv_iload_n hx hb dX8_exchange_4 rfl (lv_at hl 1 rfl) ?_
    refine wx_iald hC hH h_o4 ⟨rfl, rfl⟩ dX8_exchange_5 hF (fun j5 hF => ?_)
    refine wx_leti hF (fun i6 hF => ?_)
    refine wx_istore_n hx hb dX8_exchange_6 rfl hl (by decide) (fun ls hl => ?_)
    have hl : lv_has ls 4 [(3, .int i6), (0, .ref (ρ o1)), (1, .int i2), (2, .int i3)] := hl
    refine lv_aload_n hx hb dX8_exchange_7 rfl (lv_at hl 1 rfl) ?_
    refine wx_getR hC hH h_o1 rfl f_X8_78 dX8_exchange_8 hF (fun o7 h_o7 hF => ?_)
    refine lv_iload_n hx hb dX8_exchange_11 rfl (lv_at hl 2 rfl) ?_
    refine lv_aload_n hx hb dX8_exchange_12 rfl (lv_at hl 1 rfl) ?_
    refine wx_getR hC hH h_o1 rfl f_X8_78 dX8_exchange_13 hF (fun o8 h_o8 hF => ?_)
    refine lv_iload_n hx hb dX8_exchange_16 rfl (lv_at hl 3 rfl) ?_
    refine wx_iald hC hH h_o8 ⟨rfl, rfl⟩ dX8_exchange_17 hF (fun j9 hF => ?_)
    refine wx_iast hC hH h_o7 ⟨rfl, rfl⟩ dX8_exchange_18 hF (fun u10 H locs hF hH => ?_)
    refine lv_aload_n hx hb dX8_exchange_19 rfl (lv_at hl 1 rfl) ?_
    refine wx_getR hC hH h_o1 rfl f_X8_78 dX8_exchange_20 hF (fun o11 h_o11 hF => ?_)
    refine lv_iload_n hx hb dX8_exchange_23 rfl (lv_at hl 3 rfl) ?_
    refine lv_iload_n hx hb dX8_exchange_24 rfl (lv_at hl 0 rfl) ?_
    refine wx_iast hC hH h_o11 ⟨rfl, rfl⟩ dX8_exchange_25 hF (fun u12 H locs hF hH => ?_)
    exact wx_vret hC hH hr hlk dX8_exchange_26 hF
  exact key _ _ hH
def F_X8_nextSeating_b102 (o1 : Nat) (i15 : Int32) (i16 : Int32) (u17 : wSt) : Option ((Int32 × Int32 × wSt) ⊕ (Int32 × wSt)) :=
  if i16 ≤ i15 then (some (.inr ((1 : Int32), u17))) else (wC (F_X8_exchange o1 i15 i16 u17) (fun _ (u18 : wSt) => wB (i15 + (1 : Int32)) (fun (i19 : Int32) => wB (i16 + (-1 : Int32)) (fun (i20 : Int32) => some (.inl (i19, i20, u18))))))
def F_X8_nextSeating_j81 (o1 : Nat) (i5 : Int32) (u0 : wSt) (i9 : Int32) : Option (Int32 × wSt) :=
  wC (F_X8_exchange o1 i5 i9 u0) (fun _ (u10 : wSt) => wB (i5 + (1 : Int32)) (fun (i11 : Int32) => wR (u10.2.2 o1 2) 6 (fun o12 => wB ((u10.1 o12 1) - (1 : Int32)) (fun (i13 : Int32) => wL (S := Int32 × Int32 × wSt) (fun x => F_X8_nextSeating_b102 o1 x.1 x.2.1 x.2.2) wFu (i11, i13, u10)))))
def F_X8_nextSeating_b55 (i5 : Int32) (u0 : wSt) (o1 : Nat) (i22 : Int32) : Option ((Int32) ⊕ ((Int32) ⊕ (Int32 × wSt))) :=
  if i22 ≤ i5 then (some (.inr (.inl i22))) else (wR (u0.2.2 o1 12) 10 (fun o23 => wN i22 o23 (fun j24 => wR (u0.2.2 o1 12) 10 (fun o25 => wN i5 o25 (fun j26 => if (u0.1 o25 j26) ≤ (u0.1 o23 j24) then (some (.inr (.inl i22))) else (wB (i22 + (-1 : Int32)) (fun (i27 : Int32) => some (.inl i27))))))))
def F_X8_nextSeating_j38 (u0 : wSt) (o1 : Nat) (i5 : Int32) : Option (Int32 × wSt) :=
  if (1 : Int32) ≤ i5 then (wR (u0.2.2 o1 2) 6 (fun o6 => wB ((u0.1 o6 1) - (1 : Int32)) (fun (i7 : Int32) => wJ (X := Int32) (wL (S := Int32) (fun x => F_X8_nextSeating_b55 i5 u0 o1 x) wFu i7) (fun x => F_X8_nextSeating_j81 o1 i5 u0 x)))) else (some ((0 : Int32), u0))
def F_X8_nextSeating_b10 (u0 : wSt) (o1 : Nat) (i29 : Int32) : Option ((Int32) ⊕ ((Int32) ⊕ (Int32 × wSt))) :=
  if i29 < (1 : Int32) then (some (.inr (.inl i29))) else (wR (u0.2.2 o1 12) 10 (fun o30 => wN i29 o30 (fun j31 => wR (u0.2.2 o1 12) 10 (fun o32 => wN (i29 + (1 : Int32)) o32 (fun j33 => if (u0.1 o30 j31) ≤ (u0.1 o32 j33) then (some (.inr (.inl i29))) else (wB (i29 + (-1 : Int32)) (fun (i34 : Int32) => some (.inl i34))))))))
def F_X8_nextSeating (o1 : Nat) (u0 : wSt) : Option (Int32 × wSt) :=
  wR (u0.2.2 o1 2) 6 (fun o2 => wB ((u0.1 o2 1) - (2 : Int32)) (fun (i3 : Int32) => wJ (X := Int32) (wL (S := Int32) (fun x => F_X8_nextSeating_b10 u0 o1 x) wFu i3) (fun x => F_X8_nextSeating_j38 u0 o1 x)))
set_option maxRecDepth 100000 in
set_option maxHeartbeats 4000000 in
theorem c_X8_nextSeating {l : Launch} {D : va_G} {κ : Nat → ClassId} {ρ : Nat → Nat} (o1 : Nat) (h_o1 : (w_sh o1).1 = 8) : wMI l yX8_nextSeating cX8_nextSeating 5 .boolean (wRm 1 23) [.ref (ρ o1)] D κ ρ 0 (fun u => F_X8_nextSeating o1 u) := by
  refine wMI_of (F := fun u => F_X8_nextSeating o1 u) rfl (Nat.le_of_ble_eq_true rfl) (fun u0 z p e s m args below meth c ls A hF hC hr hlk hH hl => ?_)
  have hl : lv_has ls 5 [(0, .ref (ρ o1))] := hl
  have hx := hC.1.1
  have hb := hC.1.2.1
  have hF : F_X8_nextSeating o1 u0 = some z := hF
  unfold F_X8_nextSeating at hF
  change W p l e (wRm 1 23) s m args below meth c s.heap [] 0 0 (wQI below args s A D κ ρ 0 z) (F0 m 0 ls [])
  have key : ∀ (H : Heap) (locs : List Loc), wHp D κ ρ 0 A s.heap H locs u0 → W p l e (wRm 1 23) s m args below meth c H locs 0 0 (wQI below args s A D κ ρ 0 z) (F0 m 0 ls []) := by
    intro H locs hH
    refine lv_aload_n hx hb dX8_nextSeating_0 rfl (lv_at hl 0 rfl) ?_
    refine wx_getR hC hH h_o1 rfl f_X8_22 dX8_nextSeating_1 hF (fun o2 h_o2 hF => ?_)
    refine wx_getI hC hH h_o2 rfl f_X8_235 dX8_nextSeating_4 ?_
    refine lv_iconst hx hb dX8_nextSeating_7 k_iconst_2 ?_
    refine lv_isub hx hb dX8_nextSeating_8 ?_
    refine wx_leti hF (fun i3 hF => ?_)
    refine wx_istore_n hx hb dX8_nextSeating_9 rfl hl (by decide) (fun ls hl => ?_)
    have hl : lv_has ls 5 [(1, .int i3), (0, .ref (ρ o1))] := hl
    obtain ⟨q4_, hF, hq4⟩ := wJ_some hF
    have hJ38 : ∀ (i5 : Int32) (H : Heap) (locs : List Loc) (ls : Array Slot), F_X8_nextSeating_j38 u0 o1 i5 = some z → wHp D κ ρ 0 A s.heap H locs u0 → lv_has ls 5 [(0, .ref (ρ o1)), (1, .int i5)] → W p l e (wRm 1 23) s m args below meth c H locs 0 0 (wQI below args s A D κ ρ 0 z) (F0 m 38 ls []) := by
      intro i5 H locs ls hF hH hl
      unfold F_X8_nextSeating_j38 at hF
      refine lv_iload_n hx hb dX8_nextSeating_38 rfl (lv_at hl 1 rfl) ?_
      refine lv_iconst hx hb dX8_nextSeating_39 k_iconst_1 ?_
      refine lv_icmp_ge hx hb dX8_nextSeating_40 (tgt := 45) rfl (fun h => ?_) (fun h => ?_)
      · have hF := wx_t h hF
        refine lv_aload_n hx hb dX8_nextSeating_45 rfl (lv_at hl 0 rfl) ?_
        refine wx_getR hC hH h_o1 rfl f_X8_22 dX8_nextSeating_46 hF (fun o6 h_o6 hF => ?_)
        refine wx_getI hC hH h_o6 rfl f_X8_235 dX8_nextSeating_49 ?_
        refine lv_iconst hx hb dX8_nextSeating_52 k_iconst_1 ?_
        refine lv_isub hx hb dX8_nextSeating_53 ?_
        refine wx_leti hF (fun i7 hF => ?_)
        refine wx_istore_n hx hb dX8_nextSeating_54 rfl hl (by decide) (fun ls hl => ?_)
        have hl : lv_has ls 5 [(2, .int i7), (0, .ref (ρ o1)), (1, .int i5)] := hl
        obtain ⟨q8_, hF, hq8⟩ := wJ_some hF
        have hJ81 : ∀ (i9 : Int32) (H : Heap) (locs : List Loc) (ls : Array Slot), F_X8_nextSeating_j81 o1 i5 u0 i9 = some z → wHp D κ ρ 0 A s.heap H locs u0 → lv_has ls 5 [(0, .ref (ρ o1)), (1, .int i5), (2, .int i9)] → W p l e (wRm 1 23) s m args below meth c H locs 0 0 (wQI below args s A D κ ρ 0 z) (F0 m 81 ls []) := by
          intro i9 H locs ls hF hH hl
          unfold F_X8_nextSeating_j81 at hF
          refine lv_aload_n hx hb dX8_nextSeating_81 rfl (lv_at hl 0 rfl) ?_
          refine lv_iload_n hx hb dX8_nextSeating_82 rfl (lv_at hl 1 rfl) ?_
          refine lv_iload_n hx hb dX8_nextSeating_83 rfl (lv_at hl 2 rfl) ?_
          refine wx_evv hC hH hl (c_X8_exchange o1 i5 i9 h_o1) y_X8_exchange v_X8_exchange h_o1 rfl m_X8_254 rfl ⟨Nat.le_of_ble_eq_true rfl, Nat.le_of_ble_eq_true rfl⟩ ⟨Nat.le_refl _, Nat.le_refl _⟩ rfl (Nat.le_of_ble_eq_true rfl) dX8_nextSeating_84 hF (fun _ u10 H locs hF hH => ?_)
          refine lv_iload_n hx hb dX8_nextSeating_87 rfl (lv_at hl 1 rfl) ?_
          refine lv_iconst hx hb dX8_nextSeating_88 k_iconst_1 ?_
          refine lv_iadd hx hb dX8_nextSeating_89 ?_
          refine wx_leti hF (fun i11 hF => ?_)
          refine wx_istore_n hx hb dX8_nextSeating_90 rfl hl (by decide) (fun ls hl => ?_)
          have hl : lv_has ls 5 [(3, .int i11), (0, .ref (ρ o1)), (1, .int i5), (2, .int i9)] := hl
          refine lv_aload_n hx hb dX8_nextSeating_91 rfl (lv_at hl 1 rfl) ?_
          refine wx_getR hC hH h_o1 rfl f_X8_22 dX8_nextSeating_92 hF (fun o12 h_o12 hF => ?_)
          refine wx_getI hC hH h_o12 rfl f_X8_235 dX8_nextSeating_95 ?_
          refine lv_iconst hx hb dX8_nextSeating_98 k_iconst_1 ?_
          refine lv_isub hx hb dX8_nextSeating_99 ?_
          refine wx_leti hF (fun i13 hF => ?_)
          refine wx_istore hx hb dX8_nextSeating_100 hl (by decide) (fun ls hl => ?_)
          have hl : lv_has ls 5 [(4, .int i13), (3, .int i11), (0, .ref (ρ o1)), (1, .int i5), (2, .int i9)] := hl
          have hL102 : ∀ (k14_ : Nat) (i15 : Int32) (i16 : Int32) (u17 : wSt) (H : Heap) (locs : List Loc) (ls : Array Slot), wL (S := Int32 × Int32 × wSt) (fun x => F_X8_nextSeating_b102 o1 x.1 x.2.1 x.2.2) k14_ (i15, i16, u17) = some z → wHp D κ ρ 0 A s.heap H locs u17 → lv_has ls 5 [(0, .ref (ρ o1)), (3, .int i15), (4, .int i16)] → W p l e (wRm 1 23) s m args below meth c H locs 0 0 (wQI below args s A D κ ρ 0 z) (F0 m 102 ls []) := by
            intro k14_
            induction k14_ with
            | zero => intro i15 i16 u17 H locs ls hF; exact wL_zero hF
            | succ k14_ ih14 =>
              intro i15 i16 u17 H locs ls hF hH hl
              obtain ⟨q14_, hF, hq14⟩ := wL_some hF
              have hF : F_X8_nextSeating_b102 o1 i15 i16 u17 = some q14_ := hF
              unfold F_X8_nextSeating_b102 at hF
              refine lv_iload_n hx hb dX8_nextSeating_102 rfl (lv_at hl 1 rfl) ?_
              refine lv_iload hx hb dX8_nextSeating_103 (lv_at hl 2 rfl) ?_
              refine lv_icmp_ge hx hb dX8_nextSeating_105 (tgt := 124) rfl (fun h => ?_) (fun h => ?_)
              · have hF := wx_t h hF
                refine lv_iconst hx hb dX8_nextSeating_124 k_iconst_1 ?_
                have hF := wJ_r hq14 hF
                exact wx_zret hC hH hr hlk dX8_nextSeating_125 (Or.inr rfl) hF
              have hF := wx_f h hF
              refine lv_aload_n hx hb dX8_nextSeating_108 rfl (lv_at hl 0 rfl) ?_
              refine lv_iload_n hx hb dX8_nextSeating_109 rfl (lv_at hl 1 rfl) ?_
              refine lv_iload hx hb dX8_nextSeating_110 (lv_at hl 2 rfl) ?_
              refine wx_evv hC hH hl (c_X8_exchange o1 i15 i16 h_o1) y_X8_exchange v_X8_exchange h_o1 rfl m_X8_254 rfl ⟨Nat.le_of_ble_eq_true rfl, Nat.le_of_ble_eq_true rfl⟩ ⟨Nat.le_refl _, Nat.le_refl _⟩ rfl (Nat.le_of_ble_eq_true rfl) dX8_nextSeating_112 hF (fun _ u18 H locs hF hH => ?_)
              refine wx_iinc hx hb dX8_nextSeating_115 k_iconst_1 hl (k := 1) rfl (by decide) hF (fun i19 ls hF hl => ?_)
              have hl : lv_has ls 5 [(3, .int i19), (0, .ref (ρ o1)), (4, .int i16)] := hl
              refine wx_iinc hx hb dX8_nextSeating_118 k_iconst_m1 hl (k := 2) rfl (by decide) hF (fun i20 ls hF hl => ?_)
              have hl : lv_has ls 5 [(4, .int i20), (3, .int i19), (0, .ref (ρ o1))] := hl
              refine lv_goto hx hb dX8_nextSeating_121 (tgt := 102) rfl ?_
              have hF := wJ_l hq14 hF
              exact ih14 i19 i20 u18 H locs ls hF hH (lv_sub hl [2, 1, 0] rfl)
          exact hL102 wFu i11 i13 u10 H locs ls hF hH (lv_sub hl [2, 1, 0] rfl)
        have hL55 : ∀ (k21_ : Nat) (i22 : Int32) (H : Heap) (locs : List Loc) (ls : Array Slot), wL (S := Int32) (fun x => F_X8_nextSeating_b55 i5 u0 o1 x) k21_ i22 = some q8_ → wHp D κ ρ 0 A s.heap H locs u0 → lv_has ls 5 [(0, .ref (ρ o1)), (1, .int i5), (2, .int i22)] → W p l e (wRm 1 23) s m args below meth c H locs 0 0 (wQI below args s A D κ ρ 0 z) (F0 m 55 ls []) := by
          intro k21_
          induction k21_ with
          | zero => intro i22 H locs ls hF; exact wL_zero hF
          | succ k21_ ih21 =>
            intro i22 H locs ls hF hH hl
            obtain ⟨q21_, hF, hq21⟩ := wL_some hF
            have hF : F_X8_nextSeating_b55 i5 u0 o1 i22 = some q21_ := hF
            unfold F_X8_nextSeating_b55 at hF
            refine lv_iload_n hx hb dX8_nextSeating_55 rfl (lv_at hl 2 rfl) ?_
            refine lv_iload_n hx hb dX8_nextSeating_56 rfl (lv_at hl 1 rfl) ?_
            refine lv_icmp_le hx hb dX8_nextSeating_57 (tgt := 81) rfl (fun h => ?_) (fun h => ?_)
            · have hF := wx_t h hF
              have hF := wJ_r hq21 hF
              have hF := wJ_l hq8 hF
              exact hJ81 i22 H locs ls hF hH (lv_sub hl [0, 1, 2] rfl)
            have hF := wx_f h hF
            refine lv_aload_n hx hb dX8_nextSeating_60 rfl (lv_at hl 0 rfl) ?_
            refine wx_getR hC hH h_o1 rfl f_X8_78 dX8_nextSeating_61 hF (fun o23 h_o23 hF => ?_)
            refine lv_iload_n hx hb dX8_nextSeating_64 rfl (lv_at hl 2 rfl) ?_
            refine wx_iald hC hH h_o23 ⟨rfl, rfl⟩ dX8_nextSeating_65 hF (fun j24 hF => ?_)
            refine lv_aload_n hx hb dX8_nextSeating_66 rfl (lv_at hl 0 rfl) ?_
            refine wx_getR hC hH h_o1 rfl f_X8_78 dX8_nextSeating_67 hF (fun o25 h_o25 hF => ?_)
            refine lv_iload_n hx hb dX8_nextSeating_70 rfl (lv_at hl 1 rfl) ?_
            refine wx_iald hC hH h_o25 ⟨rfl, rfl⟩ dX8_nextSeating_71 hF (fun j26 hF => ?_)
            refine lv_icmp_ge hx hb dX8_nextSeating_72 (tgt := 81) rfl (fun h => ?_) (fun h => ?_)
            · have hF := wx_t h hF
              have hF := wJ_r hq21 hF
              have hF := wJ_l hq8 hF
              exact hJ81 i22 H locs ls hF hH (lv_sub hl [0, 1, 2] rfl)
            have hF := wx_f h hF
            refine wx_iinc hx hb dX8_nextSeating_75 k_iconst_m1 hl (k := 2) rfl (by decide) hF (fun i27 ls hF hl => ?_)
            have hl : lv_has ls 5 [(2, .int i27), (0, .ref (ρ o1)), (1, .int i5)] := hl
            refine lv_goto hx hb dX8_nextSeating_78 (tgt := 55) rfl ?_
            have hF := wJ_l hq21 hF
            exact ih21 i27 H locs ls hF hH (lv_sub hl [1, 2, 0] rfl)
        exact hL55 wFu i7 H locs ls hF hH (lv_sub hl [1, 2, 0] rfl)
      have hF := wx_f h hF
      refine lv_iconst hx hb dX8_nextSeating_43 k_iconst_0 ?_
      exact wx_zret hC hH hr hlk dX8_nextSeating_44 (Or.inl rfl) hF
    have hL10 : ∀ (k28_ : Nat) (i29 : Int32) (H : Heap) (locs : List Loc) (ls : Array Slot), wL (S := Int32) (fun x => F_X8_nextSeating_b10 u0 o1 x) k28_ i29 = some q4_ → wHp D κ ρ 0 A s.heap H locs u0 → lv_has ls 5 [(0, .ref (ρ o1)), (1, .int i29)] → W p l e (wRm 1 23) s m args below meth c H locs 0 0 (wQI below args s A D κ ρ 0 z) (F0 m 10 ls []) := by
      intro k28_
      induction k28_ with
      | zero => intro i29 H locs ls hF; exact wL_zero hF
      | succ k28_ ih28 =>
        intro i29 H locs ls hF hH hl
        obtain ⟨q28_, hF, hq28⟩ := wL_some hF
        have hF : F_X8_nextSeating_b10 u0 o1 i29 = some q28_ := hF
        unfold F_X8_nextSeating_b10 at hF
        refine lv_iload_n hx hb dX8_nextSeating_10 rfl (lv_at hl 1 rfl) ?_
        refine lv_iconst hx hb dX8_nextSeating_11 k_iconst_1 ?_
        refine lv_icmp_lt hx hb dX8_nextSeating_12 (tgt := 38) rfl (fun h => ?_) (fun h => ?_)
        · have hF := wx_t h hF
          have hF := wJ_r hq28 hF
          have hF := wJ_l hq4 hF
          exact hJ38 i29 H locs ls hF hH (lv_sub hl [0, 1] rfl)
        have hF := wx_f h hF
        refine lv_aload_n hx hb dX8_nextSeating_15 rfl (lv_at hl 0 rfl) ?_
        refine wx_getR hC hH h_o1 rfl f_X8_78 dX8_nextSeating_16 hF (fun o30 h_o30 hF => ?_)
        refine lv_iload_n hx hb dX8_nextSeating_19 rfl (lv_at hl 1 rfl) ?_
        refine wx_iald hC hH h_o30 ⟨rfl, rfl⟩ dX8_nextSeating_20 hF (fun j31 hF => ?_)
        refine lv_aload_n hx hb dX8_nextSeating_21 rfl (lv_at hl 0 rfl) ?_
        refine wx_getR hC hH h_o1 rfl f_X8_78 dX8_nextSeating_22 hF (fun o32 h_o32 hF => ?_)
        refine lv_iload_n hx hb dX8_nextSeating_25 rfl (lv_at hl 1 rfl) ?_
        refine lv_iconst hx hb dX8_nextSeating_26 k_iconst_1 ?_
        refine lv_iadd hx hb dX8_nextSeating_27 ?_
        refine wx_iald hC hH h_o32 ⟨rfl, rfl⟩ dX8_nextSeating_28 hF (fun j33 hF => ?_)
        refine lv_icmp_le hx hb dX8_nextSeating_29 (tgt := 38) rfl (fun h => ?_) (fun h => ?_)
        · have hF := wx_t h hF
          have hF := wJ_r hq28 hF
          have hF := wJ_l hq4 hF
          exact hJ38 i29 H locs ls hF hH (lv_sub hl [0, 1] rfl)
        have hF := wx_f h hF
        refine wx_iinc hx hb dX8_nextSeating_32 k_iconst_m1 hl (k := 1) rfl (by decide) hF (fun i34 ls hF hl => ?_)
        have hl : lv_has ls 5 [(1, .int i34), (0, .ref (ρ o1))] := hl
        refine lv_goto hx hb dX8_nextSeating_35 (tgt := 10) rfl ?_
        have hF := wJ_l hq28 hF
        exact ih28 i34 H locs ls hF hH (lv_sub hl [1, 0] rfl)
    exact hL10 wFu i3 H locs ls hF hH (lv_sub hl [1, 0] rfl)
  exact key _ _ hH
def F_X8_table_j97 (i2 : Int32) (o1 : Nat) (i6 : Int32) (u7 : wSt) : Option (Int32 × wSt) :=
  if i2 = (6 : Int32) then (some (i6, u7)) else (wR (u7.2.2 o1 13) 10 (fun o8 => wN i2 o8 (fun j9 => some ((u7.1 o8 j9), u7))))
def F_X8_table_j86 (o1 : Nat) (i13 : Int32) (i18 : Int32) (u19 : wSt) : Option ((Int32 × Int32 × Int32 × wSt) ⊕ ((Int32 × wSt) ⊕ (Int32 × wSt))) :=
  wC (F_X8_nextSeating o1 u19) (fun (i21 : Int32) (u20 : wSt) => wB (i13 + (1 : Int32)) (fun (i22 : Int32) => some (.inl (i18, i21, i22, u20))))
def F_X8_table_b44 (o1 : Nat) (i11 : Int32) (i12 : Int32) (i13 : Int32) (u14 : wSt) : Option ((Int32 × Int32 × Int32 × wSt) ⊕ ((Int32 × wSt) ⊕ (Int32 × wSt))) :=
  if (120 : Int32) ≤ i13 then (some (.inr (.inl (i11, u14)))) else (if i12 = 0 then (some (.inr (.inl (i11, u14)))) else (wC (F_X8_fallenBySeating o1 i11 u14) (fun (i16 : Int32) (u15 : wSt) => wJ (X := Int32 × wSt) (if i11 ≤ i16 then (some (.inl (i11, u15))) else (wR (u15.2.2 o1 12) 10 (fun o23 => wR (u15.2.2 o1 13) 10 (fun o24 => wCP u15 o23 (0 : Int32) o24 (0 : Int32) (6 : Int32) (fun (u25 : wSt) => some (.inl (i16, u25))))))) (fun x => F_X8_table_j86 o1 i13 x.1 x.2))))
def F_X8_table_j32 (o1 : Nat) (u0 : wSt) (i2 : Int32) : Option (Int32 × wSt) :=
  wC (F_X8_firstSeating o1 u0) (fun _ (u4 : wSt) => wJ (X := Int32 × wSt) (wL (S := Int32 × Int32 × Int32 × wSt) (fun x => F_X8_table_b44 o1 x.1 x.2.1 x.2.2.1 x.2.2.2) wFu ((7 : Int32), (1 : Int32), (0 : Int32), u4)) (fun x => F_X8_table_j97 i2 o1 x.1 x.2))
def F_X8_table (o1 : Nat) (i2 : Int32) (u0 : wSt) : Option (Int32 × wSt) :=
  if i2 < 0 then (some ((-1 : Int32), u0)) else (if i2 ≤ (6 : Int32) then (wJ (X := Unit) (if (6 : Int32) ≤ i2 then (some (.inl ())) else (wR (u0.2.2 o1 2) 6 (fun o26 => if i2 < (u0.1 o26 1) then (some (.inl ())) else (some (.inr ((-2 : Int32), u0)))))) (fun x => F_X8_table_j32 o1 u0 i2)) else (some ((-1 : Int32), u0)))
set_option maxRecDepth 100000 in
set_option maxHeartbeats 4000000 in
theorem c_X8_table {l : Launch} {D : va_G} {κ : Nat → ClassId} {ρ : Nat → Nat} (o1 : Nat) (i2 : Int32) (h_o1 : (w_sh o1).1 = 8) : wMI l yX8_table cX8_table 6 .int (wRm 7 178) [.ref (ρ o1), .int i2] D κ ρ 0 (fun u => F_X8_table o1 i2 u) := by
  refine wMI_of (F := fun u => F_X8_table o1 i2 u) rfl (Nat.le_of_ble_eq_true rfl) (fun u0 z p e s m args below meth c ls A hF hC hr hlk hH hl => ?_)
  have hl : lv_has ls 6 [(0, .ref (ρ o1)), (1, .int i2)] := hl
  have hx := hC.1.1
  have hb := hC.1.2.1
  have hF : F_X8_table o1 i2 u0 = some z := hF
  unfold F_X8_table at hF
  change W p l e (wRm 7 178) s m args below meth c s.heap [] 0 0 (wQI below args s A D κ ρ 0 z) (F0 m 0 ls [])
  have key : ∀ (H : Heap) (locs : List Loc), wHp D κ ρ 0 A s.heap H locs u0 → W p l e (wRm 7 178) s m args below meth c H locs 0 0 (wQI below args s A D κ ρ 0 z) (F0 m 0 ls []) := by
    intro H locs hH
    refine lv_iload_n hx hb dX8_table_0 rfl (lv_at hl 1 rfl) ?_
    refine lv_if_lt hx hb dX8_table_1 (tgt := 10) rfl (fun h => ?_) (fun h => ?_)
    · have hF := wx_t h hF
      refine lv_iconst hx hb dX8_table_10 k_iconst_m1 ?_
      exact wx_iret hC hH hr hlk dX8_table_11 hF
    have hF := wx_f h hF
    refine lv_iload_n hx hb dX8_table_4 rfl (lv_at hl 1 rfl) ?_
    refine lv_bipush hx hb dX8_table_5 k_bipush_6 ?_
    refine lv_icmp_le hx hb dX8_table_7 (tgt := 12) rfl (fun h => ?_) (fun h => ?_)
    · have hF := wx_t h hF
      refine lv_iload_n hx hb dX8_table_12 rfl (lv_at hl 1 rfl) ?_
      refine lv_bipush hx hb dX8_table_13 k_bipush_6 ?_
      obtain ⟨q3_, hF, hq3⟩ := wJ_some hF
      have hJ32 : ∀ (H : Heap) (locs : List Loc) (ls : Array Slot), F_X8_table_j32 o1 u0 i2 = some z → wHp D κ ρ 0 A s.heap H locs u0 → lv_has ls 6 [(0, .ref (ρ o1)), (1, .int i2)] → W p l e (wRm 7 178) s m args below meth c H locs 0 0 (wQI below args s A D κ ρ 0 z) (F0 m 32 ls []) := by
        intro H locs ls hF hH hl
        unfold F_X8_table_j32 at hF
        refine lv_aload_n hx hb dX8_table_32 rfl (lv_at hl 0 rfl) ?_
        refine wx_evv hC hH hl (c_X8_firstSeating o1 h_o1) y_X8_firstSeating v_X8_firstSeating h_o1 rfl m_X8_238 rfl ⟨Nat.le_of_ble_eq_true rfl, Nat.le_of_ble_eq_true rfl⟩ ⟨Nat.le_refl _, Nat.le_refl _⟩ rfl (Nat.le_of_ble_eq_true rfl) dX8_table_33 hF (fun _ u4 H locs hF hH => ?_)
        refine lv_bipush hx hb dX8_table_36 k_bipush_7 ?_
        refine wx_istore_n hx hb dX8_table_38 rfl hl (by decide) (fun ls hl => ?_)
        have hl : lv_has ls 6 [(2, .int (7 : Int32)), (0, .ref (ρ o1)), (1, .int i2)] := hl
        refine lv_iconst hx hb dX8_table_39 k_iconst_1 ?_
        refine wx_istore_n hx hb dX8_table_40 rfl hl (by decide) (fun ls hl => ?_)
        have hl : lv_has ls 6 [(3, .int (1 : Int32)), (2, .int (7 : Int32)), (0, .ref (ρ o1)), (1, .int i2)] := hl
        refine lv_iconst hx hb dX8_table_41 k_iconst_0 ?_
        refine wx_istore hx hb dX8_table_42 hl (by decide) (fun ls hl => ?_)
        have hl : lv_has ls 6 [(4, .int (0 : Int32)), (3, .int (1 : Int32)), (2, .int (7 : Int32)), (0, .ref (ρ o1)), (1, .int i2)] := hl
        obtain ⟨q5_, hF, hq5⟩ := wJ_some hF
        have hJ97 : ∀ (i6 : Int32) (u7 : wSt) (H : Heap) (locs : List Loc) (ls : Array Slot), F_X8_table_j97 i2 o1 i6 u7 = some z → wHp D κ ρ 0 A s.heap H locs u7 → lv_has ls 6 [(0, .ref (ρ o1)), (1, .int i2), (2, .int i6)] → W p l e (wRm 7 178) s m args below meth c H locs 0 0 (wQI below args s A D κ ρ 0 z) (F0 m 97 ls []) := by
          intro i6 u7 H locs ls hF hH hl
          unfold F_X8_table_j97 at hF
          refine lv_iload_n hx hb dX8_table_97 rfl (lv_at hl 1 rfl) ?_
          refine lv_bipush hx hb dX8_table_98 k_bipush_6 ?_
          refine lv_icmp_ne hx hb dX8_table_100 (tgt := 107) rfl (fun h => ?_) (fun h => ?_)
          · have hF := wx_f h hF
            refine lv_aload_n hx hb dX8_table_107 rfl (lv_at hl 0 rfl) ?_
            refine wx_getR hC hH h_o1 rfl f_X8_82 dX8_table_108 hF (fun o8 h_o8 hF => ?_)
            refine lv_iload_n hx hb dX8_table_111 rfl (lv_at hl 1 rfl) ?_
            refine wx_iald hC hH h_o8 ⟨rfl, rfl⟩ dX8_table_112 hF (fun j9 hF => ?_)
            exact wx_iret hC hH hr hlk dX8_table_113 hF
          have hF := wx_t h hF
          refine lv_iload_n hx hb dX8_table_103 rfl (lv_at hl 2 rfl) ?_
          refine lv_goto hx hb dX8_table_104 (tgt := 113) rfl ?_
          exact wx_iret hC hH hr hlk dX8_table_113 hF
        have hL44 : ∀ (k10_ : Nat) (i11 : Int32) (i12 : Int32) (i13 : Int32) (u14 : wSt) (H : Heap) (locs : List Loc) (ls : Array Slot), wL (S := Int32 × Int32 × Int32 × wSt) (fun x => F_X8_table_b44 o1 x.1 x.2.1 x.2.2.1 x.2.2.2) k10_ (i11, i12, i13, u14) = some q5_ → wHp D κ ρ 0 A s.heap H locs u14 → lv_has ls 6 [(0, .ref (ρ o1)), (1, .int i2), (2, .int i11), (3, .int i12), (4, .int i13)] → W p l e (wRm 7 178) s m args below meth c H locs 0 0 (wQI below args s A D κ ρ 0 z) (F0 m 44 ls []) := by
          intro k10_
          induction k10_ with
          | zero => intro i11 i12 i13 u14 H locs ls hF; exact wL_zero hF
          | succ k10_ ih10 =>
            intro i11 i12 i13 u14 H locs ls hF hH hl
            obtain ⟨q10_, hF, hq10⟩ := wL_some hF
            have hF : F_X8_table_b44 o1 i11 i12 i13 u14 = some q10_ := hF
            unfold F_X8_table_b44 at hF
            refine lv_iload hx hb dX8_table_44 (lv_at hl 4 rfl) ?_
            refine lv_bipush hx hb dX8_table_46 k_bipush_120 ?_
            refine lv_icmp_ge hx hb dX8_table_48 (tgt := 97) rfl (fun h => ?_) (fun h => ?_)
            · have hF := wx_t h hF
              have hF := wJ_r hq10 hF
              have hF := wJ_l hq5 hF
              exact hJ97 i11 u14 H locs ls hF hH (lv_sub hl [0, 1, 2] rfl)
            have hF := wx_f h hF
            refine lv_iload_n hx hb dX8_table_51 rfl (lv_at hl 3 rfl) ?_
            refine lv_if_eq hx hb dX8_table_52 (tgt := 97) rfl (fun h => ?_) (fun h => ?_)
            · have hF := wx_t h hF
              have hF := wJ_r hq10 hF
              have hF := wJ_l hq5 hF
              exact hJ97 i11 u14 H locs ls hF hH (lv_sub hl [0, 1, 2] rfl)
            have hF := wx_f h hF
            refine lv_aload_n hx hb dX8_table_55 rfl (lv_at hl 0 rfl) ?_
            refine lv_iload_n hx hb dX8_table_56 rfl (lv_at hl 2 rfl) ?_
            refine wx_evi hC hH hl (c_X8_fallenBySeating o1 i11 h_o1) y_X8_fallenBySeating v_X8_fallenBySeating h_o1 rfl m_X8_241 rfl ⟨Nat.le_of_ble_eq_true rfl, Nat.le_of_ble_eq_true rfl⟩ ⟨Nat.le_refl _, Nat.le_refl _⟩ rfl (Nat.le_of_ble_eq_true rfl) dX8_table_57 hF (fun i16 u15 H locs hF hH => ?_)
            refine wx_istore hx hb dX8_table_60 hl (by decide) (fun ls hl => ?_)
            have hl : lv_has ls 6 [(5, .int i16), (0, .ref (ρ o1)), (1, .int i2), (2, .int i11), (3, .int i12), (4, .int i13)] := hl
            refine lv_iload hx hb dX8_table_62 (lv_at hl 0 rfl) ?_
            refine lv_iload_n hx hb dX8_table_64 rfl (lv_at hl 3 rfl) ?_
            obtain ⟨q17_, hF, hq17⟩ := wJ_some hF
            have hJ86 : ∀ (i18 : Int32) (u19 : wSt) (H : Heap) (locs : List Loc) (ls : Array Slot), F_X8_table_j86 o1 i13 i18 u19 = some q10_ → wHp D κ ρ 0 A s.heap H locs u19 → lv_has ls 6 [(0, .ref (ρ o1)), (1, .int i2), (2, .int i18), (4, .int i13)] → W p l e (wRm 7 178) s m args below meth c H locs 0 0 (wQI below args s A D κ ρ 0 z) (F0 m 86 ls []) := by
              intro i18 u19 H locs ls hF hH hl
              unfold F_X8_table_j86 at hF
              refine lv_aload_n hx hb dX8_table_86 rfl (lv_at hl 0 rfl) ?_
              refine wx_evi hC hH hl (c_X8_nextSeating o1 h_o1) y_X8_nextSeating v_X8_nextSeating h_o1 rfl m_X8_250 rfl ⟨Nat.le_of_ble_eq_true rfl, Nat.le_of_ble_eq_true rfl⟩ ⟨Nat.le_refl _, Nat.le_refl _⟩ rfl (Nat.le_of_ble_eq_true rfl) dX8_table_87 hF (fun i21 u20 H locs hF hH => ?_)
              refine wx_istore_n hx hb dX8_table_90 rfl hl (by decide) (fun ls hl => ?_)
              have hl : lv_has ls 6 [(3, .int i21), (0, .ref (ρ o1)), (1, .int i2), (2, .int i18), (4, .int i13)] := hl
              refine wx_iinc hx hb dX8_table_91 k_iconst_1 hl (k := 4) rfl (by decide) hF (fun i22 ls hF hl => ?_)
              have hl : lv_has ls 6 [(4, .int i22), (3, .int i21), (0, .ref (ρ o1)), (1, .int i2), (2, .int i18)] := hl
              refine lv_goto hx hb dX8_table_94 (tgt := 44) rfl ?_
              have hF := wJ_l hq10 hF
              exact ih10 i18 i21 i22 u20 H locs ls hF hH (lv_sub hl [2, 3, 4, 1, 0] rfl)
            refine lv_icmp_ge hx hb dX8_table_65 (tgt := 86) rfl (fun h => ?_) (fun h => ?_)
            · have hF := wx_t h hF
              have hF := wJ_l hq17 hF
              exact hJ86 i11 u15 H locs ls hF hH (lv_sub hl [1, 2, 3, 5] rfl)
            have hF := wx_f h hF
            refine lv_iload hx hb dX8_table_68 (lv_at hl 0 rfl) ?_
            refine wx_istore_n hx hb dX8_table_70 rfl hl (by decide) (fun ls hl => ?_)
            have hl : lv_has ls 6 [(2, .int i16), (5, .int i16), (0, .ref (ρ o1)), (1, .int i2), (3, .int i12), (4, .int i13)] := hl
            refine lv_aload_n hx hb dX8_table_71 rfl (lv_at hl 2 rfl) ?_
            refine wx_getR hC hH h_o1 rfl f_X8_78 dX8_table_72 hF (fun o23 h_o23 hF => ?_)
            refine lv_iconst hx hb dX8_table_75 k_iconst_0 ?_
            refine lv_aload_n hx hb dX8_table_76 rfl (lv_at hl 2 rfl) ?_
            refine wx_getR hC hH h_o1 rfl f_X8_82 dX8_table_77 hF (fun o24 h_o24 hF => ?_)
            refine lv_iconst hx hb dX8_table_80 k_iconst_0 ?_
            refine lv_bipush hx hb dX8_table_81 k_bipush_6 ?_
            refine wx_copy hC hH hl.1 h_o23 h_o24 rfl m_X8_244 ⟨Nat.le_of_ble_eq_true rfl, Nat.le_of_ble_eq_true rfl⟩ dX8_table_83 hF (fun u25 H locs hF hH => ?_)
            have hF := wJ_l hq17 hF
            exact hJ86 i16 u25 H locs ls hF hH (lv_sub hl [2, 3, 0, 5] rfl)
        exact hL44 wFu (7 : Int32) (1 : Int32) (0 : Int32) u4 H locs ls hF hH (lv_sub hl [3, 4, 2, 1, 0] rfl)
      refine lv_icmp_ge hx hb dX8_table_15 (tgt := 32) rfl (fun h => ?_) (fun h => ?_)
      · have hF := wx_t h hF
        have hF := wJ_l hq3 hF
        exact hJ32 H locs ls hF hH (lv_sub hl [0, 1] rfl)
      have hF := wx_f h hF
      refine lv_iload_n hx hb dX8_table_18 rfl (lv_at hl 1 rfl) ?_
      refine lv_aload_n hx hb dX8_table_19 rfl (lv_at hl 0 rfl) ?_
      refine wx_getR hC hH h_o1 rfl f_X8_22 dX8_table_20 hF (fun o26 h_o26 hF => ?_)
      refine wx_getI hC hH h_o26 rfl f_X8_235 dX8_table_23 ?_
      refine lv_icmp_lt hx hb dX8_table_26 (tgt := 32) rfl (fun h => ?_) (fun h => ?_)
      · have hF := wx_t h hF
        have hF := wJ_l hq3 hF
        exact hJ32 H locs ls hF hH (lv_sub hl [0, 1] rfl)
      have hF := wx_f h hF
      refine lv_bipush hx hb dX8_table_29 k_bipush_m2 ?_
      have hF := wJ_r hq3 hF
      exact wx_iret hC hH hr hlk dX8_table_31 hF
    have hF := wx_f h hF
    refine lv_iconst hx hb dX8_table_10 k_iconst_m1 ?_
    exact wx_iret hC hH hr hlk dX8_table_11 hF
  exact key _ _ hH
def F_X8_hold_b6 (o1 : Nat) (i4 : Int32) (u5 : wSt) : Option ((Int32 × wSt) ⊕ (Int32 × wSt)) :=
  if (999 : Int32) < i4 then (some (.inr ((-2 : Int32), u5))) else (wR (u5.2.2 o1 9) 0 (fun o6 => wR (u5.2.2 o1 7) 3 (fun o7 => wP (F_X0_sitting o6 o7 u5) (fun (i8 : Int32) => if i8 = 0 then (some (.inr (i4, u5))) else (wR (u5.2.2 o1 9) 0 (fun o9 => wR (u5.2.2 o1 7) 3 (fun o10 => wC (F_X0_goOn o9 o10 u5) (fun (i12 : Int32) (u11 : wSt) => wB (i4 + (1 : Int32)) (fun (i13 : Int32) => some (.inl (i13, u11)))))))))))
def F_X8_hold (o1 : Nat) (u0 : wSt) : Option (Int32 × wSt) :=
  wC (F_X8_startTrial o1 u0) (fun _ (u2 : wSt) => wL (S := Int32 × wSt) (fun x => F_X8_hold_b6 o1 x.1 x.2) wFu ((0 : Int32), u2))
set_option maxRecDepth 100000 in
set_option maxHeartbeats 4000000 in
theorem c_X8_hold {l : Launch} {D : va_G} {κ : Nat → ClassId} {ρ : Nat → Nat} (o1 : Nat) (h_o1 : (w_sh o1).1 = 8) : wMI l yX8_hold cX8_hold 2 .int (wRm 6 155) [.ref (ρ o1)] D κ ρ 0 (fun u => F_X8_hold o1 u) := by
  refine wMI_of (F := fun u => F_X8_hold o1 u) rfl (Nat.le_of_ble_eq_true rfl) (fun u0 z p e s m args below meth c ls A hF hC hr hlk hH hl => ?_)
  have hl : lv_has ls 2 [(0, .ref (ρ o1))] := hl
  have hx := hC.1.1
  have hb := hC.1.2.1
  have hF : F_X8_hold o1 u0 = some z := hF
  unfold F_X8_hold at hF
  change W p l e (wRm 6 155) s m args below meth c s.heap [] 0 0 (wQI below args s A D κ ρ 0 z) (F0 m 0 ls [])
  have key : ∀ (H : Heap) (locs : List Loc), wHp D κ ρ 0 A s.heap H locs u0 → W p l e (wRm 6 155) s m args below meth c H locs 0 0 (wQI below args s A D κ ρ 0 z) (F0 m 0 ls []) := by
    intro H locs hH
    refine lv_aload_n hx hb dX8_hold_0 rfl (lv_at hl 0 rfl) ?_
    refine wx_evv hC hH hl (c_X8_startTrial o1 h_o1) y_X8_startTrial v_X8_startTrial h_o1 rfl m_X8_218 rfl ⟨Nat.le_of_ble_eq_true rfl, Nat.le_of_ble_eq_true rfl⟩ ⟨Nat.le_refl _, Nat.le_refl _⟩ rfl (Nat.le_of_ble_eq_true rfl) dX8_hold_1 hF (fun _ u2 H locs hF hH => ?_)
    refine lv_iconst hx hb dX8_hold_4 k_iconst_0 ?_
    refine wx_istore_n hx hb dX8_hold_5 rfl hl (by decide) (fun ls hl => ?_)
    have hl : lv_has ls 2 [(1, .int (0 : Int32)), (0, .ref (ρ o1))] := hl
    have hL6 : ∀ (k3_ : Nat) (i4 : Int32) (u5 : wSt) (H : Heap) (locs : List Loc) (ls : Array Slot), wL (S := Int32 × wSt) (fun x => F_X8_hold_b6 o1 x.1 x.2) k3_ (i4, u5) = some z → wHp D κ ρ 0 A s.heap H locs u5 → lv_has ls 2 [(0, .ref (ρ o1)), (1, .int i4)] → W p l e (wRm 6 155) s m args below meth c H locs 0 0 (wQI below args s A D κ ρ 0 z) (F0 m 6 ls []) := by
      intro k3_
      induction k3_ with
      | zero => intro i4 u5 H locs ls hF; exact wL_zero hF
      | succ k3_ ih3 =>
        intro i4 u5 H locs ls hF hH hl
        obtain ⟨q3_, hF, hq3⟩ := wL_some hF
        have hF : F_X8_hold_b6 o1 i4 u5 = some q3_ := hF
        unfold F_X8_hold_b6 at hF
        refine lv_iload_n hx hb dX8_hold_6 rfl (lv_at hl 1 rfl) ?_
        refine lv_sipush hx hb dX8_hold_7 k_sipush_999 ?_
        refine lv_icmp_gt hx hb dX8_hold_10 (tgt := 47) rfl (fun h => ?_) (fun h => ?_)
        · have hF := wx_t h hF
          refine lv_bipush hx hb dX8_hold_47 k_bipush_m2 ?_
          have hF := wJ_r hq3 hF
          exact wx_iret hC hH hr hlk dX8_hold_49 hF
        have hF := wx_f h hF
        refine lv_aload_n hx hb dX8_hold_13 rfl (lv_at hl 0 rfl) ?_
        refine wx_getR hC hH h_o1 rfl f_X8_60 dX8_hold_14 hF (fun o6 h_o6 hF => ?_)
        refine lv_aload_n hx hb dX8_hold_17 rfl (lv_at hl 0 rfl) ?_
        refine wx_getR hC hH h_o1 rfl f_X8_48 dX8_hold_18 hF (fun o7 h_o7 hF => ?_)
        refine wx_pvi hC hH hl (c_X0_sitting o6 o7 h_o6 h_o7) y_X0_sitting v_X0_sitting h_o6 rfl m_X8_257 rfl ⟨Nat.le_of_ble_eq_true rfl, Nat.le_of_ble_eq_true rfl⟩ ⟨Nat.le_refl _, Nat.le_refl _⟩ rfl (Nat.le_of_ble_eq_true rfl) dX8_hold_21 hF (fun i8 H locs hF hH => ?_)
        refine lv_if_ne hx hb dX8_hold_24 (tgt := 29) rfl (fun h => ?_) (fun h => ?_)
        · have hF := wx_f h hF
          refine lv_aload_n hx hb dX8_hold_29 rfl (lv_at hl 0 rfl) ?_
          refine wx_getR hC hH h_o1 rfl f_X8_60 dX8_hold_30 hF (fun o9 h_o9 hF => ?_)
          refine lv_aload_n hx hb dX8_hold_33 rfl (lv_at hl 0 rfl) ?_
          refine wx_getR hC hH h_o1 rfl f_X8_48 dX8_hold_34 hF (fun o10 h_o10 hF => ?_)
          refine wx_evi hC hH hl (c_X0_goOn o9 o10 h_o9 h_o10) y_X0_goOn v_X0_goOn h_o9 rfl m_X8_232 rfl ⟨Nat.le_of_ble_eq_true rfl, Nat.le_of_ble_eq_true rfl⟩ ⟨Nat.le_refl _, Nat.le_refl _⟩ rfl (Nat.le_of_ble_eq_true rfl) dX8_hold_37 hF (fun i12 u11 H locs hF hH => ?_)
          refine lv_pop hx hb dX8_hold_40 rfl ?_
          refine wx_iinc hx hb dX8_hold_41 k_iconst_1 hl (k := 1) rfl (by decide) hF (fun i13 ls hF hl => ?_)
          have hl : lv_has ls 2 [(1, .int i13), (0, .ref (ρ o1))] := hl
          refine lv_goto hx hb dX8_hold_44 (tgt := 6) rfl ?_
          have hF := wJ_l hq3 hF
          exact ih3 i13 u11 H locs ls hF hH (lv_sub hl [1, 0] rfl)
        have hF := wx_t h hF
        refine lv_iload_n hx hb dX8_hold_27 rfl (lv_at hl 1 rfl) ?_
        have hF := wJ_r hq3 hF
        exact wx_iret hC hH hr hlk dX8_hold_28 hF
    exact hL6 wFu (0 : Int32) u2 H locs ls hF hH (lv_sub hl [1, 0] rfl)
  exact key _ _ hH
def F_X8_isFewer (i1 : Int32) (i2 : Int32) (u0 : wSt) : Option Int32 :=
  if i2 = (-2 : Int32) then (some ((1 : Int32))) else (wP (F_J6_bitCount_0f7a4 i1 u0) (fun (i3 : Int32) => wP (F_J6_bitCount_0f7a4 i2 u0) (fun (i4 : Int32) => if i4 ≤ i3 then (some ((0 : Int32))) else (some ((1 : Int32))))))
set_option maxRecDepth 100000 in
set_option maxHeartbeats 4000000 in
theorem c_X8_isFewer {l : Launch} {D : va_G} {κ : Nat → ClassId} {ρ : Nat → Nat} (i1 : Int32) (i2 : Int32) : wMI l yX8_isFewer cX8_isFewer 2 .boolean (wRm 1 20) [.int i1, .int i2] D κ ρ 0 (fun u => wPu (F_X8_isFewer i1 i2 u) u) := by
  refine wMP_of (F := fun u => F_X8_isFewer i1 i2 u) rfl (Nat.le_of_ble_eq_true rfl) (fun u0 z p e s m args below meth c ls A hF hC hr hlk hH hl => ?_)
  have hl : lv_has ls 2 [(0, .int i1), (1, .int i2)] := hl
  have hx := hC.1.1
  have hb := hC.1.2.1
  have hF : F_X8_isFewer i1 i2 u0 = some z := hF
  unfold F_X8_isFewer at hF
  change W p l e (wRm 1 20) s m args below meth c s.heap [] 0 0 (wQI below args s A D κ ρ 0 (z, u0)) (F0 m 0 ls [])
  have key : ∀ (H : Heap) (locs : List Loc), wHp D κ ρ 0 A s.heap H locs u0 → W p l e (wRm 1 20) s m args below meth c H locs 0 0 (wQI below args s A D κ ρ 0 (z, u0)) (F0 m 0 ls []) := by
    intro H locs hH
    refine lv_iload_n hx hb dX8_isFewer_0 rfl (lv_at hl 1 rfl) ?_
    refine lv_bipush hx hb dX8_isFewer_1 k_bipush_m2 ?_
    refine lv_icmp_eq hx hb dX8_isFewer_3 (tgt := 17) rfl (fun h => ?_) (fun h => ?_)
    · have hF := wx_t h hF
      refine lv_iconst hx hb dX8_isFewer_17 k_iconst_1 ?_
      refine lv_goto hx hb dX8_isFewer_18 (tgt := 22) rfl ?_
      exact wx_zret hC hH hr hlk dX8_isFewer_22 (Or.inr rfl) (wx_pr hF)
    have hF := wx_f h hF
    refine lv_iload_n hx hb dX8_isFewer_6 rfl (lv_at hl 0 rfl) ?_
    refine wx_psi hC hH hl (c_J6_bitCount_0f7a4 i1) y_J6_bitCount_0f7a4 v_J6_bitCount_0f7a4 m_X8_269 rfl ⟨Nat.le_of_ble_eq_true rfl, Nat.le_of_ble_eq_true rfl⟩ ⟨Nat.le_refl _, Nat.le_refl _⟩ rfl (Nat.le_of_ble_eq_true rfl) dX8_isFewer_7 hF (fun i3 H locs hF hH => ?_)
    refine lv_iload_n hx hb dX8_isFewer_10 rfl (lv_at hl 1 rfl) ?_
    refine wx_psi hC hH hl (c_J6_bitCount_0f7a4 i2) y_J6_bitCount_0f7a4 v_J6_bitCount_0f7a4 m_X8_269 rfl ⟨Nat.le_of_ble_eq_true rfl, Nat.le_of_ble_eq_true rfl⟩ ⟨Nat.le_refl _, Nat.le_refl _⟩ rfl (Nat.le_of_ble_eq_true rfl) dX8_isFewer_11 hF (fun i4 H locs hF hH => ?_)
    refine lv_icmp_ge hx hb dX8_isFewer_14 (tgt := 21) rfl (fun h => ?_) (fun h => ?_)
    · have hF := wx_t h hF
      refine lv_iconst hx hb dX8_isFewer_21 k_iconst_0 ?_
      exact wx_zret hC hH hr hlk dX8_isFewer_22 (Or.inl rfl) (wx_pr hF)
    have hF := wx_f h hF
    refine lv_iconst hx hb dX8_isFewer_17 k_iconst_1 ?_
    refine lv_goto hx hb dX8_isFewer_18 (tgt := 22) rfl ?_
    exact wx_zret hC hH hr hlk dX8_isFewer_22 (Or.inr rfl) (wx_pr hF)
  exact key _ _ hH
def F_X8_isCalmWithout_b14 (o1 : Nat) (i7 : Int32) (u8 : wSt) : Option ((Int32 × wSt) ⊕ (Int32 × wSt)) :=
  if (30 : Int32) ≤ i7 then (some (.inr ((1 : Int32), u8))) else (wR (u8.2.2 o1 9) 0 (fun o9 => wR (u8.2.2 o1 7) 3 (fun o10 => wC (F_X0_goOn o9 o10 u8) (fun (i12 : Int32) (u11 : wSt) => if i12 = (-1 : Int32) then (wB (i7 + (1 : Int32)) (fun (i13 : Int32) => some (.inl (i13, u11)))) else (some (.inr ((0 : Int32), u11)))))))
def F_X8_isCalmWithout (o1 : Nat) (i2 : Int32) (u0 : wSt) : Option (Int32 × wSt) :=
  wC (F_X8_startTrial o1 u0) (fun _ (u3 : wSt) => wR (u3.2.2 o1 9) 0 (fun o4 => wB (w_sI u3 o4 5 i2) (fun (u5 : wSt) => wL (S := Int32 × wSt) (fun x => F_X8_isCalmWithout_b14 o1 x.1 x.2) wFu ((0 : Int32), u5))))
set_option maxRecDepth 100000 in
set_option maxHeartbeats 4000000 in
theorem c_X8_isCalmWithout {l : Launch} {D : va_G} {κ : Nat → ClassId} {ρ : Nat → Nat} (o1 : Nat) (i2 : Int32) (h_o1 : (w_sh o1).1 = 8) : wMI l yX8_isCalmWithout cX8_isCalmWithout 3 .boolean (wRm 6 155) [.ref (ρ o1), .int i2] D κ ρ 0 (fun u => F_X8_isCalmWithout o1 i2 u) := by
  refine wMI_of (F := fun u => F_X8_isCalmWithout o1 i2 u) rfl (Nat.le_of_ble_eq_true rfl) (fun u0 z p e s m args below meth c ls A hF hC hr hlk hH hl => ?_)
  have hl : lv_has ls 3 [(0, .ref (ρ o1)), (1, .int i2)] := hl
  have hx := hC.1.1
  have hb := hC.1.2.1
  have hF : F_X8_isCalmWithout o1 i2 u0 = some z := hF
  unfold F_X8_isCalmWithout at hF
  change W p l e (wRm 6 155) s m args below meth c s.heap [] 0 0 (wQI below args s A D κ ρ 0 z) (F0 m 0 ls [])
  have key : ∀ (H : Heap) (locs : List Loc), wHp D κ ρ 0 A s.heap H locs u0 → W p l e (wRm 6 155) s m args below meth c H locs 0 0 (wQI below args s A D κ ρ 0 z) (F0 m 0 ls []) := by
    intro H locs hH
    refine lv_aload_n hx hb dX8_isCalmWithout_0 rfl (lv_at hl 0 rfl) ?_
    refine wx_evv hC hH hl (c_X8_startTrial o1 h_o1) y_X8_startTrial v_X8_startTrial h_o1 rfl m_X8_218 rfl ⟨Nat.le_of_ble_eq_true rfl, Nat.le_of_ble_eq_true rfl⟩ ⟨Nat.le_refl _, Nat.le_refl _⟩ rfl (Nat.le_of_ble_eq_true rfl) dX8_isCalmWithout_1 hF (fun _ u3 H locs hF hH => ?_)
    refine lv_aload_n hx hb dX8_isCalmWithout_4 rfl (lv_at hl 0 rfl) ?_
    refine wx_getR hC hH h_o1 rfl f_X8_60 dX8_isCalmWithout_5 hF (fun o4 h_o4 hF => ?_)
    refine lv_iload_n hx hb dX8_isCalmWithout_8 rfl (lv_at hl 1 rfl) ?_
    refine wx_putI hC hH h_o4 rfl f_X8_266 g_0_5 dX8_isCalmWithout_9 hF (fun u5 H locs hF hH => ?_)
    refine lv_iconst hx hb dX8_isCalmWithout_12 k_iconst_0 ?_
    refine wx_istore_n hx hb dX8_isCalmWithout_13 rfl hl (by decide) (fun ls hl => ?_)
    have hl : lv_has ls 3 [(2, .int (0 : Int32)), (0, .ref (ρ o1)), (1, .int i2)] := hl
    have hL14 : ∀ (k6_ : Nat) (i7 : Int32) (u8 : wSt) (H : Heap) (locs : List Loc) (ls : Array Slot), wL (S := Int32 × wSt) (fun x => F_X8_isCalmWithout_b14 o1 x.1 x.2) k6_ (i7, u8) = some z → wHp D κ ρ 0 A s.heap H locs u8 → lv_has ls 3 [(0, .ref (ρ o1)), (2, .int i7)] → W p l e (wRm 6 155) s m args below meth c H locs 0 0 (wQI below args s A D κ ρ 0 z) (F0 m 14 ls []) := by
      intro k6_
      induction k6_ with
      | zero => intro i7 u8 H locs ls hF; exact wL_zero hF
      | succ k6_ ih6 =>
        intro i7 u8 H locs ls hF hH hl
        obtain ⟨q6_, hF, hq6⟩ := wL_some hF
        have hF : F_X8_isCalmWithout_b14 o1 i7 u8 = some q6_ := hF
        unfold F_X8_isCalmWithout_b14 at hF
        refine lv_iload_n hx hb dX8_isCalmWithout_14 rfl (lv_at hl 1 rfl) ?_
        refine lv_bipush hx hb dX8_isCalmWithout_15 k_bipush_30 ?_
        refine lv_icmp_ge hx hb dX8_isCalmWithout_17 (tgt := 43) rfl (fun h => ?_) (fun h => ?_)
        · have hF := wx_t h hF
          refine lv_iconst hx hb dX8_isCalmWithout_43 k_iconst_1 ?_
          have hF := wJ_r hq6 hF
          exact wx_zret hC hH hr hlk dX8_isCalmWithout_44 (Or.inr rfl) hF
        have hF := wx_f h hF
        refine lv_aload_n hx hb dX8_isCalmWithout_20 rfl (lv_at hl 0 rfl) ?_
        refine wx_getR hC hH h_o1 rfl f_X8_60 dX8_isCalmWithout_21 hF (fun o9 h_o9 hF => ?_)
        refine lv_aload_n hx hb dX8_isCalmWithout_24 rfl (lv_at hl 0 rfl) ?_
        refine wx_getR hC hH h_o1 rfl f_X8_48 dX8_isCalmWithout_25 hF (fun o10 h_o10 hF => ?_)
        refine wx_evi hC hH hl (c_X0_goOn o9 o10 h_o9 h_o10) y_X0_goOn v_X0_goOn h_o9 rfl m_X8_232 rfl ⟨Nat.le_of_ble_eq_true rfl, Nat.le_of_ble_eq_true rfl⟩ ⟨Nat.le_refl _, Nat.le_refl _⟩ rfl (Nat.le_of_ble_eq_true rfl) dX8_isCalmWithout_28 hF (fun i12 u11 H locs hF hH => ?_)
        refine lv_iconst hx hb dX8_isCalmWithout_31 k_iconst_m1 ?_
        refine lv_icmp_eq hx hb dX8_isCalmWithout_32 (tgt := 37) rfl (fun h => ?_) (fun h => ?_)
        · have hF := wx_t h hF
          refine wx_iinc hx hb dX8_isCalmWithout_37 k_iconst_1 hl (k := 1) rfl (by decide) hF (fun i13 ls hF hl => ?_)
          have hl : lv_has ls 3 [(2, .int i13), (0, .ref (ρ o1))] := hl
          refine lv_goto hx hb dX8_isCalmWithout_40 (tgt := 14) rfl ?_
          have hF := wJ_l hq6 hF
          exact ih6 i13 u11 H locs ls hF hH (lv_sub hl [1, 0] rfl)
        have hF := wx_f h hF
        refine lv_iconst hx hb dX8_isCalmWithout_35 k_iconst_0 ?_
        have hF := wJ_r hq6 hF
        exact wx_zret hC hH hr hlk dX8_isCalmWithout_36 (Or.inl rfl) hF
    exact hL14 wFu (0 : Int32) u5 H locs ls hF hH (lv_sub hl [1, 0] rfl)
  exact key _ _ hH
def F_X8_calm_j68 (i8 : Int32) (i14 : Int32) (u15 : wSt) : Option ((Int32 × Int32 × wSt) ⊕ (Int32 × wSt)) :=
  wB (i8 + (1 : Int32)) (fun (i16 : Int32) => some (.inl (i14, i16, u15)))
def F_X8_calm_j43 (i7 : Int32) (u9 : wSt) (i8 : Int32) (o1 : Nat) (i12 : Int32) : Option ((Int32 × Int32 × wSt) ⊕ (Int32 × wSt)) :=
  wJ (X := Int32 × wSt) (if i12 = 0 then (some (.inl (i7, u9))) else (wP (F_X8_isFewer i8 i7 u9) (fun (i17 : Int32) => if i17 = 0 then (some (.inl (i7, u9))) else (wC (F_X8_isCalmWithout o1 i8 u9) (fun (i19 : Int32) (u18 : wSt) => if i19 = 0 then (some (.inl (i7, u18))) else (some (.inl (i8, u18)))))))) (fun x => F_X8_calm_j68 i8 x.1 x.2)
def F_X8_calm_b17 (o1 : Nat) (i5 : Int32) (i7 : Int32) (i8 : Int32) (u9 : wSt) : Option ((Int32 × Int32 × wSt) ⊕ (Int32 × wSt)) :=
  wR (u9.2.2 o1 2) 6 (fun o10 => if ((1 : Int32) <<< ((u9.1 o10 1) &&& 31)) ≤ i8 then (some (.inr (i7, u9))) else (wJ (X := Int32) (if (i8 &&& (i5 ^^^ (-1 : Int32))) = 0 then (some (.inl (1 : Int32))) else (some (.inl (0 : Int32)))) (fun x => F_X8_calm_j43 i7 u9 i8 o1 x)))
def F_X8_calm (o1 : Nat) (u0 : wSt) : Option (Int32 × wSt) :=
  wC (F_X8_plainCourse o1 u0) (fun (o3 : Nat) (u2 : wSt) => wG ((w_sh o3).1 = 0) (wR (u2.2.2 o1 5) 3 (fun o4 => wP (F_X0_sitting o3 o4 u2) (fun (i5 : Int32) => wL (S := Int32 × Int32 × wSt) (fun x => F_X8_calm_b17 o1 i5 x.1 x.2.1 x.2.2) wFu ((-2 : Int32), (0 : Int32), u2)))))
set_option maxRecDepth 100000 in
set_option maxHeartbeats 4000000 in
theorem c_X8_calm {l : Launch} {D : va_G} {κ : Nat → ClassId} {ρ : Nat → Nat} (o1 : Nat) (h_o1 : (w_sh o1).1 = 8) : wMI l yX8_calm cX8_calm 5 .int (wRm 7 177) [.ref (ρ o1)] D κ ρ 0 (fun u => F_X8_calm o1 u) := by
  refine wMI_of (F := fun u => F_X8_calm o1 u) rfl (Nat.le_of_ble_eq_true rfl) (fun u0 z p e s m args below meth c ls A hF hC hr hlk hH hl => ?_)
  have hl : lv_has ls 5 [(0, .ref (ρ o1))] := hl
  have hx := hC.1.1
  have hb := hC.1.2.1
  have hF : F_X8_calm o1 u0 = some z := hF
  unfold F_X8_calm at hF
  change W p l e (wRm 7 177) s m args below meth c s.heap [] 0 0 (wQI below args s A D κ ρ 0 z) (F0 m 0 ls [])
  have key : ∀ (H : Heap) (locs : List Loc), wHp D κ ρ 0 A s.heap H locs u0 → W p l e (wRm 7 177) s m args below meth c H locs 0 0 (wQI below args s A D κ ρ 0 z) (F0 m 0 ls []) := by
    intro H locs hH
    refine lv_bipush hx hb dX8_calm_0 k_bipush_m2 ?_
    refine wx_istore_n hx hb dX8_calm_2 rfl hl (by decide) (fun ls hl => ?_)
    have hl : lv_has ls 5 [(1, .int (-2 : Int32)), (0, .ref (ρ o1))] := hl
    refine lv_aload_n hx hb dX8_calm_3 rfl (lv_at hl 1 rfl) ?_
    refine wx_evr hC hH hl (c_X8_plainCourse o1 h_o1) y_X8_plainCourse v_X8_plainCourse h_o1 rfl m_X8_144 rfl ⟨Nat.le_of_ble_eq_true rfl, Nat.le_of_ble_eq_true rfl⟩ ⟨Nat.le_refl _, Nat.le_refl _⟩ rfl (Nat.le_of_ble_eq_true rfl) dX8_calm_4 hF (fun o3 u2 H locs hF hH => ?_)
    obtain ⟨h_o3, hF⟩ := wG_some hF
    refine lv_aload_n hx hb dX8_calm_7 rfl (lv_at hl 1 rfl) ?_
    refine wx_getR hC hH h_o1 rfl f_X8_41 dX8_calm_8 hF (fun o4 h_o4 hF => ?_)
    refine wx_pvi hC hH hl (c_X0_sitting o3 o4 h_o3 h_o4) y_X0_sitting v_X0_sitting h_o3 rfl m_X8_257 rfl ⟨Nat.le_of_ble_eq_true rfl, Nat.le_of_ble_eq_true rfl⟩ ⟨Nat.le_refl _, Nat.le_refl _⟩ rfl (Nat.le_of_ble_eq_true rfl) dX8_calm_11 hF (fun i5 H locs hF hH => ?_)
    refine wx_istore_n hx hb dX8_calm_14 rfl hl (by decide) (fun ls hl => ?_)
    have hl : lv_has ls 5 [(2, .int i5), (1, .int (-2 : Int32)), (0, .ref (ρ o1))] := hl
    refine lv_iconst hx hb dX8_calm_15 k_iconst_0 ?_
    refine wx_istore_n hx hb dX8_calm_16 rfl hl (by decide) (fun ls hl => ?_)
    have hl : lv_has ls 5 [(3, .int (0 : Int32)), (2, .int i5), (1, .int (-2 : Int32)), (0, .ref (ρ o1))] := hl
    have hL17 : ∀ (k6_ : Nat) (i7 : Int32) (i8 : Int32) (u9 : wSt) (H : Heap) (locs : List Loc) (ls : Array Slot), wL (S := Int32 × Int32 × wSt) (fun x => F_X8_calm_b17 o1 i5 x.1 x.2.1 x.2.2) k6_ (i7, i8, u9) = some z → wHp D κ ρ 0 A s.heap H locs u9 → lv_has ls 5 [(0, .ref (ρ o1)), (1, .int i7), (2, .int i5), (3, .int i8)] → W p l e (wRm 7 177) s m args below meth c H locs 0 0 (wQI below args s A D κ ρ 0 z) (F0 m 17 ls []) := by
      intro k6_
      induction k6_ with
      | zero => intro i7 i8 u9 H locs ls hF; exact wL_zero hF
      | succ k6_ ih6 =>
        intro i7 i8 u9 H locs ls hF hH hl
        obtain ⟨q6_, hF, hq6⟩ := wL_some hF
        have hF : F_X8_calm_b17 o1 i5 i7 i8 u9 = some q6_ := hF
        unfold F_X8_calm_b17 at hF
        refine lv_iload_n hx hb dX8_calm_17 rfl (lv_at hl 3 rfl) ?_
        refine lv_iconst hx hb dX8_calm_18 k_iconst_1 ?_
        refine lv_aload_n hx hb dX8_calm_19 rfl (lv_at hl 0 rfl) ?_
        refine wx_getR hC hH h_o1 rfl f_X8_22 dX8_calm_20 hF (fun o10 h_o10 hF => ?_)
        refine wx_getI hC hH h_o10 rfl f_X8_235 dX8_calm_23 ?_
        refine lv_ishl hx hb dX8_calm_26 ?_
        refine lv_icmp_ge hx hb dX8_calm_27 (tgt := 74) rfl (fun h => ?_) (fun h => ?_)
        · have hF := wx_t h hF
          refine lv_iload_n hx hb dX8_calm_74 rfl (lv_at hl 1 rfl) ?_
          have hF := wJ_r hq6 hF
          exact wx_iret hC hH hr hlk dX8_calm_75 hF
        have hF := wx_f h hF
        refine lv_iload_n hx hb dX8_calm_30 rfl (lv_at hl 3 rfl) ?_
        refine lv_iload_n hx hb dX8_calm_31 rfl (lv_at hl 2 rfl) ?_
        refine lv_iconst hx hb dX8_calm_32 k_iconst_m1 ?_
        refine lv_ixor hx hb dX8_calm_33 ?_
        refine lv_iand hx hb dX8_calm_34 ?_
        obtain ⟨q11_, hF, hq11⟩ := wJ_some hF
        have hJ43 : ∀ (i12 : Int32) (H : Heap) (locs : List Loc) (ls : Array Slot), F_X8_calm_j43 i7 u9 i8 o1 i12 = some q6_ → wHp D κ ρ 0 A s.heap H locs u9 → lv_has ls 5 [(0, .ref (ρ o1)), (1, .int i7), (2, .int i5), (3, .int i8)] → W p l e (wRm 7 177) s m args below meth c H locs 0 0 (wQI below args s A D κ ρ 0 z) (F0 m 43 ls [.int i12]) := by
          intro i12 H locs ls hF hH hl
          unfold F_X8_calm_j43 at hF
          refine wx_istore hx hb dX8_calm_43 hl (by decide) (fun ls hl => ?_)
          have hl : lv_has ls 5 [(4, .int i12), (0, .ref (ρ o1)), (1, .int i7), (2, .int i5), (3, .int i8)] := hl
          refine lv_iload hx hb dX8_calm_45 (lv_at hl 0 rfl) ?_
          obtain ⟨q13_, hF, hq13⟩ := wJ_some hF
          have hJ68 : ∀ (i14 : Int32) (u15 : wSt) (H : Heap) (locs : List Loc) (ls : Array Slot), F_X8_calm_j68 i8 i14 u15 = some q6_ → wHp D κ ρ 0 A s.heap H locs u15 → lv_has ls 5 [(0, .ref (ρ o1)), (1, .int i14), (2, .int i5), (3, .int i8)] → W p l e (wRm 7 177) s m args below meth c H locs 0 0 (wQI below args s A D κ ρ 0 z) (F0 m 68 ls []) := by
            intro i14 u15 H locs ls hF hH hl
            unfold F_X8_calm_j68 at hF
            refine wx_iinc hx hb dX8_calm_68 k_iconst_1 hl (k := 3) rfl (by decide) hF (fun i16 ls hF hl => ?_)
            have hl : lv_has ls 5 [(3, .int i16), (0, .ref (ρ o1)), (1, .int i14), (2, .int i5)] := hl
            refine lv_goto hx hb dX8_calm_71 (tgt := 17) rfl ?_
            have hF := wJ_l hq6 hF
            exact ih6 i14 i16 u15 H locs ls hF hH (lv_sub hl [1, 2, 3, 0] rfl)
          refine lv_if_eq hx hb dX8_calm_47 (tgt := 68) rfl (fun h => ?_) (fun h => ?_)
          · have hF := wx_t h hF
            have hF := wJ_l hq13 hF
            exact hJ68 i7 u9 H locs ls hF hH (lv_sub hl [1, 2, 3, 4] rfl)
          have hF := wx_f h hF
          refine lv_iload_n hx hb dX8_calm_50 rfl (lv_at hl 4 rfl) ?_
          refine lv_iload_n hx hb dX8_calm_51 rfl (lv_at hl 2 rfl) ?_
          refine wx_psi hC hH hl (c_X8_isFewer i8 i7) y_X8_isFewer v_X8_isFewer m_X8_260 rfl ⟨Nat.le_of_ble_eq_true rfl, Nat.le_of_ble_eq_true rfl⟩ ⟨Nat.le_refl _, Nat.le_refl _⟩ rfl (Nat.le_of_ble_eq_true rfl) dX8_calm_52 hF (fun i17 H locs hF hH => ?_)
          refine lv_if_eq hx hb dX8_calm_55 (tgt := 68) rfl (fun h => ?_) (fun h => ?_)
          · have hF := wx_t h hF
            have hF := wJ_l hq13 hF
            exact hJ68 i7 u9 H locs ls hF hH (lv_sub hl [1, 2, 3, 4] rfl)
          have hF := wx_f h hF
          refine lv_aload_n hx hb dX8_calm_58 rfl (lv_at hl 1 rfl) ?_
          refine lv_iload_n hx hb dX8_calm_59 rfl (lv_at hl 4 rfl) ?_
          refine wx_evi hC hH hl (c_X8_isCalmWithout o1 i8 h_o1) y_X8_isCalmWithout v_X8_isCalmWithout h_o1 rfl m_X8_263 rfl ⟨Nat.le_of_ble_eq_true rfl, Nat.le_of_ble_eq_true rfl⟩ ⟨Nat.le_refl _, Nat.le_refl _⟩ rfl (Nat.le_of_ble_eq_true rfl) dX8_calm_60 hF (fun i19 u18 H locs hF hH => ?_)
          refine lv_if_eq hx hb dX8_calm_63 (tgt := 68) rfl (fun h => ?_) (fun h => ?_)
          · have hF := wx_t h hF
            have hF := wJ_l hq13 hF
            exact hJ68 i7 u18 H locs ls hF hH (lv_sub hl [1, 2, 3, 4] rfl)
          have hF := wx_f h hF
          refine lv_iload_n hx hb dX8_calm_66 rfl (lv_at hl 4 rfl) ?_
          refine wx_istore_n hx hb dX8_calm_67 rfl hl (by decide) (fun ls hl => ?_)
          have hl : lv_has ls 5 [(1, .int i8), (4, .int i12), (0, .ref (ρ o1)), (2, .int i5), (3, .int i8)] := hl
          have hF := wJ_l hq13 hF
          exact hJ68 i8 u18 H locs ls hF hH (lv_sub hl [2, 0, 3, 4] rfl)
        refine lv_if_ne hx hb dX8_calm_35 (tgt := 42) rfl (fun h => ?_) (fun h => ?_)
        · have hF := wx_f h hF
          refine lv_iconst hx hb dX8_calm_42 k_iconst_0 ?_
          have hF := wJ_l hq11 hF
          exact hJ43 (0 : Int32) H locs ls hF hH (lv_sub hl [0, 1, 2, 3] rfl)
        have hF := wx_t h hF
        refine lv_iconst hx hb dX8_calm_38 k_iconst_1 ?_
        refine lv_goto hx hb dX8_calm_39 (tgt := 43) rfl ?_
        have hF := wJ_l hq11 hF
        exact hJ43 (1 : Int32) H locs ls hF hH (lv_sub hl [0, 1, 2, 3] rfl)
    exact hL17 wFu (-2 : Int32) (0 : Int32) u2 H locs ls hF hH (lv_sub hl [3, 2, 1, 0] rfl)
  exact key _ _ hH
def F_X8_bestFed_j111 (i2 : Int32) (i9 : Int32) (i10 : Int32) (u11 : wSt) : Option (Int32 × wSt) :=
  if i2 = 0 then (some (i9, u11)) else (some (i10, u11))
def F_X8_bestFed_j105 (i15 : Int32) (i21 : Int32) (i22 : Int32) (u23 : wSt) : Option ((Int32 × Int32 × Int32 × wSt) ⊕ ((Int32 × Int32 × wSt) ⊕ (Int32 × wSt))) :=
  wB (i15 + (1 : Int32)) (fun (i24 : Int32) => some (.inl (i21, i22, i24, u23)))
def F_X8_bestFed_b38 (o1 : Nat) (i7 : Int32) (i13 : Int32) (i14 : Int32) (i15 : Int32) (u16 : wSt) : Option ((Int32 × Int32 × Int32 × wSt) ⊕ ((Int32 × Int32 × wSt) ⊕ (Int32 × wSt))) :=
  wR (u16.2.2 o1 2) 6 (fun o17 => if (u16.1 o17 1) ≤ i15 then (some (.inr (.inl (i13, i14, u16)))) else (if i7 = (-1 : Int32) then (some (.inr (.inl (i13, i14, u16)))) else (wR (u16.2.2 o1 5) 3 (fun o18 => wP (F_X3_hasFainted o18 i15 u16) (fun (i19 : Int32) => wJ (X := Int32 × Int32 × wSt) (if i19 = 0 then (wR (u16.2.2 o1 9) 0 (fun o25 => wR (u16.2.2 o1 5) 3 (fun o26 => wC (F_X0_wouldFeed o25 o26 i15 i7 u16) (fun (i28 : Int32) (u27 : wSt) => if i28 ≤ i14 then (some (.inl (i13, i14, u27))) else (wR (u27.2.2 o1 9) 0 (fun o29 => wR (u27.2.2 o1 5) 3 (fun o30 => wC (F_X0_wouldFeed o29 o30 i15 i7 u27) (fun (i32 : Int32) (u31 : wSt) => some (.inl (i15, i32, u31)))))))))) else (some (.inl (i13, i14, u16)))) (fun x => F_X8_bestFed_j105 i15 x.1 x.2.1 x.2.2))))))
def F_X8_bestFed (o1 : Nat) (i2 : Int32) (u0 : wSt) : Option (Int32 × wSt) :=
  if i2 < 0 then (some ((-1 : Int32), u0)) else (if i2 ≤ (1 : Int32) then (wC (F_X8_plainCourse o1 u0) (fun (o4 : Nat) (u3 : wSt) => wG ((w_sh o4).1 = 0) (wR (u3.2.2 o1 9) 0 (fun o5 => wR (u3.2.2 o1 5) 3 (fun o6 => wP (F_X0_fruitOnTop o5 o6 u3) (fun (i7 : Int32) => wJ (X := Int32 × Int32 × wSt) (wL (S := Int32 × Int32 × Int32 × wSt) (fun x => F_X8_bestFed_b38 o1 i7 x.1 x.2.1 x.2.2.1 x.2.2.2) wFu ((-2 : Int32), (-2 : Int32), (0 : Int32), u3)) (fun x => F_X8_bestFed_j111 i2 x.1 x.2.1 x.2.2))))))) else (some ((-1 : Int32), u0)))
set_option maxRecDepth 100000 in
set_option maxHeartbeats 4000000 in
theorem c_X8_bestFed {l : Launch} {D : va_G} {κ : Nat → ClassId} {ρ : Nat → Nat} (o1 : Nat) (i2 : Int32) (h_o1 : (w_sh o1).1 = 8) : wMI l yX8_bestFed cX8_bestFed 6 .int (wRm 5 131) [.ref (ρ o1), .int i2] D κ ρ 0 (fun u => F_X8_bestFed o1 i2 u) := by
  refine wMI_of (F := fun u => F_X8_bestFed o1 i2 u) rfl (Nat.le_of_ble_eq_true rfl) (fun u0 z p e s m args below meth c ls A hF hC hr hlk hH hl => ?_)
  have hl : lv_has ls 6 [(0, .ref (ρ o1)), (1, .int i2)] := hl
  have hx := hC.1.1
  have hb := hC.1.2.1
  have hF : F_X8_bestFed o1 i2 u0 = some z := hF
  unfold F_X8_bestFed at hF
  change W p l e (wRm 5 131) s m args below meth c s.heap [] 0 0 (wQI below args s A D κ ρ 0 z) (F0 m 0 ls [])
  have key : ∀ (H : Heap) (locs : List Loc), wHp D κ ρ 0 A s.heap H locs u0 → W p l e (wRm 5 131) s m args below meth c H locs 0 0 (wQI below args s A D κ ρ 0 z) (F0 m 0 ls []) := by
    intro H locs hH
    refine lv_iload_n hx hb dX8_bestFed_0 rfl (lv_at hl 1 rfl) ?_
    refine lv_if_lt hx hb dX8_bestFed_1 (tgt := 9) rfl (fun h => ?_) (fun h => ?_)
    · have hF := wx_t h hF
      refine lv_iconst hx hb dX8_bestFed_9 k_iconst_m1 ?_
      exact wx_iret hC hH hr hlk dX8_bestFed_10 hF
    have hF := wx_f h hF
    refine lv_iload_n hx hb dX8_bestFed_4 rfl (lv_at hl 1 rfl) ?_
    refine lv_iconst hx hb dX8_bestFed_5 k_iconst_1 ?_
    refine lv_icmp_le hx hb dX8_bestFed_6 (tgt := 11) rfl (fun h => ?_) (fun h => ?_)
    · have hF := wx_t h hF
      refine lv_aload_n hx hb dX8_bestFed_11 rfl (lv_at hl 0 rfl) ?_
      refine wx_evr hC hH hl (c_X8_plainCourse o1 h_o1) y_X8_plainCourse v_X8_plainCourse h_o1 rfl m_X8_144 rfl ⟨Nat.le_of_ble_eq_true rfl, Nat.le_of_ble_eq_true rfl⟩ ⟨Nat.le_refl _, Nat.le_refl _⟩ rfl (Nat.le_of_ble_eq_true rfl) dX8_bestFed_12 hF (fun o4 u3 H locs hF hH => ?_)
      obtain ⟨h_o4, hF⟩ := wG_some hF
      refine lv_pop hx hb dX8_bestFed_15 rfl ?_
      refine lv_aload_n hx hb dX8_bestFed_16 rfl (lv_at hl 0 rfl) ?_
      refine wx_getR hC hH h_o1 rfl f_X8_60 dX8_bestFed_17 hF (fun o5 h_o5 hF => ?_)
      refine lv_aload_n hx hb dX8_bestFed_20 rfl (lv_at hl 0 rfl) ?_
      refine wx_getR hC hH h_o1 rfl f_X8_41 dX8_bestFed_21 hF (fun o6 h_o6 hF => ?_)
      refine wx_pvi hC hH hl (c_X0_fruitOnTop o5 o6 h_o5 h_o6) y_X0_fruitOnTop v_X0_fruitOnTop h_o5 rfl m_X8_274 rfl ⟨Nat.le_of_ble_eq_true rfl, Nat.le_of_ble_eq_true rfl⟩ ⟨Nat.le_refl _, Nat.le_refl _⟩ rfl (Nat.le_of_ble_eq_true rfl) dX8_bestFed_24 hF (fun i7 H locs hF hH => ?_)
      refine wx_istore_n hx hb dX8_bestFed_27 rfl hl (by decide) (fun ls hl => ?_)
      have hl : lv_has ls 6 [(2, .int i7), (0, .ref (ρ o1)), (1, .int i2)] := hl
      refine lv_bipush hx hb dX8_bestFed_28 k_bipush_m2 ?_
      refine wx_istore_n hx hb dX8_bestFed_30 rfl hl (by decide) (fun ls hl => ?_)
      have hl : lv_has ls 6 [(3, .int (-2 : Int32)), (2, .int i7), (0, .ref (ρ o1)), (1, .int i2)] := hl
      refine lv_bipush hx hb dX8_bestFed_31 k_bipush_m2 ?_
      refine wx_istore hx hb dX8_bestFed_33 hl (by decide) (fun ls hl => ?_)
      have hl : lv_has ls 6 [(4, .int (-2 : Int32)), (3, .int (-2 : Int32)), (2, .int i7), (0, .ref (ρ o1)), (1, .int i2)] := hl
      refine lv_iconst hx hb dX8_bestFed_35 k_iconst_0 ?_
      refine wx_istore hx hb dX8_bestFed_36 hl (by decide) (fun ls hl => ?_)
      have hl : lv_has ls 6 [(5, .int (0 : Int32)), (4, .int (-2 : Int32)), (3, .int (-2 : Int32)), (2, .int i7), (0, .ref (ρ o1)), (1, .int i2)] := hl
      obtain ⟨q8_, hF, hq8⟩ := wJ_some hF
      have hJ111 : ∀ (i9 : Int32) (i10 : Int32) (u11 : wSt) (H : Heap) (locs : List Loc) (ls : Array Slot), F_X8_bestFed_j111 i2 i9 i10 u11 = some z → wHp D κ ρ 0 A s.heap H locs u11 → lv_has ls 6 [(1, .int i2), (3, .int i9), (4, .int i10)] → W p l e (wRm 5 131) s m args below meth c H locs 0 0 (wQI below args s A D κ ρ 0 z) (F0 m 111 ls []) := by
        intro i9 i10 u11 H locs ls hF hH hl
        unfold F_X8_bestFed_j111 at hF
        refine lv_iload_n hx hb dX8_bestFed_111 rfl (lv_at hl 0 rfl) ?_
        refine lv_if_ne hx hb dX8_bestFed_112 (tgt := 119) rfl (fun h => ?_) (fun h => ?_)
        · have hF := wx_f h hF
          refine lv_iload hx hb dX8_bestFed_119 (lv_at hl 2 rfl) ?_
          exact wx_iret hC hH hr hlk dX8_bestFed_121 hF
        have hF := wx_t h hF
        refine lv_iload_n hx hb dX8_bestFed_115 rfl (lv_at hl 1 rfl) ?_
        refine lv_goto hx hb dX8_bestFed_116 (tgt := 121) rfl ?_
        exact wx_iret hC hH hr hlk dX8_bestFed_121 hF
      have hL38 : ∀ (k12_ : Nat) (i13 : Int32) (i14 : Int32) (i15 : Int32) (u16 : wSt) (H : Heap) (locs : List Loc) (ls : Array Slot), wL (S := Int32 × Int32 × Int32 × wSt) (fun x => F_X8_bestFed_b38 o1 i7 x.1 x.2.1 x.2.2.1 x.2.2.2) k12_ (i13, i14, i15, u16) = some q8_ → wHp D κ ρ 0 A s.heap H locs u16 → lv_has ls 6 [(0, .ref (ρ o1)), (1, .int i2), (2, .int i7), (3, .int i13), (4, .int i14), (5, .int i15)] → W p l e (wRm 5 131) s m args below meth c H locs 0 0 (wQI below args s A D κ ρ 0 z) (F0 m 38 ls []) := by
        intro k12_
        induction k12_ with
        | zero => intro i13 i14 i15 u16 H locs ls hF; exact wL_zero hF
        | succ k12_ ih12 =>
          intro i13 i14 i15 u16 H locs ls hF hH hl
          obtain ⟨q12_, hF, hq12⟩ := wL_some hF
          have hF : F_X8_bestFed_b38 o1 i7 i13 i14 i15 u16 = some q12_ := hF
          unfold F_X8_bestFed_b38 at hF
          refine lv_iload hx hb dX8_bestFed_38 (lv_at hl 5 rfl) ?_
          refine lv_aload_n hx hb dX8_bestFed_40 rfl (lv_at hl 0 rfl) ?_
          refine wx_getR hC hH h_o1 rfl f_X8_22 dX8_bestFed_41 hF (fun o17 h_o17 hF => ?_)
          refine wx_getI hC hH h_o17 rfl f_X8_235 dX8_bestFed_44 ?_
          refine lv_icmp_ge hx hb dX8_bestFed_47 (tgt := 111) rfl (fun h => ?_) (fun h => ?_)
          · have hF := wx_t h hF
            have hF := wJ_r hq12 hF
            have hF := wJ_l hq8 hF
            exact hJ111 i13 i14 u16 H locs ls hF hH (lv_sub hl [1, 3, 4] rfl)
          have hF := wx_f h hF
          refine lv_iload_n hx hb dX8_bestFed_50 rfl (lv_at hl 2 rfl) ?_
          refine lv_iconst hx hb dX8_bestFed_51 k_iconst_m1 ?_
          refine lv_icmp_eq hx hb dX8_bestFed_52 (tgt := 111) rfl (fun h => ?_) (fun h => ?_)
          · have hF := wx_t h hF
            have hF := wJ_r hq12 hF
            have hF := wJ_l hq8 hF
            exact hJ111 i13 i14 u16 H locs ls hF hH (lv_sub hl [1, 3, 4] rfl)
          have hF := wx_f h hF
          refine lv_aload_n hx hb dX8_bestFed_55 rfl (lv_at hl 0 rfl) ?_
          refine wx_getR hC hH h_o1 rfl f_X8_41 dX8_bestFed_56 hF (fun o18 h_o18 hF => ?_)
          refine lv_iload hx hb dX8_bestFed_59 (lv_at hl 5 rfl) ?_
          refine wx_pvi hC hH hl (c_X3_hasFainted o18 i15 h_o18) y_X3_hasFainted v_X3_hasFainted h_o18 rfl m_X8_141 rfl ⟨Nat.le_of_ble_eq_true rfl, Nat.le_of_ble_eq_true rfl⟩ ⟨Nat.le_refl _, Nat.le_refl _⟩ rfl (Nat.le_of_ble_eq_true rfl) dX8_bestFed_61 hF (fun i19 H locs hF hH => ?_)
          obtain ⟨q20_, hF, hq20⟩ := wJ_some hF
          have hJ105 : ∀ (i21 : Int32) (i22 : Int32) (u23 : wSt) (H : Heap) (locs : List Loc) (ls : Array Slot), F_X8_bestFed_j105 i15 i21 i22 u23 = some q12_ → wHp D κ ρ 0 A s.heap H locs u23 → lv_has ls 6 [(0, .ref (ρ o1)), (1, .int i2), (2, .int i7), (3, .int i21), (4, .int i22), (5, .int i15)] → W p l e (wRm 5 131) s m args below meth c H locs 0 0 (wQI below args s A D κ ρ 0 z) (F0 m 105 ls []) := by
            intro i21 i22 u23 H locs ls hF hH hl
            unfold F_X8_bestFed_j105 at hF
            refine wx_iinc hx hb dX8_bestFed_105 k_iconst_1 hl (k := 5) rfl (by decide) hF (fun i24 ls hF hl => ?_)
            have hl : lv_has ls 6 [(5, .int i24), (0, .ref (ρ o1)), (1, .int i2), (2, .int i7), (3, .int i21), (4, .int i22)] := hl
            refine lv_goto hx hb dX8_bestFed_108 (tgt := 38) rfl ?_
            have hF := wJ_l hq12 hF
            exact ih12 i21 i22 i24 u23 H locs ls hF hH (lv_sub hl [1, 2, 3, 4, 5, 0] rfl)
          refine lv_if_ne hx hb dX8_bestFed_64 (tgt := 105) rfl (fun h => ?_) (fun h => ?_)
          · have hF := wx_f h hF
            have hF := wJ_l hq20 hF
            exact hJ105 i13 i14 u16 H locs ls hF hH (lv_sub hl [0, 1, 2, 3, 4, 5] rfl)
          have hF := wx_t h hF
          refine lv_aload_n hx hb dX8_bestFed_67 rfl (lv_at hl 0 rfl) ?_
          refine wx_getR hC hH h_o1 rfl f_X8_60 dX8_bestFed_68 hF (fun o25 h_o25 hF => ?_)
          refine lv_aload_n hx hb dX8_bestFed_71 rfl (lv_at hl 0 rfl) ?_
          refine wx_getR hC hH h_o1 rfl f_X8_41 dX8_bestFed_72 hF (fun o26 h_o26 hF => ?_)
          refine lv_iload hx hb dX8_bestFed_75 (lv_at hl 5 rfl) ?_
          refine lv_iload_n hx hb dX8_bestFed_77 rfl (lv_at hl 2 rfl) ?_
          refine wx_evi hC hH hl (c_X0_wouldFeed o25 o26 i15 i7 h_o25 h_o26) y_X0_wouldFeed v_X0_wouldFeed h_o25 rfl m_X8_277 rfl ⟨Nat.le_of_ble_eq_true rfl, Nat.le_of_ble_eq_true rfl⟩ ⟨Nat.le_refl _, Nat.le_refl _⟩ rfl (Nat.le_of_ble_eq_true rfl) dX8_bestFed_78 hF (fun i28 u27 H locs hF hH => ?_)
          refine lv_iload hx hb dX8_bestFed_81 (lv_at hl 4 rfl) ?_
          refine lv_icmp_le hx hb dX8_bestFed_83 (tgt := 105) rfl (fun h => ?_) (fun h => ?_)
          · have hF := wx_t h hF
            have hF := wJ_l hq20 hF
            exact hJ105 i13 i14 u27 H locs ls hF hH (lv_sub hl [0, 1, 2, 3, 4, 5] rfl)
          have hF := wx_f h hF
          refine lv_iload hx hb dX8_bestFed_86 (lv_at hl 5 rfl) ?_
          refine wx_istore_n hx hb dX8_bestFed_88 rfl hl (by decide) (fun ls hl => ?_)
          have hl : lv_has ls 6 [(3, .int i15), (0, .ref (ρ o1)), (1, .int i2), (2, .int i7), (4, .int i14), (5, .int i15)] := hl
          refine lv_aload_n hx hb dX8_bestFed_89 rfl (lv_at hl 1 rfl) ?_
          refine wx_getR hC hH h_o1 rfl f_X8_60 dX8_bestFed_90 hF (fun o29 h_o29 hF => ?_)
          refine lv_aload_n hx hb dX8_bestFed_93 rfl (lv_at hl 1 rfl) ?_
          refine wx_getR hC hH h_o1 rfl f_X8_41 dX8_bestFed_94 hF (fun o30 h_o30 hF => ?_)
          refine lv_iload hx hb dX8_bestFed_97 (lv_at hl 5 rfl) ?_
          refine lv_iload_n hx hb dX8_bestFed_99 rfl (lv_at hl 3 rfl) ?_
          refine wx_evi hC hH hl (c_X0_wouldFeed o29 o30 i15 i7 h_o29 h_o30) y_X0_wouldFeed v_X0_wouldFeed h_o29 rfl m_X8_277 rfl ⟨Nat.le_of_ble_eq_true rfl, Nat.le_of_ble_eq_true rfl⟩ ⟨Nat.le_refl _, Nat.le_refl _⟩ rfl (Nat.le_of_ble_eq_true rfl) dX8_bestFed_100 hF (fun i32 u31 H locs hF hH => ?_)
          refine wx_istore hx hb dX8_bestFed_103 hl (by decide) (fun ls hl => ?_)
          have hl : lv_has ls 6 [(4, .int i32), (3, .int i15), (0, .ref (ρ o1)), (1, .int i2), (2, .int i7), (5, .int i15)] := hl
          have hF := wJ_l hq20 hF
          exact hJ105 i15 i32 u31 H locs ls hF hH (lv_sub hl [2, 3, 4, 1, 0, 5] rfl)
      exact hL38 wFu (-2 : Int32) (-2 : Int32) (0 : Int32) u3 H locs ls hF hH (lv_sub hl [4, 5, 3, 2, 1, 0] rfl)
    have hF := wx_f h hF
    refine lv_iconst hx hb dX8_bestFed_9 k_iconst_m1 ?_
    exact wx_iret hC hH hr hlk dX8_bestFed_10 hF
  exact key _ _ hH
def F_X8_duelWorth (o1 : Nat) (i2 : Int32) (i3 : Int32) (i4 : Int32) (i5 : Int32) (u0 : wSt) : Option Int32 :=
  if i4 = 0 then (if i5 = 0 then (wR (u0.2.2 o1 2) 6 (fun o15 => wR (u0.2.2 o15 10) 10 (fun o16 => wN i3 o16 (fun j17 => some ((u0.1 o16 j17)))))) else (wR (u0.2.2 o1 2) 6 (fun o12 => wR (u0.2.2 o12 10) 10 (fun o13 => wN i2 o13 (fun j14 => some (((u0.1 o13 j14) - (5 : Int32)))))))) else (if i5 = 0 then (wR (u0.2.2 o1 5) 3 (fun o9 => wR (u0.2.2 o9 6) 10 (fun o10 => wN i2 o10 (fun j11 => some (((u0.1 o10 j11) / (5 : Int32))))))) else (wR (u0.2.2 o1 5) 3 (fun o6 => wR (u0.2.2 o6 5) 10 (fun o7 => wN i2 o7 (fun j8 => some ((-((u0.1 o7 j8) / (20 : Int32)))))))))
set_option maxRecDepth 100000 in
set_option maxHeartbeats 4000000 in
theorem c_X8_duelWorth {l : Launch} {D : va_G} {κ : Nat → ClassId} {ρ : Nat → Nat} (o1 : Nat) (i2 : Int32) (i3 : Int32) (i4 : Int32) (i5 : Int32) (h_o1 : (w_sh o1).1 = 8) : wMI l yX8_duelWorth cX8_duelWorth 5 .int (wRm 0 0) [.ref (ρ o1), .int i2, .int i3, .int i4, .int i5] D κ ρ 0 (fun u => wPu (F_X8_duelWorth o1 i2 i3 i4 i5 u) u) := by
  refine wMP_of (F := fun u => F_X8_duelWorth o1 i2 i3 i4 i5 u) rfl (Nat.le_of_ble_eq_true rfl) (fun u0 z p e s m args below meth c ls A hF hC hr hlk hH hl => ?_)
  have hl : lv_has ls 5 [(0, .ref (ρ o1)), (1, .int i2), (2, .int i3), (3, .int i4), (4, .int i5)] := hl
  have hx := hC.1.1
  have hb := hC.1.2.1
  have hF : F_X8_duelWorth o1 i2 i3 i4 i5 u0 = some z := hF
  unfold F_X8_duelWorth at hF
  change W p l e (wRm 0 0) s m args below meth c s.heap [] 0 0 (wQI below args s A D κ ρ 0 (z, u0)) (F0 m 0 ls [])
  have key : ∀ (H : Heap) (locs : List Loc), wHp D κ ρ 0 A s.heap H locs u0 → W p l e (wRm 0 0) s m args below meth c H locs 0 0 (wQI below args s A D κ ρ 0 (z, u0)) (F0 m 0 ls []) := by
    intro H locs hH
    refine lv_iload_n hx hb dX8_duelWorth_0 rfl (lv_at hl 3 rfl) ?_
    refine lv_if_ne hx hb dX8_duelWorth_1 (tgt := 33) rfl (fun h => ?_) (fun h => ?_)
    · have hF := wx_f h hF
      refine lv_iload hx hb dX8_duelWorth_33 (lv_at hl 4 rfl) ?_
      refine lv_if_ne hx hb dX8_duelWorth_35 (tgt := 52) rfl (fun h => ?_) (fun h => ?_)
      · have hF := wx_f h hF
        refine lv_aload_n hx hb dX8_duelWorth_52 rfl (lv_at hl 0 rfl) ?_
        refine wx_getR hC hH h_o1 rfl f_X8_41 dX8_duelWorth_53 hF (fun o6 h_o6 hF => ?_)
        refine wx_getR hC hH h_o6 rfl f_X8_129 dX8_duelWorth_56 hF (fun o7 h_o7 hF => ?_)
        refine lv_iload_n hx hb dX8_duelWorth_59 rfl (lv_at hl 1 rfl) ?_
        refine wx_iald hC hH h_o7 ⟨rfl, rfl⟩ dX8_duelWorth_60 hF (fun j8 hF => ?_)
        refine lv_bipush hx hb dX8_duelWorth_61 k_bipush_20 ?_
        refine lv_idiv hx hb dX8_duelWorth_63 (by decide) ?_
        refine lv_ineg hx hb dX8_duelWorth_64 ?_
        exact wx_iret hC hH hr hlk dX8_duelWorth_65 (wx_pr hF)
      have hF := wx_t h hF
      refine lv_aload_n hx hb dX8_duelWorth_38 rfl (lv_at hl 0 rfl) ?_
      refine wx_getR hC hH h_o1 rfl f_X8_41 dX8_duelWorth_39 hF (fun o9 h_o9 hF => ?_)
      refine wx_getR hC hH h_o9 rfl f_X8_132 dX8_duelWorth_42 hF (fun o10 h_o10 hF => ?_)
      refine lv_iload_n hx hb dX8_duelWorth_45 rfl (lv_at hl 1 rfl) ?_
      refine wx_iald hC hH h_o10 ⟨rfl, rfl⟩ dX8_duelWorth_46 hF (fun j11 hF => ?_)
      refine lv_iconst hx hb dX8_duelWorth_47 k_iconst_5 ?_
      refine lv_idiv hx hb dX8_duelWorth_48 (by decide) ?_
      refine lv_goto hx hb dX8_duelWorth_49 (tgt := 65) rfl ?_
      exact wx_iret hC hH hr hlk dX8_duelWorth_65 (wx_pr hF)
    have hF := wx_t h hF
    refine lv_iload hx hb dX8_duelWorth_4 (lv_at hl 4 rfl) ?_
    refine lv_if_ne hx hb dX8_duelWorth_6 (tgt := 21) rfl (fun h => ?_) (fun h => ?_)
    · have hF := wx_f h hF
      refine lv_aload_n hx hb dX8_duelWorth_21 rfl (lv_at hl 0 rfl) ?_
      refine wx_getR hC hH h_o1 rfl f_X8_22 dX8_duelWorth_22 hF (fun o12 h_o12 hF => ?_)
      refine wx_getR hC hH h_o12 rfl f_X8_135 dX8_duelWorth_25 hF (fun o13 h_o13 hF => ?_)
      refine lv_iload_n hx hb dX8_duelWorth_28 rfl (lv_at hl 1 rfl) ?_
      refine wx_iald hC hH h_o13 ⟨rfl, rfl⟩ dX8_duelWorth_29 hF (fun j14 hF => ?_)
      refine lv_iconst hx hb dX8_duelWorth_30 k_iconst_5 ?_
      refine lv_isub hx hb dX8_duelWorth_31 ?_
      exact wx_iret hC hH hr hlk dX8_duelWorth_32 (wx_pr hF)
    have hF := wx_t h hF
    refine lv_aload_n hx hb dX8_duelWorth_9 rfl (lv_at hl 0 rfl) ?_
    refine wx_getR hC hH h_o1 rfl f_X8_22 dX8_duelWorth_10 hF (fun o15 h_o15 hF => ?_)
    refine wx_getR hC hH h_o15 rfl f_X8_135 dX8_duelWorth_13 hF (fun o16 h_o16 hF => ?_)
    refine lv_iload_n hx hb dX8_duelWorth_16 rfl (lv_at hl 2 rfl) ?_
    refine wx_iald hC hH h_o16 ⟨rfl, rfl⟩ dX8_duelWorth_17 hF (fun j17 hF => ?_)
    refine lv_goto hx hb dX8_duelWorth_18 (tgt := 32) rfl ?_
    exact wx_iret hC hH hr hlk dX8_duelWorth_32 (wx_pr hF)
  exact key _ _ hH
def F_X8_isRest (o1 : Nat) (i2 : Int32) (i3 : Int32) (i4 : Int32) (u0 : wSt) : Option Int32 :=
  wB (i4 / (2 : Int32)) (fun (i5 : Int32) => wB (w_rem i4 (2 : Int32)) (fun (i6 : Int32) => wP (F_X8_duelWorth o1 i2 i3 i5 i6 u0) (fun (i7 : Int32) => wP (F_X8_duelWorth o1 i2 i3 ((1 : Int32) - i5) i6 u0) (fun (i8 : Int32) => if i7 < i8 then (some ((0 : Int32))) else (wP (F_X8_duelWorth o1 i3 i2 i6 i5 u0) (fun (i9 : Int32) => wP (F_X8_duelWorth o1 i3 i2 ((1 : Int32) - i6) i5 u0) (fun (i10 : Int32) => if i9 < i10 then (some ((0 : Int32))) else (some ((1 : Int32))))))))))
set_option maxRecDepth 100000 in
set_option maxHeartbeats 4000000 in
theorem c_X8_isRest {l : Launch} {D : va_G} {κ : Nat → ClassId} {ρ : Nat → Nat} (o1 : Nat) (i2 : Int32) (i3 : Int32) (i4 : Int32) (h_o1 : (w_sh o1).1 = 8) : wMI l yX8_isRest cX8_isRest 6 .boolean (wRm 1 24) [.ref (ρ o1), .int i2, .int i3, .int i4] D κ ρ 0 (fun u => wPu (F_X8_isRest o1 i2 i3 i4 u) u) := by
  refine wMP_of (F := fun u => F_X8_isRest o1 i2 i3 i4 u) rfl (Nat.le_of_ble_eq_true rfl) (fun u0 z p e s m args below meth c ls A hF hC hr hlk hH hl => ?_)
  have hl : lv_has ls 6 [(0, .ref (ρ o1)), (1, .int i2), (2, .int i3), (3, .int i4)] := hl
  have hx := hC.1.1
  have hb := hC.1.2.1
  have hF : F_X8_isRest o1 i2 i3 i4 u0 = some z := hF
  unfold F_X8_isRest at hF
  change W p l e (wRm 1 24) s m args below meth c s.heap [] 0 0 (wQI below args s A D κ ρ 0 (z, u0)) (F0 m 0 ls [])
  have key : ∀ (H : Heap) (locs : List Loc), wHp D κ ρ 0 A s.heap H locs u0 → W p l e (wRm 1 24) s m args below meth c H locs 0 0 (wQI below args s A D κ ρ 0 (z, u0)) (F0 m 0 ls []) := by
    intro H locs hH
    refine lv_iload_n hx hb dX8_isRest_0 rfl (lv_at hl 3 rfl) ?_
    refine lv_iconst hx hb dX8_isRest_1 k_iconst_2 ?_
    refine lv_idiv hx hb dX8_isRest_2 (by decide) ?_
    refine wx_leti hF (fun i5 hF => ?_)
    refine wx_istore hx hb dX8_isRest_3 hl (by decide) (fun ls hl => ?_)
    have hl : lv_has ls 6 [(4, .int i5), (0, .ref (ρ o1)), (1, .int i2), (2, .int i3), (3, .int i4)] := hl
    refine lv_iload_n hx hb dX8_isRest_5 rfl (lv_at hl 4 rfl) ?_
    refine lv_iconst hx hb dX8_isRest_6 k_iconst_2 ?_
    refine wx_irem hx hb dX8_isRest_7 (by decide) ?_
    refine wx_leti hF (fun i6 hF => ?_)
    refine wx_istore hx hb dX8_isRest_8 hl (by decide) (fun ls hl => ?_)
    have hl : lv_has ls 6 [(5, .int i6), (4, .int i5), (0, .ref (ρ o1)), (1, .int i2), (2, .int i3), (3, .int i4)] := hl
    refine lv_aload_n hx hb dX8_isRest_10 rfl (lv_at hl 2 rfl) ?_
    refine lv_iload_n hx hb dX8_isRest_11 rfl (lv_at hl 3 rfl) ?_
    refine lv_iload_n hx hb dX8_isRest_12 rfl (lv_at hl 4 rfl) ?_
    refine lv_iload hx hb dX8_isRest_13 (lv_at hl 1 rfl) ?_
    refine lv_iload hx hb dX8_isRest_15 (lv_at hl 0 rfl) ?_
    refine wx_pvi hC hH hl (c_X8_duelWorth o1 i2 i3 i5 i6 h_o1) y_X8_duelWorth v_X8_duelWorth h_o1 rfl m_X8_285 rfl ⟨Nat.le_of_ble_eq_true rfl, Nat.le_of_ble_eq_true rfl⟩ ⟨Nat.le_refl _, Nat.le_refl _⟩ rfl (Nat.le_of_ble_eq_true rfl) dX8_isRest_17 hF (fun i7 H locs hF hH => ?_)
    refine lv_aload_n hx hb dX8_isRest_20 rfl (lv_at hl 2 rfl) ?_
    refine lv_iload_n hx hb dX8_isRest_21 rfl (lv_at hl 3 rfl) ?_
    refine lv_iload_n hx hb dX8_isRest_22 rfl (lv_at hl 4 rfl) ?_
    refine lv_iconst hx hb dX8_isRest_23 k_iconst_1 ?_
    refine lv_iload hx hb dX8_isRest_24 (lv_at hl 1 rfl) ?_
    refine lv_isub hx hb dX8_isRest_26 ?_
    refine lv_iload hx hb dX8_isRest_27 (lv_at hl 0 rfl) ?_
    refine wx_pvi hC hH hl (c_X8_duelWorth o1 i2 i3 ((1 : Int32) - i5) i6 h_o1) y_X8_duelWorth v_X8_duelWorth h_o1 rfl m_X8_285 rfl ⟨Nat.le_of_ble_eq_true rfl, Nat.le_of_ble_eq_true rfl⟩ ⟨Nat.le_refl _, Nat.le_refl _⟩ rfl (Nat.le_of_ble_eq_true rfl) dX8_isRest_29 hF (fun i8 H locs hF hH => ?_)
    refine lv_icmp_lt hx hb dX8_isRest_32 (tgt := 64) rfl (fun h => ?_) (fun h => ?_)
    · have hF := wx_t h hF
      refine lv_iconst hx hb dX8_isRest_64 k_iconst_0 ?_
      exact wx_zret hC hH hr hlk dX8_isRest_65 (Or.inl rfl) (wx_pr hF)
    have hF := wx_f h hF
    refine lv_aload_n hx hb dX8_isRest_35 rfl (lv_at hl 2 rfl) ?_
    refine lv_iload_n hx hb dX8_isRest_36 rfl (lv_at hl 4 rfl) ?_
    refine lv_iload_n hx hb dX8_isRest_37 rfl (lv_at hl 3 rfl) ?_
    refine lv_iload hx hb dX8_isRest_38 (lv_at hl 0 rfl) ?_
    refine lv_iload hx hb dX8_isRest_40 (lv_at hl 1 rfl) ?_
    refine wx_pvi hC hH hl (c_X8_duelWorth o1 i3 i2 i6 i5 h_o1) y_X8_duelWorth v_X8_duelWorth h_o1 rfl m_X8_285 rfl ⟨Nat.le_of_ble_eq_true rfl, Nat.le_of_ble_eq_true rfl⟩ ⟨Nat.le_refl _, Nat.le_refl _⟩ rfl (Nat.le_of_ble_eq_true rfl) dX8_isRest_42 hF (fun i9 H locs hF hH => ?_)
    refine lv_aload_n hx hb dX8_isRest_45 rfl (lv_at hl 2 rfl) ?_
    refine lv_iload_n hx hb dX8_isRest_46 rfl (lv_at hl 4 rfl) ?_
    refine lv_iload_n hx hb dX8_isRest_47 rfl (lv_at hl 3 rfl) ?_
    refine lv_iconst hx hb dX8_isRest_48 k_iconst_1 ?_
    refine lv_iload hx hb dX8_isRest_49 (lv_at hl 0 rfl) ?_
    refine lv_isub hx hb dX8_isRest_51 ?_
    refine lv_iload hx hb dX8_isRest_52 (lv_at hl 1 rfl) ?_
    refine wx_pvi hC hH hl (c_X8_duelWorth o1 i3 i2 ((1 : Int32) - i6) i5 h_o1) y_X8_duelWorth v_X8_duelWorth h_o1 rfl m_X8_285 rfl ⟨Nat.le_of_ble_eq_true rfl, Nat.le_of_ble_eq_true rfl⟩ ⟨Nat.le_refl _, Nat.le_refl _⟩ rfl (Nat.le_of_ble_eq_true rfl) dX8_isRest_54 hF (fun i10 H locs hF hH => ?_)
    refine lv_icmp_lt hx hb dX8_isRest_57 (tgt := 64) rfl (fun h => ?_) (fun h => ?_)
    · have hF := wx_t h hF
      refine lv_iconst hx hb dX8_isRest_64 k_iconst_0 ?_
      exact wx_zret hC hH hr hlk dX8_isRest_65 (Or.inl rfl) (wx_pr hF)
    have hF := wx_f h hF
    refine lv_iconst hx hb dX8_isRest_60 k_iconst_1 ?_
    refine lv_goto hx hb dX8_isRest_61 (tgt := 65) rfl ?_
    exact wx_zret hC hH hr hlk dX8_isRest_65 (Or.inr rfl) (wx_pr hF)
  exact key _ _ hH
def F_X8_rests_j36 (i7 : Int32) (i10 : Int32) : Option ((Int32 × Int32) ⊕ Int32) :=
  wB (i7 + (1 : Int32)) (fun (i11 : Int32) => some (.inl (i10, i11)))
def F_X8_rests_b16 (o1 : Nat) (i2 : Int32) (i3 : Int32) (u0 : wSt) (i6 : Int32) (i7 : Int32) : Option ((Int32 × Int32) ⊕ Int32) :=
  if (4 : Int32) ≤ i7 then (some (.inr (i6))) else (wP (F_X8_isRest o1 i2 i3 i7 u0) (fun (i8 : Int32) => wJ (X := Int32) (if i8 = 0 then (some (.inl i6)) else (wB (i6 + (1 : Int32)) (fun (i12 : Int32) => some (.inl i12)))) (fun x => F_X8_rests_j36 i7 x)))
def F_X8_rests (o1 : Nat) (i2 : Int32) (i3 : Int32) (u0 : wSt) : Option Int32 :=
  wP (F_X8_areTwoGuests o1 i2 i3 u0) (fun (i4 : Int32) => if i4 = 0 then (some ((-1 : Int32))) else (wL (S := Int32 × Int32) (fun x => F_X8_rests_b16 o1 i2 i3 u0 x.1 x.2) wFu ((0 : Int32), (0 : Int32))))
set_option maxRecDepth 100000 in
set_option maxHeartbeats 4000000 in
theorem c_X8_rests {l : Launch} {D : va_G} {κ : Nat → ClassId} {ρ : Nat → Nat} (o1 : Nat) (i2 : Int32) (i3 : Int32) (h_o1 : (w_sh o1).1 = 8) : wMI l yX8_rests cX8_rests 5 .int (wRm 2 49) [.ref (ρ o1), .int i2, .int i3] D κ ρ 0 (fun u => wPu (F_X8_rests o1 i2 i3 u) u) := by
  refine wMP_of (F := fun u => F_X8_rests o1 i2 i3 u) rfl (Nat.le_of_ble_eq_true rfl) (fun u0 z p e s m args below meth c ls A hF hC hr hlk hH hl => ?_)
  have hl : lv_has ls 5 [(0, .ref (ρ o1)), (1, .int i2), (2, .int i3)] := hl
  have hx := hC.1.1
  have hb := hC.1.2.1
  have hF : F_X8_rests o1 i2 i3 u0 = some z := hF
  unfold F_X8_rests at hF
  change W p l e (wRm 2 49) s m args below meth c s.heap [] 0 0 (wQI below args s A D κ ρ 0 (z, u0)) (F0 m 0 ls [])
  have key : ∀ (H : Heap) (locs : List Loc), wHp D κ ρ 0 A s.heap H locs u0 → W p l e (wRm 2 49) s m args below meth c H locs 0 0 (wQI below args s A D κ ρ 0 (z, u0)) (F0 m 0 ls []) := by
    intro H locs hH
    refine lv_aload_n hx hb dX8_rests_0 rfl (lv_at hl 0 rfl) ?_
    refine lv_iload_n hx hb dX8_rests_1 rfl (lv_at hl 1 rfl) ?_
    refine lv_iload_n hx hb dX8_rests_2 rfl (lv_at hl 2 rfl) ?_
    refine wx_pvi hC hH hl (c_X8_areTwoGuests o1 i2 i3 h_o1) y_X8_areTwoGuests v_X8_areTwoGuests h_o1 rfl m_X8_184 rfl ⟨Nat.le_of_ble_eq_true rfl, Nat.le_of_ble_eq_true rfl⟩ ⟨Nat.le_refl _, Nat.le_refl _⟩ rfl (Nat.le_of_ble_eq_true rfl) dX8_rests_3 hF (fun i4 H locs hF hH => ?_)
    refine lv_if_ne hx hb dX8_rests_6 (tgt := 11) rfl (fun h => ?_) (fun h => ?_)
    · have hF := wx_f h hF
      refine lv_iconst hx hb dX8_rests_11 k_iconst_0 ?_
      refine wx_istore_n hx hb dX8_rests_12 rfl hl (by decide) (fun ls hl => ?_)
      have hl : lv_has ls 5 [(3, .int (0 : Int32)), (0, .ref (ρ o1)), (1, .int i2), (2, .int i3)] := hl
      refine lv_iconst hx hb dX8_rests_13 k_iconst_0 ?_
      refine wx_istore hx hb dX8_rests_14 hl (by decide) (fun ls hl => ?_)
      have hl : lv_has ls 5 [(4, .int (0 : Int32)), (3, .int (0 : Int32)), (0, .ref (ρ o1)), (1, .int i2), (2, .int i3)] := hl
      have hL16 : ∀ (k5_ : Nat) (i6 : Int32) (i7 : Int32) (H : Heap) (locs : List Loc) (ls : Array Slot), wL (S := Int32 × Int32) (fun x => F_X8_rests_b16 o1 i2 i3 u0 x.1 x.2) k5_ (i6, i7) = some z → wHp D κ ρ 0 A s.heap H locs u0 → lv_has ls 5 [(0, .ref (ρ o1)), (1, .int i2), (2, .int i3), (3, .int i6), (4, .int i7)] → W p l e (wRm 2 49) s m args below meth c H locs 0 0 (wQI below args s A D κ ρ 0 (z, u0)) (F0 m 16 ls []) := by
        intro k5_
        induction k5_ with
        | zero => intro i6 i7 H locs ls hF; exact wL_zero hF
        | succ k5_ ih5 =>
          intro i6 i7 H locs ls hF hH hl
          obtain ⟨q5_, hF, hq5⟩ := wL_some hF
          have hF : F_X8_rests_b16 o1 i2 i3 u0 i6 i7 = some q5_ := hF
          unfold F_X8_rests_b16 at hF
          refine lv_iload hx hb dX8_rests_16 (lv_at hl 4 rfl) ?_
          refine lv_iconst hx hb dX8_rests_18 k_iconst_4 ?_
          refine lv_icmp_ge hx hb dX8_rests_19 (tgt := 42) rfl (fun h => ?_) (fun h => ?_)
          · have hF := wx_t h hF
            refine lv_iload_n hx hb dX8_rests_42 rfl (lv_at hl 3 rfl) ?_
            have hF := wJ_r hq5 hF
            exact wx_iret hC hH hr hlk dX8_rests_43 (wx_pr hF)
          have hF := wx_f h hF
          refine lv_aload_n hx hb dX8_rests_22 rfl (lv_at hl 0 rfl) ?_
          refine lv_iload_n hx hb dX8_rests_23 rfl (lv_at hl 1 rfl) ?_
          refine lv_iload_n hx hb dX8_rests_24 rfl (lv_at hl 2 rfl) ?_
          refine lv_iload hx hb dX8_rests_25 (lv_at hl 4 rfl) ?_
          refine wx_pvi hC hH hl (c_X8_isRest o1 i2 i3 i7 h_o1) y_X8_isRest v_X8_isRest h_o1 rfl m_X8_281 rfl ⟨Nat.le_of_ble_eq_true rfl, Nat.le_of_ble_eq_true rfl⟩ ⟨Nat.le_refl _, Nat.le_refl _⟩ rfl (Nat.le_of_ble_eq_true rfl) dX8_rests_27 hF (fun i8 H locs hF hH => ?_)
          obtain ⟨q9_, hF, hq9⟩ := wJ_some hF
          have hJ36 : ∀ (i10 : Int32) (H : Heap) (locs : List Loc) (ls : Array Slot), F_X8_rests_j36 i7 i10 = some q5_ → wHp D κ ρ 0 A s.heap H locs u0 → lv_has ls 5 [(0, .ref (ρ o1)), (1, .int i2), (2, .int i3), (3, .int i10), (4, .int i7)] → W p l e (wRm 2 49) s m args below meth c H locs 0 0 (wQI below args s A D κ ρ 0 (z, u0)) (F0 m 36 ls []) := by
            intro i10 H locs ls hF hH hl
            unfold F_X8_rests_j36 at hF
            refine wx_iinc hx hb dX8_rests_36 k_iconst_1 hl (k := 4) rfl (by decide) hF (fun i11 ls hF hl => ?_)
            have hl : lv_has ls 5 [(4, .int i11), (0, .ref (ρ o1)), (1, .int i2), (2, .int i3), (3, .int i10)] := hl
            refine lv_goto hx hb dX8_rests_39 (tgt := 16) rfl ?_
            have hF := wJ_l hq5 hF
            exact ih5 i10 i11 H locs ls hF hH (lv_sub hl [1, 2, 3, 4, 0] rfl)
          refine lv_if_eq hx hb dX8_rests_30 (tgt := 36) rfl (fun h => ?_) (fun h => ?_)
          · have hF := wx_t h hF
            have hF := wJ_l hq9 hF
            exact hJ36 i6 H locs ls hF hH (lv_sub hl [0, 1, 2, 3, 4] rfl)
          have hF := wx_f h hF
          refine wx_iinc hx hb dX8_rests_33 k_iconst_1 hl (k := 3) rfl (by decide) hF (fun i12 ls hF hl => ?_)
          have hl : lv_has ls 5 [(3, .int i12), (0, .ref (ρ o1)), (1, .int i2), (2, .int i3), (4, .int i7)] := hl
          have hF := wJ_l hq9 hF
          exact hJ36 i12 H locs ls hF hH (lv_sub hl [1, 2, 3, 0, 4] rfl)
      exact hL16 wFu (0 : Int32) (0 : Int32) H locs ls hF hH (lv_sub hl [2, 3, 4, 1, 0] rfl)
    have hF := wx_t h hF
    refine lv_iconst hx hb dX8_rests_9 k_iconst_m1 ?_
    exact wx_iret hC hH hr hlk dX8_rests_10 (wx_pr hF)
  exact key _ _ hH
def F_X8_rest_j44 (i7 : Int32) : Option Int32 :=
  some ((((i7 / (2 : Int32)) * (10 : Int32)) + (w_rem i7 (2 : Int32))))
def F_X8_rest_j60 (i10 : Int32) (i13 : Int32) : Option ((Int32 × Int32) ⊕ ((Int32) ⊕ Int32)) :=
  wB (i10 + (1 : Int32)) (fun (i14 : Int32) => some (.inl (i13, i14)))
def F_X8_rest_b21 (o1 : Nat) (i2 : Int32) (i3 : Int32) (u0 : wSt) (i4 : Int32) (i9 : Int32) (i10 : Int32) : Option ((Int32 × Int32) ⊕ ((Int32) ⊕ Int32)) :=
  if (4 : Int32) ≤ i10 then (some (.inr (.inr ((-2 : Int32))))) else (wP (F_X8_isRest o1 i2 i3 i10 u0) (fun (i11 : Int32) => wJ (X := Int32) (if i11 = 0 then (some (.inl i9)) else (if i9 = i4 then (some (.inr (.inr (.inl i10)))) else (wB (i9 + (1 : Int32)) (fun (i15 : Int32) => some (.inl i15))))) (fun x => F_X8_rest_j60 i10 x)))
def F_X8_rest (o1 : Nat) (i2 : Int32) (i3 : Int32) (i4 : Int32) (u0 : wSt) : Option Int32 :=
  wP (F_X8_areTwoGuests o1 i2 i3 u0) (fun (i5 : Int32) => if i5 = 0 then (some ((-1 : Int32))) else (if 0 ≤ i4 then (wJ (X := Int32) (wL (S := Int32 × Int32) (fun x => F_X8_rest_b21 o1 i2 i3 u0 i4 x.1 x.2) wFu ((0 : Int32), (0 : Int32))) (fun x => F_X8_rest_j44 x)) else (some ((-1 : Int32)))))
set_option maxRecDepth 100000 in
set_option maxHeartbeats 4000000 in
theorem c_X8_rest {l : Launch} {D : va_G} {κ : Nat → ClassId} {ρ : Nat → Nat} (o1 : Nat) (i2 : Int32) (i3 : Int32) (i4 : Int32) (h_o1 : (w_sh o1).1 = 8) : wMI l yX8_rest cX8_rest 6 .int (wRm 2 49) [.ref (ρ o1), .int i2, .int i3, .int i4] D κ ρ 0 (fun u => wPu (F_X8_rest o1 i2 i3 i4 u) u) := by
  refine wMP_of (F := fun u => F_X8_rest o1 i2 i3 i4 u) rfl (Nat.le_of_ble_eq_true rfl) (fun u0 z p e s m args below meth c ls A hF hC hr hlk hH hl => ?_)
  have hl : lv_has ls 6 [(0, .ref (ρ o1)), (1, .int i2), (2, .int i3), (3, .int i4)] := hl
  have hx := hC.1.1
  have hb := hC.1.2.1
  have hF : F_X8_rest o1 i2 i3 i4 u0 = some z := hF
  unfold F_X8_rest at hF
  change W p l e (wRm 2 49) s m args below meth c s.heap [] 0 0 (wQI below args s A D κ ρ 0 (z, u0)) (F0 m 0 ls [])
  have key : ∀ (H : Heap) (locs : List Loc), wHp D κ ρ 0 A s.heap H locs u0 → W p l e (wRm 2 49) s m args below meth c H locs 0 0 (wQI below args s A D κ ρ 0 (z, u0)) (F0 m 0 ls []) := by
    intro H locs hH
    refine lv_aload_n hx hb dX8_rest_0 rfl (lv_at hl 0 rfl) ?_
    refine lv_iload_n hx hb dX8_rest_1 rfl (lv_at hl 1 rfl) ?_
    refine lv_iload_n hx hb dX8_rest_2 rfl (lv_at hl 2 rfl) ?_
    refine wx_pvi hC hH hl (c_X8_areTwoGuests o1 i2 i3 h_o1) y_X8_areTwoGuests v_X8_areTwoGuests h_o1 rfl m_X8_184 rfl ⟨Nat.le_of_ble_eq_true rfl, Nat.le_of_ble_eq_true rfl⟩ ⟨Nat.le_refl _, Nat.le_refl _⟩ rfl (Nat.le_of_ble_eq_true rfl) dX8_rest_3 hF (fun i5 H locs hF hH => ?_)
    refine lv_if_eq hx hb dX8_rest_6 (tgt := 13) rfl (fun h => ?_) (fun h => ?_)
    · have hF := wx_t h hF
      refine lv_iconst hx hb dX8_rest_13 k_iconst_m1 ?_
      exact wx_iret hC hH hr hlk dX8_rest_14 (wx_pr hF)
    have hF := wx_f h hF
    refine lv_iload_n hx hb dX8_rest_9 rfl (lv_at hl 3 rfl) ?_
    refine lv_if_ge hx hb dX8_rest_10 (tgt := 15) rfl (fun h => ?_) (fun h => ?_)
    · have hF := wx_t h hF
      refine lv_iconst hx hb dX8_rest_15 k_iconst_0 ?_
      refine wx_istore hx hb dX8_rest_16 hl (by decide) (fun ls hl => ?_)
      have hl : lv_has ls 6 [(4, .int (0 : Int32)), (0, .ref (ρ o1)), (1, .int i2), (2, .int i3), (3, .int i4)] := hl
      refine lv_iconst hx hb dX8_rest_18 k_iconst_0 ?_
      refine wx_istore hx hb dX8_rest_19 hl (by decide) (fun ls hl => ?_)
      have hl : lv_has ls 6 [(5, .int (0 : Int32)), (4, .int (0 : Int32)), (0, .ref (ρ o1)), (1, .int i2), (2, .int i3), (3, .int i4)] := hl
      obtain ⟨q6_, hF, hq6⟩ := wJ_some hF
      have hJ44 : ∀ (i7 : Int32) (H : Heap) (locs : List Loc) (ls : Array Slot), F_X8_rest_j44 i7 = some z → wHp D κ ρ 0 A s.heap H locs u0 → lv_has ls 6 [(5, .int i7)] → W p l e (wRm 2 49) s m args below meth c H locs 0 0 (wQI below args s A D κ ρ 0 (z, u0)) (F0 m 44 ls []) := by
        intro i7 H locs ls hF hH hl
        unfold F_X8_rest_j44 at hF
        refine lv_iload hx hb dX8_rest_44 (lv_at hl 0 rfl) ?_
        refine lv_iconst hx hb dX8_rest_46 k_iconst_2 ?_
        refine lv_idiv hx hb dX8_rest_47 (by decide) ?_
        refine lv_bipush hx hb dX8_rest_48 k_bipush_10 ?_
        refine lv_imul hx hb dX8_rest_50 ?_
        refine lv_iload hx hb dX8_rest_51 (lv_at hl 0 rfl) ?_
        refine lv_iconst hx hb dX8_rest_53 k_iconst_2 ?_
        refine wx_irem hx hb dX8_rest_54 (by decide) ?_
        refine lv_iadd hx hb dX8_rest_55 ?_
        exact wx_iret hC hH hr hlk dX8_rest_56 (wx_pr hF)
      have hL21 : ∀ (k8_ : Nat) (i9 : Int32) (i10 : Int32) (H : Heap) (locs : List Loc) (ls : Array Slot), wL (S := Int32 × Int32) (fun x => F_X8_rest_b21 o1 i2 i3 u0 i4 x.1 x.2) k8_ (i9, i10) = some q6_ → wHp D κ ρ 0 A s.heap H locs u0 → lv_has ls 6 [(0, .ref (ρ o1)), (1, .int i2), (2, .int i3), (3, .int i4), (4, .int i9), (5, .int i10)] → W p l e (wRm 2 49) s m args below meth c H locs 0 0 (wQI below args s A D κ ρ 0 (z, u0)) (F0 m 21 ls []) := by
        intro k8_
        induction k8_ with
        | zero => intro i9 i10 H locs ls hF; exact wL_zero hF
        | succ k8_ ih8 =>
          intro i9 i10 H locs ls hF hH hl
          obtain ⟨q8_, hF, hq8⟩ := wL_some hF
          have hF : F_X8_rest_b21 o1 i2 i3 u0 i4 i9 i10 = some q8_ := hF
          unfold F_X8_rest_b21 at hF
          refine lv_iload hx hb dX8_rest_21 (lv_at hl 5 rfl) ?_
          refine lv_iconst hx hb dX8_rest_23 k_iconst_4 ?_
          refine lv_icmp_ge hx hb dX8_rest_24 (tgt := 66) rfl (fun h => ?_) (fun h => ?_)
          · have hF := wx_t h hF
            refine lv_bipush hx hb dX8_rest_66 k_bipush_m2 ?_
            have hF := wJ_r hq8 hF
            have hF := wJ_r hq6 hF
            exact wx_iret hC hH hr hlk dX8_rest_68 (wx_pr hF)
          have hF := wx_f h hF
          refine lv_aload_n hx hb dX8_rest_27 rfl (lv_at hl 0 rfl) ?_
          refine lv_iload_n hx hb dX8_rest_28 rfl (lv_at hl 1 rfl) ?_
          refine lv_iload_n hx hb dX8_rest_29 rfl (lv_at hl 2 rfl) ?_
          refine lv_iload hx hb dX8_rest_30 (lv_at hl 5 rfl) ?_
          refine wx_pvi hC hH hl (c_X8_isRest o1 i2 i3 i10 h_o1) y_X8_isRest v_X8_isRest h_o1 rfl m_X8_281 rfl ⟨Nat.le_of_ble_eq_true rfl, Nat.le_of_ble_eq_true rfl⟩ ⟨Nat.le_refl _, Nat.le_refl _⟩ rfl (Nat.le_of_ble_eq_true rfl) dX8_rest_32 hF (fun i11 H locs hF hH => ?_)
          obtain ⟨q12_, hF, hq12⟩ := wJ_some hF
          have hJ60 : ∀ (i13 : Int32) (H : Heap) (locs : List Loc) (ls : Array Slot), F_X8_rest_j60 i10 i13 = some q8_ → wHp D κ ρ 0 A s.heap H locs u0 → lv_has ls 6 [(0, .ref (ρ o1)), (1, .int i2), (2, .int i3), (3, .int i4), (4, .int i13), (5, .int i10)] → W p l e (wRm 2 49) s m args below meth c H locs 0 0 (wQI below args s A D κ ρ 0 (z, u0)) (F0 m 60 ls []) := by
            intro i13 H locs ls hF hH hl
            unfold F_X8_rest_j60 at hF
            refine wx_iinc hx hb dX8_rest_60 k_iconst_1 hl (k := 5) rfl (by decide) hF (fun i14 ls hF hl => ?_)
            have hl : lv_has ls 6 [(5, .int i14), (0, .ref (ρ o1)), (1, .int i2), (2, .int i3), (3, .int i4), (4, .int i13)] := hl
            refine lv_goto hx hb dX8_rest_63 (tgt := 21) rfl ?_
            have hF := wJ_l hq8 hF
            exact ih8 i13 i14 H locs ls hF hH (lv_sub hl [1, 2, 3, 4, 5, 0] rfl)
          refine lv_if_eq hx hb dX8_rest_35 (tgt := 60) rfl (fun h => ?_) (fun h => ?_)
          · have hF := wx_t h hF
            have hF := wJ_l hq12 hF
            exact hJ60 i9 H locs ls hF hH (lv_sub hl [0, 1, 2, 3, 4, 5] rfl)
          have hF := wx_f h hF
          refine lv_iload hx hb dX8_rest_38 (lv_at hl 4 rfl) ?_
          refine lv_iload_n hx hb dX8_rest_40 rfl (lv_at hl 3 rfl) ?_
          refine lv_icmp_ne hx hb dX8_rest_41 (tgt := 57) rfl (fun h => ?_) (fun h => ?_)
          · have hF := wx_f h hF
            refine wx_iinc hx hb dX8_rest_57 k_iconst_1 hl (k := 4) rfl (by decide) hF (fun i15 ls hF hl => ?_)
            have hl : lv_has ls 6 [(4, .int i15), (0, .ref (ρ o1)), (1, .int i2), (2, .int i3), (3, .int i4), (5, .int i10)] := hl
            have hF := wJ_l hq12 hF
            exact hJ60 i15 H locs ls hF hH (lv_sub hl [1, 2, 3, 4, 0, 5] rfl)
          have hF := wx_t h hF
          have hF := wJ_r hq12 hF
          have hF := wJ_r hq8 hF
          have hF := wJ_l hq6 hF
          exact hJ44 i10 H locs ls hF hH (lv_sub hl [5] rfl)
      exact hL21 wFu (0 : Int32) (0 : Int32) H locs ls hF hH (lv_sub hl [2, 3, 4, 5, 1, 0] rfl)
    have hF := wx_f h hF
    refine lv_iconst hx hb dX8_rest_13 k_iconst_m1 ?_
    exact wx_iret hC hH hr hlk dX8_rest_14 (wx_pr hF)
  exact key _ _ hH
def F_X8_commonDivisor_j42 (i6 : Int32) : Option Int32 :=
  some ((w_max (1 : Int32) i6))
def F_X8_commonDivisor_b15 (i8 : Int32) (i9 : Int32) (i10 : Int32) : Option ((Int32 × Int32 × Int32) ⊕ ((Int32) ⊕ Int32)) :=
  if (100 : Int32) ≤ i10 then (some (.inr (.inl i8))) else (if i9 ≤ 0 then (some (.inr (.inl i8))) else (wG (¬ i9 = 0) (wB (w_rem i8 i9) (fun (i11 : Int32) => wB (i10 + (1 : Int32)) (fun (i12 : Int32) => some (.inl (i9, i11, i12)))))))
def F_X8_commonDivisor (i1 : Int32) (i2 : Int32) (u0 : wSt) : Option Int32 :=
  wB (w_max i1 i2) (fun (i3 : Int32) => wB (w_min i1 i2) (fun (i4 : Int32) => wJ (X := Int32) (wL (S := Int32 × Int32 × Int32) (fun x => F_X8_commonDivisor_b15 x.1 x.2.1 x.2.2) wFu (i3, i4, (0 : Int32))) (fun x => F_X8_commonDivisor_j42 x)))
set_option maxRecDepth 100000 in
set_option maxHeartbeats 4000000 in
theorem c_X8_commonDivisor {l : Launch} {D : va_G} {κ : Nat → ClassId} {ρ : Nat → Nat} (i1 : Int32) (i2 : Int32) : wMI l yX8_commonDivisor cX8_commonDivisor 6 .int (wRm 1 26) [.int i1, .int i2] D κ ρ 0 (fun u => wPu (F_X8_commonDivisor i1 i2 u) u) := by
  refine wMP_of (F := fun u => F_X8_commonDivisor i1 i2 u) rfl (Nat.le_of_ble_eq_true rfl) (fun u0 z p e s m args below meth c ls A hF hC hr hlk hH hl => ?_)
  have hl : lv_has ls 6 [(0, .int i1), (1, .int i2)] := hl
  have hx := hC.1.1
  have hb := hC.1.2.1
  have hF : F_X8_commonDivisor i1 i2 u0 = some z := hF
  unfold F_X8_commonDivisor at hF
  change W p l e (wRm 1 26) s m args below meth c s.heap [] 0 0 (wQI below args s A D κ ρ 0 (z, u0)) (F0 m 0 ls [])
  have key : ∀ (H : Heap) (locs : List Loc), wHp D κ ρ 0 A s.heap H locs u0 → W p l e (wRm 1 26) s m args below meth c H locs 0 0 (wQI below args s A D κ ρ 0 (z, u0)) (F0 m 0 ls []) := by
    intro H locs hH
    refine lv_iload_n hx hb dX8_commonDivisor_0 rfl (lv_at hl 0 rfl) ?_
    refine lv_iload_n hx hb dX8_commonDivisor_1 rfl (lv_at hl 1 rfl) ?_
    refine wx_max hC hl.1 m_X8_199 ⟨Nat.le_of_ble_eq_true rfl, Nat.le_of_ble_eq_true rfl⟩ ⟨Nat.le_refl _, Nat.le_refl _⟩ dX8_commonDivisor_2 ?_
    refine wx_leti hF (fun i3 hF => ?_)
    refine wx_istore_n hx hb dX8_commonDivisor_5 rfl hl (by decide) (fun ls hl => ?_)
    have hl : lv_has ls 6 [(2, .int i3), (0, .int i1), (1, .int i2)] := hl
    refine lv_iload_n hx hb dX8_commonDivisor_6 rfl (lv_at hl 1 rfl) ?_
    refine lv_iload_n hx hb dX8_commonDivisor_7 rfl (lv_at hl 2 rfl) ?_
    refine wx_min hC hl.1 m_X8_297 ⟨Nat.le_of_ble_eq_true rfl, Nat.le_of_ble_eq_true rfl⟩ ⟨Nat.le_refl _, Nat.le_refl _⟩ dX8_commonDivisor_8 ?_
    refine wx_leti hF (fun i4 hF => ?_)
    refine wx_istore_n hx hb dX8_commonDivisor_11 rfl hl (by decide) (fun ls hl => ?_)
    have hl : lv_has ls 6 [(3, .int i4), (2, .int i3), (0, .int i1), (1, .int i2)] := hl
    refine lv_iconst hx hb dX8_commonDivisor_12 k_iconst_0 ?_
    refine wx_istore hx hb dX8_commonDivisor_13 hl (by decide) (fun ls hl => ?_)
    have hl : lv_has ls 6 [(4, .int (0 : Int32)), (3, .int i4), (2, .int i3), (0, .int i1), (1, .int i2)] := hl
    obtain ⟨q5_, hF, hq5⟩ := wJ_some hF
    have hJ42 : ∀ (i6 : Int32) (H : Heap) (locs : List Loc) (ls : Array Slot), F_X8_commonDivisor_j42 i6 = some z → wHp D κ ρ 0 A s.heap H locs u0 → lv_has ls 6 [(2, .int i6)] → W p l e (wRm 1 26) s m args below meth c H locs 0 0 (wQI below args s A D κ ρ 0 (z, u0)) (F0 m 42 ls []) := by
      intro i6 H locs ls hF hH hl
      unfold F_X8_commonDivisor_j42 at hF
      refine lv_iconst hx hb dX8_commonDivisor_42 k_iconst_1 ?_
      refine lv_iload_n hx hb dX8_commonDivisor_43 rfl (lv_at hl 0 rfl) ?_
      refine wx_max hC hl.1 m_X8_199 ⟨Nat.le_of_ble_eq_true rfl, Nat.le_of_ble_eq_true rfl⟩ ⟨Nat.le_refl _, Nat.le_refl _⟩ dX8_commonDivisor_44 ?_
      exact wx_iret hC hH hr hlk dX8_commonDivisor_47 (wx_pr hF)
    have hL15 : ∀ (k7_ : Nat) (i8 : Int32) (i9 : Int32) (i10 : Int32) (H : Heap) (locs : List Loc) (ls : Array Slot), wL (S := Int32 × Int32 × Int32) (fun x => F_X8_commonDivisor_b15 x.1 x.2.1 x.2.2) k7_ (i8, i9, i10) = some q5_ → wHp D κ ρ 0 A s.heap H locs u0 → lv_has ls 6 [(2, .int i8), (3, .int i9), (4, .int i10)] → W p l e (wRm 1 26) s m args below meth c H locs 0 0 (wQI below args s A D κ ρ 0 (z, u0)) (F0 m 15 ls []) := by
      intro k7_
      induction k7_ with
      | zero => intro i8 i9 i10 H locs ls hF; exact wL_zero hF
      | succ k7_ ih7 =>
        intro i8 i9 i10 H locs ls hF hH hl
        obtain ⟨q7_, hF, hq7⟩ := wL_some hF
        have hF : F_X8_commonDivisor_b15 i8 i9 i10 = some q7_ := hF
        unfold F_X8_commonDivisor_b15 at hF
        refine lv_iload hx hb dX8_commonDivisor_15 (lv_at hl 2 rfl) ?_
        refine lv_bipush hx hb dX8_commonDivisor_17 k_bipush_100 ?_
        refine lv_icmp_ge hx hb dX8_commonDivisor_19 (tgt := 42) rfl (fun h => ?_) (fun h => ?_)
        · have hF := wx_t h hF
          have hF := wJ_r hq7 hF
          have hF := wJ_l hq5 hF
          exact hJ42 i8 H locs ls hF hH (lv_sub hl [0] rfl)
        have hF := wx_f h hF
        refine lv_iload_n hx hb dX8_commonDivisor_22 rfl (lv_at hl 1 rfl) ?_
        refine lv_if_le hx hb dX8_commonDivisor_23 (tgt := 42) rfl (fun h => ?_) (fun h => ?_)
        · have hF := wx_t h hF
          have hF := wJ_r hq7 hF
          have hF := wJ_l hq5 hF
          exact hJ42 i8 H locs ls hF hH (lv_sub hl [0] rfl)
        have hF := wx_f h hF
        refine lv_iload_n hx hb dX8_commonDivisor_26 rfl (lv_at hl 0 rfl) ?_
        refine lv_iload_n hx hb dX8_commonDivisor_27 rfl (lv_at hl 1 rfl) ?_
        obtain ⟨h0, hF⟩ := wG_some hF
        refine wx_irem hx hb dX8_commonDivisor_28 h0 ?_
        refine wx_leti hF (fun i11 hF => ?_)
        refine wx_istore hx hb dX8_commonDivisor_29 hl (by decide) (fun ls hl => ?_)
        have hl : lv_has ls 6 [(5, .int i11), (2, .int i8), (3, .int i9), (4, .int i10)] := hl
        refine lv_iload_n hx hb dX8_commonDivisor_31 rfl (lv_at hl 2 rfl) ?_
        refine wx_istore_n hx hb dX8_commonDivisor_32 rfl hl (by decide) (fun ls hl => ?_)
        have hl : lv_has ls 6 [(2, .int i9), (5, .int i11), (3, .int i9), (4, .int i10)] := hl
        refine lv_iload hx hb dX8_commonDivisor_33 (lv_at hl 1 rfl) ?_
        refine wx_istore_n hx hb dX8_commonDivisor_35 rfl hl (by decide) (fun ls hl => ?_)
        have hl : lv_has ls 6 [(3, .int i11), (2, .int i9), (5, .int i11), (4, .int i10)] := hl
        refine wx_iinc hx hb dX8_commonDivisor_36 k_iconst_1 hl (k := 3) rfl (by decide) hF (fun i12 ls hF hl => ?_)
        have hl : lv_has ls 6 [(4, .int i12), (3, .int i11), (2, .int i9), (5, .int i11)] := hl
        refine lv_goto hx hb dX8_commonDivisor_39 (tgt := 15) rfl ?_
        have hF := wJ_l hq7 hF
        exact ih7 i9 i11 i12 H locs ls hF hH (lv_sub hl [2, 1, 0] rfl)
    exact hL15 wFu i3 i4 (0 : Int32) H locs ls hF hH (lv_sub hl [2, 1, 0] rfl)
  exact key _ _ hH
def F_X8_warm_j19 : Option Int64 :=
  some ((-1 : Int64))
def F_X8_warm_b64 (i2 : Int32) (q11 : Int64) (q13 : Int64) (i14 : Int32) : Option ((Int64 × Int32) ⊕ ((Unit) ⊕ Int64)) :=
  if i2 ≤ i14 then (some (.inr (.inr (q13)))) else (wB (q13 * q11) (fun (q15 : Int64) => wB (i14 + (1 : Int32)) (fun (i16 : Int32) => some (.inl (q15, i16)))))
def F_X8_warm_j52 (i2 : Int32) (i9 : Int32) (i10 : Int32) : Option ((Unit) ⊕ Int64) :=
  wG (¬ i9 = 0) (wB ((i10 / i9).toInt64) (fun (q11 : Int64) => wL (S := Int64 × Int32) (fun x => F_X8_warm_b64 i2 q11 x.1 x.2) wFu ((1 : Int64), (0 : Int32))))
def F_X8_warm (o1 : Nat) (i2 : Int32) (i3 : Int32) (u0 : wSt) : Option Int64 :=
  wJ (X := Unit) (if i2 < 0 then (some (.inl ())) else (if (6 : Int32) < i2 then (some (.inl ())) else (if i3 < 0 then (some (.inl ())) else (if i3 ≤ (1 : Int32) then (wR (u0.2.2 o1 2) 6 (fun o5 => wB ((100 : Int32) - (u0.1 o5 5)) (fun (i6 : Int32) => wP (F_X8_commonDivisor i6 (100 : Int32) u0) (fun (i7 : Int32) => wJ (X := Int32 × Int32) (if i3 = 0 then (some (.inl (i7, i6))) else (some (.inl (i7, (100 : Int32))))) (fun x => F_X8_warm_j52 i2 x.1 x.2))))) else (some (.inl ())))))) (fun x => F_X8_warm_j19)
set_option maxRecDepth 100000 in
set_option maxHeartbeats 4000000 in
theorem c_X8_warm {l : Launch} {D : va_G} {κ : Nat → ClassId} {ρ : Nat → Nat} (o1 : Nat) (i2 : Int32) (i3 : Int32) (h_o1 : (w_sh o1).1 = 8) : wML l yX8_warm cX8_warm 10 (wRm 2 51) [.ref (ρ o1), .int i2, .int i3] D κ ρ 0 (fun u => wPu (F_X8_warm o1 i2 i3 u) u) := by
  refine wMPL_of (F := fun u => F_X8_warm o1 i2 i3 u) rfl (Nat.le_of_ble_eq_true rfl) (fun u0 z p e s m args below meth c ls A hF hC hr hlk hH hl => ?_)
  have hl : lv_has ls 10 [(0, .ref (ρ o1)), (1, .int i2), (2, .int i3)] := hl
  have hx := hC.1.1
  have hb := hC.1.2.1
  have hF : F_X8_warm o1 i2 i3 u0 = some z := hF
  unfold F_X8_warm at hF
  change W p l e (wRm 2 51) s m args below meth c s.heap [] 0 0 (wQL below args s A D κ ρ 0 (z, u0)) (F0 m 0 ls [])
  have key : ∀ (H : Heap) (locs : List Loc), wHp D κ ρ 0 A s.heap H locs u0 → W p l e (wRm 2 51) s m args below meth c H locs 0 0 (wQL below args s A D κ ρ 0 (z, u0)) (F0 m 0 ls []) := by
    intro H locs hH
    refine lv_iload_n hx hb dX8_warm_0 rfl (lv_at hl 1 rfl) ?_
    obtain ⟨q4_, hF, hq4⟩ := wJ_some hF
    have hJ19 : ∀ (H : Heap) (locs : List Loc) (ls : Array Slot), F_X8_warm_j19 = some z → wHp D κ ρ 0 A s.heap H locs u0 → lv_has ls 10 [] → W p l e (wRm 2 51) s m args below meth c H locs 0 0 (wQL below args s A D κ ρ 0 (z, u0)) (F0 m 19 ls []) := by
      intro H locs ls hF hH hl
      unfold F_X8_warm_j19 at hF
      refine lv_ldc2 hx hb hC.1.2.2.2.1 (hC.1.2.2.2.2 _ l_X8_289) dX8_warm_19 ?_
      exact wx_lret hC hH hr hlk dX8_warm_22 (wx_pr hF)
    refine lv_if_lt hx hb dX8_warm_1 (tgt := 19) rfl (fun h => ?_) (fun h => ?_)
    · have hF := wx_t h hF
      have hF := wJ_l hq4 hF
      exact hJ19 H locs ls hF hH (lv_sub hl [] rfl)
    have hF := wx_f h hF
    refine lv_iload_n hx hb dX8_warm_4 rfl (lv_at hl 1 rfl) ?_
    refine lv_bipush hx hb dX8_warm_5 k_bipush_6 ?_
    refine lv_icmp_gt hx hb dX8_warm_7 (tgt := 19) rfl (fun h => ?_) (fun h => ?_)
    · have hF := wx_t h hF
      have hF := wJ_l hq4 hF
      exact hJ19 H locs ls hF hH (lv_sub hl [] rfl)
    have hF := wx_f h hF
    refine lv_iload_n hx hb dX8_warm_10 rfl (lv_at hl 2 rfl) ?_
    refine lv_if_lt hx hb dX8_warm_11 (tgt := 19) rfl (fun h => ?_) (fun h => ?_)
    · have hF := wx_t h hF
      have hF := wJ_l hq4 hF
      exact hJ19 H locs ls hF hH (lv_sub hl [] rfl)
    have hF := wx_f h hF
    refine lv_iload_n hx hb dX8_warm_14 rfl (lv_at hl 2 rfl) ?_
    refine lv_iconst hx hb dX8_warm_15 k_iconst_1 ?_
    refine lv_icmp_le hx hb dX8_warm_16 (tgt := 23) rfl (fun h => ?_) (fun h => ?_)
    · have hF := wx_t h hF
      refine lv_bipush hx hb dX8_warm_23 k_bipush_100 ?_
      refine lv_aload_n hx hb dX8_warm_25 rfl (lv_at hl 0 rfl) ?_
      refine wx_getR hC hH h_o1 rfl f_X8_22 dX8_warm_26 hF (fun o5 h_o5 hF => ?_)
      refine wx_getI hC hH h_o5 rfl f_X8_291 dX8_warm_29 ?_
      refine lv_isub hx hb dX8_warm_32 ?_
      refine wx_leti hF (fun i6 hF => ?_)
      refine wx_istore_n hx hb dX8_warm_33 rfl hl (by decide) (fun ls hl => ?_)
      have hl : lv_has ls 10 [(3, .int i6), (0, .ref (ρ o1)), (1, .int i2), (2, .int i3)] := hl
      refine lv_iload_n hx hb dX8_warm_34 rfl (lv_at hl 0 rfl) ?_
      refine lv_bipush hx hb dX8_warm_35 k_bipush_100 ?_
      refine wx_psi hC hH hl (c_X8_commonDivisor i6 (100 : Int32)) y_X8_commonDivisor v_X8_commonDivisor m_X8_294 rfl ⟨Nat.le_of_ble_eq_true rfl, Nat.le_of_ble_eq_true rfl⟩ ⟨Nat.le_refl _, Nat.le_refl _⟩ rfl (Nat.le_of_ble_eq_true rfl) dX8_warm_37 hF (fun i7 H locs hF hH => ?_)
      refine wx_istore hx hb dX8_warm_40 hl (by decide) (fun ls hl => ?_)
      have hl : lv_has ls 10 [(4, .int i7), (3, .int i6), (0, .ref (ρ o1)), (1, .int i2), (2, .int i3)] := hl
      refine lv_iload_n hx hb dX8_warm_42 rfl (lv_at hl 4 rfl) ?_
      obtain ⟨q8_, hF, hq8⟩ := wJ_some hF
      have hJ52 : ∀ (i9 : Int32) (i10 : Int32) (H : Heap) (locs : List Loc) (ls : Array Slot), F_X8_warm_j52 i2 i9 i10 = some q4_ → wHp D κ ρ 0 A s.heap H locs u0 → lv_has ls 10 [(1, .int i2), (4, .int i9)] → W p l e (wRm 2 51) s m args below meth c H locs 0 0 (wQL below args s A D κ ρ 0 (z, u0)) (F0 m 52 ls [.int i10]) := by
        intro i9 i10 H locs ls hF hH hl
        unfold F_X8_warm_j52 at hF
        refine lv_iload hx hb dX8_warm_52 (lv_at hl 1 rfl) ?_
        obtain ⟨h0, hF⟩ := wG_some hF
        refine lv_idiv hx hb dX8_warm_54 h0 ?_
        refine lv_i2l hx hb dX8_warm_55 rfl ?_
        refine wx_letl hF (fun q11 hF => ?_)
        refine wx_lstore hx hb dX8_warm_56 hl (by decide) (fun ls hl => ?_)
        have hl : lv_has ls 10 [(5, .long q11), (1, .int i2), (4, .int i9)] := hl
        refine lv_lconst hx hb dX8_warm_58 k_lconst_1 ?_
        refine wx_lstore hx hb dX8_warm_59 hl (by decide) (fun ls hl => ?_)
        have hl : lv_has ls 10 [(7, .long (1 : Int64)), (5, .long q11), (1, .int i2), (4, .int i9)] := hl
        refine lv_iconst hx hb dX8_warm_61 k_iconst_0 ?_
        refine wx_istore hx hb dX8_warm_62 hl (by decide) (fun ls hl => ?_)
        have hl : lv_has ls 10 [(9, .int (0 : Int32)), (7, .long (1 : Int64)), (5, .long q11), (1, .int i2), (4, .int i9)] := hl
        have hL64 : ∀ (k12_ : Nat) (q13 : Int64) (i14 : Int32) (H : Heap) (locs : List Loc) (ls : Array Slot), wL (S := Int64 × Int32) (fun x => F_X8_warm_b64 i2 q11 x.1 x.2) k12_ (q13, i14) = some q4_ → wHp D κ ρ 0 A s.heap H locs u0 → lv_has ls 10 [(1, .int i2), (5, .long q11), (7, .long q13), (9, .int i14)] → W p l e (wRm 2 51) s m args below meth c H locs 0 0 (wQL below args s A D κ ρ 0 (z, u0)) (F0 m 64 ls []) := by
          intro k12_
          induction k12_ with
          | zero => intro q13 i14 H locs ls hF; exact wL_zero hF
          | succ k12_ ih12 =>
            intro q13 i14 H locs ls hF hH hl
            obtain ⟨q12_, hF, hq12⟩ := wL_some hF
            have hF : F_X8_warm_b64 i2 q11 q13 i14 = some q12_ := hF
            unfold F_X8_warm_b64 at hF
            refine lv_iload hx hb dX8_warm_64 (lv_at hl 3 rfl) ?_
            refine lv_iload_n hx hb dX8_warm_66 rfl (lv_at hl 0 rfl) ?_
            refine lv_icmp_ge hx hb dX8_warm_67 (tgt := 83) rfl (fun h => ?_) (fun h => ?_)
            · have hF := wx_t h hF
              refine lv_lload hx hb dX8_warm_83 (lv_at hl 2 rfl) ?_
              have hF := wJ_r hq12 hF
              have hF := wJ_r hq4 hF
              exact wx_lret hC hH hr hlk dX8_warm_85 (wx_pr hF)
            have hF := wx_f h hF
            refine lv_lload hx hb dX8_warm_70 (lv_at hl 2 rfl) ?_
            refine lv_lload hx hb dX8_warm_72 (lv_at hl 1 rfl) ?_
            refine lv_lmul hx hb dX8_warm_74 ?_
            refine wx_letl hF (fun q15 hF => ?_)
            refine wx_lstore hx hb dX8_warm_75 hl (by decide) (fun ls hl => ?_)
            have hl : lv_has ls 10 [(7, .long q15), (1, .int i2), (5, .long q11), (9, .int i14)] := hl
            refine wx_iinc hx hb dX8_warm_77 k_iconst_1 hl (k := 3) rfl (by decide) hF (fun i16 ls hF hl => ?_)
            have hl : lv_has ls 10 [(9, .int i16), (7, .long q15), (1, .int i2), (5, .long q11)] := hl
            refine lv_goto hx hb dX8_warm_80 (tgt := 64) rfl ?_
            have hF := wJ_l hq12 hF
            exact ih12 q15 i16 H locs ls hF hH (lv_sub hl [2, 3, 1, 0] rfl)
        exact hL64 wFu (1 : Int64) (0 : Int32) H locs ls hF hH (lv_sub hl [3, 2, 1, 0] rfl)
      refine lv_if_ne hx hb dX8_warm_43 (tgt := 50) rfl (fun h => ?_) (fun h => ?_)
      · have hF := wx_f h hF
        refine lv_bipush hx hb dX8_warm_50 k_bipush_100 ?_
        have hF := wJ_l hq8 hF
        exact hJ52 i7 (100 : Int32) H locs ls hF hH (lv_sub hl [3, 0] rfl)
      have hF := wx_t h hF
      refine lv_iload_n hx hb dX8_warm_46 rfl (lv_at hl 1 rfl) ?_
      refine lv_goto hx hb dX8_warm_47 (tgt := 52) rfl ?_
      have hF := wJ_l hq8 hF
      exact hJ52 i7 i6 H locs ls hF hH (lv_sub hl [3, 0] rfl)
    have hF := wx_f h hF
    have hF := wJ_l hq4 hF
    exact hJ19 H locs ls hF hH (lv_sub hl [] rfl)
  exact key _ _ hH
def F_X8_bowl (o1 : Nat) (u0 : wSt) : Option (Int32 × wSt) :=
  wC (F_X8_plainCourse o1 u0) (fun (o3 : Nat) (u2 : wSt) => wG ((w_sh o3).1 = 0) (wR (u2.2.2 o1 5) 3 (fun o4 => wP (F_X0_guestAtBowl o3 o4 u2) (fun (i5 : Int32) => if i5 = (-1 : Int32) then (some ((-2 : Int32), u2)) else (some (i5, u2))))))
set_option maxRecDepth 100000 in
set_option maxHeartbeats 4000000 in
theorem c_X8_bowl {l : Launch} {D : va_G} {κ : Nat → ClassId} {ρ : Nat → Nat} (o1 : Nat) (h_o1 : (w_sh o1).1 = 8) : wMI l yX8_bowl cX8_bowl 2 .int (wRm 2 45) [.ref (ρ o1)] D κ ρ 0 (fun u => F_X8_bowl o1 u) := by
  refine wMI_of (F := fun u => F_X8_bowl o1 u) rfl (Nat.le_of_ble_eq_true rfl) (fun u0 z p e s m args below meth c ls A hF hC hr hlk hH hl => ?_)
  have hl : lv_has ls 2 [(0, .ref (ρ o1))] := hl
  have hx := hC.1.1
  have hb := hC.1.2.1
  have hF : F_X8_bowl o1 u0 = some z := hF
  unfold F_X8_bowl at hF
  change W p l e (wRm 2 45) s m args below meth c s.heap [] 0 0 (wQI below args s A D κ ρ 0 z) (F0 m 0 ls [])
  have key : ∀ (H : Heap) (locs : List Loc), wHp D κ ρ 0 A s.heap H locs u0 → W p l e (wRm 2 45) s m args below meth c H locs 0 0 (wQI below args s A D κ ρ 0 z) (F0 m 0 ls []) := by
    intro H locs hH
    refine lv_aload_n hx hb dX8_bowl_0 rfl (lv_at hl 0 rfl) ?_
    refine wx_evr hC hH hl (c_X8_plainCourse o1 h_o1) y_X8_plainCourse v_X8_plainCourse h_o1 rfl m_X8_144 rfl ⟨Nat.le_of_ble_eq_true rfl, Nat.le_of_ble_eq_true rfl⟩ ⟨Nat.le_refl _, Nat.le_refl _⟩ rfl (Nat.le_of_ble_eq_true rfl) dX8_bowl_1 hF (fun o3 u2 H locs hF hH => ?_)
    obtain ⟨h_o3, hF⟩ := wG_some hF
    refine lv_aload_n hx hb dX8_bowl_4 rfl (lv_at hl 0 rfl) ?_
    refine wx_getR hC hH h_o1 rfl f_X8_41 dX8_bowl_5 hF (fun o4 h_o4 hF => ?_)
    refine wx_pvi hC hH hl (c_X0_guestAtBowl o3 o4 h_o3 h_o4) y_X0_guestAtBowl v_X0_guestAtBowl h_o3 rfl m_X8_300 rfl ⟨Nat.le_of_ble_eq_true rfl, Nat.le_of_ble_eq_true rfl⟩ ⟨Nat.le_refl _, Nat.le_refl _⟩ rfl (Nat.le_of_ble_eq_true rfl) dX8_bowl_8 hF (fun i5 H locs hF hH => ?_)
    refine wx_istore_n hx hb dX8_bowl_11 rfl hl (by decide) (fun ls hl => ?_)
    have hl : lv_has ls 2 [(1, .int i5), (0, .ref (ρ o1))] := hl
    refine lv_iload_n hx hb dX8_bowl_12 rfl (lv_at hl 0 rfl) ?_
    refine lv_iconst hx hb dX8_bowl_13 k_iconst_m1 ?_
    refine lv_icmp_ne hx hb dX8_bowl_14 (tgt := 22) rfl (fun h => ?_) (fun h => ?_)
    · have hF := wx_f h hF
      refine lv_iload_n hx hb dX8_bowl_22 rfl (lv_at hl 0 rfl) ?_
      exact wx_iret hC hH hr hlk dX8_bowl_23 hF
    have hF := wx_t h hF
    refine lv_bipush hx hb dX8_bowl_17 k_bipush_m2 ?_
    refine lv_goto hx hb dX8_bowl_19 (tgt := 23) rfl ?_
    exact wx_iret hC hH hr hlk dX8_bowl_23 hF
  exact key _ _ hH

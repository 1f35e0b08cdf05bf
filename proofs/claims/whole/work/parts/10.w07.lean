def F_X8_undo (o1 : Nat) (u0 : wSt) : Option (Int32 × wSt) :=
  wR (u0.2.2 o1 10) 7 (fun o2 => wR (u0.2.2 o1 5) 3 (fun o3 => wC (F_X7_takeBack o2 o3 u0) (fun (i5 : Int32) (u4 : wSt) => some (i5, u4))))
set_option maxRecDepth 100000 in
set_option maxHeartbeats 4000000 in
theorem c_X8_undo {l : Launch} {D : va_G} {κ : Nat → ClassId} {ρ : Nat → Nat} (o1 : Nat) (h_o1 : (w_sh o1).1 = 8) : wMI l yX8_undo cX8_undo 1 .int (wRm 2 45) [.ref (ρ o1)] D κ ρ 0 (fun u => F_X8_undo o1 u) := by
  refine wMI_of (F := fun u => F_X8_undo o1 u) rfl (Nat.le_of_ble_eq_true rfl) (fun u0 z p e s m args below meth c ls A hF hC hr hlk hH hl => ?_)
  have hl : lv_has ls 1 [(0, .ref (ρ o1))] := hl
  have hx := hC.1.1
  have hb := hC.1.2.1
  have hF : F_X8_undo o1 u0 = some z := hF
  unfold F_X8_undo at hF
  change W p l e (wRm 2 45) s m args below meth c s.heap [] 0 0 (wQI below args s A D κ ρ 0 z) (F0 m 0 ls [])
  have key : ∀ (H : Heap) (locs : List Loc), wHp D κ ρ 0 A s.heap H locs u0 → W p l e (wRm 2 45) s m args below meth c H locs 0 0 (wQI below args s A D κ ρ 0 z) (F0 m 0 ls []) := by
    intro H locs hH
    refine lv_aload_n hx hb dX8_undo_0 rfl (lv_at hl 0 rfl) ?_
    refine wx_getR hC hH h_o1 rfl f_X8_67 dX8_undo_1 hF (fun o2 h_o2 hF => ?_)
    refine lv_aload_n hx hb dX8_undo_4 rfl (lv_at hl 0 rfl) ?_
    refine wx_getR hC hH h_o1 rfl f_X8_41 dX8_undo_5 hF (fun o3 h_o3 hF => ?_)
    refine wx_evi hC hH hl (c_X7_takeBack o2 o3 h_o2 h_o3) y_X7_takeBack v_X7_takeBack h_o2 rfl m_X8_367 rfl ⟨Nat.le_of_ble_eq_true rfl, Nat.le_of_ble_eq_true rfl⟩ ⟨Nat.le_refl _, Nat.le_refl _⟩ rfl (Nat.le_of_ble_eq_true rfl) dX8_undo_8 hF (fun i5 u4 H locs hF hH => ?_)
    exact wx_iret hC hH hr hlk dX8_undo_11 hF
  exact key _ _ hH
def F_X8_keep (o1 : Nat) (u0 : wSt) : Option (Int32 × wSt) :=
  wR (u0.2.2 o1 6) 3 (fun o2 => wR (u0.2.2 o1 5) 3 (fun o3 => wC (F_X3_take o2 o3 u0) (fun _ (u4 : wSt) => wB (w_sI u4 o1 8 (1 : Int32)) (fun (u5 : wSt) => wR (u5.2.2 o1 5) 3 (fun o6 => some ((u5.1 o6 0), u5))))))
set_option maxRecDepth 100000 in
set_option maxHeartbeats 4000000 in
theorem c_X8_keep {l : Launch} {D : va_G} {κ : Nat → ClassId} {ρ : Nat → Nat} (o1 : Nat) (h_o1 : (w_sh o1).1 = 8) : wMI l yX8_keep cX8_keep 1 .int (wRm 2 47) [.ref (ρ o1)] D κ ρ 0 (fun u => F_X8_keep o1 u) := by
  refine wMI_of (F := fun u => F_X8_keep o1 u) rfl (Nat.le_of_ble_eq_true rfl) (fun u0 z p e s m args below meth c ls A hF hC hr hlk hH hl => ?_)
  have hl : lv_has ls 1 [(0, .ref (ρ o1))] := hl
  have hx := hC.1.1
  have hb := hC.1.2.1
  have hF : F_X8_keep o1 u0 = some z := hF
  unfold F_X8_keep at hF
  change W p l e (wRm 2 47) s m args below meth c s.heap [] 0 0 (wQI below args s A D κ ρ 0 z) (F0 m 0 ls [])
  have key : ∀ (H : Heap) (locs : List Loc), wHp D κ ρ 0 A s.heap H locs u0 → W p l e (wRm 2 47) s m args below meth c H locs 0 0 (wQI below args s A D κ ρ 0 z) (F0 m 0 ls []) := by
    intro H locs hH
    refine lv_aload_n hx hb dX8_keep_0 rfl (lv_at hl 0 rfl) ?_
    refine wx_getR hC hH h_o1 rfl f_X8_45 dX8_keep_1 hF (fun o2 h_o2 hF => ?_)
    refine lv_aload_n hx hb dX8_keep_4 rfl (lv_at hl 0 rfl) ?_
    refine wx_getR hC hH h_o1 rfl f_X8_41 dX8_keep_5 hF (fun o3 h_o3 hF => ?_)
    refine wx_evv hC hH hl (c_X3_take o2 o3 h_o2 h_o3) y_X3_take v_X3_take h_o2 rfl m_X8_345 rfl ⟨Nat.le_of_ble_eq_true rfl, Nat.le_of_ble_eq_true rfl⟩ ⟨Nat.le_refl _, Nat.le_refl _⟩ rfl (Nat.le_of_ble_eq_true rfl) dX8_keep_8 hF (fun _ u4 H locs hF hH => ?_)
    refine lv_aload_n hx hb dX8_keep_11 rfl (lv_at hl 0 rfl) ?_
    refine lv_iconst hx hb dX8_keep_12 k_iconst_1 ?_
    refine wx_putZ hC hH h_o1 rfl f_X8_51 g_8_8 dX8_keep_13 (Or.inr rfl) hF (fun u5 H locs hF hH => ?_)
    refine lv_aload_n hx hb dX8_keep_16 rfl (lv_at hl 0 rfl) ?_
    refine wx_getR hC hH h_o1 rfl f_X8_41 dX8_keep_17 hF (fun o6 h_o6 hF => ?_)
    refine wx_getI hC hH h_o6 rfl f_X8_208 dX8_keep_20 ?_
    exact wx_iret hC hH hr hlk dX8_keep_23 hF
  exact key _ _ hH
def F_X8_back (o1 : Nat) (u0 : wSt) : Option (Int32 × wSt) :=
  if (u0.1 o1 8) = 0 then (some ((-1 : Int32), u0)) else (wR (u0.2.2 o1 5) 3 (fun o2 => wR (u0.2.2 o1 6) 3 (fun o3 => wC (F_X3_take o2 o3 u0) (fun _ (u4 : wSt) => wR (u4.2.2 o1 10) 7 (fun o5 => wB (w_sI u4 o5 0 (0 : Int32)) (fun (u6 : wSt) => wR (u6.2.2 o1 5) 3 (fun o7 => some ((u6.1 o7 0), u6))))))))
set_option maxRecDepth 100000 in
set_option maxHeartbeats 4000000 in
theorem c_X8_back {l : Launch} {D : va_G} {κ : Nat → ClassId} {ρ : Nat → Nat} (o1 : Nat) (h_o1 : (w_sh o1).1 = 8) : wMI l yX8_back cX8_back 1 .int (wRm 2 47) [.ref (ρ o1)] D κ ρ 0 (fun u => F_X8_back o1 u) := by
  refine wMI_of (F := fun u => F_X8_back o1 u) rfl (Nat.le_of_ble_eq_true rfl) (fun u0 z p e s m args below meth c ls A hF hC hr hlk hH hl => ?_)
  have hl : lv_has ls 1 [(0, .ref (ρ o1))] := hl
  have hx := hC.1.1
  have hb := hC.1.2.1
  have hF : F_X8_back o1 u0 = some z := hF
  unfold F_X8_back at hF
  change W p l e (wRm 2 47) s m args below meth c s.heap [] 0 0 (wQI below args s A D κ ρ 0 z) (F0 m 0 ls [])
  have key : ∀ (H : Heap) (locs : List Loc), wHp D κ ρ 0 A s.heap H locs u0 → W p l e (wRm 2 47) s m args below meth c H locs 0 0 (wQI below args s A D κ ρ 0 z) (F0 m 0 ls []) := by
    intro H locs hH
    refine lv_aload_n hx hb dX8_back_0 rfl (lv_at hl 0 rfl) ?_
    refine wx_getI hC hH h_o1 rfl f_X8_51 dX8_back_1 ?_
    refine lv_if_ne hx hb dX8_back_4 (tgt := 9) rfl (fun h => ?_) (fun h => ?_)
    · have hF := wx_f h hF
      refine lv_aload_n hx hb dX8_back_9 rfl (lv_at hl 0 rfl) ?_
      refine wx_getR hC hH h_o1 rfl f_X8_41 dX8_back_10 hF (fun o2 h_o2 hF => ?_)
      refine lv_aload_n hx hb dX8_back_13 rfl (lv_at hl 0 rfl) ?_
      refine wx_getR hC hH h_o1 rfl f_X8_45 dX8_back_14 hF (fun o3 h_o3 hF => ?_)
      refine wx_evv hC hH hl (c_X3_take o2 o3 h_o2 h_o3) y_X3_take v_X3_take h_o2 rfl m_X8_345 rfl ⟨Nat.le_of_ble_eq_true rfl, Nat.le_of_ble_eq_true rfl⟩ ⟨Nat.le_refl _, Nat.le_refl _⟩ rfl (Nat.le_of_ble_eq_true rfl) dX8_back_17 hF (fun _ u4 H locs hF hH => ?_)
      refine lv_aload_n hx hb dX8_back_20 rfl (lv_at hl 0 rfl) ?_
      refine wx_getR hC hH h_o1 rfl f_X8_67 dX8_back_21 hF (fun o5 h_o5 hF => ?_)
      refine lv_iconst hx hb dX8_back_24 k_iconst_0 ?_
      refine wx_putI hC hH h_o5 rfl f_X8_99 g_7_0 dX8_back_25 hF (fun u6 H locs hF hH => ?_)
      refine lv_aload_n hx hb dX8_back_28 rfl (lv_at hl 0 rfl) ?_
      refine wx_getR hC hH h_o1 rfl f_X8_41 dX8_back_29 hF (fun o7 h_o7 hF => ?_)
      refine wx_getI hC hH h_o7 rfl f_X8_208 dX8_back_32 ?_
      exact wx_iret hC hH hr hlk dX8_back_35 hF
    have hF := wx_t h hF
    refine lv_iconst hx hb dX8_back_7 k_iconst_m1 ?_
    exact wx_iret hC hH hr hlk dX8_back_8 hF
  exact key _ _ hH
def F_X8_hungerNow_j40 (i3 : Int32) (i4 : Int32) (i9 : Int32) : Option ((Int32 × Int32) ⊕ Int32) :=
  wB (i3 + i9) (fun (i10 : Int32) => wB (i4 + (1 : Int32)) (fun (i11 : Int32) => some (.inl (i10, i11))))
def F_X8_hungerNow_b4 (u0 : wSt) (o1 : Nat) (i3 : Int32) (i4 : Int32) : Option ((Int32 × Int32) ⊕ Int32) :=
  wR (u0.2.2 o1 2) 6 (fun o5 => if (u0.1 o5 1) ≤ i4 then (some (.inr (i3))) else (wR (u0.2.2 o1 5) 3 (fun o6 => wP (F_X3_hasFainted o6 i4 u0) (fun (i7 : Int32) => wJ (X := Int32) (if i7 = 0 then (wR (u0.2.2 o1 5) 3 (fun o12 => wR (u0.2.2 o12 6) 10 (fun o13 => wN i4 o13 (fun j14 => some (.inl (u0.1 o13 j14)))))) else (some (.inl (0 : Int32)))) (fun x => F_X8_hungerNow_j40 i3 i4 x)))))
def F_X8_hungerNow (o1 : Nat) (u0 : wSt) : Option Int32 :=
  wL (S := Int32 × Int32) (fun x => F_X8_hungerNow_b4 u0 o1 x.1 x.2) wFu ((0 : Int32), (0 : Int32))
set_option maxRecDepth 100000 in
set_option maxHeartbeats 4000000 in
theorem c_X8_hungerNow {l : Launch} {D : va_G} {κ : Nat → ClassId} {ρ : Nat → Nat} (o1 : Nat) (h_o1 : (w_sh o1).1 = 8) : wMI l yX8_hungerNow cX8_hungerNow 3 .int (wRm 1 21) [.ref (ρ o1)] D κ ρ 0 (fun u => wPu (F_X8_hungerNow o1 u) u) := by
  refine wMP_of (F := fun u => F_X8_hungerNow o1 u) rfl (Nat.le_of_ble_eq_true rfl) (fun u0 z p e s m args below meth c ls A hF hC hr hlk hH hl => ?_)
  have hl : lv_has ls 3 [(0, .ref (ρ o1))] := hl
  have hx := hC.1.1
  have hb := hC.1.2.1
  have hF : F_X8_hungerNow o1 u0 = some z := hF
  unfold F_X8_hungerNow at hF
  change W p l e (wRm 1 21) s m args below meth c s.heap [] 0 0 (wQI below args s A D κ ρ 0 (z, u0)) (F0 m 0 ls [])
  have key : ∀ (H : Heap) (locs : List Loc), wHp D κ ρ 0 A s.heap H locs u0 → W p l e (wRm 1 21) s m args below meth c H locs 0 0 (wQI below args s A D κ ρ 0 (z, u0)) (F0 m 0 ls []) := by
    intro H locs hH
    refine lv_iconst hx hb dX8_hungerNow_0 k_iconst_0 ?_
    refine wx_istore_n hx hb dX8_hungerNow_1 rfl hl (by decide) (fun ls hl => ?_)
    have hl : lv_has ls 3 [(1, .int (0 : Int32)), (0, .ref (ρ o1))] := hl
    refine lv_iconst hx hb dX8_hungerNow_2 k_iconst_0 ?_
    refine wx_istore_n hx hb dX8_hungerNow_3 rfl hl (by decide) (fun ls hl => ?_)
    have hl : lv_has ls 3 [(2, .int (0 : Int32)), (1, .int (0 : Int32)), (0, .ref (ρ o1))] := hl
    have hL4 : ∀ (k2_ : Nat) (i3 : Int32) (i4 : Int32) (H : Heap) (locs : List Loc) (ls : Array Slot), wL (S := Int32 × Int32) (fun x => F_X8_hungerNow_b4 u0 o1 x.1 x.2) k2_ (i3, i4) = some z → wHp D κ ρ 0 A s.heap H locs u0 → lv_has ls 3 [(0, .ref (ρ o1)), (1, .int i3), (2, .int i4)] → W p l e (wRm 1 21) s m args below meth c H locs 0 0 (wQI below args s A D κ ρ 0 (z, u0)) (F0 m 4 ls []) := by
      intro k2_
      induction k2_ with
      | zero => intro i3 i4 H locs ls hF; exact wL_zero hF
      | succ k2_ ih2 =>
        intro i3 i4 H locs ls hF hH hl
        obtain ⟨q2_, hF, hq2⟩ := wL_some hF
        have hF : F_X8_hungerNow_b4 u0 o1 i3 i4 = some q2_ := hF
        unfold F_X8_hungerNow_b4 at hF
        refine lv_iload_n hx hb dX8_hungerNow_4 rfl (lv_at hl 2 rfl) ?_
        refine lv_aload_n hx hb dX8_hungerNow_5 rfl (lv_at hl 0 rfl) ?_
        refine wx_getR hC hH h_o1 rfl f_X8_22 dX8_hungerNow_6 hF (fun o5 h_o5 hF => ?_)
        refine wx_getI hC hH h_o5 rfl f_X8_235 dX8_hungerNow_9 ?_
        refine lv_icmp_ge hx hb dX8_hungerNow_12 (tgt := 48) rfl (fun h => ?_) (fun h => ?_)
        · have hF := wx_t h hF
          refine lv_iload_n hx hb dX8_hungerNow_48 rfl (lv_at hl 1 rfl) ?_
          have hF := wJ_r hq2 hF
          exact wx_iret hC hH hr hlk dX8_hungerNow_49 (wx_pr hF)
        have hF := wx_f h hF
        refine lv_iload_n hx hb dX8_hungerNow_15 rfl (lv_at hl 1 rfl) ?_
        refine lv_aload_n hx hb dX8_hungerNow_16 rfl (lv_at hl 0 rfl) ?_
        refine wx_getR hC hH h_o1 rfl f_X8_41 dX8_hungerNow_17 hF (fun o6 h_o6 hF => ?_)
        refine lv_iload_n hx hb dX8_hungerNow_20 rfl (lv_at hl 2 rfl) ?_
        refine wx_pvi hC hH hl (c_X3_hasFainted o6 i4 h_o6) y_X3_hasFainted v_X3_hasFainted h_o6 rfl m_X8_141 rfl ⟨Nat.le_of_ble_eq_true rfl, Nat.le_of_ble_eq_true rfl⟩ ⟨Nat.le_refl _, Nat.le_refl _⟩ rfl (Nat.le_of_ble_eq_true rfl) dX8_hungerNow_21 hF (fun i7 H locs hF hH => ?_)
        obtain ⟨q8_, hF, hq8⟩ := wJ_some hF
        have hJ40 : ∀ (i9 : Int32) (H : Heap) (locs : List Loc) (ls : Array Slot), F_X8_hungerNow_j40 i3 i4 i9 = some q2_ → wHp D κ ρ 0 A s.heap H locs u0 → lv_has ls 3 [(0, .ref (ρ o1)), (2, .int i4)] → W p l e (wRm 1 21) s m args below meth c H locs 0 0 (wQI below args s A D κ ρ 0 (z, u0)) (F0 m 40 ls [.int i9, .int i3]) := by
          intro i9 H locs ls hF hH hl
          unfold F_X8_hungerNow_j40 at hF
          refine lv_iadd hx hb dX8_hungerNow_40 ?_
          refine wx_leti hF (fun i10 hF => ?_)
          refine wx_istore_n hx hb dX8_hungerNow_41 rfl hl (by decide) (fun ls hl => ?_)
          have hl : lv_has ls 3 [(1, .int i10), (0, .ref (ρ o1)), (2, .int i4)] := hl
          refine wx_iinc hx hb dX8_hungerNow_42 k_iconst_1 hl (k := 2) rfl (by decide) hF (fun i11 ls hF hl => ?_)
          have hl : lv_has ls 3 [(2, .int i11), (1, .int i10), (0, .ref (ρ o1))] := hl
          refine lv_goto hx hb dX8_hungerNow_45 (tgt := 4) rfl ?_
          have hF := wJ_l hq2 hF
          exact ih2 i10 i11 H locs ls hF hH (lv_sub hl [2, 1, 0] rfl)
        refine lv_if_eq hx hb dX8_hungerNow_24 (tgt := 31) rfl (fun h => ?_) (fun h => ?_)
        · have hF := wx_t h hF
          refine lv_aload_n hx hb dX8_hungerNow_31 rfl (lv_at hl 0 rfl) ?_
          refine wx_getR hC hH h_o1 rfl f_X8_41 dX8_hungerNow_32 hF (fun o12 h_o12 hF => ?_)
          refine wx_getR hC hH h_o12 rfl f_X8_132 dX8_hungerNow_35 hF (fun o13 h_o13 hF => ?_)
          refine lv_iload_n hx hb dX8_hungerNow_38 rfl (lv_at hl 2 rfl) ?_
          refine wx_iald hC hH h_o13 ⟨rfl, rfl⟩ dX8_hungerNow_39 hF (fun j14 hF => ?_)
          have hF := wJ_l hq8 hF
          exact hJ40 (u0.1 o13 j14) H locs ls hF hH (lv_sub hl [0, 2] rfl)
        have hF := wx_f h hF
        refine lv_iconst hx hb dX8_hungerNow_27 k_iconst_0 ?_
        refine lv_goto hx hb dX8_hungerNow_28 (tgt := 40) rfl ?_
        have hF := wJ_l hq8 hF
        exact hJ40 (0 : Int32) H locs ls hF hH (lv_sub hl [0, 2] rfl)
    exact hL4 wFu (0 : Int32) (0 : Int32) H locs ls hF hH (lv_sub hl [2, 1, 0] rfl)
  exact key _ _ hH
def F_X8_count (o1 : Nat) (i2 : Int32) (u0 : wSt) : Option (Int32 × wSt) :=
  if i2 = 0 then (wR (u0.2.2 o1 2) 6 (fun o3 => some ((u0.1 o3 1), u0))) else (if i2 = 1 then (wR (u0.2.2 o1 2) 6 (fun o4 => some ((u0.1 o4 2), u0))) else (if i2 = 2 then (wR (u0.2.2 o1 2) 6 (fun o5 => some ((u0.1 o5 3), u0))) else (if i2 = 3 then (wR (u0.2.2 o1 2) 6 (fun o6 => wR (u0.2.2 o6 16) 1 (fun o7 => some ((u0.1 o7 0), u0)))) else (if i2 = 4 then (wR (u0.2.2 o1 5) 3 (fun o8 => some ((u0.1 o8 0), u0))) else (if i2 = 5 then (wC (F_X8_plainCourse o1 u0) (fun (o10 : Nat) (u9 : wSt) => wG ((w_sh o10).1 = 0) (wR (u9.2.2 o1 5) 3 (fun o11 => wP (F_X0_sitting o10 o11 u9) (fun (i12 : Int32) => wP (F_J6_bitCount_0f7a4 i12 u9) (fun (i13 : Int32) => some (i13, u9))))))) else (if i2 = 6 then (wR (u0.2.2 o1 5) 3 (fun o14 => wP (F_X8_bitesIn o1 o14 u0) (fun (i15 : Int32) => some (i15, u0)))) else (if i2 = 7 then (wR (u0.2.2 o1 5) 3 (fun o16 => wP (F_J6_bitCount_0f7a4 (u0.1 o16 3) u0) (fun (i17 : Int32) => some (i17, u0)))) else (if i2 = 8 then (wR (u0.2.2 o1 5) 3 (fun o18 => wP (F_X8_fedIn o1 o18 u0) (fun (i19 : Int32) => some (i19, u0)))) else (if i2 = 9 then (wP (F_X8_hungerNow o1 u0) (fun (i20 : Int32) => some (i20, u0))) else (if i2 = 10 then (wR (u0.2.2 o1 11) 4 (fun o21 => some ((u0.1 o21 0), u0))) else (if i2 = 11 then (wR (u0.2.2 o1 11) 4 (fun o22 => wP (F_X4_knownSize o22 u0) (fun (i23 : Int32) => some (i23, u0)))) else (if i2 = 12 then (wR (u0.2.2 o1 10) 7 (fun o24 => some ((u0.1 o24 0), u0))) else (some ((-1 : Int32), u0))))))))))))))
set_option maxRecDepth 100000 in
set_option maxHeartbeats 4000000 in
theorem c_X8_count {l : Launch} {D : va_G} {κ : Nat → ClassId} {ρ : Nat → Nat} (o1 : Nat) (i2 : Int32) (h_o1 : (w_sh o1).1 = 8) : wMI l yX8_count cX8_count 2 .int (wRm 2 43) [.ref (ρ o1), .int i2] D κ ρ 0 (fun u => F_X8_count o1 i2 u) := by
  refine wMI_of (F := fun u => F_X8_count o1 i2 u) rfl (Nat.le_of_ble_eq_true rfl) (fun u0 z p e s m args below meth c ls A hF hC hr hlk hH hl => ?_)
  have hl : lv_has ls 2 [(0, .ref (ρ o1)), (1, .int i2)] := hl
  have hx := hC.1.1
  have hb := hC.1.2.1
  have hF : F_X8_count o1 i2 u0 = some z := hF
  unfold F_X8_count at hF
  change W p l e (wRm 2 43) s m args below meth c s.heap [] 0 0 (wQI below args s A D κ ρ 0 z) (F0 m 0 ls [])
  have key : ∀ (H : Heap) (locs : List Loc), wHp D κ ρ 0 A s.heap H locs u0 → W p l e (wRm 2 43) s m args below meth c H locs 0 0 (wQI below args s A D κ ρ 0 z) (F0 m 0 ls []) := by
    intro H locs hH
    refine lv_iload_n hx hb dX8_count_0 rfl (lv_at hl 1 rfl) ?_
    by_cases hs0 : i2 = 0
    · have hF := wx_t hs0 hF
      refine wx_sw hx hb dX8_count_1 (by decide) (tgt := 68) (by rw [hs0]; decide) ?_
      refine lv_aload_n hx hb dX8_count_68 rfl (lv_at hl 0 rfl) ?_
      refine wx_getR hC hH h_o1 rfl f_X8_22 dX8_count_69 hF (fun o3 h_o3 hF => ?_)
      refine wx_getI hC hH h_o3 rfl f_X8_235 dX8_count_72 ?_
      exact wx_iret hC hH hr hlk dX8_count_75 hF
    have hF := wx_f hs0 hF
    by_cases hs1 : i2 = 1
    · have hF := wx_t hs1 hF
      refine wx_sw hx hb dX8_count_1 (by decide) (tgt := 76) (by rw [hs1]; decide) ?_
      refine lv_aload_n hx hb dX8_count_76 rfl (lv_at hl 0 rfl) ?_
      refine wx_getR hC hH h_o1 rfl f_X8_22 dX8_count_77 hF (fun o4 h_o4 hF => ?_)
      refine wx_getI hC hH h_o4 rfl f_X8_303 dX8_count_80 ?_
      exact wx_iret hC hH hr hlk dX8_count_83 hF
    have hF := wx_f hs1 hF
    by_cases hs2 : i2 = 2
    · have hF := wx_t hs2 hF
      refine wx_sw hx hb dX8_count_1 (by decide) (tgt := 84) (by rw [hs2]; decide) ?_
      refine lv_aload_n hx hb dX8_count_84 rfl (lv_at hl 0 rfl) ?_
      refine wx_getR hC hH h_o1 rfl f_X8_22 dX8_count_85 hF (fun o5 h_o5 hF => ?_)
      refine wx_getI hC hH h_o5 rfl f_X8_370 dX8_count_88 ?_
      exact wx_iret hC hH hr hlk dX8_count_91 hF
    have hF := wx_f hs2 hF
    by_cases hs3 : i2 = 3
    · have hF := wx_t hs3 hF
      refine wx_sw hx hb dX8_count_1 (by decide) (tgt := 92) (by rw [hs3]; decide) ?_
      refine lv_aload_n hx hb dX8_count_92 rfl (lv_at hl 0 rfl) ?_
      refine wx_getR hC hH h_o1 rfl f_X8_22 dX8_count_93 hF (fun o6 h_o6 hF => ?_)
      refine wx_getR hC hH h_o6 rfl f_X8_373 dX8_count_96 hF (fun o7 h_o7 hF => ?_)
      refine wx_getI hC hH h_o7 rfl f_X8_377 dX8_count_99 ?_
      exact wx_iret hC hH hr hlk dX8_count_102 hF
    have hF := wx_f hs3 hF
    by_cases hs4 : i2 = 4
    · have hF := wx_t hs4 hF
      refine wx_sw hx hb dX8_count_1 (by decide) (tgt := 103) (by rw [hs4]; decide) ?_
      refine lv_aload_n hx hb dX8_count_103 rfl (lv_at hl 0 rfl) ?_
      refine wx_getR hC hH h_o1 rfl f_X8_41 dX8_count_104 hF (fun o8 h_o8 hF => ?_)
      refine wx_getI hC hH h_o8 rfl f_X8_208 dX8_count_107 ?_
      exact wx_iret hC hH hr hlk dX8_count_110 hF
    have hF := wx_f hs4 hF
    by_cases hs5 : i2 = 5
    · have hF := wx_t hs5 hF
      refine wx_sw hx hb dX8_count_1 (by decide) (tgt := 111) (by rw [hs5]; decide) ?_
      refine lv_aload_n hx hb dX8_count_111 rfl (lv_at hl 0 rfl) ?_
      refine wx_evr hC hH hl (c_X8_plainCourse o1 h_o1) y_X8_plainCourse v_X8_plainCourse h_o1 rfl m_X8_144 rfl ⟨Nat.le_of_ble_eq_true rfl, Nat.le_of_ble_eq_true rfl⟩ ⟨Nat.le_refl _, Nat.le_refl _⟩ rfl (Nat.le_of_ble_eq_true rfl) dX8_count_112 hF (fun o10 u9 H locs hF hH => ?_)
      obtain ⟨h_o10, hF⟩ := wG_some hF
      refine lv_aload_n hx hb dX8_count_115 rfl (lv_at hl 0 rfl) ?_
      refine wx_getR hC hH h_o1 rfl f_X8_41 dX8_count_116 hF (fun o11 h_o11 hF => ?_)
      refine wx_pvi hC hH hl (c_X0_sitting o10 o11 h_o10 h_o11) y_X0_sitting v_X0_sitting h_o10 rfl m_X8_257 rfl ⟨Nat.le_of_ble_eq_true rfl, Nat.le_of_ble_eq_true rfl⟩ ⟨Nat.le_refl _, Nat.le_refl _⟩ rfl (Nat.le_of_ble_eq_true rfl) dX8_count_119 hF (fun i12 H locs hF hH => ?_)
      refine wx_psi hC hH hl (c_J6_bitCount_0f7a4 i12) y_J6_bitCount_0f7a4 v_J6_bitCount_0f7a4 m_X8_269 rfl ⟨Nat.le_of_ble_eq_true rfl, Nat.le_of_ble_eq_true rfl⟩ ⟨Nat.le_refl _, Nat.le_refl _⟩ rfl (Nat.le_of_ble_eq_true rfl) dX8_count_122 hF (fun i13 H locs hF hH => ?_)
      exact wx_iret hC hH hr hlk dX8_count_125 hF
    have hF := wx_f hs5 hF
    by_cases hs6 : i2 = 6
    · have hF := wx_t hs6 hF
      refine wx_sw hx hb dX8_count_1 (by decide) (tgt := 126) (by rw [hs6]; decide) ?_
      refine lv_aload_n hx hb dX8_count_126 rfl (lv_at hl 0 rfl) ?_
      refine lv_aload_n hx hb dX8_count_127 rfl (lv_at hl 0 rfl) ?_
      refine wx_getR hC hH h_o1 rfl f_X8_41 dX8_count_128 hF (fun o14 h_o14 hF => ?_)
      refine wx_pvi hC hH hl (c_X8_bitesIn o1 o14 h_o1 h_o14) y_X8_bitesIn v_X8_bitesIn h_o1 rfl m_X8_221 rfl ⟨Nat.le_of_ble_eq_true rfl, Nat.le_of_ble_eq_true rfl⟩ ⟨Nat.le_refl _, Nat.le_refl _⟩ rfl (Nat.le_of_ble_eq_true rfl) dX8_count_131 hF (fun i15 H locs hF hH => ?_)
      exact wx_iret hC hH hr hlk dX8_count_134 hF
    have hF := wx_f hs6 hF
    by_cases hs7 : i2 = 7
    · have hF := wx_t hs7 hF
      refine wx_sw hx hb dX8_count_1 (by decide) (tgt := 135) (by rw [hs7]; decide) ?_
      refine lv_aload_n hx hb dX8_count_135 rfl (lv_at hl 0 rfl) ?_
      refine wx_getR hC hH h_o1 rfl f_X8_41 dX8_count_136 hF (fun o16 h_o16 hF => ?_)
      refine wx_getI hC hH h_o16 rfl f_X8_382 dX8_count_139 ?_
      refine wx_psi hC hH hl (c_J6_bitCount_0f7a4 (u0.1 o16 3)) y_J6_bitCount_0f7a4 v_J6_bitCount_0f7a4 m_X8_269 rfl ⟨Nat.le_of_ble_eq_true rfl, Nat.le_of_ble_eq_true rfl⟩ ⟨Nat.le_refl _, Nat.le_refl _⟩ rfl (Nat.le_of_ble_eq_true rfl) dX8_count_142 hF (fun i17 H locs hF hH => ?_)
      exact wx_iret hC hH hr hlk dX8_count_145 hF
    have hF := wx_f hs7 hF
    by_cases hs8 : i2 = 8
    · have hF := wx_t hs8 hF
      refine wx_sw hx hb dX8_count_1 (by decide) (tgt := 146) (by rw [hs8]; decide) ?_
      refine lv_aload_n hx hb dX8_count_146 rfl (lv_at hl 0 rfl) ?_
      refine lv_aload_n hx hb dX8_count_147 rfl (lv_at hl 0 rfl) ?_
      refine wx_getR hC hH h_o1 rfl f_X8_41 dX8_count_148 hF (fun o18 h_o18 hF => ?_)
      refine wx_pvi hC hH hl (c_X8_fedIn o1 o18 h_o1 h_o18) y_X8_fedIn v_X8_fedIn h_o1 rfl m_X8_229 rfl ⟨Nat.le_of_ble_eq_true rfl, Nat.le_of_ble_eq_true rfl⟩ ⟨Nat.le_refl _, Nat.le_refl _⟩ rfl (Nat.le_of_ble_eq_true rfl) dX8_count_151 hF (fun i19 H locs hF hH => ?_)
      exact wx_iret hC hH hr hlk dX8_count_154 hF
    have hF := wx_f hs8 hF
    by_cases hs9 : i2 = 9
    · have hF := wx_t hs9 hF
      refine wx_sw hx hb dX8_count_1 (by decide) (tgt := 155) (by rw [hs9]; decide) ?_
      refine lv_aload_n hx hb dX8_count_155 rfl (lv_at hl 0 rfl) ?_
      refine wx_pvi hC hH hl (c_X8_hungerNow o1 h_o1) y_X8_hungerNow v_X8_hungerNow h_o1 rfl m_X8_385 rfl ⟨Nat.le_of_ble_eq_true rfl, Nat.le_of_ble_eq_true rfl⟩ ⟨Nat.le_refl _, Nat.le_refl _⟩ rfl (Nat.le_of_ble_eq_true rfl) dX8_count_156 hF (fun i20 H locs hF hH => ?_)
      exact wx_iret hC hH hr hlk dX8_count_159 hF
    have hF := wx_f hs9 hF
    by_cases hs10 : i2 = 10
    · have hF := wx_t hs10 hF
      refine wx_sw hx hb dX8_count_1 (by decide) (tgt := 160) (by rw [hs10]; decide) ?_
      refine lv_aload_n hx hb dX8_count_160 rfl (lv_at hl 0 rfl) ?_
      refine wx_getR hC hH h_o1 rfl f_X8_74 dX8_count_161 hF (fun o21 h_o21 hF => ?_)
      refine wx_getI hC hH h_o21 rfl f_X8_322 dX8_count_164 ?_
      exact wx_iret hC hH hr hlk dX8_count_167 hF
    have hF := wx_f hs10 hF
    by_cases hs11 : i2 = 11
    · have hF := wx_t hs11 hF
      refine wx_sw hx hb dX8_count_1 (by decide) (tgt := 168) (by rw [hs11]; decide) ?_
      refine lv_aload_n hx hb dX8_count_168 rfl (lv_at hl 0 rfl) ?_
      refine wx_getR hC hH h_o1 rfl f_X8_74 dX8_count_169 hF (fun o22 h_o22 hF => ?_)
      refine wx_pvi hC hH hl (c_X4_knownSize o22 h_o22) y_X4_knownSize v_X4_knownSize h_o22 rfl m_X8_388 rfl ⟨Nat.le_of_ble_eq_true rfl, Nat.le_of_ble_eq_true rfl⟩ ⟨Nat.le_refl _, Nat.le_refl _⟩ rfl (Nat.le_of_ble_eq_true rfl) dX8_count_172 hF (fun i23 H locs hF hH => ?_)
      exact wx_iret hC hH hr hlk dX8_count_175 hF
    have hF := wx_f hs11 hF
    by_cases hs12 : i2 = 12
    · have hF := wx_t hs12 hF
      refine wx_sw hx hb dX8_count_1 (by decide) (tgt := 176) (by rw [hs12]; decide) ?_
      refine lv_aload_n hx hb dX8_count_176 rfl (lv_at hl 0 rfl) ?_
      refine wx_getR hC hH h_o1 rfl f_X8_67 dX8_count_177 hF (fun o24 h_o24 hF => ?_)
      refine wx_getI hC hH h_o24 rfl f_X8_99 dX8_count_180 ?_
      exact wx_iret hC hH hr hlk dX8_count_183 hF
    have hF := wx_f hs12 hF
    have htg : ((1 : Nat) : Int) + wTg (183) (0) (12) #[67, 75, 83, 91, 102, 110, 125, 134, 145, 154, 159, 167, 175] i2 = ((184 : Nat) : Int) := by
      have n0 : ¬ (i2).toInt = 0 := lv_neT (k := 0) (a := 0) (fun q => hs0 (q)) (by decide)
      have n1 : ¬ (i2).toInt = 1 := lv_neT (k := 1) (a := 1) (fun q => hs1 (q)) (by decide)
      have n2 : ¬ (i2).toInt = 2 := lv_neT (k := 2) (a := 2) (fun q => hs2 (q)) (by decide)
      have n3 : ¬ (i2).toInt = 3 := lv_neT (k := 3) (a := 3) (fun q => hs3 (q)) (by decide)
      have n4 : ¬ (i2).toInt = 4 := lv_neT (k := 4) (a := 4) (fun q => hs4 (q)) (by decide)
      have n5 : ¬ (i2).toInt = 5 := lv_neT (k := 5) (a := 5) (fun q => hs5 (q)) (by decide)
      have n6 : ¬ (i2).toInt = 6 := lv_neT (k := 6) (a := 6) (fun q => hs6 (q)) (by decide)
      have n7 : ¬ (i2).toInt = 7 := lv_neT (k := 7) (a := 7) (fun q => hs7 (q)) (by decide)
      have n8 : ¬ (i2).toInt = 8 := lv_neT (k := 8) (a := 8) (fun q => hs8 (q)) (by decide)
      have n9 : ¬ (i2).toInt = 9 := lv_neT (k := 9) (a := 9) (fun q => hs9 (q)) (by decide)
      have n10 : ¬ (i2).toInt = 10 := lv_neT (k := 10) (a := 10) (fun q => hs10 (q)) (by decide)
      have n11 : ¬ (i2).toInt = 11 := lv_neT (k := 11) (a := 11) (fun q => hs11 (q)) (by decide)
      have n12 : ¬ (i2).toInt = 12 := lv_neT (k := 12) (a := 12) (fun q => hs12 (q)) (by decide)
      rw [wTg_lo (by omega)]; rfl
    refine wx_sw hx hb dX8_count_1 (by decide) (tgt := 184) htg ?_
    refine lv_iconst hx hb dX8_count_184 k_iconst_m1 ?_
    exact wx_iret hC hH hr hlk dX8_count_185 hF
  exact key _ _ hH
def F_X9_thrown (o1 : Nat) (u0 : wSt) : Option Int32 :=
  some ((u0.1 o1 2))
set_option maxRecDepth 100000 in
set_option maxHeartbeats 4000000 in
theorem c_X9_thrown {l : Launch} {D : va_G} {κ : Nat → ClassId} {ρ : Nat → Nat} (o1 : Nat) (h_o1 : (w_sh o1).1 = 9) : wMI l yX9_thrown cX9_thrown 1 .int (wRm 0 0) [.ref (ρ o1)] D κ ρ 1 (fun u => wPu (F_X9_thrown o1 u) u) := by
  refine wMP_of (F := fun u => F_X9_thrown o1 u) rfl (Nat.le_of_ble_eq_true rfl) (fun u0 z p e s m args below meth c ls A hF hC hr hlk hH hl => ?_)
  have hl : lv_has ls 1 [(0, .ref (ρ o1))] := hl
  have hx := hC.1.1
  have hb := hC.1.2.1
  have hF : F_X9_thrown o1 u0 = some z := hF
  unfold F_X9_thrown at hF
  change W p l e (wRm 0 0) s m args below meth c s.heap [] 0 0 (wQI below args s A D κ ρ 1 (z, u0)) (F0 m 0 ls [])
  have key : ∀ (H : Heap) (locs : List Loc), wHp D κ ρ 1 A s.heap H locs u0 → W p l e (wRm 0 0) s m args below meth c H locs 0 0 (wQI below args s A D κ ρ 1 (z, u0)) (F0 m 0 ls []) := by
    intro H locs hH
    refine lv_aload_n hx hb dX9_thrown_0 rfl (lv_at hl 0 rfl) ?_
    refine wx_getI hC hH h_o1 rfl f_X9_142 dX9_thrown_1 ?_
    exact wx_iret hC hH hr hlk dX9_thrown_4 (wx_pr hF)
  exact key _ _ hH
def F_X9_feed_j113 (o1 : Nat) (u9 : wSt) : Option (Int32 × wSt) :=
  wB (w_sI u9 o1 1 ((u9.1 o1 1) + (20 : Int32))) (fun (u10 : wSt) => some ((u10.1 o1 1), u10))
def F_X9_feed_j76 (u13 : wSt) (o1 : Nat) (i12 : Int32) (i15 : Int32) : Option ((Int32 × wSt) ⊕ ((wSt) ⊕ (Int32 × wSt))) :=
  wR (u13.2.2 o1 0) 14 (fun o16 => wSI u13 o16 ((u13.1 o1 1) + i12) ((i15 >>> (((24 : Int32) - ((8 : Int32) * (w_rem i12 (4 : Int32)))) &&& 31)) &&& (255 : Int32)) (fun (u17 : wSt) => wB (i12 + (1 : Int32)) (fun (i18 : Int32) => some (.inl (i18, u17)))))
def F_X9_feed_b23 (i6 : Int32) (i5 : Int32) (i4 : Int32) (i3 : Int32) (i2 : Int32) (o1 : Nat) (i12 : Int32) (u13 : wSt) : Option ((Int32 × wSt) ⊕ ((wSt) ⊕ (Int32 × wSt))) :=
  if (20 : Int32) ≤ i12 then (some (.inr (.inl u13))) else (wJ (X := Int32) (if (4 : Int32) ≤ i12 then (if (8 : Int32) ≤ i12 then (if (12 : Int32) ≤ i12 then (if (16 : Int32) ≤ i12 then (some (.inl i6)) else (some (.inl i5))) else (some (.inl i4))) else (some (.inl i3))) else (some (.inl i2))) (fun x => F_X9_feed_j76 u13 o1 i12 x))
def F_X9_feed (o1 : Nat) (i2 : Int32) (i3 : Int32) (i4 : Int32) (i5 : Int32) (i6 : Int32) (u0 : wSt) : Option (Int32 × wSt) :=
  wB (w_sI u0 o1 2 (0 : Int32)) (fun (u7 : wSt) => if ((u7.1 o1 1) + (20 : Int32)) ≤ (700 : Int32) then (wJ (X := wSt) (wL (S := Int32 × wSt) (fun x => F_X9_feed_b23 i6 i5 i4 i3 i2 o1 x.1 x.2) wFu ((0 : Int32), u7)) (fun x => F_X9_feed_j113 o1 x)) else (some ((-1 : Int32), u7)))
set_option maxRecDepth 100000 in
set_option maxHeartbeats 4000000 in
theorem c_X9_feed {l : Launch} {D : va_G} {κ : Nat → ClassId} {ρ : Nat → Nat} (o1 : Nat) (i2 : Int32) (i3 : Int32) (i4 : Int32) (i5 : Int32) (i6 : Int32) (h_o1 : (w_sh o1).1 = 9) : wMI l yX9_feed cX9_feed 8 .int (wRm 0 0) [.ref (ρ o1), .int i2, .int i3, .int i4, .int i5, .int i6] D κ ρ 1 (fun u => F_X9_feed o1 i2 i3 i4 i5 i6 u) := by
  refine wMI_of (F := fun u => F_X9_feed o1 i2 i3 i4 i5 i6 u) rfl (Nat.le_of_ble_eq_true rfl) (fun u0 z p e s m args below meth c ls A hF hC hr hlk hH hl => ?_)
  have hl : lv_has ls 8 [(0, .ref (ρ o1)), (1, .int i2), (2, .int i3), (3, .int i4), (4, .int i5), (5, .int i6)] := hl
  have hx := hC.1.1
  have hb := hC.1.2.1
  have hF : F_X9_feed o1 i2 i3 i4 i5 i6 u0 = some z := hF
  unfold F_X9_feed at hF
  change W p l e (wRm 0 0) s m args below meth c s.heap [] 0 0 (wQI below args s A D κ ρ 1 z) (F0 m 0 ls [])
  have key : ∀ (H : Heap) (locs : List Loc), wHp D κ ρ 1 A s.heap H locs u0 → W p l e (wRm 0 0) s m args below meth c H locs 0 0 (wQI below args s A D κ ρ 1 z) (F0 m 0 ls []) := by
    intro H locs hH
    refine lv_aload_n hx hb dX9_feed_0 rfl (lv_at hl 0 rfl) ?_
    refine lv_iconst hx hb dX9_feed_1 k_iconst_0 ?_
    refine wx_putI hC hH h_o1 rfl f_X9_142 g_9_2 dX9_feed_2 hF (fun u7 H locs hF hH => ?_)
    refine lv_aload_n hx hb dX9_feed_5 rfl (lv_at hl 0 rfl) ?_
    refine wx_getI hC hH h_o1 rfl f_X9_145 dX9_feed_6 ?_
    refine lv_bipush hx hb dX9_feed_9 k_bipush_20 ?_
    refine lv_iadd hx hb dX9_feed_11 ?_
    refine lv_sipush hx hb dX9_feed_12 k_sipush_700 ?_
    refine lv_icmp_le hx hb dX9_feed_15 (tgt := 20) rfl (fun h => ?_) (fun h => ?_)
    · have hF := wx_t h hF
      refine lv_iconst hx hb dX9_feed_20 k_iconst_0 ?_
      refine wx_istore hx hb dX9_feed_21 hl (by decide) (fun ls hl => ?_)
      have hl : lv_has ls 8 [(6, .int (0 : Int32)), (0, .ref (ρ o1)), (1, .int i2), (2, .int i3), (3, .int i4), (4, .int i5), (5, .int i6)] := hl
      obtain ⟨q8_, hF, hq8⟩ := wJ_some hF
      have hJ113 : ∀ (u9 : wSt) (H : Heap) (locs : List Loc) (ls : Array Slot), F_X9_feed_j113 o1 u9 = some z → wHp D κ ρ 1 A s.heap H locs u9 → lv_has ls 8 [(0, .ref (ρ o1))] → W p l e (wRm 0 0) s m args below meth c H locs 0 0 (wQI below args s A D κ ρ 1 z) (F0 m 113 ls []) := by
        intro u9 H locs ls hF hH hl
        unfold F_X9_feed_j113 at hF
        refine lv_aload_n hx hb dX9_feed_113 rfl (lv_at hl 0 rfl) ?_
        refine lv_dup hx hb dX9_feed_114 rfl ?_
        refine wx_getI hC hH h_o1 rfl f_X9_145 dX9_feed_115 ?_
        refine lv_bipush hx hb dX9_feed_118 k_bipush_20 ?_
        refine lv_iadd hx hb dX9_feed_120 ?_
        refine wx_putI hC hH h_o1 rfl f_X9_145 g_9_1 dX9_feed_121 hF (fun u10 H locs hF hH => ?_)
        refine lv_aload_n hx hb dX9_feed_124 rfl (lv_at hl 0 rfl) ?_
        refine wx_getI hC hH h_o1 rfl f_X9_145 dX9_feed_125 ?_
        exact wx_iret hC hH hr hlk dX9_feed_128 hF
      have hL23 : ∀ (k11_ : Nat) (i12 : Int32) (u13 : wSt) (H : Heap) (locs : List Loc) (ls : Array Slot), wL (S := Int32 × wSt) (fun x => F_X9_feed_b23 i6 i5 i4 i3 i2 o1 x.1 x.2) k11_ (i12, u13) = some q8_ → wHp D κ ρ 1 A s.heap H locs u13 → lv_has ls 8 [(0, .ref (ρ o1)), (1, .int i2), (2, .int i3), (3, .int i4), (4, .int i5), (5, .int i6), (6, .int i12)] → W p l e (wRm 0 0) s m args below meth c H locs 0 0 (wQI below args s A D κ ρ 1 z) (F0 m 23 ls []) := by
        intro k11_
        induction k11_ with
        | zero => intro i12 u13 H locs ls hF; exact wL_zero hF
        | succ k11_ ih11 =>
          intro i12 u13 H locs ls hF hH hl
          obtain ⟨q11_, hF, hq11⟩ := wL_some hF
          have hF : F_X9_feed_b23 i6 i5 i4 i3 i2 o1 i12 u13 = some q11_ := hF
          unfold F_X9_feed_b23 at hF
          refine lv_iload hx hb dX9_feed_23 (lv_at hl 6 rfl) ?_
          refine lv_bipush hx hb dX9_feed_25 k_bipush_20 ?_
          refine lv_icmp_ge hx hb dX9_feed_27 (tgt := 113) rfl (fun h => ?_) (fun h => ?_)
          · have hF := wx_t h hF
            have hF := wJ_r hq11 hF
            have hF := wJ_l hq8 hF
            exact hJ113 u13 H locs ls hF hH (lv_sub hl [0] rfl)
          have hF := wx_f h hF
          refine lv_iload hx hb dX9_feed_30 (lv_at hl 6 rfl) ?_
          refine lv_iconst hx hb dX9_feed_32 k_iconst_4 ?_
          obtain ⟨q14_, hF, hq14⟩ := wJ_some hF
          have hJ76 : ∀ (i15 : Int32) (H : Heap) (locs : List Loc) (ls : Array Slot), F_X9_feed_j76 u13 o1 i12 i15 = some q11_ → wHp D κ ρ 1 A s.heap H locs u13 → lv_has ls 8 [(0, .ref (ρ o1)), (1, .int i2), (2, .int i3), (3, .int i4), (4, .int i5), (5, .int i6), (6, .int i12)] → W p l e (wRm 0 0) s m args below meth c H locs 0 0 (wQI below args s A D κ ρ 1 z) (F0 m 76 ls [.int i15]) := by
            intro i15 H locs ls hF hH hl
            unfold F_X9_feed_j76 at hF
            refine wx_istore hx hb dX9_feed_76 hl (by decide) (fun ls hl => ?_)
            have hl : lv_has ls 8 [(7, .int i15), (0, .ref (ρ o1)), (1, .int i2), (2, .int i3), (3, .int i4), (4, .int i5), (5, .int i6), (6, .int i12)] := hl
            refine lv_aload_n hx hb dX9_feed_78 rfl (lv_at hl 1 rfl) ?_
            refine wx_getR hC hH h_o1 rfl f_X9_7 dX9_feed_79 hF (fun o16 h_o16 hF => ?_)
            refine lv_aload_n hx hb dX9_feed_82 rfl (lv_at hl 1 rfl) ?_
            refine wx_getI hC hH h_o1 rfl f_X9_145 dX9_feed_83 ?_
            refine lv_iload hx hb dX9_feed_86 (lv_at hl 7 rfl) ?_
            refine lv_iadd hx hb dX9_feed_88 ?_
            refine lv_iload hx hb dX9_feed_89 (lv_at hl 0 rfl) ?_
            refine lv_bipush hx hb dX9_feed_91 k_bipush_24 ?_
            refine lv_bipush hx hb dX9_feed_93 k_bipush_8 ?_
            refine lv_iload hx hb dX9_feed_95 (lv_at hl 7 rfl) ?_
            refine lv_iconst hx hb dX9_feed_97 k_iconst_4 ?_
            refine wx_irem hx hb dX9_feed_98 (by decide) ?_
            refine lv_imul hx hb dX9_feed_99 ?_
            refine lv_isub hx hb dX9_feed_100 ?_
            refine lv_ishr hx hb dX9_feed_101 ?_
            refine lv_sipush hx hb dX9_feed_102 k_sipush_255 ?_
            refine lv_iand hx hb dX9_feed_105 ?_
            refine wx_iast hC hH h_o16 ⟨rfl, rfl⟩ dX9_feed_106 hF (fun u17 H locs hF hH => ?_)
            refine wx_iinc hx hb dX9_feed_107 k_iconst_1 hl (k := 7) rfl (by decide) hF (fun i18 ls hF hl => ?_)
            have hl : lv_has ls 8 [(6, .int i18), (7, .int i15), (0, .ref (ρ o1)), (1, .int i2), (2, .int i3), (3, .int i4), (4, .int i5), (5, .int i6)] := hl
            refine lv_goto hx hb dX9_feed_110 (tgt := 23) rfl ?_
            have hF := wJ_l hq11 hF
            exact ih11 i18 u17 H locs ls hF hH (lv_sub hl [2, 3, 4, 5, 6, 7, 0] rfl)
          refine lv_icmp_ge hx hb dX9_feed_33 (tgt := 40) rfl (fun h => ?_) (fun h => ?_)
          · have hF := wx_t h hF
            refine lv_iload hx hb dX9_feed_40 (lv_at hl 6 rfl) ?_
            refine lv_bipush hx hb dX9_feed_42 k_bipush_8 ?_
            refine lv_icmp_ge hx hb dX9_feed_44 (tgt := 51) rfl (fun h => ?_) (fun h => ?_)
            · have hF := wx_t h hF
              refine lv_iload hx hb dX9_feed_51 (lv_at hl 6 rfl) ?_
              refine lv_bipush hx hb dX9_feed_53 k_bipush_12 ?_
              refine lv_icmp_ge hx hb dX9_feed_55 (tgt := 62) rfl (fun h => ?_) (fun h => ?_)
              · have hF := wx_t h hF
                refine lv_iload hx hb dX9_feed_62 (lv_at hl 6 rfl) ?_
                refine lv_bipush hx hb dX9_feed_64 k_bipush_16 ?_
                refine lv_icmp_ge hx hb dX9_feed_66 (tgt := 74) rfl (fun h => ?_) (fun h => ?_)
                · have hF := wx_t h hF
                  refine lv_iload hx hb dX9_feed_74 (lv_at hl 5 rfl) ?_
                  have hF := wJ_l hq14 hF
                  exact hJ76 i6 H locs ls hF hH (lv_sub hl [0, 1, 2, 3, 4, 5, 6] rfl)
                have hF := wx_f h hF
                refine lv_iload hx hb dX9_feed_69 (lv_at hl 4 rfl) ?_
                refine lv_goto hx hb dX9_feed_71 (tgt := 76) rfl ?_
                have hF := wJ_l hq14 hF
                exact hJ76 i5 H locs ls hF hH (lv_sub hl [0, 1, 2, 3, 4, 5, 6] rfl)
              have hF := wx_f h hF
              refine lv_iload_n hx hb dX9_feed_58 rfl (lv_at hl 3 rfl) ?_
              refine lv_goto hx hb dX9_feed_59 (tgt := 76) rfl ?_
              have hF := wJ_l hq14 hF
              exact hJ76 i4 H locs ls hF hH (lv_sub hl [0, 1, 2, 3, 4, 5, 6] rfl)
            have hF := wx_f h hF
            refine lv_iload_n hx hb dX9_feed_47 rfl (lv_at hl 2 rfl) ?_
            refine lv_goto hx hb dX9_feed_48 (tgt := 76) rfl ?_
            have hF := wJ_l hq14 hF
            exact hJ76 i3 H locs ls hF hH (lv_sub hl [0, 1, 2, 3, 4, 5, 6] rfl)
          have hF := wx_f h hF
          refine lv_iload_n hx hb dX9_feed_36 rfl (lv_at hl 1 rfl) ?_
          refine lv_goto hx hb dX9_feed_37 (tgt := 76) rfl ?_
          have hF := wJ_l hq14 hF
          exact hJ76 i2 H locs ls hF hH (lv_sub hl [0, 1, 2, 3, 4, 5, 6] rfl)
      exact hL23 wFu (0 : Int32) u7 H locs ls hF hH (lv_sub hl [1, 2, 3, 4, 5, 6, 0] rfl)
    have hF := wx_f h hF
    refine lv_iconst hx hb dX9_feed_18 k_iconst_m1 ?_
    exact wx_iret hC hH hr hlk dX9_feed_19 hF
  exact key _ _ hH
def F_X9_isIn (i1 : Int32) (i2 : Int32) (i3 : Int32) (u0 : wSt) : Option Int32 :=
  if i1 < i2 then (some ((0 : Int32))) else (if i3 < i1 then (some ((0 : Int32))) else (some ((1 : Int32))))
set_option maxRecDepth 100000 in
set_option maxHeartbeats 4000000 in
theorem c_X9_isIn {l : Launch} {D : va_G} {κ : Nat → ClassId} {ρ : Nat → Nat} (i1 : Int32) (i2 : Int32) (i3 : Int32) : wMI l yX9_isIn cX9_isIn 3 .boolean (wRm 0 0) [.int i1, .int i2, .int i3] D κ ρ 1 (fun u => wPu (F_X9_isIn i1 i2 i3 u) u) := by
  refine wMP_of (F := fun u => F_X9_isIn i1 i2 i3 u) rfl (Nat.le_of_ble_eq_true rfl) (fun u0 z p e s m args below meth c ls A hF hC hr hlk hH hl => ?_)
  have hl : lv_has ls 3 [(0, .int i1), (1, .int i2), (2, .int i3)] := hl
  have hx := hC.1.1
  have hb := hC.1.2.1
  have hF : F_X9_isIn i1 i2 i3 u0 = some z := hF
  unfold F_X9_isIn at hF
  change W p l e (wRm 0 0) s m args below meth c s.heap [] 0 0 (wQI below args s A D κ ρ 1 (z, u0)) (F0 m 0 ls [])
  have key : ∀ (H : Heap) (locs : List Loc), wHp D κ ρ 1 A s.heap H locs u0 → W p l e (wRm 0 0) s m args below meth c H locs 0 0 (wQI below args s A D κ ρ 1 (z, u0)) (F0 m 0 ls []) := by
    intro H locs hH
    refine lv_iload_n hx hb dX9_isIn_0 rfl (lv_at hl 0 rfl) ?_
    refine lv_iload_n hx hb dX9_isIn_1 rfl (lv_at hl 1 rfl) ?_
    refine lv_icmp_lt hx hb dX9_isIn_2 (tgt := 14) rfl (fun h => ?_) (fun h => ?_)
    · have hF := wx_t h hF
      refine lv_iconst hx hb dX9_isIn_14 k_iconst_0 ?_
      exact wx_zret hC hH hr hlk dX9_isIn_15 (Or.inl rfl) (wx_pr hF)
    have hF := wx_f h hF
    refine lv_iload_n hx hb dX9_isIn_5 rfl (lv_at hl 0 rfl) ?_
    refine lv_iload_n hx hb dX9_isIn_6 rfl (lv_at hl 2 rfl) ?_
    refine lv_icmp_gt hx hb dX9_isIn_7 (tgt := 14) rfl (fun h => ?_) (fun h => ?_)
    · have hF := wx_t h hF
      refine lv_iconst hx hb dX9_isIn_14 k_iconst_0 ?_
      exact wx_zret hC hH hr hlk dX9_isIn_15 (Or.inl rfl) (wx_pr hF)
    have hF := wx_f h hF
    refine lv_iconst hx hb dX9_isIn_10 k_iconst_1 ?_
    refine lv_goto hx hb dX9_isIn_11 (tgt := 15) rfl ?_
    exact wx_zret hC hH hr hlk dX9_isIn_15 (Or.inr rfl) (wx_pr hF)
  exact key _ _ hH
def F_X9_isOf (i1 : Int32) (i2 : Int32) (u0 : wSt) : Option Int32 :=
  if ((i1 >>> (i2 &&& 31)) &&& (1 : Int32)) = (1 : Int32) then (some ((1 : Int32))) else (some ((0 : Int32)))
set_option maxRecDepth 100000 in
set_option maxHeartbeats 4000000 in
theorem c_X9_isOf {l : Launch} {D : va_G} {κ : Nat → ClassId} {ρ : Nat → Nat} (i1 : Int32) (i2 : Int32) : wMI l yX9_isOf cX9_isOf 2 .boolean (wRm 0 0) [.int i1, .int i2] D κ ρ 1 (fun u => wPu (F_X9_isOf i1 i2 u) u) := by
  refine wMP_of (F := fun u => F_X9_isOf i1 i2 u) rfl (Nat.le_of_ble_eq_true rfl) (fun u0 z p e s m args below meth c ls A hF hC hr hlk hH hl => ?_)
  have hl : lv_has ls 2 [(0, .int i1), (1, .int i2)] := hl
  have hx := hC.1.1
  have hb := hC.1.2.1
  have hF : F_X9_isOf i1 i2 u0 = some z := hF
  unfold F_X9_isOf at hF
  change W p l e (wRm 0 0) s m args below meth c s.heap [] 0 0 (wQI below args s A D κ ρ 1 (z, u0)) (F0 m 0 ls [])
  have key : ∀ (H : Heap) (locs : List Loc), wHp D κ ρ 1 A s.heap H locs u0 → W p l e (wRm 0 0) s m args below meth c H locs 0 0 (wQI below args s A D κ ρ 1 (z, u0)) (F0 m 0 ls []) := by
    intro H locs hH
    refine lv_iload_n hx hb dX9_isOf_0 rfl (lv_at hl 0 rfl) ?_
    refine lv_iload_n hx hb dX9_isOf_1 rfl (lv_at hl 1 rfl) ?_
    refine lv_ishr hx hb dX9_isOf_2 ?_
    refine lv_iconst hx hb dX9_isOf_3 k_iconst_1 ?_
    refine lv_iand hx hb dX9_isOf_4 ?_
    refine lv_iconst hx hb dX9_isOf_5 k_iconst_1 ?_
    refine lv_icmp_ne hx hb dX9_isOf_6 (tgt := 13) rfl (fun h => ?_) (fun h => ?_)
    · have hF := wx_f h hF
      refine lv_iconst hx hb dX9_isOf_13 k_iconst_0 ?_
      exact wx_zret hC hH hr hlk dX9_isOf_14 (Or.inl rfl) (wx_pr hF)
    have hF := wx_t h hF
    refine lv_iconst hx hb dX9_isOf_9 k_iconst_1 ?_
    refine lv_goto hx hb dX9_isOf_10 (tgt := 14) rfl ?_
    exact wx_zret hC hH hr hlk dX9_isOf_14 (Or.inr rfl) (wx_pr hF)
  exact key _ _ hH
def F_X9_wrong (o1 : Nat) (i2 : Int32) (u0 : wSt) : Option (Int32 × wSt) :=
  wB (w_sI u0 o1 4 i2) (fun (u3 : wSt) => wB (w_sI u3 o1 5 (u3.1 o1 10)) (fun (u4 : wSt) => some ((0 : Int32), u4)))
set_option maxRecDepth 100000 in
set_option maxHeartbeats 4000000 in
theorem c_X9_wrong {l : Launch} {D : va_G} {κ : Nat → ClassId} {ρ : Nat → Nat} (o1 : Nat) (i2 : Int32) (h_o1 : (w_sh o1).1 = 9) : wMI l yX9_wrong cX9_wrong 2 .boolean (wRm 0 0) [.ref (ρ o1), .int i2] D κ ρ 1 (fun u => F_X9_wrong o1 i2 u) := by
  refine wMI_of (F := fun u => F_X9_wrong o1 i2 u) rfl (Nat.le_of_ble_eq_true rfl) (fun u0 z p e s m args below meth c ls A hF hC hr hlk hH hl => ?_)
  have hl : lv_has ls 2 [(0, .ref (ρ o1)), (1, .int i2)] := hl
  have hx := hC.1.1
  have hb := hC.1.2.1
  have hF : F_X9_wrong o1 i2 u0 = some z := hF
  unfold F_X9_wrong at hF
  change W p l e (wRm 0 0) s m args below meth c s.heap [] 0 0 (wQI below args s A D κ ρ 1 z) (F0 m 0 ls [])
  have key : ∀ (H : Heap) (locs : List Loc), wHp D κ ρ 1 A s.heap H locs u0 → W p l e (wRm 0 0) s m args below meth c H locs 0 0 (wQI below args s A D κ ρ 1 z) (F0 m 0 ls []) := by
    intro H locs hH
    refine lv_aload_n hx hb dX9_wrong_0 rfl (lv_at hl 0 rfl) ?_
    refine lv_iload_n hx hb dX9_wrong_1 rfl (lv_at hl 1 rfl) ?_
    refine wx_putI hC hH h_o1 rfl f_X9_148 g_9_4 dX9_wrong_2 hF (fun u3 H locs hF hH => ?_)
    refine lv_aload_n hx hb dX9_wrong_5 rfl (lv_at hl 0 rfl) ?_
    refine lv_aload_n hx hb dX9_wrong_6 rfl (lv_at hl 0 rfl) ?_
    refine wx_getI hC hH h_o1 rfl f_X9_151 dX9_wrong_7 ?_
    refine wx_putI hC hH h_o1 rfl f_X9_16 g_9_5 dX9_wrong_10 hF (fun u4 H locs hF hH => ?_)
    refine lv_iconst hx hb dX9_wrong_13 k_iconst_0 ?_
    exact wx_zret hC hH hr hlk dX9_wrong_14 (Or.inl rfl) hF
  exact key _ _ hH
def F_X9_wordAt_j104 (i6 : Int32) (i9 : Int32) (i5 : Int32) (i13 : Int32) : Option ((Int32 × Int32) ⊕ Int32) :=
  if i13 = 0 then (wB (i6 + (i9 + (1 : Int32))) (fun (i14 : Int32) => wB (i5 + (1 : Int32)) (fun (i15 : Int32) => some (.inl (i15, i14))))) else (some (.inr (i5)))
def F_X9_wordAt_j96 (i18 : Int32) (i24 : Int32) : Option ((Int32 × Int32) ⊕ ((Int32) ⊕ ((Int32 × Int32) ⊕ Int32))) :=
  wB (i18 + (1 : Int32)) (fun (i25 : Int32) => some (.inl (i24, i25)))
def F_X9_wordAt_b57 (i9 : Int32) (u0 : wSt) (o1 : Nat) (i6 : Int32) (i2 : Int32) (i17 : Int32) (i18 : Int32) : Option ((Int32 × Int32) ⊕ ((Int32) ⊕ ((Int32 × Int32) ⊕ Int32))) :=
  if i9 ≤ i18 then (some (.inr (.inl i17))) else (if i17 = 0 then (some (.inr (.inl i17))) else (wR (u0.2.2 o1 3) 14 (fun o19 => wN (i6 + i18) o19 (fun j20 => wR (u0.2.2 o1 0) 14 (fun o21 => wN (i2 + i18) o21 (fun j22 => wJ (X := Int32) (if (u0.1 o19 j20) = (u0.1 o21 j22) then (some (.inl (1 : Int32))) else (some (.inl (0 : Int32)))) (fun x => F_X9_wordAt_j96 i18 x)))))))
def F_X9_wordAt_j52 (i9 : Int32) (u0 : wSt) (o1 : Nat) (i6 : Int32) (i2 : Int32) (i5 : Int32) (i11 : Int32) : Option ((Int32 × Int32) ⊕ Int32) :=
  wJ (X := Int32) (wL (S := Int32 × Int32) (fun x => F_X9_wordAt_b57 i9 u0 o1 i6 i2 x.1 x.2) wFu (i11, (0 : Int32))) (fun x => F_X9_wordAt_j104 i6 i9 i5 x)
def F_X9_wordAt_j39 (i3 : Int32) (i2 : Int32) (u0 : wSt) (o1 : Nat) (i6 : Int32) (i5 : Int32) (i9 : Int32) : Option ((Int32 × Int32) ⊕ Int32) :=
  wJ (X := Int32) (if i9 = (i3 - i2) then (some (.inl (1 : Int32))) else (some (.inl (0 : Int32)))) (fun x => F_X9_wordAt_j52 i9 u0 o1 i6 i2 i5 x)
def F_X9_wordAt_b18 (u0 : wSt) (o1 : Nat) (i6 : Int32) (i27 : Int32) : Option ((Int32) ⊕ ((Int32) ⊕ ((Int32 × Int32) ⊕ Int32))) :=
  wR (u0.2.2 o1 3) 14 (fun o28 => wN (i6 + i27) o28 (fun j29 => if (u0.1 o28 j29) = (32 : Int32) then (some (.inr (.inl i27))) else (wB (i27 + (1 : Int32)) (fun (i30 : Int32) => some (.inl i30)))))
def F_X9_wordAt_b5 (u0 : wSt) (o1 : Nat) (i3 : Int32) (i2 : Int32) (i5 : Int32) (i6 : Int32) : Option ((Int32 × Int32) ⊕ Int32) :=
  wR (u0.2.2 o1 3) 14 (fun o7 => if (Int32.ofNat (w_sh o7).2) ≤ i6 then (some (.inr ((-1 : Int32)))) else (wJ (X := Int32) (wL (S := Int32) (fun x => F_X9_wordAt_b18 u0 o1 i6 x) wFu (0 : Int32)) (fun x => F_X9_wordAt_j39 i3 i2 u0 o1 i6 i5 x)))
def F_X9_wordAt (o1 : Nat) (i2 : Int32) (i3 : Int32) (u0 : wSt) : Option Int32 :=
  wL (S := Int32 × Int32) (fun x => F_X9_wordAt_b5 u0 o1 i3 i2 x.1 x.2) wFu ((0 : Int32), (0 : Int32))
set_option maxRecDepth 100000 in
set_option maxHeartbeats 4000000 in
theorem c_X9_wordAt {l : Launch} {D : va_G} {κ : Nat → ClassId} {ρ : Nat → Nat} (o1 : Nat) (i2 : Int32) (i3 : Int32) (h_o1 : (w_sh o1).1 = 9) : wMI l yX9_wordAt cX9_wordAt 8 .int (wRm 0 0) [.ref (ρ o1), .int i2, .int i3] D κ ρ 1 (fun u => wPu (F_X9_wordAt o1 i2 i3 u) u) := by
  refine wMP_of (F := fun u => F_X9_wordAt o1 i2 i3 u) rfl (Nat.le_of_ble_eq_true rfl) (fun u0 z p e s m args below meth c ls A hF hC hr hlk hH hl => ?_)
  have hl : lv_has ls 8 [(0, .ref (ρ o1)), (1, .int i2), (2, .int i3)] := hl
  have hx := hC.1.1
  have hb := hC.1.2.1
  have hF : F_X9_wordAt o1 i2 i3 u0 = some z := hF
  unfold F_X9_wordAt at hF
  change W p l e (wRm 0 0) s m args below meth c s.heap [] 0 0 (wQI below args s A D κ ρ 1 (z, u0)) (F0 m 0 ls [])
  have key : ∀ (H : Heap) (locs : List Loc), wHp D κ ρ 1 A s.heap H locs u0 → W p l e (wRm 0 0) s m args below meth c H locs 0 0 (wQI below args s A D κ ρ 1 (z, u0)) (F0 m 0 ls []) := by
    intro H locs hH
    refine lv_iconst hx hb dX9_wordAt_0 k_iconst_0 ?_
    refine wx_istore_n hx hb dX9_wordAt_1 rfl hl (by decide) (fun ls hl => ?_)
    have hl : lv_has ls 8 [(3, .int (0 : Int32)), (0, .ref (ρ o1)), (1, .int i2), (2, .int i3)] := hl
    refine lv_iconst hx hb dX9_wordAt_2 k_iconst_0 ?_
    refine wx_istore hx hb dX9_wordAt_3 hl (by decide) (fun ls hl => ?_)
    have hl : lv_has ls 8 [(4, .int (0 : Int32)), (3, .int (0 : Int32)), (0, .ref (ρ o1)), (1, .int i2), (2, .int i3)] := hl
    have hL5 : ∀ (k4_ : Nat) (i5 : Int32) (i6 : Int32) (H : Heap) (locs : List Loc) (ls : Array Slot), wL (S := Int32 × Int32) (fun x => F_X9_wordAt_b5 u0 o1 i3 i2 x.1 x.2) k4_ (i5, i6) = some z → wHp D κ ρ 1 A s.heap H locs u0 → lv_has ls 8 [(0, .ref (ρ o1)), (1, .int i2), (2, .int i3), (3, .int i5), (4, .int i6)] → W p l e (wRm 0 0) s m args below meth c H locs 0 0 (wQI below args s A D κ ρ 1 (z, u0)) (F0 m 5 ls []) := by
      intro k4_
      induction k4_ with
      | zero => intro i5 i6 H locs ls hF; exact wL_zero hF
      | succ k4_ ih4 =>
        intro i5 i6 H locs ls hF hH hl
        obtain ⟨q4_, hF, hq4⟩ := wL_some hF
        have hF : F_X9_wordAt_b5 u0 o1 i3 i2 i5 i6 = some q4_ := hF
        unfold F_X9_wordAt_b5 at hF
        refine lv_iload hx hb dX9_wordAt_5 (lv_at hl 4 rfl) ?_
        refine lv_aload_n hx hb dX9_wordAt_7 rfl (lv_at hl 0 rfl) ?_
        refine wx_getR hC hH h_o1 rfl f_X9_13 dX9_wordAt_8 hF (fun o7 h_o7 hF => ?_)
        refine wx_alen (t := 0) hC hH h_o7 ⟨rfl, rfl⟩ (by decide) dX9_wordAt_11 ?_
        refine lv_icmp_ge hx hb dX9_wordAt_12 (tgt := 126) rfl (fun h => ?_) (fun h => ?_)
        · have hF := wx_t h hF
          refine lv_iconst hx hb dX9_wordAt_126 k_iconst_m1 ?_
          have hF := wJ_r hq4 hF
          exact wx_iret hC hH hr hlk dX9_wordAt_127 (wx_pr hF)
        have hF := wx_f h hF
        refine lv_iconst hx hb dX9_wordAt_15 k_iconst_0 ?_
        refine wx_istore hx hb dX9_wordAt_16 hl (by decide) (fun ls hl => ?_)
        have hl : lv_has ls 8 [(5, .int (0 : Int32)), (0, .ref (ρ o1)), (1, .int i2), (2, .int i3), (3, .int i5), (4, .int i6)] := hl
        obtain ⟨q8_, hF, hq8⟩ := wJ_some hF
        have hJ39 : ∀ (i9 : Int32) (H : Heap) (locs : List Loc) (ls : Array Slot), F_X9_wordAt_j39 i3 i2 u0 o1 i6 i5 i9 = some q4_ → wHp D κ ρ 1 A s.heap H locs u0 → lv_has ls 8 [(0, .ref (ρ o1)), (1, .int i2), (2, .int i3), (3, .int i5), (4, .int i6), (5, .int i9)] → W p l e (wRm 0 0) s m args below meth c H locs 0 0 (wQI below args s A D κ ρ 1 (z, u0)) (F0 m 39 ls []) := by
          intro i9 H locs ls hF hH hl
          unfold F_X9_wordAt_j39 at hF
          refine lv_iload hx hb dX9_wordAt_39 (lv_at hl 5 rfl) ?_
          refine lv_iload_n hx hb dX9_wordAt_41 rfl (lv_at hl 2 rfl) ?_
          refine lv_iload_n hx hb dX9_wordAt_42 rfl (lv_at hl 1 rfl) ?_
          refine lv_isub hx hb dX9_wordAt_43 ?_
          obtain ⟨q10_, hF, hq10⟩ := wJ_some hF
          have hJ52 : ∀ (i11 : Int32) (H : Heap) (locs : List Loc) (ls : Array Slot), F_X9_wordAt_j52 i9 u0 o1 i6 i2 i5 i11 = some q4_ → wHp D κ ρ 1 A s.heap H locs u0 → lv_has ls 8 [(0, .ref (ρ o1)), (1, .int i2), (2, .int i3), (3, .int i5), (4, .int i6), (5, .int i9)] → W p l e (wRm 0 0) s m args below meth c H locs 0 0 (wQI below args s A D κ ρ 1 (z, u0)) (F0 m 52 ls [.int i11]) := by
            intro i11 H locs ls hF hH hl
            unfold F_X9_wordAt_j52 at hF
            refine wx_istore hx hb dX9_wordAt_52 hl (by decide) (fun ls hl => ?_)
            have hl : lv_has ls 8 [(6, .int i11), (0, .ref (ρ o1)), (1, .int i2), (2, .int i3), (3, .int i5), (4, .int i6), (5, .int i9)] := hl
            refine lv_iconst hx hb dX9_wordAt_54 k_iconst_0 ?_
            refine wx_istore hx hb dX9_wordAt_55 hl (by decide) (fun ls hl => ?_)
            have hl : lv_has ls 8 [(7, .int (0 : Int32)), (6, .int i11), (0, .ref (ρ o1)), (1, .int i2), (2, .int i3), (3, .int i5), (4, .int i6), (5, .int i9)] := hl
            obtain ⟨q12_, hF, hq12⟩ := wJ_some hF
            have hJ104 : ∀ (i13 : Int32) (H : Heap) (locs : List Loc) (ls : Array Slot), F_X9_wordAt_j104 i6 i9 i5 i13 = some q4_ → wHp D κ ρ 1 A s.heap H locs u0 → lv_has ls 8 [(0, .ref (ρ o1)), (1, .int i2), (2, .int i3), (3, .int i5), (4, .int i6), (5, .int i9), (6, .int i13)] → W p l e (wRm 0 0) s m args below meth c H locs 0 0 (wQI below args s A D κ ρ 1 (z, u0)) (F0 m 104 ls []) := by
              intro i13 H locs ls hF hH hl
              unfold F_X9_wordAt_j104 at hF
              refine lv_iload hx hb dX9_wordAt_104 (lv_at hl 6 rfl) ?_
              refine lv_if_eq hx hb dX9_wordAt_106 (tgt := 111) rfl (fun h => ?_) (fun h => ?_)
              · have hF := wx_t h hF
                refine lv_iload hx hb dX9_wordAt_111 (lv_at hl 4 rfl) ?_
                refine lv_iload hx hb dX9_wordAt_113 (lv_at hl 5 rfl) ?_
                refine lv_iconst hx hb dX9_wordAt_115 k_iconst_1 ?_
                refine lv_iadd hx hb dX9_wordAt_116 ?_
                refine lv_iadd hx hb dX9_wordAt_117 ?_
                refine wx_leti hF (fun i14 hF => ?_)
                refine wx_istore hx hb dX9_wordAt_118 hl (by decide) (fun ls hl => ?_)
                have hl : lv_has ls 8 [(4, .int i14), (0, .ref (ρ o1)), (1, .int i2), (2, .int i3), (3, .int i5), (5, .int i9), (6, .int i13)] := hl
                refine wx_iinc hx hb dX9_wordAt_120 k_iconst_1 hl (k := 4) rfl (by decide) hF (fun i15 ls hF hl => ?_)
                have hl : lv_has ls 8 [(3, .int i15), (4, .int i14), (0, .ref (ρ o1)), (1, .int i2), (2, .int i3), (5, .int i9), (6, .int i13)] := hl
                refine lv_goto hx hb dX9_wordAt_123 (tgt := 5) rfl ?_
                have hF := wJ_l hq4 hF
                exact ih4 i15 i14 H locs ls hF hH (lv_sub hl [2, 3, 4, 0, 1] rfl)
              have hF := wx_f h hF
              refine lv_iload_n hx hb dX9_wordAt_109 rfl (lv_at hl 3 rfl) ?_
              have hF := wJ_r hq4 hF
              exact wx_iret hC hH hr hlk dX9_wordAt_110 (wx_pr hF)
            have hL57 : ∀ (k16_ : Nat) (i17 : Int32) (i18 : Int32) (H : Heap) (locs : List Loc) (ls : Array Slot), wL (S := Int32 × Int32) (fun x => F_X9_wordAt_b57 i9 u0 o1 i6 i2 x.1 x.2) k16_ (i17, i18) = some q12_ → wHp D κ ρ 1 A s.heap H locs u0 → lv_has ls 8 [(0, .ref (ρ o1)), (1, .int i2), (2, .int i3), (3, .int i5), (4, .int i6), (5, .int i9), (6, .int i17), (7, .int i18)] → W p l e (wRm 0 0) s m args below meth c H locs 0 0 (wQI below args s A D κ ρ 1 (z, u0)) (F0 m 57 ls []) := by
              intro k16_
              induction k16_ with
              | zero => intro i17 i18 H locs ls hF; exact wL_zero hF
              | succ k16_ ih16 =>
                intro i17 i18 H locs ls hF hH hl
                obtain ⟨q16_, hF, hq16⟩ := wL_some hF
                have hF : F_X9_wordAt_b57 i9 u0 o1 i6 i2 i17 i18 = some q16_ := hF
                unfold F_X9_wordAt_b57 at hF
                refine lv_iload hx hb dX9_wordAt_57 (lv_at hl 7 rfl) ?_
                refine lv_iload hx hb dX9_wordAt_59 (lv_at hl 5 rfl) ?_
                refine lv_icmp_ge hx hb dX9_wordAt_61 (tgt := 104) rfl (fun h => ?_) (fun h => ?_)
                · have hF := wx_t h hF
                  have hF := wJ_r hq16 hF
                  have hF := wJ_l hq12 hF
                  exact hJ104 i17 H locs ls hF hH (lv_sub hl [0, 1, 2, 3, 4, 5, 6] rfl)
                have hF := wx_f h hF
                refine lv_iload hx hb dX9_wordAt_64 (lv_at hl 6 rfl) ?_
                refine lv_if_eq hx hb dX9_wordAt_66 (tgt := 104) rfl (fun h => ?_) (fun h => ?_)
                · have hF := wx_t h hF
                  have hF := wJ_r hq16 hF
                  have hF := wJ_l hq12 hF
                  exact hJ104 i17 H locs ls hF hH (lv_sub hl [0, 1, 2, 3, 4, 5, 6] rfl)
                have hF := wx_f h hF
                refine lv_aload_n hx hb dX9_wordAt_69 rfl (lv_at hl 0 rfl) ?_
                refine wx_getR hC hH h_o1 rfl f_X9_13 dX9_wordAt_70 hF (fun o19 h_o19 hF => ?_)
                refine lv_iload hx hb dX9_wordAt_73 (lv_at hl 4 rfl) ?_
                refine lv_iload hx hb dX9_wordAt_75 (lv_at hl 7 rfl) ?_
                refine lv_iadd hx hb dX9_wordAt_77 ?_
                refine wx_iald hC hH h_o19 ⟨rfl, rfl⟩ dX9_wordAt_78 hF (fun j20 hF => ?_)
                refine lv_aload_n hx hb dX9_wordAt_79 rfl (lv_at hl 0 rfl) ?_
                refine wx_getR hC hH h_o1 rfl f_X9_7 dX9_wordAt_80 hF (fun o21 h_o21 hF => ?_)
                refine lv_iload_n hx hb dX9_wordAt_83 rfl (lv_at hl 1 rfl) ?_
                refine lv_iload hx hb dX9_wordAt_84 (lv_at hl 7 rfl) ?_
                refine lv_iadd hx hb dX9_wordAt_86 ?_
                refine wx_iald hC hH h_o21 ⟨rfl, rfl⟩ dX9_wordAt_87 hF (fun j22 hF => ?_)
                obtain ⟨q23_, hF, hq23⟩ := wJ_some hF
                have hJ96 : ∀ (i24 : Int32) (H : Heap) (locs : List Loc) (ls : Array Slot), F_X9_wordAt_j96 i18 i24 = some q16_ → wHp D κ ρ 1 A s.heap H locs u0 → lv_has ls 8 [(0, .ref (ρ o1)), (1, .int i2), (2, .int i3), (3, .int i5), (4, .int i6), (5, .int i9), (7, .int i18)] → W p l e (wRm 0 0) s m args below meth c H locs 0 0 (wQI below args s A D κ ρ 1 (z, u0)) (F0 m 96 ls [.int i24]) := by
                  intro i24 H locs ls hF hH hl
                  unfold F_X9_wordAt_j96 at hF
                  refine wx_istore hx hb dX9_wordAt_96 hl (by decide) (fun ls hl => ?_)
                  have hl : lv_has ls 8 [(6, .int i24), (0, .ref (ρ o1)), (1, .int i2), (2, .int i3), (3, .int i5), (4, .int i6), (5, .int i9), (7, .int i18)] := hl
                  refine wx_iinc hx hb dX9_wordAt_98 k_iconst_1 hl (k := 7) rfl (by decide) hF (fun i25 ls hF hl => ?_)
                  have hl : lv_has ls 8 [(7, .int i25), (6, .int i24), (0, .ref (ρ o1)), (1, .int i2), (2, .int i3), (3, .int i5), (4, .int i6), (5, .int i9)] := hl
                  refine lv_goto hx hb dX9_wordAt_101 (tgt := 57) rfl ?_
                  have hF := wJ_l hq16 hF
                  exact ih16 i24 i25 H locs ls hF hH (lv_sub hl [2, 3, 4, 5, 6, 7, 1, 0] rfl)
                refine lv_icmp_ne hx hb dX9_wordAt_88 (tgt := 95) rfl (fun h => ?_) (fun h => ?_)
                · have hF := wx_f h hF
                  refine lv_iconst hx hb dX9_wordAt_95 k_iconst_0 ?_
                  have hF := wJ_l hq23 hF
                  exact hJ96 (0 : Int32) H locs ls hF hH (lv_sub hl [0, 1, 2, 3, 4, 5, 7] rfl)
                have hF := wx_t h hF
                refine lv_iconst hx hb dX9_wordAt_91 k_iconst_1 ?_
                refine lv_goto hx hb dX9_wordAt_92 (tgt := 96) rfl ?_
                have hF := wJ_l hq23 hF
                exact hJ96 (1 : Int32) H locs ls hF hH (lv_sub hl [0, 1, 2, 3, 4, 5, 7] rfl)
            exact hL57 wFu i11 (0 : Int32) H locs ls hF hH (lv_sub hl [2, 3, 4, 5, 6, 7, 1, 0] rfl)
          refine lv_icmp_ne hx hb dX9_wordAt_44 (tgt := 51) rfl (fun h => ?_) (fun h => ?_)
          · have hF := wx_f h hF
            refine lv_iconst hx hb dX9_wordAt_51 k_iconst_0 ?_
            have hF := wJ_l hq10 hF
            exact hJ52 (0 : Int32) H locs ls hF hH (lv_sub hl [0, 1, 2, 3, 4, 5] rfl)
          have hF := wx_t h hF
          refine lv_iconst hx hb dX9_wordAt_47 k_iconst_1 ?_
          refine lv_goto hx hb dX9_wordAt_48 (tgt := 52) rfl ?_
          have hF := wJ_l hq10 hF
          exact hJ52 (1 : Int32) H locs ls hF hH (lv_sub hl [0, 1, 2, 3, 4, 5] rfl)
        have hL18 : ∀ (k26_ : Nat) (i27 : Int32) (H : Heap) (locs : List Loc) (ls : Array Slot), wL (S := Int32) (fun x => F_X9_wordAt_b18 u0 o1 i6 x) k26_ i27 = some q8_ → wHp D κ ρ 1 A s.heap H locs u0 → lv_has ls 8 [(0, .ref (ρ o1)), (1, .int i2), (2, .int i3), (3, .int i5), (4, .int i6), (5, .int i27)] → W p l e (wRm 0 0) s m args below meth c H locs 0 0 (wQI below args s A D κ ρ 1 (z, u0)) (F0 m 18 ls []) := by
          intro k26_
          induction k26_ with
          | zero => intro i27 H locs ls hF; exact wL_zero hF
          | succ k26_ ih26 =>
            intro i27 H locs ls hF hH hl
            obtain ⟨q26_, hF, hq26⟩ := wL_some hF
            have hF : F_X9_wordAt_b18 u0 o1 i6 i27 = some q26_ := hF
            unfold F_X9_wordAt_b18 at hF
            refine lv_aload_n hx hb dX9_wordAt_18 rfl (lv_at hl 0 rfl) ?_
            refine wx_getR hC hH h_o1 rfl f_X9_13 dX9_wordAt_19 hF (fun o28 h_o28 hF => ?_)
            refine lv_iload hx hb dX9_wordAt_22 (lv_at hl 4 rfl) ?_
            refine lv_iload hx hb dX9_wordAt_24 (lv_at hl 5 rfl) ?_
            refine lv_iadd hx hb dX9_wordAt_26 ?_
            refine wx_iald hC hH h_o28 ⟨rfl, rfl⟩ dX9_wordAt_27 hF (fun j29 hF => ?_)
            refine lv_bipush hx hb dX9_wordAt_28 k_bipush_32 ?_
            refine lv_icmp_eq hx hb dX9_wordAt_30 (tgt := 39) rfl (fun h => ?_) (fun h => ?_)
            · have hF := wx_t h hF
              have hF := wJ_r hq26 hF
              have hF := wJ_l hq8 hF
              exact hJ39 i27 H locs ls hF hH (lv_sub hl [0, 1, 2, 3, 4, 5] rfl)
            have hF := wx_f h hF
            refine wx_iinc hx hb dX9_wordAt_33 k_iconst_1 hl (k := 5) rfl (by decide) hF (fun i30 ls hF hl => ?_)
            have hl : lv_has ls 8 [(5, .int i30), (0, .ref (ρ o1)), (1, .int i2), (2, .int i3), (3, .int i5), (4, .int i6)] := hl
            refine lv_goto hx hb dX9_wordAt_36 (tgt := 18) rfl ?_
            have hF := wJ_l hq26 hF
            exact ih26 i30 H locs ls hF hH (lv_sub hl [1, 2, 3, 4, 5, 0] rfl)
        exact hL18 wFu (0 : Int32) H locs ls hF hH (lv_sub hl [1, 2, 3, 4, 5, 0] rfl)
    exact hL5 wFu (0 : Int32) (0 : Int32) H locs ls hF hH (lv_sub hl [2, 3, 4, 1, 0] rfl)
  exact key _ _ hH
def F_X9_isSmall (o1 : Nat) (i2 : Int32) (u0 : wSt) : Option Int32 :=
  if (u0.1 o1 6) ≤ i2 then (some ((0 : Int32))) else (wR (u0.2.2 o1 0) 14 (fun o3 => wN i2 o3 (fun j4 => if (u0.1 o3 j4) < (97 : Int32) then (some ((0 : Int32))) else (wR (u0.2.2 o1 0) 14 (fun o5 => wN i2 o5 (fun j6 => if (122 : Int32) < (u0.1 o5 j6) then (some ((0 : Int32))) else (some ((1 : Int32)))))))))
set_option maxRecDepth 100000 in
set_option maxHeartbeats 4000000 in
theorem c_X9_isSmall {l : Launch} {D : va_G} {κ : Nat → ClassId} {ρ : Nat → Nat} (o1 : Nat) (i2 : Int32) (h_o1 : (w_sh o1).1 = 9) : wMI l yX9_isSmall cX9_isSmall 2 .boolean (wRm 0 0) [.ref (ρ o1), .int i2] D κ ρ 1 (fun u => wPu (F_X9_isSmall o1 i2 u) u) := by
  refine wMP_of (F := fun u => F_X9_isSmall o1 i2 u) rfl (Nat.le_of_ble_eq_true rfl) (fun u0 z p e s m args below meth c ls A hF hC hr hlk hH hl => ?_)
  have hl : lv_has ls 2 [(0, .ref (ρ o1)), (1, .int i2)] := hl
  have hx := hC.1.1
  have hb := hC.1.2.1
  have hF : F_X9_isSmall o1 i2 u0 = some z := hF
  unfold F_X9_isSmall at hF
  change W p l e (wRm 0 0) s m args below meth c s.heap [] 0 0 (wQI below args s A D κ ρ 1 (z, u0)) (F0 m 0 ls [])
  have key : ∀ (H : Heap) (locs : List Loc), wHp D κ ρ 1 A s.heap H locs u0 → W p l e (wRm 0 0) s m args below meth c H locs 0 0 (wQI below args s A D κ ρ 1 (z, u0)) (F0 m 0 ls []) := by
    intro H locs hH
    refine lv_iload_n hx hb dX9_isSmall_0 rfl (lv_at hl 1 rfl) ?_
    refine lv_aload_n hx hb dX9_isSmall_1 rfl (lv_at hl 0 rfl) ?_
    refine wx_getI hC hH h_o1 rfl f_X9_154 dX9_isSmall_2 ?_
    refine lv_icmp_ge hx hb dX9_isSmall_5 (tgt := 34) rfl (fun h => ?_) (fun h => ?_)
    · have hF := wx_t h hF
      refine lv_iconst hx hb dX9_isSmall_34 k_iconst_0 ?_
      exact wx_zret hC hH hr hlk dX9_isSmall_35 (Or.inl rfl) (wx_pr hF)
    have hF := wx_f h hF
    refine lv_aload_n hx hb dX9_isSmall_8 rfl (lv_at hl 0 rfl) ?_
    refine wx_getR hC hH h_o1 rfl f_X9_7 dX9_isSmall_9 hF (fun o3 h_o3 hF => ?_)
    refine lv_iload_n hx hb dX9_isSmall_12 rfl (lv_at hl 1 rfl) ?_
    refine wx_iald hC hH h_o3 ⟨rfl, rfl⟩ dX9_isSmall_13 hF (fun j4 hF => ?_)
    refine lv_bipush hx hb dX9_isSmall_14 k_bipush_97 ?_
    refine lv_icmp_lt hx hb dX9_isSmall_16 (tgt := 34) rfl (fun h => ?_) (fun h => ?_)
    · have hF := wx_t h hF
      refine lv_iconst hx hb dX9_isSmall_34 k_iconst_0 ?_
      exact wx_zret hC hH hr hlk dX9_isSmall_35 (Or.inl rfl) (wx_pr hF)
    have hF := wx_f h hF
    refine lv_aload_n hx hb dX9_isSmall_19 rfl (lv_at hl 0 rfl) ?_
    refine wx_getR hC hH h_o1 rfl f_X9_7 dX9_isSmall_20 hF (fun o5 h_o5 hF => ?_)
    refine lv_iload_n hx hb dX9_isSmall_23 rfl (lv_at hl 1 rfl) ?_
    refine wx_iald hC hH h_o5 ⟨rfl, rfl⟩ dX9_isSmall_24 hF (fun j6 hF => ?_)
    refine lv_bipush hx hb dX9_isSmall_25 k_bipush_122 ?_
    refine lv_icmp_gt hx hb dX9_isSmall_27 (tgt := 34) rfl (fun h => ?_) (fun h => ?_)
    · have hF := wx_t h hF
      refine lv_iconst hx hb dX9_isSmall_34 k_iconst_0 ?_
      exact wx_zret hC hH hr hlk dX9_isSmall_35 (Or.inl rfl) (wx_pr hF)
    have hF := wx_f h hF
    refine lv_iconst hx hb dX9_isSmall_30 k_iconst_1 ?_
    refine lv_goto hx hb dX9_isSmall_31 (tgt := 35) rfl ?_
    exact wx_zret hC hH hr hlk dX9_isSmall_35 (Or.inr rfl) (wx_pr hF)
  exact key _ _ hH
def F_X9_isDigit (o1 : Nat) (i2 : Int32) (u0 : wSt) : Option Int32 :=
  if (u0.1 o1 6) ≤ i2 then (some ((0 : Int32))) else (wR (u0.2.2 o1 0) 14 (fun o3 => wN i2 o3 (fun j4 => if (u0.1 o3 j4) < (48 : Int32) then (some ((0 : Int32))) else (wR (u0.2.2 o1 0) 14 (fun o5 => wN i2 o5 (fun j6 => if (57 : Int32) < (u0.1 o5 j6) then (some ((0 : Int32))) else (some ((1 : Int32)))))))))
set_option maxRecDepth 100000 in
set_option maxHeartbeats 4000000 in
theorem c_X9_isDigit {l : Launch} {D : va_G} {κ : Nat → ClassId} {ρ : Nat → Nat} (o1 : Nat) (i2 : Int32) (h_o1 : (w_sh o1).1 = 9) : wMI l yX9_isDigit cX9_isDigit 2 .boolean (wRm 0 0) [.ref (ρ o1), .int i2] D κ ρ 1 (fun u => wPu (F_X9_isDigit o1 i2 u) u) := by
  refine wMP_of (F := fun u => F_X9_isDigit o1 i2 u) rfl (Nat.le_of_ble_eq_true rfl) (fun u0 z p e s m args below meth c ls A hF hC hr hlk hH hl => ?_)
  have hl : lv_has ls 2 [(0, .ref (ρ o1)), (1, .int i2)] := hl
  have hx := hC.1.1
  have hb := hC.1.2.1
  have hF : F_X9_isDigit o1 i2 u0 = some z := hF
  unfold F_X9_isDigit at hF
  change W p l e (wRm 0 0) s m args below meth c s.heap [] 0 0 (wQI below args s A D κ ρ 1 (z, u0)) (F0 m 0 ls [])
  have key : ∀ (H : Heap) (locs : List Loc), wHp D κ ρ 1 A s.heap H locs u0 → W p l e (wRm 0 0) s m args below meth c H locs 0 0 (wQI below args s A D κ ρ 1 (z, u0)) (F0 m 0 ls []) := by
    intro H locs hH
    refine lv_iload_n hx hb dX9_isDigit_0 rfl (lv_at hl 1 rfl) ?_
    refine lv_aload_n hx hb dX9_isDigit_1 rfl (lv_at hl 0 rfl) ?_
    refine wx_getI hC hH h_o1 rfl f_X9_154 dX9_isDigit_2 ?_
    refine lv_icmp_ge hx hb dX9_isDigit_5 (tgt := 34) rfl (fun h => ?_) (fun h => ?_)
    · have hF := wx_t h hF
      refine lv_iconst hx hb dX9_isDigit_34 k_iconst_0 ?_
      exact wx_zret hC hH hr hlk dX9_isDigit_35 (Or.inl rfl) (wx_pr hF)
    have hF := wx_f h hF
    refine lv_aload_n hx hb dX9_isDigit_8 rfl (lv_at hl 0 rfl) ?_
    refine wx_getR hC hH h_o1 rfl f_X9_7 dX9_isDigit_9 hF (fun o3 h_o3 hF => ?_)
    refine lv_iload_n hx hb dX9_isDigit_12 rfl (lv_at hl 1 rfl) ?_
    refine wx_iald hC hH h_o3 ⟨rfl, rfl⟩ dX9_isDigit_13 hF (fun j4 hF => ?_)
    refine lv_bipush hx hb dX9_isDigit_14 k_bipush_48 ?_
    refine lv_icmp_lt hx hb dX9_isDigit_16 (tgt := 34) rfl (fun h => ?_) (fun h => ?_)
    · have hF := wx_t h hF
      refine lv_iconst hx hb dX9_isDigit_34 k_iconst_0 ?_
      exact wx_zret hC hH hr hlk dX9_isDigit_35 (Or.inl rfl) (wx_pr hF)
    have hF := wx_f h hF
    refine lv_aload_n hx hb dX9_isDigit_19 rfl (lv_at hl 0 rfl) ?_
    refine wx_getR hC hH h_o1 rfl f_X9_7 dX9_isDigit_20 hF (fun o5 h_o5 hF => ?_)
    refine lv_iload_n hx hb dX9_isDigit_23 rfl (lv_at hl 1 rfl) ?_
    refine wx_iald hC hH h_o5 ⟨rfl, rfl⟩ dX9_isDigit_24 hF (fun j6 hF => ?_)
    refine lv_bipush hx hb dX9_isDigit_25 k_bipush_57 ?_
    refine lv_icmp_gt hx hb dX9_isDigit_27 (tgt := 34) rfl (fun h => ?_) (fun h => ?_)
    · have hF := wx_t h hF
      refine lv_iconst hx hb dX9_isDigit_34 k_iconst_0 ?_
      exact wx_zret hC hH hr hlk dX9_isDigit_35 (Or.inl rfl) (wx_pr hF)
    have hF := wx_f h hF
    refine lv_iconst hx hb dX9_isDigit_30 k_iconst_1 ?_
    refine lv_goto hx hb dX9_isDigit_31 (tgt := 35) rfl ?_
    exact wx_zret hC hH hr hlk dX9_isDigit_35 (Or.inr rfl) (wx_pr hF)
  exact key _ _ hH
def F_X9_packed_j37 (i5 : Int32) (i6 : Int32) (i8 : Int32) : Option ((Int32 × Int32) ⊕ Int32) :=
  wB ((i5 <<< ((5 : Int32) &&& 31)) ||| i8) (fun (i9 : Int32) => wB (i6 + (1 : Int32)) (fun (i10 : Int32) => some (.inl (i9, i10))))
def F_X9_packed_b5 (i2 : Int32) (i3 : Int32) (u0 : wSt) (o1 : Nat) (i5 : Int32) (i6 : Int32) : Option ((Int32 × Int32) ⊕ Int32) :=
  if (i2 + (6 : Int32)) ≤ i6 then (some (.inr (i5))) else (wJ (X := Int32) (if i3 ≤ i6 then (some (.inl (0 : Int32))) else (wR (u0.2.2 o1 0) 14 (fun o11 => wN i6 o11 (fun j12 => some (.inl ((u0.1 o11 j12) - (96 : Int32))))))) (fun x => F_X9_packed_j37 i5 i6 x))
def F_X9_packed (o1 : Nat) (i2 : Int32) (i3 : Int32) (u0 : wSt) : Option Int32 :=
  wL (S := Int32 × Int32) (fun x => F_X9_packed_b5 i2 i3 u0 o1 x.1 x.2) wFu ((0 : Int32), i2)
set_option maxRecDepth 100000 in
set_option maxHeartbeats 4000000 in
theorem c_X9_packed {l : Launch} {D : va_G} {κ : Nat → ClassId} {ρ : Nat → Nat} (o1 : Nat) (i2 : Int32) (i3 : Int32) (h_o1 : (w_sh o1).1 = 9) : wMI l yX9_packed cX9_packed 5 .int (wRm 0 0) [.ref (ρ o1), .int i2, .int i3] D κ ρ 1 (fun u => wPu (F_X9_packed o1 i2 i3 u) u) := by
  refine wMP_of (F := fun u => F_X9_packed o1 i2 i3 u) rfl (Nat.le_of_ble_eq_true rfl) (fun u0 z p e s m args below meth c ls A hF hC hr hlk hH hl => ?_)
  have hl : lv_has ls 5 [(0, .ref (ρ o1)), (1, .int i2), (2, .int i3)] := hl
  have hx := hC.1.1
  have hb := hC.1.2.1
  have hF : F_X9_packed o1 i2 i3 u0 = some z := hF
  unfold F_X9_packed at hF
  change W p l e (wRm 0 0) s m args below meth c s.heap [] 0 0 (wQI below args s A D κ ρ 1 (z, u0)) (F0 m 0 ls [])
  have key : ∀ (H : Heap) (locs : List Loc), wHp D κ ρ 1 A s.heap H locs u0 → W p l e (wRm 0 0) s m args below meth c H locs 0 0 (wQI below args s A D κ ρ 1 (z, u0)) (F0 m 0 ls []) := by
    intro H locs hH
    refine lv_iconst hx hb dX9_packed_0 k_iconst_0 ?_
    refine wx_istore_n hx hb dX9_packed_1 rfl hl (by decide) (fun ls hl => ?_)
    have hl : lv_has ls 5 [(3, .int (0 : Int32)), (0, .ref (ρ o1)), (1, .int i2), (2, .int i3)] := hl
    refine lv_iload_n hx hb dX9_packed_2 rfl (lv_at hl 2 rfl) ?_
    refine wx_istore hx hb dX9_packed_3 hl (by decide) (fun ls hl => ?_)
    have hl : lv_has ls 5 [(4, .int i2), (3, .int (0 : Int32)), (0, .ref (ρ o1)), (1, .int i2), (2, .int i3)] := hl
    have hL5 : ∀ (k4_ : Nat) (i5 : Int32) (i6 : Int32) (H : Heap) (locs : List Loc) (ls : Array Slot), wL (S := Int32 × Int32) (fun x => F_X9_packed_b5 i2 i3 u0 o1 x.1 x.2) k4_ (i5, i6) = some z → wHp D κ ρ 1 A s.heap H locs u0 → lv_has ls 5 [(0, .ref (ρ o1)), (1, .int i2), (2, .int i3), (3, .int i5), (4, .int i6)] → W p l e (wRm 0 0) s m args below meth c H locs 0 0 (wQI below args s A D κ ρ 1 (z, u0)) (F0 m 5 ls []) := by
      intro k4_
      induction k4_ with
      | zero => intro i5 i6 H locs ls hF; exact wL_zero hF
      | succ k4_ ih4 =>
        intro i5 i6 H locs ls hF hH hl
        obtain ⟨q4_, hF, hq4⟩ := wL_some hF
        have hF : F_X9_packed_b5 i2 i3 u0 o1 i5 i6 = some q4_ := hF
        unfold F_X9_packed_b5 at hF
        refine lv_iload hx hb dX9_packed_5 (lv_at hl 4 rfl) ?_
        refine lv_iload_n hx hb dX9_packed_7 rfl (lv_at hl 1 rfl) ?_
        refine lv_bipush hx hb dX9_packed_8 k_bipush_6 ?_
        refine lv_iadd hx hb dX9_packed_10 ?_
        refine lv_icmp_ge hx hb dX9_packed_11 (tgt := 45) rfl (fun h => ?_) (fun h => ?_)
        · have hF := wx_t h hF
          refine lv_iload_n hx hb dX9_packed_45 rfl (lv_at hl 3 rfl) ?_
          have hF := wJ_r hq4 hF
          exact wx_iret hC hH hr hlk dX9_packed_46 (wx_pr hF)
        have hF := wx_f h hF
        refine lv_iload_n hx hb dX9_packed_14 rfl (lv_at hl 3 rfl) ?_
        refine lv_iconst hx hb dX9_packed_15 k_iconst_5 ?_
        refine lv_ishl hx hb dX9_packed_16 ?_
        refine lv_iload hx hb dX9_packed_17 (lv_at hl 4 rfl) ?_
        refine lv_iload_n hx hb dX9_packed_19 rfl (lv_at hl 2 rfl) ?_
        obtain ⟨q7_, hF, hq7⟩ := wJ_some hF
        have hJ37 : ∀ (i8 : Int32) (H : Heap) (locs : List Loc) (ls : Array Slot), F_X9_packed_j37 i5 i6 i8 = some q4_ → wHp D κ ρ 1 A s.heap H locs u0 → lv_has ls 5 [(0, .ref (ρ o1)), (1, .int i2), (2, .int i3), (4, .int i6)] → W p l e (wRm 0 0) s m args below meth c H locs 0 0 (wQI below args s A D κ ρ 1 (z, u0)) (F0 m 37 ls [.int i8, .int (i5 <<< ((5 : Int32) &&& 31))]) := by
          intro i8 H locs ls hF hH hl
          unfold F_X9_packed_j37 at hF
          refine lv_ior hx hb dX9_packed_37 ?_
          refine wx_leti hF (fun i9 hF => ?_)
          refine wx_istore_n hx hb dX9_packed_38 rfl hl (by decide) (fun ls hl => ?_)
          have hl : lv_has ls 5 [(3, .int i9), (0, .ref (ρ o1)), (1, .int i2), (2, .int i3), (4, .int i6)] := hl
          refine wx_iinc hx hb dX9_packed_39 k_iconst_1 hl (k := 4) rfl (by decide) hF (fun i10 ls hF hl => ?_)
          have hl : lv_has ls 5 [(4, .int i10), (3, .int i9), (0, .ref (ρ o1)), (1, .int i2), (2, .int i3)] := hl
          refine lv_goto hx hb dX9_packed_42 (tgt := 5) rfl ?_
          have hF := wJ_l hq4 hF
          exact ih4 i9 i10 H locs ls hF hH (lv_sub hl [2, 3, 4, 1, 0] rfl)
        refine lv_icmp_ge hx hb dX9_packed_20 (tgt := 36) rfl (fun h => ?_) (fun h => ?_)
        · have hF := wx_t h hF
          refine lv_iconst hx hb dX9_packed_36 k_iconst_0 ?_
          have hF := wJ_l hq7 hF
          exact hJ37 (0 : Int32) H locs ls hF hH (lv_sub hl [0, 1, 2, 4] rfl)
        have hF := wx_f h hF
        refine lv_aload_n hx hb dX9_packed_23 rfl (lv_at hl 0 rfl) ?_
        refine wx_getR hC hH h_o1 rfl f_X9_7 dX9_packed_24 hF (fun o11 h_o11 hF => ?_)
        refine lv_iload hx hb dX9_packed_27 (lv_at hl 4 rfl) ?_
        refine wx_iald hC hH h_o11 ⟨rfl, rfl⟩ dX9_packed_29 hF (fun j12 hF => ?_)
        refine lv_bipush hx hb dX9_packed_30 k_bipush_96 ?_
        refine lv_isub hx hb dX9_packed_32 ?_
        refine lv_goto hx hb dX9_packed_33 (tgt := 37) rfl ?_
        have hF := wJ_l hq7 hF
        exact hJ37 ((u0.1 o11 j12) - (96 : Int32)) H locs ls hF hH (lv_sub hl [0, 1, 2, 4] rfl)
    exact hL5 wFu (0 : Int32) i2 H locs ls hF hH (lv_sub hl [2, 3, 4, 1, 0] rfl)
  exact key _ _ hH
def F_X9_signToken_j192 (o1 : Nat) (i24 : Int32) (u25 : wSt) : Option (Unit × wSt) :=
  wB (w_sI u25 o1 9 i24) (fun (u26 : wSt) => some ((), u26))
def F_X9_signToken_j135 (o1 : Nat) (i16 : Int32) (i20 : Int32) (u21 : wSt) : Option (Unit × wSt) :=
  wB (w_sI u21 o1 8 (5 : Int32)) (fun (u22 : wSt) => wJ (X := Int32 × wSt) (if (u22.1 o1 9) = (61 : Int32) then (some (.inl ((2 : Int32), u22))) else (if (u22.1 o1 9) = (60 : Int32) then (if i16 = 0 then (if i20 = 0 then (some (.inl ((0 : Int32), u22))) else (some (.inl ((3 : Int32), u22)))) else (some (.inl ((1 : Int32), u22)))) else (if i16 = 0 then (some (.inl ((5 : Int32), u22))) else (some (.inl ((4 : Int32), u22)))))) (fun x => F_X9_signToken_j192 o1 x.1 x.2))
def F_X9_signToken_j125 (u7 : wSt) (o1 : Nat) (i27 : Int32) : Option ((Int32 × wSt) ⊕ (Unit × wSt)) :=
  wB (w_sI u7 o1 7 ((u7.1 o1 7) + (1 : Int32))) (fun (u28 : wSt) => some (.inl (i27, u28)))
def F_X9_signToken_j116 (u7 : wSt) (o1 : Nat) (i16 : Int32) (i17 : Int32) : Option (Unit × wSt) :=
  wJ (X := Int32 × wSt) (wJ (X := Int32) (if i16 = 0 then (if i17 = 0 then (some (.inr (.inl (i17, u7)))) else (some (.inl i17))) else (some (.inl i17))) (fun x => F_X9_signToken_j125 u7 o1 x)) (fun x => F_X9_signToken_j135 o1 i16 x.1 x.2)
def F_X9_signToken_j115 (i29 : Int32) : Option ((Int32 × Int32) ⊕ (Unit × wSt)) :=
  some (.inl (i29, (0 : Int32)))
def F_X9_signToken_j95 (u7 : wSt) (o1 : Nat) (i12 : Int32) (i13 : Int32) : Option (Unit × wSt) :=
  wJ (X := Int32 × Int32) (wJ (X := Int32) (if (u7.1 o1 9) = (60 : Int32) then (if i12 = (62 : Int32) then (some (.inr (.inl (i13, (1 : Int32))))) else (some (.inl i13))) else (some (.inl i13))) (fun x => F_X9_signToken_j115 x)) (fun x => F_X9_signToken_j116 u7 o1 x.1 x.2)
def F_X9_signToken_j94 (i30 : Int32) : Option ((Int32 × Int32) ⊕ (Unit × wSt)) :=
  some (.inl (i30, (0 : Int32)))
def F_X9_signToken_j74 (u7 : wSt) (o1 : Nat) (i9 : Int32) : Option (Unit × wSt) :=
  wJ (X := Int32 × Int32) (wJ (X := Int32) (if (u7.1 o1 9) = (61 : Int32) then (some (.inl i9)) else (if i9 = (61 : Int32) then (some (.inr (.inl (i9, (1 : Int32))))) else (some (.inl i9)))) (fun x => F_X9_signToken_j94 x)) (fun x => F_X9_signToken_j95 u7 o1 x.1 x.2)
def F_X9_signToken_j50 (o1 : Nat) (u7 : wSt) : Option (Unit × wSt) :=
  wJ (X := Int32) (if (u7.1 o1 6) ≤ (u7.1 o1 7) then (some (.inl (0 : Int32))) else (wR (u7.2.2 o1 0) 14 (fun o31 => wN (u7.1 o1 7) o31 (fun j32 => some (.inl (u7.1 o31 j32)))))) (fun x => F_X9_signToken_j74 u7 o1 x)
def F_X9_signToken_j287 (u5 : wSt) (o1 : Nat) (i37 : Int32) : Option ((wSt) ⊕ (Unit × wSt)) :=
  wB (w_sI u5 o1 8 i37) (fun (u38 : wSt) => some (.inr ((), u38)))
def F_X9_signToken_j275 (u5 : wSt) (o1 : Nat) (i35 : Int32) : Option ((wSt) ⊕ (Unit × wSt)) :=
  wJ (X := Int32) (if i35 = 0 then (some (.inl (6 : Int32))) else (some (.inl (4 : Int32)))) (fun x => F_X9_signToken_j287 u5 o1 x)
def F_X9_signToken_j270 : Option ((Int32) ⊕ ((wSt) ⊕ (Unit × wSt))) :=
  some (.inl (1 : Int32))
def F_X9_signToken (o1 : Nat) (u0 : wSt) : Option (Unit × wSt) :=
  wR (u0.2.2 o1 0) 14 (fun o2 => wN (u0.1 o1 7) o2 (fun j3 => wB (w_sI u0 o1 9 (u0.1 o2 j3)) (fun (u4 : wSt) => wB (w_sI u4 o1 7 ((u4.1 o1 7) + (1 : Int32))) (fun (u5 : wSt) => wJ (X := wSt) (if (u5.1 o1 9) = (60 : Int32) then (some (.inl u5)) else (if (u5.1 o1 9) = (62 : Int32) then (some (.inl u5)) else (if (u5.1 o1 9) = (61 : Int32) then (some (.inl u5)) else (wJ (X := Int32) (wJ (X := Unit) (if (u5.1 o1 9) = (59 : Int32) then (some (.inl ())) else (if (u5.1 o1 9) = (40 : Int32) then (some (.inl ())) else (if (u5.1 o1 9) = (41 : Int32) then (some (.inl ())) else (if (u5.1 o1 9) = (43 : Int32) then (some (.inl ())) else (if (u5.1 o1 9) = (45 : Int32) then (some (.inl ())) else (if (u5.1 o1 9) = (42 : Int32) then (some (.inl ())) else (if (u5.1 o1 9) = (47 : Int32) then (some (.inl ())) else (if (u5.1 o1 9) = (37 : Int32) then (some (.inl ())) else (some (.inr (.inl (0 : Int32)))))))))))) (fun x => F_X9_signToken_j270)) (fun x => F_X9_signToken_j275 u5 o1 x))))) (fun x => F_X9_signToken_j50 o1 x)))))
set_option maxRecDepth 100000 in
set_option maxHeartbeats 4000000 in
theorem c_X9_signToken {l : Launch} {D : va_G} {κ : Nat → ClassId} {ρ : Nat → Nat} (o1 : Nat) (h_o1 : (w_sh o1).1 = 9) : wMV l yX9_signToken cX9_signToken 4 (wRm 0 0) [.ref (ρ o1)] D κ ρ 1 (fun u => F_X9_signToken o1 u) := by
  refine wMV_of (F := fun u => F_X9_signToken o1 u) rfl (Nat.le_of_ble_eq_true rfl) (fun u0 z p e s m args below meth c ls A hF hC hr hlk hH hl => ?_)
  have hl : lv_has ls 4 [(0, .ref (ρ o1))] := hl
  have hx := hC.1.1
  have hb := hC.1.2.1
  have hF : F_X9_signToken o1 u0 = some z := hF
  unfold F_X9_signToken at hF
  change W p l e (wRm 0 0) s m args below meth c s.heap [] 0 0 (wQV below args s A D κ ρ 1 z) (F0 m 0 ls [])
  have key : ∀ (H : Heap) (locs : List Loc), wHp D κ ρ 1 A s.heap H locs u0 → W p l e (wRm 0 0) s m args below meth c H locs 0 0 (wQV below args s A D κ ρ 1 z) (F0 m 0 ls []) := by
    intro H locs hH
    refine lv_aload_n hx hb dX9_signToken_0 rfl (lv_at hl 0 rfl) ?_
    refine lv_aload_n hx hb dX9_signToken_1 rfl (lv_at hl 0 rfl) ?_
    refine wx_getR hC hH h_o1 rfl f_X9_7 dX9_signToken_2 hF (fun o2 h_o2 hF => ?_)
    refine lv_aload_n hx hb dX9_signToken_5 rfl (lv_at hl 0 rfl) ?_
    refine wx_getI hC hH h_o1 rfl f_X9_157 dX9_signToken_6 ?_
    refine wx_iald hC hH h_o2 ⟨rfl, rfl⟩ dX9_signToken_9 hF (fun j3 hF => ?_)
    refine wx_putI hC hH h_o1 rfl f_X9_171 g_9_9 dX9_signToken_10 hF (fun u4 H locs hF hH => ?_)
    refine lv_aload_n hx hb dX9_signToken_13 rfl (lv_at hl 0 rfl) ?_
    refine lv_dup hx hb dX9_signToken_14 rfl ?_
    refine wx_getI hC hH h_o1 rfl f_X9_157 dX9_signToken_15 ?_
    refine lv_iconst hx hb dX9_signToken_18 k_iconst_1 ?_
    refine lv_iadd hx hb dX9_signToken_19 ?_
    refine wx_putI hC hH h_o1 rfl f_X9_157 g_9_7 dX9_signToken_20 hF (fun u5 H locs hF hH => ?_)
    refine lv_aload_n hx hb dX9_signToken_23 rfl (lv_at hl 0 rfl) ?_
    refine wx_getI hC hH h_o1 rfl f_X9_171 dX9_signToken_24 ?_
    refine lv_bipush hx hb dX9_signToken_27 k_bipush_60 ?_
    obtain ⟨q6_, hF, hq6⟩ := wJ_some hF
    have hJ50 : ∀ (u7 : wSt) (H : Heap) (locs : List Loc) (ls : Array Slot), F_X9_signToken_j50 o1 u7 = some z → wHp D κ ρ 1 A s.heap H locs u7 → lv_has ls 4 [(0, .ref (ρ o1))] → W p l e (wRm 0 0) s m args below meth c H locs 0 0 (wQV below args s A D κ ρ 1 z) (F0 m 50 ls []) := by
      intro u7 H locs ls hF hH hl
      unfold F_X9_signToken_j50 at hF
      refine lv_aload_n hx hb dX9_signToken_50 rfl (lv_at hl 0 rfl) ?_
      refine wx_getI hC hH h_o1 rfl f_X9_157 dX9_signToken_51 ?_
      refine lv_aload_n hx hb dX9_signToken_54 rfl (lv_at hl 0 rfl) ?_
      refine wx_getI hC hH h_o1 rfl f_X9_154 dX9_signToken_55 ?_
      obtain ⟨q8_, hF, hq8⟩ := wJ_some hF
      have hJ74 : ∀ (i9 : Int32) (H : Heap) (locs : List Loc) (ls : Array Slot), F_X9_signToken_j74 u7 o1 i9 = some z → wHp D κ ρ 1 A s.heap H locs u7 → lv_has ls 4 [(0, .ref (ρ o1))] → W p l e (wRm 0 0) s m args below meth c H locs 0 0 (wQV below args s A D κ ρ 1 z) (F0 m 74 ls [.int i9]) := by
        intro i9 H locs ls hF hH hl
        unfold F_X9_signToken_j74 at hF
        refine wx_istore_n hx hb dX9_signToken_74 rfl hl (by decide) (fun ls hl => ?_)
        have hl : lv_has ls 4 [(1, .int i9), (0, .ref (ρ o1))] := hl
        refine lv_aload_n hx hb dX9_signToken_75 rfl (lv_at hl 1 rfl) ?_
        refine wx_getI hC hH h_o1 rfl f_X9_171 dX9_signToken_76 ?_
        refine lv_bipush hx hb dX9_signToken_79 k_bipush_61 ?_
        obtain ⟨q10_, hF, hq10⟩ := wJ_some hF
        obtain ⟨q11_, hF, hq11⟩ := wJ_some hF
        have hJ95 : ∀ (i12 : Int32) (i13 : Int32) (H : Heap) (locs : List Loc) (ls : Array Slot), F_X9_signToken_j95 u7 o1 i12 i13 = some z → wHp D κ ρ 1 A s.heap H locs u7 → lv_has ls 4 [(0, .ref (ρ o1)), (1, .int i12)] → W p l e (wRm 0 0) s m args below meth c H locs 0 0 (wQV below args s A D κ ρ 1 z) (F0 m 95 ls [.int i13]) := by
          intro i12 i13 H locs ls hF hH hl
          unfold F_X9_signToken_j95 at hF
          refine wx_istore_n hx hb dX9_signToken_95 rfl hl (by decide) (fun ls hl => ?_)
          have hl : lv_has ls 4 [(2, .int i13), (0, .ref (ρ o1)), (1, .int i12)] := hl
          refine lv_aload_n hx hb dX9_signToken_96 rfl (lv_at hl 1 rfl) ?_
          refine wx_getI hC hH h_o1 rfl f_X9_171 dX9_signToken_97 ?_
          refine lv_bipush hx hb dX9_signToken_100 k_bipush_60 ?_
          obtain ⟨q14_, hF, hq14⟩ := wJ_some hF
          obtain ⟨q15_, hF, hq15⟩ := wJ_some hF
          have hJ116 : ∀ (i16 : Int32) (i17 : Int32) (H : Heap) (locs : List Loc) (ls : Array Slot), F_X9_signToken_j116 u7 o1 i16 i17 = some z → wHp D κ ρ 1 A s.heap H locs u7 → lv_has ls 4 [(0, .ref (ρ o1)), (2, .int i16)] → W p l e (wRm 0 0) s m args below meth c H locs 0 0 (wQV below args s A D κ ρ 1 z) (F0 m 116 ls [.int i17]) := by
            intro i16 i17 H locs ls hF hH hl
            unfold F_X9_signToken_j116 at hF
            refine wx_istore_n hx hb dX9_signToken_116 rfl hl (by decide) (fun ls hl => ?_)
            have hl : lv_has ls 4 [(3, .int i17), (0, .ref (ρ o1)), (2, .int i16)] := hl
            refine lv_iload_n hx hb dX9_signToken_117 rfl (lv_at hl 2 rfl) ?_
            obtain ⟨q18_, hF, hq18⟩ := wJ_some hF
            obtain ⟨q19_, hF, hq19⟩ := wJ_some hF
            have hJ135 : ∀ (i20 : Int32) (u21 : wSt) (H : Heap) (locs : List Loc) (ls : Array Slot), F_X9_signToken_j135 o1 i16 i20 u21 = some z → wHp D κ ρ 1 A s.heap H locs u21 → lv_has ls 4 [(0, .ref (ρ o1)), (2, .int i16), (3, .int i20)] → W p l e (wRm 0 0) s m args below meth c H locs 0 0 (wQV below args s A D κ ρ 1 z) (F0 m 135 ls []) := by
              intro i20 u21 H locs ls hF hH hl
              unfold F_X9_signToken_j135 at hF
              refine lv_aload_n hx hb dX9_signToken_135 rfl (lv_at hl 0 rfl) ?_
              refine lv_iconst hx hb dX9_signToken_136 k_iconst_5 ?_
              refine wx_putI hC hH h_o1 rfl f_X9_160 g_9_8 dX9_signToken_137 hF (fun u22 H locs hF hH => ?_)
              refine lv_aload_n hx hb dX9_signToken_140 rfl (lv_at hl 0 rfl) ?_
              refine lv_aload_n hx hb dX9_signToken_141 rfl (lv_at hl 0 rfl) ?_
              refine wx_getI hC hH h_o1 rfl f_X9_171 dX9_signToken_142 ?_
              refine lv_bipush hx hb dX9_signToken_145 k_bipush_61 ?_
              obtain ⟨q23_, hF, hq23⟩ := wJ_some hF
              have hJ192 : ∀ (i24 : Int32) (u25 : wSt) (H : Heap) (locs : List Loc) (ls : Array Slot), F_X9_signToken_j192 o1 i24 u25 = some z → wHp D κ ρ 1 A s.heap H locs u25 → lv_has ls 4 [] → W p l e (wRm 0 0) s m args below meth c H locs 0 0 (wQV below args s A D κ ρ 1 z) (F0 m 192 ls [.int i24, .ref (ρ o1)]) := by
                intro i24 u25 H locs ls hF hH hl
                unfold F_X9_signToken_j192 at hF
                refine wx_putI hC hH h_o1 rfl f_X9_171 g_9_9 dX9_signToken_192 hF (fun u26 H locs hF hH => ?_)
                refine lv_goto hx hb dX9_signToken_195 (tgt := 290) rfl ?_
                exact wx_vret hC hH hr hlk dX9_signToken_290 hF
              refine lv_icmp_ne hx hb dX9_signToken_147 (tgt := 154) rfl (fun h => ?_) (fun h => ?_)
              · have hF := wx_f h hF
                refine lv_aload_n hx hb dX9_signToken_154 rfl (lv_at hl 0 rfl) ?_
                refine wx_getI hC hH h_o1 rfl f_X9_171 dX9_signToken_155 ?_
                refine lv_bipush hx hb dX9_signToken_158 k_bipush_60 ?_
                refine lv_icmp_ne hx hb dX9_signToken_160 (tgt := 183) rfl (fun h => ?_) (fun h => ?_)
                · have hF := wx_f h hF
                  refine lv_iload_n hx hb dX9_signToken_183 rfl (lv_at hl 1 rfl) ?_
                  refine lv_if_eq hx hb dX9_signToken_184 (tgt := 191) rfl (fun h => ?_) (fun h => ?_)
                  · have hF := wx_t h hF
                    refine lv_iconst hx hb dX9_signToken_191 k_iconst_5 ?_
                    have hF := wJ_l hq23 hF
                    exact hJ192 (5 : Int32) u22 H locs ls hF hH (lv_sub hl [] rfl)
                  have hF := wx_f h hF
                  refine lv_iconst hx hb dX9_signToken_187 k_iconst_4 ?_
                  refine lv_goto hx hb dX9_signToken_188 (tgt := 192) rfl ?_
                  have hF := wJ_l hq23 hF
                  exact hJ192 (4 : Int32) u22 H locs ls hF hH (lv_sub hl [] rfl)
                have hF := wx_t h hF
                refine lv_iload_n hx hb dX9_signToken_163 rfl (lv_at hl 1 rfl) ?_
                refine lv_if_eq hx hb dX9_signToken_164 (tgt := 171) rfl (fun h => ?_) (fun h => ?_)
                · have hF := wx_t h hF
                  refine lv_iload_n hx hb dX9_signToken_171 rfl (lv_at hl 2 rfl) ?_
                  refine lv_if_eq hx hb dX9_signToken_172 (tgt := 179) rfl (fun h => ?_) (fun h => ?_)
                  · have hF := wx_t h hF
                    refine lv_iconst hx hb dX9_signToken_179 k_iconst_0 ?_
                    refine lv_goto hx hb dX9_signToken_180 (tgt := 192) rfl ?_
                    have hF := wJ_l hq23 hF
                    exact hJ192 (0 : Int32) u22 H locs ls hF hH (lv_sub hl [] rfl)
                  have hF := wx_f h hF
                  refine lv_iconst hx hb dX9_signToken_175 k_iconst_3 ?_
                  refine lv_goto hx hb dX9_signToken_176 (tgt := 192) rfl ?_
                  have hF := wJ_l hq23 hF
                  exact hJ192 (3 : Int32) u22 H locs ls hF hH (lv_sub hl [] rfl)
                have hF := wx_f h hF
                refine lv_iconst hx hb dX9_signToken_167 k_iconst_1 ?_
                refine lv_goto hx hb dX9_signToken_168 (tgt := 192) rfl ?_
                have hF := wJ_l hq23 hF
                exact hJ192 (1 : Int32) u22 H locs ls hF hH (lv_sub hl [] rfl)
              have hF := wx_t h hF
              refine lv_iconst hx hb dX9_signToken_150 k_iconst_2 ?_
              refine lv_goto hx hb dX9_signToken_151 (tgt := 192) rfl ?_
              have hF := wJ_l hq23 hF
              exact hJ192 (2 : Int32) u22 H locs ls hF hH (lv_sub hl [] rfl)
            have hJ125 : ∀ (i27 : Int32) (H : Heap) (locs : List Loc) (ls : Array Slot), F_X9_signToken_j125 u7 o1 i27 = some q18_ → wHp D κ ρ 1 A s.heap H locs u7 → lv_has ls 4 [(0, .ref (ρ o1)), (2, .int i16), (3, .int i27)] → W p l e (wRm 0 0) s m args below meth c H locs 0 0 (wQV below args s A D κ ρ 1 z) (F0 m 125 ls []) := by
              intro i27 H locs ls hF hH hl
              unfold F_X9_signToken_j125 at hF
              refine lv_aload_n hx hb dX9_signToken_125 rfl (lv_at hl 0 rfl) ?_
              refine lv_dup hx hb dX9_signToken_126 rfl ?_
              refine wx_getI hC hH h_o1 rfl f_X9_157 dX9_signToken_127 ?_
              refine lv_iconst hx hb dX9_signToken_130 k_iconst_1 ?_
              refine lv_iadd hx hb dX9_signToken_131 ?_
              refine wx_putI hC hH h_o1 rfl f_X9_157 g_9_7 dX9_signToken_132 hF (fun u28 H locs hF hH => ?_)
              have hF := wJ_l hq18 hF
              exact hJ135 i27 u28 H locs ls hF hH (lv_sub hl [0, 1, 2] rfl)
            refine lv_if_ne hx hb dX9_signToken_118 (tgt := 125) rfl (fun h => ?_) (fun h => ?_)
            · have hF := wx_f h hF
              have hF := wJ_l hq19 hF
              exact hJ125 i17 H locs ls hF hH (lv_sub hl [1, 2, 0] rfl)
            have hF := wx_t h hF
            refine lv_iload_n hx hb dX9_signToken_121 rfl (lv_at hl 0 rfl) ?_
            refine lv_if_eq hx hb dX9_signToken_122 (tgt := 135) rfl (fun h => ?_) (fun h => ?_)
            · have hF := wx_t h hF
              have hF := wJ_r hq19 hF
              have hF := wJ_l hq18 hF
              exact hJ135 i17 u7 H locs ls hF hH (lv_sub hl [1, 2, 0] rfl)
            have hF := wx_f h hF
            have hF := wJ_l hq19 hF
            exact hJ125 i17 H locs ls hF hH (lv_sub hl [1, 2, 0] rfl)
          have hJ115 : ∀ (i29 : Int32) (H : Heap) (locs : List Loc) (ls : Array Slot), F_X9_signToken_j115 i29 = some q14_ → wHp D κ ρ 1 A s.heap H locs u7 → lv_has ls 4 [(0, .ref (ρ o1)), (2, .int i29)] → W p l e (wRm 0 0) s m args below meth c H locs 0 0 (wQV below args s A D κ ρ 1 z) (F0 m 115 ls []) := by
            intro i29 H locs ls hF hH hl
            unfold F_X9_signToken_j115 at hF
            refine lv_iconst hx hb dX9_signToken_115 k_iconst_0 ?_
            have hF := wJ_l hq14 hF
            exact hJ116 i29 (0 : Int32) H locs ls hF hH (lv_sub hl [0, 1] rfl)
          refine lv_icmp_ne hx hb dX9_signToken_102 (tgt := 115) rfl (fun h => ?_) (fun h => ?_)
          · have hF := wx_f h hF
            have hF := wJ_l hq15 hF
            exact hJ115 i13 H locs ls hF hH (lv_sub hl [1, 0] rfl)
          have hF := wx_t h hF
          refine lv_iload_n hx hb dX9_signToken_105 rfl (lv_at hl 2 rfl) ?_
          refine lv_bipush hx hb dX9_signToken_106 k_bipush_62 ?_
          refine lv_icmp_ne hx hb dX9_signToken_108 (tgt := 115) rfl (fun h => ?_) (fun h => ?_)
          · have hF := wx_f h hF
            have hF := wJ_l hq15 hF
            exact hJ115 i13 H locs ls hF hH (lv_sub hl [1, 0] rfl)
          have hF := wx_t h hF
          refine lv_iconst hx hb dX9_signToken_111 k_iconst_1 ?_
          refine lv_goto hx hb dX9_signToken_112 (tgt := 116) rfl ?_
          have hF := wJ_r hq15 hF
          have hF := wJ_l hq14 hF
          exact hJ116 i13 (1 : Int32) H locs ls hF hH (lv_sub hl [1, 0] rfl)
        have hJ94 : ∀ (i30 : Int32) (H : Heap) (locs : List Loc) (ls : Array Slot), F_X9_signToken_j94 i30 = some q10_ → wHp D κ ρ 1 A s.heap H locs u7 → lv_has ls 4 [(0, .ref (ρ o1)), (1, .int i30)] → W p l e (wRm 0 0) s m args below meth c H locs 0 0 (wQV below args s A D κ ρ 1 z) (F0 m 94 ls []) := by
          intro i30 H locs ls hF hH hl
          unfold F_X9_signToken_j94 at hF
          refine lv_iconst hx hb dX9_signToken_94 k_iconst_0 ?_
          have hF := wJ_l hq10 hF
          exact hJ95 i30 (0 : Int32) H locs ls hF hH (lv_sub hl [0, 1] rfl)
        refine lv_icmp_eq hx hb dX9_signToken_81 (tgt := 94) rfl (fun h => ?_) (fun h => ?_)
        · have hF := wx_t h hF
          have hF := wJ_l hq11 hF
          exact hJ94 i9 H locs ls hF hH (lv_sub hl [1, 0] rfl)
        have hF := wx_f h hF
        refine lv_iload_n hx hb dX9_signToken_84 rfl (lv_at hl 0 rfl) ?_
        refine lv_bipush hx hb dX9_signToken_85 k_bipush_61 ?_
        refine lv_icmp_ne hx hb dX9_signToken_87 (tgt := 94) rfl (fun h => ?_) (fun h => ?_)
        · have hF := wx_f h hF
          have hF := wJ_l hq11 hF
          exact hJ94 i9 H locs ls hF hH (lv_sub hl [1, 0] rfl)
        have hF := wx_t h hF
        refine lv_iconst hx hb dX9_signToken_90 k_iconst_1 ?_
        refine lv_goto hx hb dX9_signToken_91 (tgt := 95) rfl ?_
        have hF := wJ_r hq11 hF
        have hF := wJ_l hq10 hF
        exact hJ95 i9 (1 : Int32) H locs ls hF hH (lv_sub hl [1, 0] rfl)
      refine lv_icmp_ge hx hb dX9_signToken_58 (tgt := 73) rfl (fun h => ?_) (fun h => ?_)
      · have hF := wx_t h hF
        refine lv_iconst hx hb dX9_signToken_73 k_iconst_0 ?_
        have hF := wJ_l hq8 hF
        exact hJ74 (0 : Int32) H locs ls hF hH (lv_sub hl [0] rfl)
      have hF := wx_f h hF
      refine lv_aload_n hx hb dX9_signToken_61 rfl (lv_at hl 0 rfl) ?_
      refine wx_getR hC hH h_o1 rfl f_X9_7 dX9_signToken_62 hF (fun o31 h_o31 hF => ?_)
      refine lv_aload_n hx hb dX9_signToken_65 rfl (lv_at hl 0 rfl) ?_
      refine wx_getI hC hH h_o1 rfl f_X9_157 dX9_signToken_66 ?_
      refine wx_iald hC hH h_o31 ⟨rfl, rfl⟩ dX9_signToken_69 hF (fun j32 hF => ?_)
      refine lv_goto hx hb dX9_signToken_70 (tgt := 74) rfl ?_
      have hF := wJ_l hq8 hF
      exact hJ74 (u7.1 o31 j32) H locs ls hF hH (lv_sub hl [0] rfl)
    refine lv_icmp_eq hx hb dX9_signToken_29 (tgt := 50) rfl (fun h => ?_) (fun h => ?_)
    · have hF := wx_t h hF
      have hF := wJ_l hq6 hF
      exact hJ50 u5 H locs ls hF hH (lv_sub hl [0] rfl)
    have hF := wx_f h hF
    refine lv_aload_n hx hb dX9_signToken_32 rfl (lv_at hl 0 rfl) ?_
    refine wx_getI hC hH h_o1 rfl f_X9_171 dX9_signToken_33 ?_
    refine lv_bipush hx hb dX9_signToken_36 k_bipush_62 ?_
    refine lv_icmp_eq hx hb dX9_signToken_38 (tgt := 50) rfl (fun h => ?_) (fun h => ?_)
    · have hF := wx_t h hF
      have hF := wJ_l hq6 hF
      exact hJ50 u5 H locs ls hF hH (lv_sub hl [0] rfl)
    have hF := wx_f h hF
    refine lv_aload_n hx hb dX9_signToken_41 rfl (lv_at hl 0 rfl) ?_
    refine wx_getI hC hH h_o1 rfl f_X9_171 dX9_signToken_42 ?_
    refine lv_bipush hx hb dX9_signToken_45 k_bipush_61 ?_
    refine lv_icmp_ne hx hb dX9_signToken_47 (tgt := 198) rfl (fun h => ?_) (fun h => ?_)
    · have hF := wx_f h hF
      refine lv_aload_n hx hb dX9_signToken_198 rfl (lv_at hl 0 rfl) ?_
      refine wx_getI hC hH h_o1 rfl f_X9_171 dX9_signToken_199 ?_
      refine lv_bipush hx hb dX9_signToken_202 k_bipush_59 ?_
      obtain ⟨q33_, hF, hq33⟩ := wJ_some hF
      obtain ⟨q34_, hF, hq34⟩ := wJ_some hF
      have hJ275 : ∀ (i35 : Int32) (H : Heap) (locs : List Loc) (ls : Array Slot), F_X9_signToken_j275 u5 o1 i35 = some q6_ → wHp D κ ρ 1 A s.heap H locs u5 → lv_has ls 4 [(0, .ref (ρ o1))] → W p l e (wRm 0 0) s m args below meth c H locs 0 0 (wQV below args s A D κ ρ 1 z) (F0 m 275 ls [.int i35]) := by
        intro i35 H locs ls hF hH hl
        unfold F_X9_signToken_j275 at hF
        refine wx_istore_n hx hb dX9_signToken_275 rfl hl (by decide) (fun ls hl => ?_)
        have hl : lv_has ls 4 [(1, .int i35), (0, .ref (ρ o1))] := hl
        refine lv_aload_n hx hb dX9_signToken_276 rfl (lv_at hl 1 rfl) ?_
        refine lv_iload_n hx hb dX9_signToken_277 rfl (lv_at hl 0 rfl) ?_
        obtain ⟨q36_, hF, hq36⟩ := wJ_some hF
        have hJ287 : ∀ (i37 : Int32) (H : Heap) (locs : List Loc) (ls : Array Slot), F_X9_signToken_j287 u5 o1 i37 = some q6_ → wHp D κ ρ 1 A s.heap H locs u5 → lv_has ls 4 [] → W p l e (wRm 0 0) s m args below meth c H locs 0 0 (wQV below args s A D κ ρ 1 z) (F0 m 287 ls [.int i37, .ref (ρ o1)]) := by
          intro i37 H locs ls hF hH hl
          unfold F_X9_signToken_j287 at hF
          refine wx_putI hC hH h_o1 rfl f_X9_160 g_9_8 dX9_signToken_287 hF (fun u38 H locs hF hH => ?_)
          have hF := wJ_r hq6 hF
          exact wx_vret hC hH hr hlk dX9_signToken_290 hF
        refine lv_if_eq hx hb dX9_signToken_278 (tgt := 285) rfl (fun h => ?_) (fun h => ?_)
        · have hF := wx_t h hF
          refine lv_bipush hx hb dX9_signToken_285 k_bipush_6 ?_
          have hF := wJ_l hq36 hF
          exact hJ287 (6 : Int32) H locs ls hF hH (lv_sub hl [] rfl)
        have hF := wx_f h hF
        refine lv_iconst hx hb dX9_signToken_281 k_iconst_4 ?_
        refine lv_goto hx hb dX9_signToken_282 (tgt := 287) rfl ?_
        have hF := wJ_l hq36 hF
        exact hJ287 (4 : Int32) H locs ls hF hH (lv_sub hl [] rfl)
      have hJ270 : ∀ (H : Heap) (locs : List Loc) (ls : Array Slot), F_X9_signToken_j270 = some q33_ → wHp D κ ρ 1 A s.heap H locs u5 → lv_has ls 4 [(0, .ref (ρ o1))] → W p l e (wRm 0 0) s m args below meth c H locs 0 0 (wQV below args s A D κ ρ 1 z) (F0 m 270 ls []) := by
        intro H locs ls hF hH hl
        unfold F_X9_signToken_j270 at hF
        refine lv_iconst hx hb dX9_signToken_270 k_iconst_1 ?_
        refine lv_goto hx hb dX9_signToken_271 (tgt := 275) rfl ?_
        have hF := wJ_l hq33 hF
        exact hJ275 (1 : Int32) H locs ls hF hH (lv_sub hl [0] rfl)
      refine lv_icmp_eq hx hb dX9_signToken_204 (tgt := 270) rfl (fun h => ?_) (fun h => ?_)
      · have hF := wx_t h hF
        have hF := wJ_l hq34 hF
        exact hJ270 H locs ls hF hH (lv_sub hl [0] rfl)
      have hF := wx_f h hF
      refine lv_aload_n hx hb dX9_signToken_207 rfl (lv_at hl 0 rfl) ?_
      refine wx_getI hC hH h_o1 rfl f_X9_171 dX9_signToken_208 ?_
      refine lv_bipush hx hb dX9_signToken_211 k_bipush_40 ?_
      refine lv_icmp_eq hx hb dX9_signToken_213 (tgt := 270) rfl (fun h => ?_) (fun h => ?_)
      · have hF := wx_t h hF
        have hF := wJ_l hq34 hF
        exact hJ270 H locs ls hF hH (lv_sub hl [0] rfl)
      have hF := wx_f h hF
      refine lv_aload_n hx hb dX9_signToken_216 rfl (lv_at hl 0 rfl) ?_
      refine wx_getI hC hH h_o1 rfl f_X9_171 dX9_signToken_217 ?_
      refine lv_bipush hx hb dX9_signToken_220 k_bipush_41 ?_
      refine lv_icmp_eq hx hb dX9_signToken_222 (tgt := 270) rfl (fun h => ?_) (fun h => ?_)
      · have hF := wx_t h hF
        have hF := wJ_l hq34 hF
        exact hJ270 H locs ls hF hH (lv_sub hl [0] rfl)
      have hF := wx_f h hF
      refine lv_aload_n hx hb dX9_signToken_225 rfl (lv_at hl 0 rfl) ?_
      refine wx_getI hC hH h_o1 rfl f_X9_171 dX9_signToken_226 ?_
      refine lv_bipush hx hb dX9_signToken_229 k_bipush_43 ?_
      refine lv_icmp_eq hx hb dX9_signToken_231 (tgt := 270) rfl (fun h => ?_) (fun h => ?_)
      · have hF := wx_t h hF
        have hF := wJ_l hq34 hF
        exact hJ270 H locs ls hF hH (lv_sub hl [0] rfl)
      have hF := wx_f h hF
      refine lv_aload_n hx hb dX9_signToken_234 rfl (lv_at hl 0 rfl) ?_
      refine wx_getI hC hH h_o1 rfl f_X9_171 dX9_signToken_235 ?_
      refine lv_bipush hx hb dX9_signToken_238 k_bipush_45 ?_
      refine lv_icmp_eq hx hb dX9_signToken_240 (tgt := 270) rfl (fun h => ?_) (fun h => ?_)
      · have hF := wx_t h hF
        have hF := wJ_l hq34 hF
        exact hJ270 H locs ls hF hH (lv_sub hl [0] rfl)
      have hF := wx_f h hF
      refine lv_aload_n hx hb dX9_signToken_243 rfl (lv_at hl 0 rfl) ?_
      refine wx_getI hC hH h_o1 rfl f_X9_171 dX9_signToken_244 ?_
      refine lv_bipush hx hb dX9_signToken_247 k_bipush_42 ?_
      refine lv_icmp_eq hx hb dX9_signToken_249 (tgt := 270) rfl (fun h => ?_) (fun h => ?_)
      · have hF := wx_t h hF
        have hF := wJ_l hq34 hF
        exact hJ270 H locs ls hF hH (lv_sub hl [0] rfl)
      have hF := wx_f h hF
      refine lv_aload_n hx hb dX9_signToken_252 rfl (lv_at hl 0 rfl) ?_
      refine wx_getI hC hH h_o1 rfl f_X9_171 dX9_signToken_253 ?_
      refine lv_bipush hx hb dX9_signToken_256 k_bipush_47 ?_
      refine lv_icmp_eq hx hb dX9_signToken_258 (tgt := 270) rfl (fun h => ?_) (fun h => ?_)
      · have hF := wx_t h hF
        have hF := wJ_l hq34 hF
        exact hJ270 H locs ls hF hH (lv_sub hl [0] rfl)
      have hF := wx_f h hF
      refine lv_aload_n hx hb dX9_signToken_261 rfl (lv_at hl 0 rfl) ?_
      refine wx_getI hC hH h_o1 rfl f_X9_171 dX9_signToken_262 ?_
      refine lv_bipush hx hb dX9_signToken_265 k_bipush_37 ?_
      refine lv_icmp_ne hx hb dX9_signToken_267 (tgt := 274) rfl (fun h => ?_) (fun h => ?_)
      · have hF := wx_f h hF
        refine lv_iconst hx hb dX9_signToken_274 k_iconst_0 ?_
        have hF := wJ_r hq34 hF
        have hF := wJ_l hq33 hF
        exact hJ275 (0 : Int32) H locs ls hF hH (lv_sub hl [0] rfl)
      have hF := wx_t h hF
      have hF := wJ_l hq34 hF
      exact hJ270 H locs ls hF hH (lv_sub hl [0] rfl)
    have hF := wx_t h hF
    have hF := wJ_l hq6 hF
    exact hJ50 u5 H locs ls hF hH (lv_sub hl [0] rfl)
  exact key _ _ hH
def F_X9_token_j261 (u11 : wSt) (o1 : Nat) (i14 : Int32) : Option ((wSt) ⊕ (Unit × wSt)) :=
  wB (w_sI u11 o1 9 i14) (fun (u15 : wSt) => wB (w_sI u15 o1 7 ((u15.1 o1 7) + (1 : Int32))) (fun (u16 : wSt) => some (.inl u16)))
def F_X9_token_b213 (o1 : Nat) (u11 : wSt) : Option ((wSt) ⊕ (Unit × wSt)) :=
  wP (F_X9_isDigit o1 (u11.1 o1 7) u11) (fun (i12 : Int32) => if i12 = 0 then (some (.inr ((), u11))) else (wJ (X := Int32) (if (u11.1 o1 9) ≤ (99999 : Int32) then (wR (u11.2.2 o1 0) 14 (fun o17 => wN (u11.1 o1 7) o17 (fun j18 => some (.inl ((((10 : Int32) * (u11.1 o1 9)) + (u11.1 o17 j18)) - (48 : Int32)))))) else (some (.inl (u11.1 o1 9)))) (fun x => F_X9_token_j261 u11 o1 x)))
def F_X9_token_j162 (o1 : Nat) (i24 : Int32) (u25 : wSt) : Option (Unit × wSt) :=
  wB (w_sI u25 o1 8 i24) (fun (u26 : wSt) => if (u26.1 o1 8) = (2 : Int32) then (wP (F_X9_packed o1 (u26.1 o1 10) (u26.1 o1 7) u26) (fun (i27 : Int32) => wB (w_sI u26 o1 9 i27) (fun (u28 : wSt) => some ((), u28)))) else (some ((), u26)))
def F_X9_token_j114 (o1 : Nat) (u20 : wSt) : Option (Unit × wSt) :=
  wP (F_X9_wordAt o1 (u20.1 o1 10) (u20.1 o1 7) u20) (fun (i21 : Int32) => wB (w_sI u20 o1 9 i21) (fun (u22 : wSt) => wJ (X := Int32 × wSt) (if (u22.1 o1 9) < 0 then (if ((u22.1 o1 7) - (u22.1 o1 10)) ≤ (6 : Int32) then (some (.inl ((2 : Int32), u22))) else (some (.inl ((6 : Int32), u22)))) else (some (.inl ((1 : Int32), u22)))) (fun x => F_X9_token_j162 o1 x.1 x.2)))
def F_X9_token_b90 (o1 : Nat) (u30 : wSt) : Option ((wSt) ⊕ ((wSt) ⊕ (Unit × wSt))) :=
  wP (F_X9_isSmall o1 (u30.1 o1 7) u30) (fun (i31 : Int32) => if i31 = 0 then (some (.inr (.inl u30))) else (wB (w_sI u30 o1 7 ((u30.1 o1 7) + (1 : Int32))) (fun (u32 : wSt) => some (.inl u32))))
def F_X9_token_j52 (o1 : Nat) (u3 : wSt) : Option (Unit × wSt) :=
  wB (w_sI u3 o1 10 (u3.1 o1 7)) (fun (u4 : wSt) => if (u4.1 o1 7) = (u4.1 o1 6) then (wB (w_sI u4 o1 8 (0 : Int32)) (fun (u33 : wSt) => some ((), u33))) else (wP (F_X9_isSmall o1 (u4.1 o1 7) u4) (fun (i5 : Int32) => if i5 = 0 then (wP (F_X9_isDigit o1 (u4.1 o1 7) u4) (fun (i6 : Int32) => if i6 = 0 then (wC (F_X9_signToken o1 u4) (fun _ (u7 : wSt) => some ((), u7))) else (wB (w_sI u4 o1 8 (3 : Int32)) (fun (u8 : wSt) => wB (w_sI u8 o1 9 (0 : Int32)) (fun (u9 : wSt) => wL (S := wSt) (fun x => F_X9_token_b213 o1 x) wFu u9))))) else (wJ (X := wSt) (wL (S := wSt) (fun x => F_X9_token_b90 o1 x) wFu u4) (fun x => F_X9_token_j114 o1 x)))))
def F_X9_token_j39 (u35 : wSt) (o1 : Nat) : Option ((wSt) ⊕ ((wSt) ⊕ (Unit × wSt))) :=
  wB (w_sI u35 o1 7 ((u35.1 o1 7) + (1 : Int32))) (fun (u39 : wSt) => some (.inl u39))
def F_X9_token_b0 (o1 : Nat) (u35 : wSt) : Option ((wSt) ⊕ ((wSt) ⊕ (Unit × wSt))) :=
  if (u35.1 o1 6) ≤ (u35.1 o1 7) then (some (.inr (.inl u35))) else (wR (u35.2.2 o1 0) 14 (fun o36 => wN (u35.1 o1 7) o36 (fun j37 => wJ (X := Unit) (if (u35.1 o36 j37) = (10 : Int32) then (some (.inl ())) else (wR (u35.2.2 o1 0) 14 (fun o40 => wN (u35.1 o1 7) o40 (fun j41 => if (u35.1 o40 j41) = (32 : Int32) then (some (.inl ())) else (some (.inr (.inr (.inl u35)))))))) (fun x => F_X9_token_j39 u35 o1))))
def F_X9_token (o1 : Nat) (u0 : wSt) : Option (Unit × wSt) :=
  wJ (X := wSt) (wL (S := wSt) (fun x => F_X9_token_b0 o1 x) wFu u0) (fun x => F_X9_token_j52 o1 x)
set_option maxRecDepth 100000 in
set_option maxHeartbeats 4000000 in
theorem c_X9_token {l : Launch} {D : va_G} {κ : Nat → ClassId} {ρ : Nat → Nat} (o1 : Nat) (h_o1 : (w_sh o1).1 = 9) : wMV l yX9_token cX9_token 1 (wRm 1 27) [.ref (ρ o1)] D κ ρ 1 (fun u => F_X9_token o1 u) := by
  refine wMV_of (F := fun u => F_X9_token o1 u) rfl (Nat.le_of_ble_eq_true rfl) (fun u0 z p e s m args below meth c ls A hF hC hr hlk hH hl => ?_)
  have hl : lv_has ls 1 [(0, .ref (ρ o1))] := hl
  have hx := hC.1.1
  have hb := hC.1.2.1
  have hF : F_X9_token o1 u0 = some z := hF
  unfold F_X9_token at hF
  change W p l e (wRm 1 27) s m args below meth c s.heap [] 0 0 (wQV below args s A D κ ρ 1 z) (F0 m 0 ls [])
  have key : ∀ (H : Heap) (locs : List Loc), wHp D κ ρ 1 A s.heap H locs u0 → W p l e (wRm 1 27) s m args below meth c H locs 0 0 (wQV below args s A D κ ρ 1 z) (F0 m 0 ls []) := by
    intro H locs hH
    obtain ⟨q2_, hF, hq2⟩ := wJ_some hF
    have hJ52 : ∀ (u3 : wSt) (H : Heap) (locs : List Loc) (ls : Array Slot), F_X9_token_j52 o1 u3 = some z → wHp D κ ρ 1 A s.heap H locs u3 → lv_has ls 1 [(0, .ref (ρ o1))] → W p l e (wRm 1 27) s m args below meth c H locs 0 0 (wQV below args s A D κ ρ 1 z) (F0 m 52 ls []) := by
      intro u3 H locs ls hF hH hl
      unfold F_X9_token_j52 at hF
      refine lv_aload_n hx hb dX9_token_52 rfl (lv_at hl 0 rfl) ?_
      refine lv_aload_n hx hb dX9_token_53 rfl (lv_at hl 0 rfl) ?_
      refine wx_getI hC hH h_o1 rfl f_X9_157 dX9_token_54 ?_
      refine wx_putI hC hH h_o1 rfl f_X9_151 g_9_10 dX9_token_57 hF (fun u4 H locs hF hH => ?_)
      refine lv_aload_n hx hb dX9_token_60 rfl (lv_at hl 0 rfl) ?_
      refine wx_getI hC hH h_o1 rfl f_X9_157 dX9_token_61 ?_
      refine lv_aload_n hx hb dX9_token_64 rfl (lv_at hl 0 rfl) ?_
      refine wx_getI hC hH h_o1 rfl f_X9_154 dX9_token_65 ?_
      refine lv_icmp_ne hx hb dX9_token_68 (tgt := 79) rfl (fun h => ?_) (fun h => ?_)
      · have hF := wx_f h hF
        refine lv_aload_n hx hb dX9_token_79 rfl (lv_at hl 0 rfl) ?_
        refine lv_aload_n hx hb dX9_token_80 rfl (lv_at hl 0 rfl) ?_
        refine wx_getI hC hH h_o1 rfl f_X9_157 dX9_token_81 ?_
        refine wx_pvi hC hH hl (c_X9_isSmall o1 (u4.1 o1 7) h_o1) y_X9_isSmall v_X9_isSmall h_o1 rfl m_X9_163 rfl ⟨Nat.le_of_ble_eq_true rfl, Nat.le_of_ble_eq_true rfl⟩ ⟨Nat.le_refl _, Nat.le_refl _⟩ rfl (Nat.le_of_ble_eq_true rfl) dX9_token_84 hF (fun i5 H locs hF hH => ?_)
        refine lv_if_eq hx hb dX9_token_87 (tgt := 192) rfl (fun h => ?_) (fun h => ?_)
        · have hF := wx_t h hF
          refine lv_aload_n hx hb dX9_token_192 rfl (lv_at hl 0 rfl) ?_
          refine lv_aload_n hx hb dX9_token_193 rfl (lv_at hl 0 rfl) ?_
          refine wx_getI hC hH h_o1 rfl f_X9_157 dX9_token_194 ?_
          refine wx_pvi hC hH hl (c_X9_isDigit o1 (u4.1 o1 7) h_o1) y_X9_isDigit v_X9_isDigit h_o1 rfl m_X9_177 rfl ⟨Nat.le_of_ble_eq_true rfl, Nat.le_of_ble_eq_true rfl⟩ ⟨Nat.le_refl _, Nat.le_refl _⟩ rfl (Nat.le_of_ble_eq_true rfl) dX9_token_197 hF (fun i6 H locs hF hH => ?_)
          refine lv_if_eq hx hb dX9_token_200 (tgt := 277) rfl (fun h => ?_) (fun h => ?_)
          · have hF := wx_t h hF
            refine lv_aload_n hx hb dX9_token_277 rfl (lv_at hl 0 rfl) ?_
            refine wx_evv hC hH hl (c_X9_signToken o1 h_o1) y_X9_signToken v_X9_signToken h_o1 rfl m_X9_181 rfl ⟨Nat.le_of_ble_eq_true rfl, Nat.le_of_ble_eq_true rfl⟩ ⟨Nat.le_refl _, Nat.le_refl _⟩ rfl (Nat.le_of_ble_eq_true rfl) dX9_token_278 hF (fun _ u7 H locs hF hH => ?_)
            exact wx_vret hC hH hr hlk dX9_token_281 hF
          have hF := wx_f h hF
          refine lv_aload_n hx hb dX9_token_203 rfl (lv_at hl 0 rfl) ?_
          refine lv_iconst hx hb dX9_token_204 k_iconst_3 ?_
          refine wx_putI hC hH h_o1 rfl f_X9_160 g_9_8 dX9_token_205 hF (fun u8 H locs hF hH => ?_)
          refine lv_aload_n hx hb dX9_token_208 rfl (lv_at hl 0 rfl) ?_
          refine lv_iconst hx hb dX9_token_209 k_iconst_0 ?_
          refine wx_putI hC hH h_o1 rfl f_X9_171 g_9_9 dX9_token_210 hF (fun u9 H locs hF hH => ?_)
          have hL213 : ∀ (k10_ : Nat) (u11 : wSt) (H : Heap) (locs : List Loc) (ls : Array Slot), wL (S := wSt) (fun x => F_X9_token_b213 o1 x) k10_ u11 = some z → wHp D κ ρ 1 A s.heap H locs u11 → lv_has ls 1 [(0, .ref (ρ o1))] → W p l e (wRm 1 27) s m args below meth c H locs 0 0 (wQV below args s A D κ ρ 1 z) (F0 m 213 ls []) := by
            intro k10_
            induction k10_ with
            | zero => intro u11 H locs ls hF; exact wL_zero hF
            | succ k10_ ih10 =>
              intro u11 H locs ls hF hH hl
              obtain ⟨q10_, hF, hq10⟩ := wL_some hF
              have hF : F_X9_token_b213 o1 u11 = some q10_ := hF
              unfold F_X9_token_b213 at hF
              refine lv_aload_n hx hb dX9_token_213 rfl (lv_at hl 0 rfl) ?_
              refine lv_aload_n hx hb dX9_token_214 rfl (lv_at hl 0 rfl) ?_
              refine wx_getI hC hH h_o1 rfl f_X9_157 dX9_token_215 ?_
              refine wx_pvi hC hH hl (c_X9_isDigit o1 (u11.1 o1 7) h_o1) y_X9_isDigit v_X9_isDigit h_o1 rfl m_X9_177 rfl ⟨Nat.le_of_ble_eq_true rfl, Nat.le_of_ble_eq_true rfl⟩ ⟨Nat.le_refl _, Nat.le_refl _⟩ rfl (Nat.le_of_ble_eq_true rfl) dX9_token_218 hF (fun i12 H locs hF hH => ?_)
              refine lv_if_eq hx hb dX9_token_221 (tgt := 281) rfl (fun h => ?_) (fun h => ?_)
              · have hF := wx_t h hF
                have hF := wJ_r hq10 hF
                exact wx_vret hC hH hr hlk dX9_token_281 hF
              have hF := wx_f h hF
              refine lv_aload_n hx hb dX9_token_224 rfl (lv_at hl 0 rfl) ?_
              refine lv_aload_n hx hb dX9_token_225 rfl (lv_at hl 0 rfl) ?_
              refine wx_getI hC hH h_o1 rfl f_X9_171 dX9_token_226 ?_
              refine lv_ldc hx hb hC.1.2.2.2.1 (hC.1.2.2.2.2 _ l_X9_180) dX9_token_229 ?_
              obtain ⟨q13_, hF, hq13⟩ := wJ_some hF
              have hJ261 : ∀ (i14 : Int32) (H : Heap) (locs : List Loc) (ls : Array Slot), F_X9_token_j261 u11 o1 i14 = some q10_ → wHp D κ ρ 1 A s.heap H locs u11 → lv_has ls 1 [(0, .ref (ρ o1))] → W p l e (wRm 1 27) s m args below meth c H locs 0 0 (wQV below args s A D κ ρ 1 z) (F0 m 261 ls [.int i14, .ref (ρ o1)]) := by
                intro i14 H locs ls hF hH hl
                unfold F_X9_token_j261 at hF
                refine wx_putI hC hH h_o1 rfl f_X9_171 g_9_9 dX9_token_261 hF (fun u15 H locs hF hH => ?_)
                refine lv_aload_n hx hb dX9_token_264 rfl (lv_at hl 0 rfl) ?_
                refine lv_dup hx hb dX9_token_265 rfl ?_
                refine wx_getI hC hH h_o1 rfl f_X9_157 dX9_token_266 ?_
                refine lv_iconst hx hb dX9_token_269 k_iconst_1 ?_
                refine lv_iadd hx hb dX9_token_270 ?_
                refine wx_putI hC hH h_o1 rfl f_X9_157 g_9_7 dX9_token_271 hF (fun u16 H locs hF hH => ?_)
                refine lv_goto hx hb dX9_token_274 (tgt := 213) rfl ?_
                have hF := wJ_l hq10 hF
                exact ih10 u16 H locs ls hF hH (lv_sub hl [0] rfl)
              refine lv_icmp_le hx hb dX9_token_231 (tgt := 241) rfl (fun h => ?_) (fun h => ?_)
              · have hF := wx_t h hF
                refine lv_bipush hx hb dX9_token_241 k_bipush_10 ?_
                refine lv_aload_n hx hb dX9_token_243 rfl (lv_at hl 0 rfl) ?_
                refine wx_getI hC hH h_o1 rfl f_X9_171 dX9_token_244 ?_
                refine lv_imul hx hb dX9_token_247 ?_
                refine lv_aload_n hx hb dX9_token_248 rfl (lv_at hl 0 rfl) ?_
                refine wx_getR hC hH h_o1 rfl f_X9_7 dX9_token_249 hF (fun o17 h_o17 hF => ?_)
                refine lv_aload_n hx hb dX9_token_252 rfl (lv_at hl 0 rfl) ?_
                refine wx_getI hC hH h_o1 rfl f_X9_157 dX9_token_253 ?_
                refine wx_iald hC hH h_o17 ⟨rfl, rfl⟩ dX9_token_256 hF (fun j18 hF => ?_)
                refine lv_iadd hx hb dX9_token_257 ?_
                refine lv_bipush hx hb dX9_token_258 k_bipush_48 ?_
                refine lv_isub hx hb dX9_token_260 ?_
                have hF := wJ_l hq13 hF
                exact hJ261 ((((10 : Int32) * (u11.1 o1 9)) + (u11.1 o17 j18)) - (48 : Int32)) H locs ls hF hH (lv_sub hl [0] rfl)
              have hF := wx_f h hF
              refine lv_aload_n hx hb dX9_token_234 rfl (lv_at hl 0 rfl) ?_
              refine wx_getI hC hH h_o1 rfl f_X9_171 dX9_token_235 ?_
              refine lv_goto hx hb dX9_token_238 (tgt := 261) rfl ?_
              have hF := wJ_l hq13 hF
              exact hJ261 (u11.1 o1 9) H locs ls hF hH (lv_sub hl [0] rfl)
          exact hL213 wFu u9 H locs ls hF hH (lv_sub hl [0] rfl)
        have hF := wx_f h hF
        obtain ⟨q19_, hF, hq19⟩ := wJ_some hF
        have hJ114 : ∀ (u20 : wSt) (H : Heap) (locs : List Loc) (ls : Array Slot), F_X9_token_j114 o1 u20 = some z → wHp D κ ρ 1 A s.heap H locs u20 → lv_has ls 1 [(0, .ref (ρ o1))] → W p l e (wRm 1 27) s m args below meth c H locs 0 0 (wQV below args s A D κ ρ 1 z) (F0 m 114 ls []) := by
          intro u20 H locs ls hF hH hl
          unfold F_X9_token_j114 at hF
          refine lv_aload_n hx hb dX9_token_114 rfl (lv_at hl 0 rfl) ?_
          refine lv_aload_n hx hb dX9_token_115 rfl (lv_at hl 0 rfl) ?_
          refine lv_aload_n hx hb dX9_token_116 rfl (lv_at hl 0 rfl) ?_
          refine wx_getI hC hH h_o1 rfl f_X9_151 dX9_token_117 ?_
          refine lv_aload_n hx hb dX9_token_120 rfl (lv_at hl 0 rfl) ?_
          refine wx_getI hC hH h_o1 rfl f_X9_157 dX9_token_121 ?_
          refine wx_pvi hC hH hl (c_X9_wordAt o1 (u20.1 o1 10) (u20.1 o1 7) h_o1) y_X9_wordAt v_X9_wordAt h_o1 rfl m_X9_167 rfl ⟨Nat.le_of_ble_eq_true rfl, Nat.le_of_ble_eq_true rfl⟩ ⟨Nat.le_refl _, Nat.le_refl _⟩ rfl (Nat.le_of_ble_eq_true rfl) dX9_token_124 hF (fun i21 H locs hF hH => ?_)
          refine wx_putI hC hH h_o1 rfl f_X9_171 g_9_9 dX9_token_127 hF (fun u22 H locs hF hH => ?_)
          refine lv_aload_n hx hb dX9_token_130 rfl (lv_at hl 0 rfl) ?_
          refine lv_aload_n hx hb dX9_token_131 rfl (lv_at hl 0 rfl) ?_
          refine wx_getI hC hH h_o1 rfl f_X9_171 dX9_token_132 ?_
          obtain ⟨q23_, hF, hq23⟩ := wJ_some hF
          have hJ162 : ∀ (i24 : Int32) (u25 : wSt) (H : Heap) (locs : List Loc) (ls : Array Slot), F_X9_token_j162 o1 i24 u25 = some z → wHp D κ ρ 1 A s.heap H locs u25 → lv_has ls 1 [(0, .ref (ρ o1))] → W p l e (wRm 1 27) s m args below meth c H locs 0 0 (wQV below args s A D κ ρ 1 z) (F0 m 162 ls [.int i24, .ref (ρ o1)]) := by
            intro i24 u25 H locs ls hF hH hl
            unfold F_X9_token_j162 at hF
            refine wx_putI hC hH h_o1 rfl f_X9_160 g_9_8 dX9_token_162 hF (fun u26 H locs hF hH => ?_)
            refine lv_aload_n hx hb dX9_token_165 rfl (lv_at hl 0 rfl) ?_
            refine wx_getI hC hH h_o1 rfl f_X9_160 dX9_token_166 ?_
            refine lv_iconst hx hb dX9_token_169 k_iconst_2 ?_
            refine lv_icmp_ne hx hb dX9_token_170 (tgt := 281) rfl (fun h => ?_) (fun h => ?_)
            · have hF := wx_f h hF
              exact wx_vret hC hH hr hlk dX9_token_281 hF
            have hF := wx_t h hF
            refine lv_aload_n hx hb dX9_token_173 rfl (lv_at hl 0 rfl) ?_
            refine lv_aload_n hx hb dX9_token_174 rfl (lv_at hl 0 rfl) ?_
            refine lv_aload_n hx hb dX9_token_175 rfl (lv_at hl 0 rfl) ?_
            refine wx_getI hC hH h_o1 rfl f_X9_151 dX9_token_176 ?_
            refine lv_aload_n hx hb dX9_token_179 rfl (lv_at hl 0 rfl) ?_
            refine wx_getI hC hH h_o1 rfl f_X9_157 dX9_token_180 ?_
            refine wx_pvi hC hH hl (c_X9_packed o1 (u26.1 o1 10) (u26.1 o1 7) h_o1) y_X9_packed v_X9_packed h_o1 rfl m_X9_174 rfl ⟨Nat.le_of_ble_eq_true rfl, Nat.le_of_ble_eq_true rfl⟩ ⟨Nat.le_refl _, Nat.le_refl _⟩ rfl (Nat.le_of_ble_eq_true rfl) dX9_token_183 hF (fun i27 H locs hF hH => ?_)
            refine wx_putI hC hH h_o1 rfl f_X9_171 g_9_9 dX9_token_186 hF (fun u28 H locs hF hH => ?_)
            refine lv_goto hx hb dX9_token_189 (tgt := 281) rfl ?_
            exact wx_vret hC hH hr hlk dX9_token_281 hF
          refine lv_if_lt hx hb dX9_token_135 (tgt := 142) rfl (fun h => ?_) (fun h => ?_)
          · have hF := wx_t h hF
            refine lv_aload_n hx hb dX9_token_142 rfl (lv_at hl 0 rfl) ?_
            refine wx_getI hC hH h_o1 rfl f_X9_157 dX9_token_143 ?_
            refine lv_aload_n hx hb dX9_token_146 rfl (lv_at hl 0 rfl) ?_
            refine wx_getI hC hH h_o1 rfl f_X9_151 dX9_token_147 ?_
            refine lv_isub hx hb dX9_token_150 ?_
            refine lv_bipush hx hb dX9_token_151 k_bipush_6 ?_
            refine lv_icmp_le hx hb dX9_token_153 (tgt := 161) rfl (fun h => ?_) (fun h => ?_)
            · have hF := wx_t h hF
              refine lv_iconst hx hb dX9_token_161 k_iconst_2 ?_
              have hF := wJ_l hq23 hF
              exact hJ162 (2 : Int32) u22 H locs ls hF hH (lv_sub hl [0] rfl)
            have hF := wx_f h hF
            refine lv_bipush hx hb dX9_token_156 k_bipush_6 ?_
            refine lv_goto hx hb dX9_token_158 (tgt := 162) rfl ?_
            have hF := wJ_l hq23 hF
            exact hJ162 (6 : Int32) u22 H locs ls hF hH (lv_sub hl [0] rfl)
          have hF := wx_f h hF
          refine lv_iconst hx hb dX9_token_138 k_iconst_1 ?_
          refine lv_goto hx hb dX9_token_139 (tgt := 162) rfl ?_
          have hF := wJ_l hq23 hF
          exact hJ162 (1 : Int32) u22 H locs ls hF hH (lv_sub hl [0] rfl)
        have hL90 : ∀ (k29_ : Nat) (u30 : wSt) (H : Heap) (locs : List Loc) (ls : Array Slot), wL (S := wSt) (fun x => F_X9_token_b90 o1 x) k29_ u30 = some q19_ → wHp D κ ρ 1 A s.heap H locs u30 → lv_has ls 1 [(0, .ref (ρ o1))] → W p l e (wRm 1 27) s m args below meth c H locs 0 0 (wQV below args s A D κ ρ 1 z) (F0 m 90 ls []) := by
          intro k29_
          induction k29_ with
          | zero => intro u30 H locs ls hF; exact wL_zero hF
          | succ k29_ ih29 =>
            intro u30 H locs ls hF hH hl
            obtain ⟨q29_, hF, hq29⟩ := wL_some hF
            have hF : F_X9_token_b90 o1 u30 = some q29_ := hF
            unfold F_X9_token_b90 at hF
            refine lv_aload_n hx hb dX9_token_90 rfl (lv_at hl 0 rfl) ?_
            refine lv_aload_n hx hb dX9_token_91 rfl (lv_at hl 0 rfl) ?_
            refine wx_getI hC hH h_o1 rfl f_X9_157 dX9_token_92 ?_
            refine wx_pvi hC hH hl (c_X9_isSmall o1 (u30.1 o1 7) h_o1) y_X9_isSmall v_X9_isSmall h_o1 rfl m_X9_163 rfl ⟨Nat.le_of_ble_eq_true rfl, Nat.le_of_ble_eq_true rfl⟩ ⟨Nat.le_refl _, Nat.le_refl _⟩ rfl (Nat.le_of_ble_eq_true rfl) dX9_token_95 hF (fun i31 H locs hF hH => ?_)
            refine lv_if_eq hx hb dX9_token_98 (tgt := 114) rfl (fun h => ?_) (fun h => ?_)
            · have hF := wx_t h hF
              have hF := wJ_r hq29 hF
              have hF := wJ_l hq19 hF
              exact hJ114 u30 H locs ls hF hH (lv_sub hl [0] rfl)
            have hF := wx_f h hF
            refine lv_aload_n hx hb dX9_token_101 rfl (lv_at hl 0 rfl) ?_
            refine lv_dup hx hb dX9_token_102 rfl ?_
            refine wx_getI hC hH h_o1 rfl f_X9_157 dX9_token_103 ?_
            refine lv_iconst hx hb dX9_token_106 k_iconst_1 ?_
            refine lv_iadd hx hb dX9_token_107 ?_
            refine wx_putI hC hH h_o1 rfl f_X9_157 g_9_7 dX9_token_108 hF (fun u32 H locs hF hH => ?_)
            refine lv_goto hx hb dX9_token_111 (tgt := 90) rfl ?_
            have hF := wJ_l hq29 hF
            exact ih29 u32 H locs ls hF hH (lv_sub hl [0] rfl)
        exact hL90 wFu u4 H locs ls hF hH (lv_sub hl [0] rfl)
      have hF := wx_t h hF
      refine lv_aload_n hx hb dX9_token_71 rfl (lv_at hl 0 rfl) ?_
      refine lv_iconst hx hb dX9_token_72 k_iconst_0 ?_
      refine wx_putI hC hH h_o1 rfl f_X9_160 g_9_8 dX9_token_73 hF (fun u33 H locs hF hH => ?_)
      refine lv_goto hx hb dX9_token_76 (tgt := 281) rfl ?_
      exact wx_vret hC hH hr hlk dX9_token_281 hF
    have hL0 : ∀ (k34_ : Nat) (u35 : wSt) (H : Heap) (locs : List Loc) (ls : Array Slot), wL (S := wSt) (fun x => F_X9_token_b0 o1 x) k34_ u35 = some q2_ → wHp D κ ρ 1 A s.heap H locs u35 → lv_has ls 1 [(0, .ref (ρ o1))] → W p l e (wRm 1 27) s m args below meth c H locs 0 0 (wQV below args s A D κ ρ 1 z) (F0 m 0 ls []) := by
      intro k34_
      induction k34_ with
      | zero => intro u35 H locs ls hF; exact wL_zero hF
      | succ k34_ ih34 =>
        intro u35 H locs ls hF hH hl
        obtain ⟨q34_, hF, hq34⟩ := wL_some hF
        have hF : F_X9_token_b0 o1 u35 = some q34_ := hF
        unfold F_X9_token_b0 at hF
        refine lv_aload_n hx hb dX9_token_0 rfl (lv_at hl 0 rfl) ?_
        refine wx_getI hC hH h_o1 rfl f_X9_157 dX9_token_1 ?_
        refine lv_aload_n hx hb dX9_token_4 rfl (lv_at hl 0 rfl) ?_
        refine wx_getI hC hH h_o1 rfl f_X9_154 dX9_token_5 ?_
        refine lv_icmp_ge hx hb dX9_token_8 (tgt := 52) rfl (fun h => ?_) (fun h => ?_)
        · have hF := wx_t h hF
          have hF := wJ_r hq34 hF
          have hF := wJ_l hq2 hF
          exact hJ52 u35 H locs ls hF hH (lv_sub hl [0] rfl)
        have hF := wx_f h hF
        refine lv_aload_n hx hb dX9_token_11 rfl (lv_at hl 0 rfl) ?_
        refine wx_getR hC hH h_o1 rfl f_X9_7 dX9_token_12 hF (fun o36 h_o36 hF => ?_)
        refine lv_aload_n hx hb dX9_token_15 rfl (lv_at hl 0 rfl) ?_
        refine wx_getI hC hH h_o1 rfl f_X9_157 dX9_token_16 ?_
        refine wx_iald hC hH h_o36 ⟨rfl, rfl⟩ dX9_token_19 hF (fun j37 hF => ?_)
        refine lv_bipush hx hb dX9_token_20 k_bipush_10 ?_
        obtain ⟨q38_, hF, hq38⟩ := wJ_some hF
        have hJ39 : ∀ (H : Heap) (locs : List Loc) (ls : Array Slot), F_X9_token_j39 u35 o1 = some q34_ → wHp D κ ρ 1 A s.heap H locs u35 → lv_has ls 1 [(0, .ref (ρ o1))] → W p l e (wRm 1 27) s m args below meth c H locs 0 0 (wQV below args s A D κ ρ 1 z) (F0 m 39 ls []) := by
          intro H locs ls hF hH hl
          unfold F_X9_token_j39 at hF
          refine lv_aload_n hx hb dX9_token_39 rfl (lv_at hl 0 rfl) ?_
          refine lv_dup hx hb dX9_token_40 rfl ?_
          refine wx_getI hC hH h_o1 rfl f_X9_157 dX9_token_41 ?_
          refine lv_iconst hx hb dX9_token_44 k_iconst_1 ?_
          refine lv_iadd hx hb dX9_token_45 ?_
          refine wx_putI hC hH h_o1 rfl f_X9_157 g_9_7 dX9_token_46 hF (fun u39 H locs hF hH => ?_)
          refine lv_goto hx hb dX9_token_49 (tgt := 0) rfl ?_
          have hF := wJ_l hq34 hF
          exact ih34 u39 H locs ls hF hH (lv_sub hl [0] rfl)
        refine lv_icmp_eq hx hb dX9_token_22 (tgt := 39) rfl (fun h => ?_) (fun h => ?_)
        · have hF := wx_t h hF
          have hF := wJ_l hq38 hF
          exact hJ39 H locs ls hF hH (lv_sub hl [0] rfl)
        have hF := wx_f h hF
        refine lv_aload_n hx hb dX9_token_25 rfl (lv_at hl 0 rfl) ?_
        refine wx_getR hC hH h_o1 rfl f_X9_7 dX9_token_26 hF (fun o40 h_o40 hF => ?_)
        refine lv_aload_n hx hb dX9_token_29 rfl (lv_at hl 0 rfl) ?_
        refine wx_getI hC hH h_o1 rfl f_X9_157 dX9_token_30 ?_
        refine wx_iald hC hH h_o40 ⟨rfl, rfl⟩ dX9_token_33 hF (fun j41 hF => ?_)
        refine lv_bipush hx hb dX9_token_34 k_bipush_32 ?_
        refine lv_icmp_ne hx hb dX9_token_36 (tgt := 52) rfl (fun h => ?_) (fun h => ?_)
        · have hF := wx_f h hF
          have hF := wJ_r hq38 hF
          have hF := wJ_r hq34 hF
          have hF := wJ_l hq2 hF
          exact hJ52 u35 H locs ls hF hH (lv_sub hl [0] rfl)
        have hF := wx_t h hF
        have hF := wJ_l hq38 hF
        exact hJ39 H locs ls hF hH (lv_sub hl [0] rfl)
    exact hL0 wFu u0 H locs ls hF hH (lv_sub hl [0] rfl)
  exact key _ _ hH
def F_X9_isKey (o1 : Nat) (i2 : Int32) (u0 : wSt) : Option Int32 :=
  if (u0.1 o1 8) = (1 : Int32) then (if (u0.1 o1 9) = i2 then (some ((1 : Int32))) else (some ((0 : Int32)))) else (some ((0 : Int32)))
set_option maxRecDepth 100000 in
set_option maxHeartbeats 4000000 in
theorem c_X9_isKey {l : Launch} {D : va_G} {κ : Nat → ClassId} {ρ : Nat → Nat} (o1 : Nat) (i2 : Int32) (h_o1 : (w_sh o1).1 = 9) : wMI l yX9_isKey cX9_isKey 2 .boolean (wRm 0 0) [.ref (ρ o1), .int i2] D κ ρ 1 (fun u => wPu (F_X9_isKey o1 i2 u) u) := by
  refine wMP_of (F := fun u => F_X9_isKey o1 i2 u) rfl (Nat.le_of_ble_eq_true rfl) (fun u0 z p e s m args below meth c ls A hF hC hr hlk hH hl => ?_)
  have hl : lv_has ls 2 [(0, .ref (ρ o1)), (1, .int i2)] := hl
  have hx := hC.1.1
  have hb := hC.1.2.1
  have hF : F_X9_isKey o1 i2 u0 = some z := hF
  unfold F_X9_isKey at hF
  change W p l e (wRm 0 0) s m args below meth c s.heap [] 0 0 (wQI below args s A D κ ρ 1 (z, u0)) (F0 m 0 ls [])
  have key : ∀ (H : Heap) (locs : List Loc), wHp D κ ρ 1 A s.heap H locs u0 → W p l e (wRm 0 0) s m args below meth c H locs 0 0 (wQI below args s A D κ ρ 1 (z, u0)) (F0 m 0 ls []) := by
    intro H locs hH
    refine lv_aload_n hx hb dX9_isKey_0 rfl (lv_at hl 0 rfl) ?_
    refine wx_getI hC hH h_o1 rfl f_X9_160 dX9_isKey_1 ?_
    refine lv_iconst hx hb dX9_isKey_4 k_iconst_1 ?_
    refine lv_icmp_ne hx hb dX9_isKey_5 (tgt := 20) rfl (fun h => ?_) (fun h => ?_)
    · have hF := wx_f h hF
      refine lv_iconst hx hb dX9_isKey_20 k_iconst_0 ?_
      exact wx_zret hC hH hr hlk dX9_isKey_21 (Or.inl rfl) (wx_pr hF)
    have hF := wx_t h hF
    refine lv_aload_n hx hb dX9_isKey_8 rfl (lv_at hl 0 rfl) ?_
    refine wx_getI hC hH h_o1 rfl f_X9_171 dX9_isKey_9 ?_
    refine lv_iload_n hx hb dX9_isKey_12 rfl (lv_at hl 1 rfl) ?_
    refine lv_icmp_ne hx hb dX9_isKey_13 (tgt := 20) rfl (fun h => ?_) (fun h => ?_)
    · have hF := wx_f h hF
      refine lv_iconst hx hb dX9_isKey_20 k_iconst_0 ?_
      exact wx_zret hC hH hr hlk dX9_isKey_21 (Or.inl rfl) (wx_pr hF)
    have hF := wx_t h hF
    refine lv_iconst hx hb dX9_isKey_16 k_iconst_1 ?_
    refine lv_goto hx hb dX9_isKey_17 (tgt := 21) rfl ?_
    exact wx_zret hC hH hr hlk dX9_isKey_21 (Or.inr rfl) (wx_pr hF)
  exact key _ _ hH
def F_X9_isSign (o1 : Nat) (i2 : Int32) (u0 : wSt) : Option Int32 :=
  if (u0.1 o1 8) = (4 : Int32) then (if (u0.1 o1 9) = i2 then (some ((1 : Int32))) else (some ((0 : Int32)))) else (some ((0 : Int32)))
set_option maxRecDepth 100000 in
set_option maxHeartbeats 4000000 in
theorem c_X9_isSign {l : Launch} {D : va_G} {κ : Nat → ClassId} {ρ : Nat → Nat} (o1 : Nat) (i2 : Int32) (h_o1 : (w_sh o1).1 = 9) : wMI l yX9_isSign cX9_isSign 2 .boolean (wRm 0 0) [.ref (ρ o1), .int i2] D κ ρ 1 (fun u => wPu (F_X9_isSign o1 i2 u) u) := by
  refine wMP_of (F := fun u => F_X9_isSign o1 i2 u) rfl (Nat.le_of_ble_eq_true rfl) (fun u0 z p e s m args below meth c ls A hF hC hr hlk hH hl => ?_)
  have hl : lv_has ls 2 [(0, .ref (ρ o1)), (1, .int i2)] := hl
  have hx := hC.1.1
  have hb := hC.1.2.1
  have hF : F_X9_isSign o1 i2 u0 = some z := hF
  unfold F_X9_isSign at hF
  change W p l e (wRm 0 0) s m args below meth c s.heap [] 0 0 (wQI below args s A D κ ρ 1 (z, u0)) (F0 m 0 ls [])
  have key : ∀ (H : Heap) (locs : List Loc), wHp D κ ρ 1 A s.heap H locs u0 → W p l e (wRm 0 0) s m args below meth c H locs 0 0 (wQI below args s A D κ ρ 1 (z, u0)) (F0 m 0 ls []) := by
    intro H locs hH
    refine lv_aload_n hx hb dX9_isSign_0 rfl (lv_at hl 0 rfl) ?_
    refine wx_getI hC hH h_o1 rfl f_X9_160 dX9_isSign_1 ?_
    refine lv_iconst hx hb dX9_isSign_4 k_iconst_4 ?_
    refine lv_icmp_ne hx hb dX9_isSign_5 (tgt := 20) rfl (fun h => ?_) (fun h => ?_)
    · have hF := wx_f h hF
      refine lv_iconst hx hb dX9_isSign_20 k_iconst_0 ?_
      exact wx_zret hC hH hr hlk dX9_isSign_21 (Or.inl rfl) (wx_pr hF)
    have hF := wx_t h hF
    refine lv_aload_n hx hb dX9_isSign_8 rfl (lv_at hl 0 rfl) ?_
    refine wx_getI hC hH h_o1 rfl f_X9_171 dX9_isSign_9 ?_
    refine lv_iload_n hx hb dX9_isSign_12 rfl (lv_at hl 1 rfl) ?_
    refine lv_icmp_ne hx hb dX9_isSign_13 (tgt := 20) rfl (fun h => ?_) (fun h => ?_)
    · have hF := wx_f h hF
      refine lv_iconst hx hb dX9_isSign_20 k_iconst_0 ?_
      exact wx_zret hC hH hr hlk dX9_isSign_21 (Or.inl rfl) (wx_pr hF)
    have hF := wx_t h hF
    refine lv_iconst hx hb dX9_isSign_16 k_iconst_1 ?_
    refine lv_goto hx hb dX9_isSign_17 (tgt := 21) rfl ?_
    exact wx_zret hC hH hr hlk dX9_isSign_21 (Or.inr rfl) (wx_pr hF)
  exact key _ _ hH

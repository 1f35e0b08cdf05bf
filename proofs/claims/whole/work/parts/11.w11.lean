def F_X9_isDraught (o1 : Nat) (u0 : wSt) : Option (Int32 × wSt) :=
  if (u0.1 o1 61) = 0 then (wR (u0.2.2 o1 21) 14 (fun o2 => wN (1 : Int32) o2 (fun j3 => if (u0.1 o2 j3) = 0 then (some ((0 : Int32), u0)) else (wR (u0.2.2 o1 21) 14 (fun o4 => wN (1 : Int32) o4 (fun j5 => if (u0.1 o4 j5) = (100 : Int32) then (some ((1 : Int32), u0)) else (if (u0.1 o1 60) = 0 then (wR (u0.2.2 o1 21) 14 (fun o6 => wN (1 : Int32) o6 (fun j7 => if (u0.1 o6 j7) < (50 : Int32) then (some ((0 : Int32), u0)) else (some ((1 : Int32), u0))))) else (wC (F_X9_number1 o1 (100 : Int32) u0) (fun (i9 : Int32) (u8 : wSt) => wR (u8.2.2 o1 21) 14 (fun o10 => wN (1 : Int32) o10 (fun j11 => if (u8.1 o10 j11) ≤ i9 then (some ((0 : Int32), u8)) else (some ((1 : Int32), u8))))))))))))) else (some ((0 : Int32), u0))
set_option maxRecDepth 100000 in
set_option maxHeartbeats 4000000 in
theorem c_X9_isDraught {l : Launch} {D : va_G} {κ : Nat → ClassId} {ρ : Nat → Nat} (o1 : Nat) (h_o1 : (w_sh o1).1 = 9) : wMI l yX9_isDraught cX9_isDraught 1 .boolean (wRm 1 21) [.ref (ρ o1)] D κ ρ 1 (fun u => F_X9_isDraught o1 u) := by
  refine wMI_of (F := fun u => F_X9_isDraught o1 u) rfl (Nat.le_of_ble_eq_true rfl) (fun u0 z p e s m args below meth c ls A hF hC hr hlk hH hl => ?_)
  have hl : lv_has ls 1 [(0, .ref (ρ o1))] := hl
  have hx := hC.1.1
  have hb := hC.1.2.1
  have hF : F_X9_isDraught o1 u0 = some z := hF
  unfold F_X9_isDraught at hF
  change W p l e (wRm 1 21) s m args below meth c s.heap [] 0 0 (wQI below args s A D κ ρ 1 z) (F0 m 0 ls [])
  have key : ∀ (H : Heap) (locs : List Loc), wHp D κ ρ 1 A s.heap H locs u0 → W p l e (wRm 1 21) s m args below meth c H locs 0 0 (wQI below args s A D κ ρ 1 z) (F0 m 0 ls []) := by
    intro H locs hH
    refine lv_aload_n hx hb dX9_isDraught_0 rfl (lv_at hl 0 rfl) ?_
    refine wx_getI hC hH h_o1 rfl f_X9_356 dX9_isDraught_1 ?_
    refine lv_if_ne hx hb dX9_isDraught_4 (tgt := 16) rfl (fun h => ?_) (fun h => ?_)
    · have hF := wx_f h hF
      refine lv_iconst hx hb dX9_isDraught_16 k_iconst_0 ?_
      exact wx_zret hC hH hr hlk dX9_isDraught_17 (Or.inl rfl) hF
    have hF := wx_t h hF
    refine lv_aload_n hx hb dX9_isDraught_7 rfl (lv_at hl 0 rfl) ?_
    refine wx_getR hC hH h_o1 rfl f_X9_24 dX9_isDraught_8 hF (fun o2 h_o2 hF => ?_)
    refine lv_iconst hx hb dX9_isDraught_11 k_iconst_1 ?_
    refine wx_iald hC hH h_o2 ⟨rfl, rfl⟩ dX9_isDraught_12 hF (fun j3 hF => ?_)
    refine lv_if_ne hx hb dX9_isDraught_13 (tgt := 18) rfl (fun h => ?_) (fun h => ?_)
    · have hF := wx_f h hF
      refine lv_aload_n hx hb dX9_isDraught_18 rfl (lv_at hl 0 rfl) ?_
      refine wx_getR hC hH h_o1 rfl f_X9_24 dX9_isDraught_19 hF (fun o4 h_o4 hF => ?_)
      refine lv_iconst hx hb dX9_isDraught_22 k_iconst_1 ?_
      refine wx_iald hC hH h_o4 ⟨rfl, rfl⟩ dX9_isDraught_23 hF (fun j5 hF => ?_)
      refine lv_bipush hx hb dX9_isDraught_24 k_bipush_100 ?_
      refine lv_icmp_ne hx hb dX9_isDraught_26 (tgt := 31) rfl (fun h => ?_) (fun h => ?_)
      · have hF := wx_f h hF
        refine lv_aload_n hx hb dX9_isDraught_31 rfl (lv_at hl 0 rfl) ?_
        refine wx_getI hC hH h_o1 rfl f_X9_353 dX9_isDraught_32 ?_
        refine lv_if_eq hx hb dX9_isDraught_35 (tgt := 61) rfl (fun h => ?_) (fun h => ?_)
        · have hF := wx_t h hF
          refine lv_aload_n hx hb dX9_isDraught_61 rfl (lv_at hl 0 rfl) ?_
          refine wx_getR hC hH h_o1 rfl f_X9_24 dX9_isDraught_62 hF (fun o6 h_o6 hF => ?_)
          refine lv_iconst hx hb dX9_isDraught_65 k_iconst_1 ?_
          refine wx_iald hC hH h_o6 ⟨rfl, rfl⟩ dX9_isDraught_66 hF (fun j7 hF => ?_)
          refine lv_bipush hx hb dX9_isDraught_67 k_bipush_50 ?_
          refine lv_icmp_lt hx hb dX9_isDraught_69 (tgt := 76) rfl (fun h => ?_) (fun h => ?_)
          · have hF := wx_t h hF
            refine lv_iconst hx hb dX9_isDraught_76 k_iconst_0 ?_
            exact wx_zret hC hH hr hlk dX9_isDraught_77 (Or.inl rfl) hF
          have hF := wx_f h hF
          refine lv_iconst hx hb dX9_isDraught_72 k_iconst_1 ?_
          refine lv_goto hx hb dX9_isDraught_73 (tgt := 77) rfl ?_
          exact wx_zret hC hH hr hlk dX9_isDraught_77 (Or.inr rfl) hF
        have hF := wx_f h hF
        refine lv_aload_n hx hb dX9_isDraught_38 rfl (lv_at hl 0 rfl) ?_
        refine lv_bipush hx hb dX9_isDraught_39 k_bipush_100 ?_
        refine wx_evi hC hH hl (c_X9_number1 o1 (100 : Int32) h_o1) y_X9_number1 v_X9_number1 h_o1 rfl m_X9_422 rfl ⟨Nat.le_of_ble_eq_true rfl, Nat.le_of_ble_eq_true rfl⟩ ⟨Nat.le_refl _, Nat.le_refl _⟩ rfl (Nat.le_of_ble_eq_true rfl) dX9_isDraught_41 hF (fun i9 u8 H locs hF hH => ?_)
        refine lv_aload_n hx hb dX9_isDraught_44 rfl (lv_at hl 0 rfl) ?_
        refine wx_getR hC hH h_o1 rfl f_X9_24 dX9_isDraught_45 hF (fun o10 h_o10 hF => ?_)
        refine lv_iconst hx hb dX9_isDraught_48 k_iconst_1 ?_
        refine wx_iald hC hH h_o10 ⟨rfl, rfl⟩ dX9_isDraught_49 hF (fun j11 hF => ?_)
        refine lv_icmp_ge hx hb dX9_isDraught_50 (tgt := 57) rfl (fun h => ?_) (fun h => ?_)
        · have hF := wx_t h hF
          refine lv_iconst hx hb dX9_isDraught_57 k_iconst_0 ?_
          refine lv_goto hx hb dX9_isDraught_58 (tgt := 77) rfl ?_
          exact wx_zret hC hH hr hlk dX9_isDraught_77 (Or.inl rfl) hF
        have hF := wx_f h hF
        refine lv_iconst hx hb dX9_isDraught_53 k_iconst_1 ?_
        refine lv_goto hx hb dX9_isDraught_54 (tgt := 77) rfl ?_
        exact wx_zret hC hH hr hlk dX9_isDraught_77 (Or.inr rfl) hF
      have hF := wx_t h hF
      refine lv_iconst hx hb dX9_isDraught_29 k_iconst_1 ?_
      exact wx_zret hC hH hr hlk dX9_isDraught_30 (Or.inr rfl) hF
    have hF := wx_t h hF
    refine lv_iconst hx hb dX9_isDraught_16 k_iconst_0 ?_
    exact wx_zret hC hH hr hlk dX9_isDraught_17 (Or.inl rfl) hF
  exact key _ _ hH
def F_X9_isTold_j32 (i5 : Int32) : Option ((Int32) ⊕ Int32) :=
  wB (i5 + (1 : Int32)) (fun (i9 : Int32) => some (.inl i9))
def F_X9_isTold_b2 (u0 : wSt) (o1 : Nat) (i2 : Int32) (i3 : Int32) (i5 : Int32) : Option ((Int32) ⊕ Int32) :=
  if (u0.1 o1 14) ≤ i5 then (some (.inr ((0 : Int32)))) else (wR (u0.2.2 o1 29) 14 (fun o6 => wN i5 o6 (fun j7 => wJ (X := Unit) (if (u0.1 o6 j7) = i2 then (wR (u0.2.2 o1 30) 14 (fun o10 => wN i5 o10 (fun j11 => if (u0.1 o10 j11) = i3 then (some (.inr (.inr ((1 : Int32))))) else (some (.inl ()))))) else (some (.inl ()))) (fun x => F_X9_isTold_j32 i5))))
def F_X9_isTold (o1 : Nat) (i2 : Int32) (i3 : Int32) (u0 : wSt) : Option Int32 :=
  wL (S := Int32) (fun x => F_X9_isTold_b2 u0 o1 i2 i3 x) wFu (0 : Int32)
set_option maxRecDepth 100000 in
set_option maxHeartbeats 4000000 in
theorem c_X9_isTold {l : Launch} {D : va_G} {κ : Nat → ClassId} {ρ : Nat → Nat} (o1 : Nat) (i2 : Int32) (i3 : Int32) (h_o1 : (w_sh o1).1 = 9) : wMI l yX9_isTold cX9_isTold 4 .boolean (wRm 0 0) [.ref (ρ o1), .int i2, .int i3] D κ ρ 1 (fun u => wPu (F_X9_isTold o1 i2 i3 u) u) := by
  refine wMP_of (F := fun u => F_X9_isTold o1 i2 i3 u) rfl (Nat.le_of_ble_eq_true rfl) (fun u0 z p e s m args below meth c ls A hF hC hr hlk hH hl => ?_)
  have hl : lv_has ls 4 [(0, .ref (ρ o1)), (1, .int i2), (2, .int i3)] := hl
  have hx := hC.1.1
  have hb := hC.1.2.1
  have hF : F_X9_isTold o1 i2 i3 u0 = some z := hF
  unfold F_X9_isTold at hF
  change W p l e (wRm 0 0) s m args below meth c s.heap [] 0 0 (wQI below args s A D κ ρ 1 (z, u0)) (F0 m 0 ls [])
  have key : ∀ (H : Heap) (locs : List Loc), wHp D κ ρ 1 A s.heap H locs u0 → W p l e (wRm 0 0) s m args below meth c H locs 0 0 (wQI below args s A D κ ρ 1 (z, u0)) (F0 m 0 ls []) := by
    intro H locs hH
    refine lv_iconst hx hb dX9_isTold_0 k_iconst_0 ?_
    refine wx_istore_n hx hb dX9_isTold_1 rfl hl (by decide) (fun ls hl => ?_)
    have hl : lv_has ls 4 [(3, .int (0 : Int32)), (0, .ref (ρ o1)), (1, .int i2), (2, .int i3)] := hl
    have hL2 : ∀ (k4_ : Nat) (i5 : Int32) (H : Heap) (locs : List Loc) (ls : Array Slot), wL (S := Int32) (fun x => F_X9_isTold_b2 u0 o1 i2 i3 x) k4_ i5 = some z → wHp D κ ρ 1 A s.heap H locs u0 → lv_has ls 4 [(0, .ref (ρ o1)), (1, .int i2), (2, .int i3), (3, .int i5)] → W p l e (wRm 0 0) s m args below meth c H locs 0 0 (wQI below args s A D κ ρ 1 (z, u0)) (F0 m 2 ls []) := by
      intro k4_
      induction k4_ with
      | zero => intro i5 H locs ls hF; exact wL_zero hF
      | succ k4_ ih4 =>
        intro i5 H locs ls hF hH hl
        obtain ⟨q4_, hF, hq4⟩ := wL_some hF
        have hF : F_X9_isTold_b2 u0 o1 i2 i3 i5 = some q4_ := hF
        unfold F_X9_isTold_b2 at hF
        refine lv_iload_n hx hb dX9_isTold_2 rfl (lv_at hl 3 rfl) ?_
        refine lv_aload_n hx hb dX9_isTold_3 rfl (lv_at hl 0 rfl) ?_
        refine wx_getI hC hH h_o1 rfl f_X9_225 dX9_isTold_4 ?_
        refine lv_icmp_ge hx hb dX9_isTold_7 (tgt := 38) rfl (fun h => ?_) (fun h => ?_)
        · have hF := wx_t h hF
          refine lv_iconst hx hb dX9_isTold_38 k_iconst_0 ?_
          have hF := wJ_r hq4 hF
          exact wx_zret hC hH hr hlk dX9_isTold_39 (Or.inl rfl) (wx_pr hF)
        have hF := wx_f h hF
        refine lv_aload_n hx hb dX9_isTold_10 rfl (lv_at hl 0 rfl) ?_
        refine wx_getR hC hH h_o1 rfl f_X9_48 dX9_isTold_11 hF (fun o6 h_o6 hF => ?_)
        refine lv_iload_n hx hb dX9_isTold_14 rfl (lv_at hl 3 rfl) ?_
        refine wx_iald hC hH h_o6 ⟨rfl, rfl⟩ dX9_isTold_15 hF (fun j7 hF => ?_)
        refine lv_iload_n hx hb dX9_isTold_16 rfl (lv_at hl 1 rfl) ?_
        obtain ⟨q8_, hF, hq8⟩ := wJ_some hF
        have hJ32 : ∀ (H : Heap) (locs : List Loc) (ls : Array Slot), F_X9_isTold_j32 i5 = some q4_ → wHp D κ ρ 1 A s.heap H locs u0 → lv_has ls 4 [(0, .ref (ρ o1)), (1, .int i2), (2, .int i3), (3, .int i5)] → W p l e (wRm 0 0) s m args below meth c H locs 0 0 (wQI below args s A D κ ρ 1 (z, u0)) (F0 m 32 ls []) := by
          intro H locs ls hF hH hl
          unfold F_X9_isTold_j32 at hF
          refine wx_iinc hx hb dX9_isTold_32 k_iconst_1 hl (k := 3) rfl (by decide) hF (fun i9 ls hF hl => ?_)
          have hl : lv_has ls 4 [(3, .int i9), (0, .ref (ρ o1)), (1, .int i2), (2, .int i3)] := hl
          refine lv_goto hx hb dX9_isTold_35 (tgt := 2) rfl ?_
          have hF := wJ_l hq4 hF
          exact ih4 i9 H locs ls hF hH (lv_sub hl [1, 2, 3, 0] rfl)
        refine lv_icmp_ne hx hb dX9_isTold_17 (tgt := 32) rfl (fun h => ?_) (fun h => ?_)
        · have hF := wx_f h hF
          have hF := wJ_l hq8 hF
          exact hJ32 H locs ls hF hH (lv_sub hl [0, 1, 2, 3] rfl)
        have hF := wx_t h hF
        refine lv_aload_n hx hb dX9_isTold_20 rfl (lv_at hl 0 rfl) ?_
        refine wx_getR hC hH h_o1 rfl f_X9_51 dX9_isTold_21 hF (fun o10 h_o10 hF => ?_)
        refine lv_iload_n hx hb dX9_isTold_24 rfl (lv_at hl 3 rfl) ?_
        refine wx_iald hC hH h_o10 ⟨rfl, rfl⟩ dX9_isTold_25 hF (fun j11 hF => ?_)
        refine lv_iload_n hx hb dX9_isTold_26 rfl (lv_at hl 2 rfl) ?_
        refine lv_icmp_ne hx hb dX9_isTold_27 (tgt := 32) rfl (fun h => ?_) (fun h => ?_)
        · have hF := wx_f h hF
          have hF := wJ_l hq8 hF
          exact hJ32 H locs ls hF hH (lv_sub hl [0, 1, 2, 3] rfl)
        have hF := wx_t h hF
        refine lv_iconst hx hb dX9_isTold_30 k_iconst_1 ?_
        have hF := wJ_r hq8 hF
        have hF := wJ_r hq4 hF
        exact wx_zret hC hH hr hlk dX9_isTold_31 (Or.inr rfl) (wx_pr hF)
    exact hL2 wFu (0 : Int32) H locs ls hF hH (lv_sub hl [1, 2, 3, 0] rfl)
  exact key _ _ hH
def F_X9_sitsAt_j36 (i5 : Int32) : Option ((Int32) ⊕ Int32) :=
  wB (i5 + (1 : Int32)) (fun (i9 : Int32) => some (.inl i9))
def F_X9_sitsAt_b2 (u0 : wSt) (o1 : Nat) (i2 : Int32) (i3 : Int32) (i5 : Int32) : Option ((Int32) ⊕ Int32) :=
  if (u0.1 o1 12) ≤ i5 then (some (.inr ((-1 : Int32)))) else (wR (u0.2.2 o1 51) 14 (fun o6 => wN (((6 : Int32) * i2) + i5) o6 (fun j7 => wJ (X := Unit) (if (u0.1 o6 j7) = i3 then (wP (F_X9_isOn o1 i2 i5 u0) (fun (i10 : Int32) => if i10 = 0 then (some (.inl ())) else (some (.inr (.inr (i5)))))) else (some (.inl ()))) (fun x => F_X9_sitsAt_j36 i5))))
def F_X9_sitsAt (o1 : Nat) (i2 : Int32) (i3 : Int32) (u0 : wSt) : Option Int32 :=
  wL (S := Int32) (fun x => F_X9_sitsAt_b2 u0 o1 i2 i3 x) wFu (0 : Int32)
set_option maxRecDepth 100000 in
set_option maxHeartbeats 4000000 in
theorem c_X9_sitsAt {l : Launch} {D : va_G} {κ : Nat → ClassId} {ρ : Nat → Nat} (o1 : Nat) (i2 : Int32) (i3 : Int32) (h_o1 : (w_sh o1).1 = 9) : wMI l yX9_sitsAt cX9_sitsAt 4 .int (wRm 2 43) [.ref (ρ o1), .int i2, .int i3] D κ ρ 1 (fun u => wPu (F_X9_sitsAt o1 i2 i3 u) u) := by
  refine wMP_of (F := fun u => F_X9_sitsAt o1 i2 i3 u) rfl (Nat.le_of_ble_eq_true rfl) (fun u0 z p e s m args below meth c ls A hF hC hr hlk hH hl => ?_)
  have hl : lv_has ls 4 [(0, .ref (ρ o1)), (1, .int i2), (2, .int i3)] := hl
  have hx := hC.1.1
  have hb := hC.1.2.1
  have hF : F_X9_sitsAt o1 i2 i3 u0 = some z := hF
  unfold F_X9_sitsAt at hF
  change W p l e (wRm 2 43) s m args below meth c s.heap [] 0 0 (wQI below args s A D κ ρ 1 (z, u0)) (F0 m 0 ls [])
  have key : ∀ (H : Heap) (locs : List Loc), wHp D κ ρ 1 A s.heap H locs u0 → W p l e (wRm 2 43) s m args below meth c H locs 0 0 (wQI below args s A D κ ρ 1 (z, u0)) (F0 m 0 ls []) := by
    intro H locs hH
    refine lv_iconst hx hb dX9_sitsAt_0 k_iconst_0 ?_
    refine wx_istore_n hx hb dX9_sitsAt_1 rfl hl (by decide) (fun ls hl => ?_)
    have hl : lv_has ls 4 [(3, .int (0 : Int32)), (0, .ref (ρ o1)), (1, .int i2), (2, .int i3)] := hl
    have hL2 : ∀ (k4_ : Nat) (i5 : Int32) (H : Heap) (locs : List Loc) (ls : Array Slot), wL (S := Int32) (fun x => F_X9_sitsAt_b2 u0 o1 i2 i3 x) k4_ i5 = some z → wHp D κ ρ 1 A s.heap H locs u0 → lv_has ls 4 [(0, .ref (ρ o1)), (1, .int i2), (2, .int i3), (3, .int i5)] → W p l e (wRm 2 43) s m args below meth c H locs 0 0 (wQI below args s A D κ ρ 1 (z, u0)) (F0 m 2 ls []) := by
      intro k4_
      induction k4_ with
      | zero => intro i5 H locs ls hF; exact wL_zero hF
      | succ k4_ ih4 =>
        intro i5 H locs ls hF hH hl
        obtain ⟨q4_, hF, hq4⟩ := wL_some hF
        have hF : F_X9_sitsAt_b2 u0 o1 i2 i3 i5 = some q4_ := hF
        unfold F_X9_sitsAt_b2 at hF
        refine lv_iload_n hx hb dX9_sitsAt_2 rfl (lv_at hl 3 rfl) ?_
        refine lv_aload_n hx hb dX9_sitsAt_3 rfl (lv_at hl 0 rfl) ?_
        refine wx_getI hC hH h_o1 rfl f_X9_219 dX9_sitsAt_4 ?_
        refine lv_icmp_ge hx hb dX9_sitsAt_7 (tgt := 42) rfl (fun h => ?_) (fun h => ?_)
        · have hF := wx_t h hF
          refine lv_iconst hx hb dX9_sitsAt_42 k_iconst_m1 ?_
          have hF := wJ_r hq4 hF
          exact wx_iret hC hH hr hlk dX9_sitsAt_43 (wx_pr hF)
        have hF := wx_f h hF
        refine lv_aload_n hx hb dX9_sitsAt_10 rfl (lv_at hl 0 rfl) ?_
        refine wx_getR hC hH h_o1 rfl f_X9_94 dX9_sitsAt_11 hF (fun o6 h_o6 hF => ?_)
        refine lv_bipush hx hb dX9_sitsAt_14 k_bipush_6 ?_
        refine lv_iload_n hx hb dX9_sitsAt_16 rfl (lv_at hl 1 rfl) ?_
        refine lv_imul hx hb dX9_sitsAt_17 ?_
        refine lv_iload_n hx hb dX9_sitsAt_18 rfl (lv_at hl 3 rfl) ?_
        refine lv_iadd hx hb dX9_sitsAt_19 ?_
        refine wx_iald hC hH h_o6 ⟨rfl, rfl⟩ dX9_sitsAt_20 hF (fun j7 hF => ?_)
        refine lv_iload_n hx hb dX9_sitsAt_21 rfl (lv_at hl 2 rfl) ?_
        obtain ⟨q8_, hF, hq8⟩ := wJ_some hF
        have hJ36 : ∀ (H : Heap) (locs : List Loc) (ls : Array Slot), F_X9_sitsAt_j36 i5 = some q4_ → wHp D κ ρ 1 A s.heap H locs u0 → lv_has ls 4 [(0, .ref (ρ o1)), (1, .int i2), (2, .int i3), (3, .int i5)] → W p l e (wRm 2 43) s m args below meth c H locs 0 0 (wQI below args s A D κ ρ 1 (z, u0)) (F0 m 36 ls []) := by
          intro H locs ls hF hH hl
          unfold F_X9_sitsAt_j36 at hF
          refine wx_iinc hx hb dX9_sitsAt_36 k_iconst_1 hl (k := 3) rfl (by decide) hF (fun i9 ls hF hl => ?_)
          have hl : lv_has ls 4 [(3, .int i9), (0, .ref (ρ o1)), (1, .int i2), (2, .int i3)] := hl
          refine lv_goto hx hb dX9_sitsAt_39 (tgt := 2) rfl ?_
          have hF := wJ_l hq4 hF
          exact ih4 i9 H locs ls hF hH (lv_sub hl [1, 2, 3, 0] rfl)
        refine lv_icmp_ne hx hb dX9_sitsAt_22 (tgt := 36) rfl (fun h => ?_) (fun h => ?_)
        · have hF := wx_f h hF
          have hF := wJ_l hq8 hF
          exact hJ36 H locs ls hF hH (lv_sub hl [0, 1, 2, 3] rfl)
        have hF := wx_t h hF
        refine lv_aload_n hx hb dX9_sitsAt_25 rfl (lv_at hl 0 rfl) ?_
        refine lv_iload_n hx hb dX9_sitsAt_26 rfl (lv_at hl 1 rfl) ?_
        refine lv_iload_n hx hb dX9_sitsAt_27 rfl (lv_at hl 3 rfl) ?_
        refine wx_pvi hC hH hl (c_X9_isOn o1 i2 i5 h_o1) y_X9_isOn v_X9_isOn h_o1 rfl m_X9_386 rfl ⟨Nat.le_of_ble_eq_true rfl, Nat.le_of_ble_eq_true rfl⟩ ⟨Nat.le_refl _, Nat.le_refl _⟩ rfl (Nat.le_of_ble_eq_true rfl) dX9_sitsAt_28 hF (fun i10 H locs hF hH => ?_)
        refine lv_if_eq hx hb dX9_sitsAt_31 (tgt := 36) rfl (fun h => ?_) (fun h => ?_)
        · have hF := wx_t h hF
          have hF := wJ_l hq8 hF
          exact hJ36 H locs ls hF hH (lv_sub hl [0, 1, 2, 3] rfl)
        have hF := wx_f h hF
        refine lv_iload_n hx hb dX9_sitsAt_34 rfl (lv_at hl 3 rfl) ?_
        have hF := wJ_r hq8 hF
        have hF := wJ_r hq4 hF
        exact wx_iret hC hH hr hlk dX9_sitsAt_35 (wx_pr hF)
    exact hL2 wFu (0 : Int32) H locs ls hF hH (lv_sub hl [1, 2, 3, 0] rfl)
  exact key _ _ hH
def F_X9_bites_j160 (i16 : Int32) (u20 : wSt) : Option ((Int32 × wSt) ⊕ (Unit × wSt)) :=
  wB (i16 + (1 : Int32)) (fun (i21 : Int32) => some (.inl (i21, u20)))
def F_X9_bites_j159 (o28 : Nat) (i2 : Int32) (i16 : Int32) (i30 : Int32) (u31 : wSt) : Option ((wSt) ⊕ ((Int32 × wSt) ⊕ (Unit × wSt))) :=
  wSI u31 o28 (((6 : Int32) * i2) + i16) i30 (fun (u32 : wSt) => some (.inl u32))
def F_X9_bites_b84 (o1 : Nat) (i2 : Int32) (i3 : Int32) (i4 : Int32) (i16 : Int32) (u17 : wSt) : Option ((Int32 × wSt) ⊕ (Unit × wSt)) :=
  if (u17.1 o1 12) ≤ i16 then (some (.inr ((), u17))) else (wP (F_X9_hears o1 i2 i16 i3 u17) (fun (i18 : Int32) => wJ (X := wSt) (if i18 = 0 then (some (.inl u17)) else (wC (F_X9_layNames o1 i2 i16 i4 u17) (fun _ (u22 : wSt) => wR (u22.2.2 o1 49) 14 (fun o23 => wN (((6 : Int32) * i2) + i16) o23 (fun j24 => wC (F_X9_boundLaw o1 (2 : Int32) (10 : Int32) u22) (fun (i26 : Int32) (u25 : wSt) => wB ((u22.1 o23 j24) - i26) (fun (i27 : Int32) => wR (u25.2.2 o1 49) 14 (fun o28 => wJ (X := Int32 × wSt) (if 0 ≤ i27 then (some (.inl (i27, u25))) else (some (.inl ((0 : Int32), u25)))) (fun x => F_X9_bites_j159 o28 i2 i16 x.1 x.2))))))))) (fun x => F_X9_bites_j160 i16 x)))
def F_X9_bites_j81 (o1 : Nat) (i2 : Int32) (i3 : Int32) (i4 : Int32) (u14 : wSt) : Option (Unit × wSt) :=
  wL (S := Int32 × wSt) (fun x => F_X9_bites_b84 o1 i2 i3 i4 x.1 x.2) wFu ((0 : Int32), u14)
def F_X9_bites (o1 : Nat) (i2 : Int32) (i3 : Int32) (i4 : Int32) (u0 : wSt) : Option (Unit × wSt) :=
  wR (u0.2.2 o1 54) 14 (fun o5 => wN (((8 : Int32) * i2) + i4) o5 (fun j6 => wSI u0 o5 (((8 : Int32) * i2) + i4) ((u0.1 o5 j6) + (1 : Int32)) (fun (u7 : wSt) => wR (u7.2.2 o1 53) 14 (fun o8 => wN (((6 : Int32) * i2) + i3) o8 (fun j9 => wSI u7 o8 (((6 : Int32) * i2) + i3) ((u7.1 o8 j9) + (1 : Int32)) (fun (u10 : wSt) => wB (w_sI u10 o1 59 i3) (fun (u11 : wSt) => wP (F_X9_isReal o1 i4 u11) (fun (i12 : Int32) => wJ (X := wSt) (if i12 = 0 then (some (.inl u11)) else (wR (u11.2.2 o1 55) 15 (fun o33 => wN (((8 : Int32) * i2) + i4) o33 (fun j34 => if (u11.1 o33 j34) = 0 then (wR (u11.2.2 o1 55) 15 (fun o35 => wSZ u11 o35 (((8 : Int32) * i2) + i4) (1 : Int32) (fun (u36 : wSt) => wR (u36.2.2 o1 50) 14 (fun o37 => wSI u36 o37 (((6 : Int32) * i2) + i3) (0 : Int32) (fun (u38 : wSt) => some (.inl u38)))))) else (some (.inl u11)))))) (fun x => F_X9_bites_j81 o1 i2 i3 i4 x)))))))))
set_option maxRecDepth 100000 in
set_option maxHeartbeats 4000000 in
theorem c_X9_bites {l : Launch} {D : va_G} {κ : Nat → ClassId} {ρ : Nat → Nat} (o1 : Nat) (i2 : Int32) (i3 : Int32) (i4 : Int32) (h_o1 : (w_sh o1).1 = 9) : wMV l yX9_bites cX9_bites 6 (wRm 4 96) [.ref (ρ o1), .int i2, .int i3, .int i4] D κ ρ 1 (fun u => F_X9_bites o1 i2 i3 i4 u) := by
  refine wMV_of (F := fun u => F_X9_bites o1 i2 i3 i4 u) rfl (Nat.le_of_ble_eq_true rfl) (fun u0 z p e s m args below meth c ls A hF hC hr hlk hH hl => ?_)
  have hl : lv_has ls 6 [(0, .ref (ρ o1)), (1, .int i2), (2, .int i3), (3, .int i4)] := hl
  have hx := hC.1.1
  have hb := hC.1.2.1
  have hF : F_X9_bites o1 i2 i3 i4 u0 = some z := hF
  unfold F_X9_bites at hF
  change W p l e (wRm 4 96) s m args below meth c s.heap [] 0 0 (wQV below args s A D κ ρ 1 z) (F0 m 0 ls [])
  have key : ∀ (H : Heap) (locs : List Loc), wHp D κ ρ 1 A s.heap H locs u0 → W p l e (wRm 4 96) s m args below meth c H locs 0 0 (wQV below args s A D κ ρ 1 z) (F0 m 0 ls []) := by
    intro H locs hH
    refine lv_aload_n hx hb dX9_bites_0 rfl (lv_at hl 0 rfl) ?_
    refine wx_getR hC hH h_o1 rfl f_X9_103 dX9_bites_1 hF (fun o5 h_o5 hF => ?_)
    refine lv_bipush hx hb dX9_bites_4 k_bipush_8 ?_
    refine lv_iload_n hx hb dX9_bites_6 rfl (lv_at hl 1 rfl) ?_
    refine lv_imul hx hb dX9_bites_7 ?_
    refine lv_iload_n hx hb dX9_bites_8 rfl (lv_at hl 3 rfl) ?_
    refine lv_iadd hx hb dX9_bites_9 ?_
    refine lv_dup2_11 hx hb dX9_bites_10 rfl rfl ?_
    refine wx_iald hC hH h_o5 ⟨rfl, rfl⟩ dX9_bites_11 hF (fun j6 hF => ?_)
    refine lv_iconst hx hb dX9_bites_12 k_iconst_1 ?_
    refine lv_iadd hx hb dX9_bites_13 ?_
    refine wx_iast hC hH h_o5 ⟨rfl, rfl⟩ dX9_bites_14 hF (fun u7 H locs hF hH => ?_)
    refine lv_aload_n hx hb dX9_bites_15 rfl (lv_at hl 0 rfl) ?_
    refine wx_getR hC hH h_o1 rfl f_X9_100 dX9_bites_16 hF (fun o8 h_o8 hF => ?_)
    refine lv_bipush hx hb dX9_bites_19 k_bipush_6 ?_
    refine lv_iload_n hx hb dX9_bites_21 rfl (lv_at hl 1 rfl) ?_
    refine lv_imul hx hb dX9_bites_22 ?_
    refine lv_iload_n hx hb dX9_bites_23 rfl (lv_at hl 2 rfl) ?_
    refine lv_iadd hx hb dX9_bites_24 ?_
    refine lv_dup2_11 hx hb dX9_bites_25 rfl rfl ?_
    refine wx_iald hC hH h_o8 ⟨rfl, rfl⟩ dX9_bites_26 hF (fun j9 hF => ?_)
    refine lv_iconst hx hb dX9_bites_27 k_iconst_1 ?_
    refine lv_iadd hx hb dX9_bites_28 ?_
    refine wx_iast hC hH h_o8 ⟨rfl, rfl⟩ dX9_bites_29 hF (fun u10 H locs hF hH => ?_)
    refine lv_aload_n hx hb dX9_bites_30 rfl (lv_at hl 0 rfl) ?_
    refine lv_iload_n hx hb dX9_bites_31 rfl (lv_at hl 2 rfl) ?_
    refine wx_putI hC hH h_o1 rfl f_X9_425 g_9_59 dX9_bites_32 hF (fun u11 H locs hF hH => ?_)
    refine lv_aload_n hx hb dX9_bites_35 rfl (lv_at hl 0 rfl) ?_
    refine lv_iload_n hx hb dX9_bites_36 rfl (lv_at hl 3 rfl) ?_
    refine wx_pvi hC hH hl (c_X9_isReal o1 i4 h_o1) y_X9_isReal v_X9_isReal h_o1 rfl m_X9_428 rfl ⟨Nat.le_of_ble_eq_true rfl, Nat.le_of_ble_eq_true rfl⟩ ⟨Nat.le_refl _, Nat.le_refl _⟩ rfl (Nat.le_of_ble_eq_true rfl) dX9_bites_37 hF (fun i12 H locs hF hH => ?_)
    obtain ⟨q13_, hF, hq13⟩ := wJ_some hF
    have hJ81 : ∀ (u14 : wSt) (H : Heap) (locs : List Loc) (ls : Array Slot), F_X9_bites_j81 o1 i2 i3 i4 u14 = some z → wHp D κ ρ 1 A s.heap H locs u14 → lv_has ls 6 [(0, .ref (ρ o1)), (1, .int i2), (2, .int i3), (3, .int i4)] → W p l e (wRm 4 96) s m args below meth c H locs 0 0 (wQV below args s A D κ ρ 1 z) (F0 m 81 ls []) := by
      intro u14 H locs ls hF hH hl
      unfold F_X9_bites_j81 at hF
      refine lv_iconst hx hb dX9_bites_81 k_iconst_0 ?_
      refine wx_istore hx hb dX9_bites_82 hl (by decide) (fun ls hl => ?_)
      have hl : lv_has ls 6 [(4, .int (0 : Int32)), (0, .ref (ρ o1)), (1, .int i2), (2, .int i3), (3, .int i4)] := hl
      have hL84 : ∀ (k15_ : Nat) (i16 : Int32) (u17 : wSt) (H : Heap) (locs : List Loc) (ls : Array Slot), wL (S := Int32 × wSt) (fun x => F_X9_bites_b84 o1 i2 i3 i4 x.1 x.2) k15_ (i16, u17) = some z → wHp D κ ρ 1 A s.heap H locs u17 → lv_has ls 6 [(0, .ref (ρ o1)), (1, .int i2), (2, .int i3), (3, .int i4), (4, .int i16)] → W p l e (wRm 4 96) s m args below meth c H locs 0 0 (wQV below args s A D κ ρ 1 z) (F0 m 84 ls []) := by
        intro k15_
        induction k15_ with
        | zero => intro i16 u17 H locs ls hF; exact wL_zero hF
        | succ k15_ ih15 =>
          intro i16 u17 H locs ls hF hH hl
          obtain ⟨q15_, hF, hq15⟩ := wL_some hF
          have hF : F_X9_bites_b84 o1 i2 i3 i4 i16 u17 = some q15_ := hF
          unfold F_X9_bites_b84 at hF
          refine lv_iload hx hb dX9_bites_84 (lv_at hl 4 rfl) ?_
          refine lv_aload_n hx hb dX9_bites_86 rfl (lv_at hl 0 rfl) ?_
          refine wx_getI hC hH h_o1 rfl f_X9_219 dX9_bites_87 ?_
          refine lv_icmp_ge hx hb dX9_bites_90 (tgt := 166) rfl (fun h => ?_) (fun h => ?_)
          · have hF := wx_t h hF
            have hF := wJ_r hq15 hF
            exact wx_vret hC hH hr hlk dX9_bites_166 hF
          have hF := wx_f h hF
          refine lv_aload_n hx hb dX9_bites_93 rfl (lv_at hl 0 rfl) ?_
          refine lv_iload_n hx hb dX9_bites_94 rfl (lv_at hl 1 rfl) ?_
          refine lv_iload hx hb dX9_bites_95 (lv_at hl 4 rfl) ?_
          refine lv_iload_n hx hb dX9_bites_97 rfl (lv_at hl 2 rfl) ?_
          refine wx_pvi hC hH hl (c_X9_hears o1 i2 i16 i3 h_o1) y_X9_hears v_X9_hears h_o1 rfl m_X9_431 rfl ⟨Nat.le_of_ble_eq_true rfl, Nat.le_of_ble_eq_true rfl⟩ ⟨Nat.le_refl _, Nat.le_refl _⟩ rfl (Nat.le_of_ble_eq_true rfl) dX9_bites_98 hF (fun i18 H locs hF hH => ?_)
          obtain ⟨q19_, hF, hq19⟩ := wJ_some hF
          have hJ160 : ∀ (u20 : wSt) (H : Heap) (locs : List Loc) (ls : Array Slot), F_X9_bites_j160 i16 u20 = some q15_ → wHp D κ ρ 1 A s.heap H locs u20 → lv_has ls 6 [(0, .ref (ρ o1)), (1, .int i2), (2, .int i3), (3, .int i4), (4, .int i16)] → W p l e (wRm 4 96) s m args below meth c H locs 0 0 (wQV below args s A D κ ρ 1 z) (F0 m 160 ls []) := by
            intro u20 H locs ls hF hH hl
            unfold F_X9_bites_j160 at hF
            refine wx_iinc hx hb dX9_bites_160 k_iconst_1 hl (k := 4) rfl (by decide) hF (fun i21 ls hF hl => ?_)
            have hl : lv_has ls 6 [(4, .int i21), (0, .ref (ρ o1)), (1, .int i2), (2, .int i3), (3, .int i4)] := hl
            refine lv_goto hx hb dX9_bites_163 (tgt := 84) rfl ?_
            have hF := wJ_l hq15 hF
            exact ih15 i21 u20 H locs ls hF hH (lv_sub hl [1, 2, 3, 4, 0] rfl)
          refine lv_if_ne hx hb dX9_bites_101 (tgt := 107) rfl (fun h => ?_) (fun h => ?_)
          · have hF := wx_f h hF
            refine lv_aload_n hx hb dX9_bites_107 rfl (lv_at hl 0 rfl) ?_
            refine lv_iload_n hx hb dX9_bites_108 rfl (lv_at hl 1 rfl) ?_
            refine lv_iload hx hb dX9_bites_109 (lv_at hl 4 rfl) ?_
            refine lv_iload_n hx hb dX9_bites_111 rfl (lv_at hl 3 rfl) ?_
            refine wx_evv hC hH hl (c_X9_layNames o1 i2 i16 i4 h_o1) y_X9_layNames v_X9_layNames h_o1 rfl m_X9_404 rfl ⟨Nat.le_of_ble_eq_true rfl, Nat.le_of_ble_eq_true rfl⟩ ⟨Nat.le_refl _, Nat.le_refl _⟩ rfl (Nat.le_of_ble_eq_true rfl) dX9_bites_112 hF (fun _ u22 H locs hF hH => ?_)
            refine lv_aload_n hx hb dX9_bites_115 rfl (lv_at hl 0 rfl) ?_
            refine wx_getR hC hH h_o1 rfl f_X9_88 dX9_bites_116 hF (fun o23 h_o23 hF => ?_)
            refine lv_bipush hx hb dX9_bites_119 k_bipush_6 ?_
            refine lv_iload_n hx hb dX9_bites_121 rfl (lv_at hl 1 rfl) ?_
            refine lv_imul hx hb dX9_bites_122 ?_
            refine lv_iload hx hb dX9_bites_123 (lv_at hl 4 rfl) ?_
            refine lv_iadd hx hb dX9_bites_125 ?_
            refine wx_iald hC hH h_o23 ⟨rfl, rfl⟩ dX9_bites_126 hF (fun j24 hF => ?_)
            refine lv_aload_n hx hb dX9_bites_127 rfl (lv_at hl 0 rfl) ?_
            refine lv_iconst hx hb dX9_bites_128 k_iconst_2 ?_
            refine lv_bipush hx hb dX9_bites_129 k_bipush_10 ?_
            refine wx_evi hC hH hl (c_X9_boundLaw o1 (2 : Int32) (10 : Int32) h_o1) y_X9_boundLaw v_X9_boundLaw h_o1 rfl m_X9_407 rfl ⟨Nat.le_of_ble_eq_true rfl, Nat.le_of_ble_eq_true rfl⟩ ⟨Nat.le_refl _, Nat.le_refl _⟩ rfl (Nat.le_of_ble_eq_true rfl) dX9_bites_131 hF (fun i26 u25 H locs hF hH => ?_)
            refine lv_isub hx hb dX9_bites_134 ?_
            refine wx_leti hF (fun i27 hF => ?_)
            refine wx_istore hx hb dX9_bites_135 hl (by decide) (fun ls hl => ?_)
            have hl : lv_has ls 6 [(5, .int i27), (0, .ref (ρ o1)), (1, .int i2), (2, .int i3), (3, .int i4), (4, .int i16)] := hl
            refine lv_aload_n hx hb dX9_bites_137 rfl (lv_at hl 1 rfl) ?_
            refine wx_getR hC hH h_o1 rfl f_X9_88 dX9_bites_138 hF (fun o28 h_o28 hF => ?_)
            refine lv_bipush hx hb dX9_bites_141 k_bipush_6 ?_
            refine lv_iload_n hx hb dX9_bites_143 rfl (lv_at hl 2 rfl) ?_
            refine lv_imul hx hb dX9_bites_144 ?_
            refine lv_iload hx hb dX9_bites_145 (lv_at hl 5 rfl) ?_
            refine lv_iadd hx hb dX9_bites_147 ?_
            refine lv_iload hx hb dX9_bites_148 (lv_at hl 0 rfl) ?_
            obtain ⟨q29_, hF, hq29⟩ := wJ_some hF
            have hJ159 : ∀ (i30 : Int32) (u31 : wSt) (H : Heap) (locs : List Loc) (ls : Array Slot), F_X9_bites_j159 o28 i2 i16 i30 u31 = some q19_ → wHp D κ ρ 1 A s.heap H locs u31 → lv_has ls 6 [(0, .ref (ρ o1)), (1, .int i2), (2, .int i3), (3, .int i4), (4, .int i16)] → W p l e (wRm 4 96) s m args below meth c H locs 0 0 (wQV below args s A D κ ρ 1 z) (F0 m 159 ls [.int i30, .int (((6 : Int32) * i2) + i16), .ref (ρ o28)]) := by
              intro i30 u31 H locs ls hF hH hl
              unfold F_X9_bites_j159 at hF
              refine wx_iast hC hH h_o28 ⟨rfl, rfl⟩ dX9_bites_159 hF (fun u32 H locs hF hH => ?_)
              have hF := wJ_l hq19 hF
              exact hJ160 u32 H locs ls hF hH (lv_sub hl [0, 1, 2, 3, 4] rfl)
            refine lv_if_ge hx hb dX9_bites_150 (tgt := 157) rfl (fun h => ?_) (fun h => ?_)
            · have hF := wx_t h hF
              refine lv_iload hx hb dX9_bites_157 (lv_at hl 0 rfl) ?_
              have hF := wJ_l hq29 hF
              exact hJ159 i27 u25 H locs ls hF hH (lv_sub hl [1, 2, 3, 4, 5] rfl)
            have hF := wx_f h hF
            refine lv_iconst hx hb dX9_bites_153 k_iconst_0 ?_
            refine lv_goto hx hb dX9_bites_154 (tgt := 159) rfl ?_
            have hF := wJ_l hq29 hF
            exact hJ159 (0 : Int32) u25 H locs ls hF hH (lv_sub hl [1, 2, 3, 4, 5] rfl)
          have hF := wx_t h hF
          refine lv_goto hx hb dX9_bites_104 (tgt := 160) rfl ?_
          have hF := wJ_l hq19 hF
          exact hJ160 u17 H locs ls hF hH (lv_sub hl [0, 1, 2, 3, 4] rfl)
      exact hL84 wFu (0 : Int32) u14 H locs ls hF hH (lv_sub hl [1, 2, 3, 4, 0] rfl)
    refine lv_if_eq hx hb dX9_bites_40 (tgt := 81) rfl (fun h => ?_) (fun h => ?_)
    · have hF := wx_t h hF
      have hF := wJ_l hq13 hF
      exact hJ81 u11 H locs ls hF hH (lv_sub hl [0, 1, 2, 3] rfl)
    have hF := wx_f h hF
    refine lv_aload_n hx hb dX9_bites_43 rfl (lv_at hl 0 rfl) ?_
    refine wx_getR hC hH h_o1 rfl f_X9_106 dX9_bites_44 hF (fun o33 h_o33 hF => ?_)
    refine lv_bipush hx hb dX9_bites_47 k_bipush_8 ?_
    refine lv_iload_n hx hb dX9_bites_49 rfl (lv_at hl 1 rfl) ?_
    refine lv_imul hx hb dX9_bites_50 ?_
    refine lv_iload_n hx hb dX9_bites_51 rfl (lv_at hl 3 rfl) ?_
    refine lv_iadd hx hb dX9_bites_52 ?_
    refine wx_zald hC hH h_o33 ⟨rfl, rfl⟩ dX9_bites_53 hF (fun j34 hF => ?_)
    refine lv_if_ne hx hb dX9_bites_54 (tgt := 81) rfl (fun h => ?_) (fun h => ?_)
    · have hF := wx_f h hF
      have hF := wJ_l hq13 hF
      exact hJ81 u11 H locs ls hF hH (lv_sub hl [0, 1, 2, 3] rfl)
    have hF := wx_t h hF
    refine lv_aload_n hx hb dX9_bites_57 rfl (lv_at hl 0 rfl) ?_
    refine wx_getR hC hH h_o1 rfl f_X9_106 dX9_bites_58 hF (fun o35 h_o35 hF => ?_)
    refine lv_bipush hx hb dX9_bites_61 k_bipush_8 ?_
    refine lv_iload_n hx hb dX9_bites_63 rfl (lv_at hl 1 rfl) ?_
    refine lv_imul hx hb dX9_bites_64 ?_
    refine lv_iload_n hx hb dX9_bites_65 rfl (lv_at hl 3 rfl) ?_
    refine lv_iadd hx hb dX9_bites_66 ?_
    refine lv_iconst hx hb dX9_bites_67 k_iconst_1 ?_
    refine wx_zast hC hH h_o35 ⟨rfl, rfl⟩ dX9_bites_68 hF (fun u36 H locs hF hH => ?_)
    refine lv_aload_n hx hb dX9_bites_69 rfl (lv_at hl 0 rfl) ?_
    refine wx_getR hC hH h_o1 rfl f_X9_91 dX9_bites_70 hF (fun o37 h_o37 hF => ?_)
    refine lv_bipush hx hb dX9_bites_73 k_bipush_6 ?_
    refine lv_iload_n hx hb dX9_bites_75 rfl (lv_at hl 1 rfl) ?_
    refine lv_imul hx hb dX9_bites_76 ?_
    refine lv_iload_n hx hb dX9_bites_77 rfl (lv_at hl 2 rfl) ?_
    refine lv_iadd hx hb dX9_bites_78 ?_
    refine lv_iconst hx hb dX9_bites_79 k_iconst_0 ?_
    refine wx_iast hC hH h_o37 ⟨rfl, rfl⟩ dX9_bites_80 hF (fun u38 H locs hF hH => ?_)
    have hF := wJ_l hq13 hF
    exact hJ81 u38 H locs ls hF hH (lv_sub hl [0, 1, 2, 3] rfl)
  exact key _ _ hH
def F_X9_praises_j104 (i8 : Int32) (u12 : wSt) : Option ((Int32 × wSt) ⊕ (Unit × wSt)) :=
  wB (i8 + (1 : Int32)) (fun (i13 : Int32) => some (.inl (i13, u12)))
def F_X9_praises_j69 (u9 : wSt) (o1 : Nat) (i2 : Int32) (i8 : Int32) (i4 : Int32) (i17 : Int32) : Option ((wSt) ⊕ ((Int32 × wSt) ⊕ (Unit × wSt))) :=
  wR (u9.2.2 o1 50) 14 (fun o18 => wN (((6 : Int32) * i2) + i8) o18 (fun j19 => wSI u9 o18 (((6 : Int32) * i2) + i8) ((u9.1 o18 j19) - i17) (fun (u20 : wSt) => wR (u20.2.2 o1 56) 14 (fun o21 => wN (((8 : Int32) * i2) + i4) o21 (fun j22 => wSI u20 o21 (((8 : Int32) * i2) + i4) ((u20.1 o21 j22) + i17) (fun (u23 : wSt) => some (.inl u23)))))))
def F_X9_praises_b12 (o1 : Nat) (i2 : Int32) (i3 : Int32) (i6 : Int32) (i4 : Int32) (i8 : Int32) (u9 : wSt) : Option ((Int32 × wSt) ⊕ (Unit × wSt)) :=
  if (u9.1 o1 12) ≤ i8 then (some (.inr ((), u9))) else (wP (F_X9_hears o1 i2 i8 i3 u9) (fun (i10 : Int32) => wJ (X := wSt) (if i10 = 0 then (some (.inl u9)) else (wR (u9.2.2 o1 50) 14 (fun o14 => wN (((6 : Int32) * i2) + i8) o14 (fun j15 => wJ (X := Int32) (if (u9.1 o14 j15) ≤ i6 then (wR (u9.2.2 o1 50) 14 (fun o24 => wN (((6 : Int32) * i2) + i8) o24 (fun j25 => some (.inl (u9.1 o24 j25))))) else (some (.inl i6))) (fun x => F_X9_praises_j69 u9 o1 i2 i8 i4 x))))) (fun x => F_X9_praises_j104 i8 x)))
def F_X9_praises (o1 : Nat) (i2 : Int32) (i3 : Int32) (i4 : Int32) (u0 : wSt) : Option (Unit × wSt) :=
  wC (F_X9_praiseOf o1 i2 i3 i4 u0) (fun (i6 : Int32) (u5 : wSt) => wL (S := Int32 × wSt) (fun x => F_X9_praises_b12 o1 i2 i3 i6 i4 x.1 x.2) wFu ((0 : Int32), u5))
set_option maxRecDepth 100000 in
set_option maxHeartbeats 4000000 in
theorem c_X9_praises {l : Launch} {D : va_G} {κ : Nat → ClassId} {ρ : Nat → Nat} (o1 : Nat) (i2 : Int32) (i3 : Int32) (i4 : Int32) (h_o1 : (w_sh o1).1 = 9) : wMV l yX9_praises cX9_praises 7 (wRm 5 120) [.ref (ρ o1), .int i2, .int i3, .int i4] D κ ρ 1 (fun u => F_X9_praises o1 i2 i3 i4 u) := by
  refine wMV_of (F := fun u => F_X9_praises o1 i2 i3 i4 u) rfl (Nat.le_of_ble_eq_true rfl) (fun u0 z p e s m args below meth c ls A hF hC hr hlk hH hl => ?_)
  have hl : lv_has ls 7 [(0, .ref (ρ o1)), (1, .int i2), (2, .int i3), (3, .int i4)] := hl
  have hx := hC.1.1
  have hb := hC.1.2.1
  have hF : F_X9_praises o1 i2 i3 i4 u0 = some z := hF
  unfold F_X9_praises at hF
  change W p l e (wRm 5 120) s m args below meth c s.heap [] 0 0 (wQV below args s A D κ ρ 1 z) (F0 m 0 ls [])
  have key : ∀ (H : Heap) (locs : List Loc), wHp D κ ρ 1 A s.heap H locs u0 → W p l e (wRm 5 120) s m args below meth c H locs 0 0 (wQV below args s A D κ ρ 1 z) (F0 m 0 ls []) := by
    intro H locs hH
    refine lv_aload_n hx hb dX9_praises_0 rfl (lv_at hl 0 rfl) ?_
    refine lv_iload_n hx hb dX9_praises_1 rfl (lv_at hl 1 rfl) ?_
    refine lv_iload_n hx hb dX9_praises_2 rfl (lv_at hl 2 rfl) ?_
    refine lv_iload_n hx hb dX9_praises_3 rfl (lv_at hl 3 rfl) ?_
    refine wx_evi hC hH hl (c_X9_praiseOf o1 i2 i3 i4 h_o1) y_X9_praiseOf v_X9_praiseOf h_o1 rfl m_X9_434 rfl ⟨Nat.le_of_ble_eq_true rfl, Nat.le_of_ble_eq_true rfl⟩ ⟨Nat.le_refl _, Nat.le_refl _⟩ rfl (Nat.le_of_ble_eq_true rfl) dX9_praises_4 hF (fun i6 u5 H locs hF hH => ?_)
    refine wx_istore hx hb dX9_praises_7 hl (by decide) (fun ls hl => ?_)
    have hl : lv_has ls 7 [(4, .int i6), (0, .ref (ρ o1)), (1, .int i2), (2, .int i3), (3, .int i4)] := hl
    refine lv_iconst hx hb dX9_praises_9 k_iconst_0 ?_
    refine wx_istore hx hb dX9_praises_10 hl (by decide) (fun ls hl => ?_)
    have hl : lv_has ls 7 [(5, .int (0 : Int32)), (4, .int i6), (0, .ref (ρ o1)), (1, .int i2), (2, .int i3), (3, .int i4)] := hl
    have hL12 : ∀ (k7_ : Nat) (i8 : Int32) (u9 : wSt) (H : Heap) (locs : List Loc) (ls : Array Slot), wL (S := Int32 × wSt) (fun x => F_X9_praises_b12 o1 i2 i3 i6 i4 x.1 x.2) k7_ (i8, u9) = some z → wHp D κ ρ 1 A s.heap H locs u9 → lv_has ls 7 [(0, .ref (ρ o1)), (1, .int i2), (2, .int i3), (3, .int i4), (4, .int i6), (5, .int i8)] → W p l e (wRm 5 120) s m args below meth c H locs 0 0 (wQV below args s A D κ ρ 1 z) (F0 m 12 ls []) := by
      intro k7_
      induction k7_ with
      | zero => intro i8 u9 H locs ls hF; exact wL_zero hF
      | succ k7_ ih7 =>
        intro i8 u9 H locs ls hF hH hl
        obtain ⟨q7_, hF, hq7⟩ := wL_some hF
        have hF : F_X9_praises_b12 o1 i2 i3 i6 i4 i8 u9 = some q7_ := hF
        unfold F_X9_praises_b12 at hF
        refine lv_iload hx hb dX9_praises_12 (lv_at hl 5 rfl) ?_
        refine lv_aload_n hx hb dX9_praises_14 rfl (lv_at hl 0 rfl) ?_
        refine wx_getI hC hH h_o1 rfl f_X9_219 dX9_praises_15 ?_
        refine lv_icmp_ge hx hb dX9_praises_18 (tgt := 110) rfl (fun h => ?_) (fun h => ?_)
        · have hF := wx_t h hF
          have hF := wJ_r hq7 hF
          exact wx_vret hC hH hr hlk dX9_praises_110 hF
        have hF := wx_f h hF
        refine lv_aload_n hx hb dX9_praises_21 rfl (lv_at hl 0 rfl) ?_
        refine lv_iload_n hx hb dX9_praises_22 rfl (lv_at hl 1 rfl) ?_
        refine lv_iload hx hb dX9_praises_23 (lv_at hl 5 rfl) ?_
        refine lv_iload_n hx hb dX9_praises_25 rfl (lv_at hl 2 rfl) ?_
        refine wx_pvi hC hH hl (c_X9_hears o1 i2 i8 i3 h_o1) y_X9_hears v_X9_hears h_o1 rfl m_X9_431 rfl ⟨Nat.le_of_ble_eq_true rfl, Nat.le_of_ble_eq_true rfl⟩ ⟨Nat.le_refl _, Nat.le_refl _⟩ rfl (Nat.le_of_ble_eq_true rfl) dX9_praises_26 hF (fun i10 H locs hF hH => ?_)
        obtain ⟨q11_, hF, hq11⟩ := wJ_some hF
        have hJ104 : ∀ (u12 : wSt) (H : Heap) (locs : List Loc) (ls : Array Slot), F_X9_praises_j104 i8 u12 = some q7_ → wHp D κ ρ 1 A s.heap H locs u12 → lv_has ls 7 [(0, .ref (ρ o1)), (1, .int i2), (2, .int i3), (3, .int i4), (4, .int i6), (5, .int i8)] → W p l e (wRm 5 120) s m args below meth c H locs 0 0 (wQV below args s A D κ ρ 1 z) (F0 m 104 ls []) := by
          intro u12 H locs ls hF hH hl
          unfold F_X9_praises_j104 at hF
          refine wx_iinc hx hb dX9_praises_104 k_iconst_1 hl (k := 5) rfl (by decide) hF (fun i13 ls hF hl => ?_)
          have hl : lv_has ls 7 [(5, .int i13), (0, .ref (ρ o1)), (1, .int i2), (2, .int i3), (3, .int i4), (4, .int i6)] := hl
          refine lv_goto hx hb dX9_praises_107 (tgt := 12) rfl ?_
          have hF := wJ_l hq7 hF
          exact ih7 i13 u12 H locs ls hF hH (lv_sub hl [1, 2, 3, 4, 5, 0] rfl)
        refine lv_if_ne hx hb dX9_praises_29 (tgt := 35) rfl (fun h => ?_) (fun h => ?_)
        · have hF := wx_f h hF
          refine lv_iload hx hb dX9_praises_35 (lv_at hl 4 rfl) ?_
          refine lv_aload_n hx hb dX9_praises_37 rfl (lv_at hl 0 rfl) ?_
          refine wx_getR hC hH h_o1 rfl f_X9_91 dX9_praises_38 hF (fun o14 h_o14 hF => ?_)
          refine lv_bipush hx hb dX9_praises_41 k_bipush_6 ?_
          refine lv_iload_n hx hb dX9_praises_43 rfl (lv_at hl 1 rfl) ?_
          refine lv_imul hx hb dX9_praises_44 ?_
          refine lv_iload hx hb dX9_praises_45 (lv_at hl 5 rfl) ?_
          refine lv_iadd hx hb dX9_praises_47 ?_
          refine wx_iald hC hH h_o14 ⟨rfl, rfl⟩ dX9_praises_48 hF (fun j15 hF => ?_)
          obtain ⟨q16_, hF, hq16⟩ := wJ_some hF
          have hJ69 : ∀ (i17 : Int32) (H : Heap) (locs : List Loc) (ls : Array Slot), F_X9_praises_j69 u9 o1 i2 i8 i4 i17 = some q11_ → wHp D κ ρ 1 A s.heap H locs u9 → lv_has ls 7 [(0, .ref (ρ o1)), (1, .int i2), (2, .int i3), (3, .int i4), (4, .int i6), (5, .int i8)] → W p l e (wRm 5 120) s m args below meth c H locs 0 0 (wQV below args s A D κ ρ 1 z) (F0 m 69 ls [.int i17]) := by
            intro i17 H locs ls hF hH hl
            unfold F_X9_praises_j69 at hF
            refine wx_istore hx hb dX9_praises_69 hl (by decide) (fun ls hl => ?_)
            have hl : lv_has ls 7 [(6, .int i17), (0, .ref (ρ o1)), (1, .int i2), (2, .int i3), (3, .int i4), (4, .int i6), (5, .int i8)] := hl
            refine lv_aload_n hx hb dX9_praises_71 rfl (lv_at hl 1 rfl) ?_
            refine wx_getR hC hH h_o1 rfl f_X9_91 dX9_praises_72 hF (fun o18 h_o18 hF => ?_)
            refine lv_bipush hx hb dX9_praises_75 k_bipush_6 ?_
            refine lv_iload_n hx hb dX9_praises_77 rfl (lv_at hl 2 rfl) ?_
            refine lv_imul hx hb dX9_praises_78 ?_
            refine lv_iload hx hb dX9_praises_79 (lv_at hl 6 rfl) ?_
            refine lv_iadd hx hb dX9_praises_81 ?_
            refine lv_dup2_11 hx hb dX9_praises_82 rfl rfl ?_
            refine wx_iald hC hH h_o18 ⟨rfl, rfl⟩ dX9_praises_83 hF (fun j19 hF => ?_)
            refine lv_iload hx hb dX9_praises_84 (lv_at hl 0 rfl) ?_
            refine lv_isub hx hb dX9_praises_86 ?_
            refine wx_iast hC hH h_o18 ⟨rfl, rfl⟩ dX9_praises_87 hF (fun u20 H locs hF hH => ?_)
            refine lv_aload_n hx hb dX9_praises_88 rfl (lv_at hl 1 rfl) ?_
            refine wx_getR hC hH h_o1 rfl f_X9_109 dX9_praises_89 hF (fun o21 h_o21 hF => ?_)
            refine lv_bipush hx hb dX9_praises_92 k_bipush_8 ?_
            refine lv_iload_n hx hb dX9_praises_94 rfl (lv_at hl 2 rfl) ?_
            refine lv_imul hx hb dX9_praises_95 ?_
            refine lv_iload_n hx hb dX9_praises_96 rfl (lv_at hl 4 rfl) ?_
            refine lv_iadd hx hb dX9_praises_97 ?_
            refine lv_dup2_11 hx hb dX9_praises_98 rfl rfl ?_
            refine wx_iald hC hH h_o21 ⟨rfl, rfl⟩ dX9_praises_99 hF (fun j22 hF => ?_)
            refine lv_iload hx hb dX9_praises_100 (lv_at hl 0 rfl) ?_
            refine lv_iadd hx hb dX9_praises_102 ?_
            refine wx_iast hC hH h_o21 ⟨rfl, rfl⟩ dX9_praises_103 hF (fun u23 H locs hF hH => ?_)
            have hF := wJ_l hq11 hF
            exact hJ104 u23 H locs ls hF hH (lv_sub hl [1, 2, 3, 4, 5, 6] rfl)
          refine lv_icmp_ge hx hb dX9_praises_49 (tgt := 57) rfl (fun h => ?_) (fun h => ?_)
          · have hF := wx_t h hF
            refine lv_aload_n hx hb dX9_praises_57 rfl (lv_at hl 0 rfl) ?_
            refine wx_getR hC hH h_o1 rfl f_X9_91 dX9_praises_58 hF (fun o24 h_o24 hF => ?_)
            refine lv_bipush hx hb dX9_praises_61 k_bipush_6 ?_
            refine lv_iload_n hx hb dX9_praises_63 rfl (lv_at hl 1 rfl) ?_
            refine lv_imul hx hb dX9_praises_64 ?_
            refine lv_iload hx hb dX9_praises_65 (lv_at hl 5 rfl) ?_
            refine lv_iadd hx hb dX9_praises_67 ?_
            refine wx_iald hC hH h_o24 ⟨rfl, rfl⟩ dX9_praises_68 hF (fun j25 hF => ?_)
            have hF := wJ_l hq16 hF
            exact hJ69 (u9.1 o24 j25) H locs ls hF hH (lv_sub hl [0, 1, 2, 3, 4, 5] rfl)
          have hF := wx_f h hF
          refine lv_iload hx hb dX9_praises_52 (lv_at hl 4 rfl) ?_
          refine lv_goto hx hb dX9_praises_54 (tgt := 69) rfl ?_
          have hF := wJ_l hq16 hF
          exact hJ69 i6 H locs ls hF hH (lv_sub hl [0, 1, 2, 3, 4, 5] rfl)
        have hF := wx_t h hF
        refine lv_goto hx hb dX9_praises_32 (tgt := 104) rfl ?_
        have hF := wJ_l hq11 hF
        exact hJ104 u9 H locs ls hF hH (lv_sub hl [0, 1, 2, 3, 4, 5] rfl)
    exact hL12 wFu (0 : Int32) u5 H locs ls hF hH (lv_sub hl [2, 3, 4, 5, 1, 0] rfl)
  exact key _ _ hH
def F_X9_stepGoes_j216 (o1 : Nat) (i2 : Int32) (u12 : wSt) : Option (Unit × wSt) :=
  wR (u12.2.2 o1 57) 14 (fun o13 => wN i2 o13 (fun j14 => wSI u12 o13 i2 ((u12.1 o13 j14) + (1 : Int32)) (fun (u15 : wSt) => some ((), u15))))
def F_X9_stepGoes_j210 (i17 : Int32) (u21 : wSt) : Option ((Int32 × wSt) ⊕ ((wSt) ⊕ (Unit × wSt))) :=
  wB (i17 + (1 : Int32)) (fun (i22 : Int32) => some (.inl (i22, u21)))
def F_X9_stepGoes_b165 (o1 : Nat) (i2 : Int32) (i17 : Int32) (u18 : wSt) : Option ((Int32 × wSt) ⊕ ((wSt) ⊕ (Unit × wSt))) :=
  if (u18.1 o1 12) ≤ i17 then (some (.inr (.inl u18))) else (wP (F_X9_isOn o1 i2 i17 u18) (fun (i19 : Int32) => wJ (X := wSt) (if i19 = 0 then (some (.inl u18)) else (wR (u18.2.2 o1 50) 14 (fun o23 => wN (((6 : Int32) * i2) + i17) o23 (fun j24 => if (u18.1 o23 j24) < (99 : Int32) then (some (.inl u18)) else (wR (u18.2.2 o1 52) 15 (fun o25 => wSZ u18 o25 (((6 : Int32) * i2) + i17) (0 : Int32) (fun (u26 : wSt) => some (.inl u26)))))))) (fun x => F_X9_stepGoes_j210 i17 x)))
def F_X9_stepGoes_j163 (o1 : Nat) (i2 : Int32) (u10 : wSt) : Option (Unit × wSt) :=
  wJ (X := wSt) (wL (S := Int32 × wSt) (fun x => F_X9_stepGoes_b165 o1 i2 x.1 x.2) wFu ((0 : Int32), u10)) (fun x => F_X9_stepGoes_j216 o1 i2 x)
def F_X9_stepGoes_j157 (i28 : Int32) (u32 : wSt) : Option ((Int32 × wSt) ⊕ ((wSt) ⊕ (Unit × wSt))) :=
  wB (i28 + (1 : Int32)) (fun (i33 : Int32) => some (.inl (i33, u32)))
def F_X9_stepGoes_j155 (o34 : Nat) (i2 : Int32) (i28 : Int32) (u29 : wSt) (j35 : Nat) (i39 : Int32) (u40 : wSt) : Option ((wSt) ⊕ ((Int32 × wSt) ⊕ ((wSt) ⊕ (Unit × wSt)))) :=
  wSI u40 o34 (((6 : Int32) * i2) + i28) ((u29.1 o34 j35) + i39) (fun (u41 : wSt) => some (.inl u41))
def F_X9_stepGoes_b114 (o1 : Nat) (i2 : Int32) (i28 : Int32) (u29 : wSt) : Option ((Int32 × wSt) ⊕ ((wSt) ⊕ (Unit × wSt))) :=
  if (u29.1 o1 12) ≤ i28 then (some (.inr (.inl u29))) else (wP (F_X9_isOn o1 i2 i28 u29) (fun (i30 : Int32) => wJ (X := wSt) (if i30 = 0 then (some (.inl u29)) else (wR (u29.2.2 o1 50) 14 (fun o34 => wN (((6 : Int32) * i2) + i28) o34 (fun j35 => wC (F_X9_isDraught o1 u29) (fun (i37 : Int32) (u36 : wSt) => wJ (X := Int32 × wSt) (if i37 = 0 then (some (.inl ((1 : Int32), u36))) else (some (.inl ((3 : Int32), u36)))) (fun x => F_X9_stepGoes_j155 o34 i2 i28 u29 j35 x.1 x.2)))))) (fun x => F_X9_stepGoes_j157 i28 x)))
def F_X9_stepGoes_j112 (o1 : Nat) (i2 : Int32) (u8 : wSt) : Option (Unit × wSt) :=
  wJ (X := wSt) (wL (S := Int32 × wSt) (fun x => F_X9_stepGoes_b114 o1 i2 x.1 x.2) wFu ((0 : Int32), u8)) (fun x => F_X9_stepGoes_j163 o1 i2 x)
def F_X9_stepGoes_j97 (i5 : Int32) (o1 : Nat) (i2 : Int32) (i46 : Int32) (u47 : wSt) : Option ((wSt) ⊕ (Unit × wSt)) :=
  if i5 = (u47.1 o1 65) then (some (.inl u47)) else (wC (F_X9_praises o1 i2 i5 i46 u47) (fun _ (u48 : wSt) => some (.inl u48)))
def F_X9_stepGoes_j87 (o1 : Nat) (i2 : Int32) (i5 : Int32) (i44 : Int32) (u53 : wSt) : Option ((Int32 × wSt) ⊕ ((wSt) ⊕ (Unit × wSt))) :=
  wC (F_X9_bites o1 i2 i5 i44 u53) (fun _ (u54 : wSt) => some (.inr (.inl u54)))
def F_X9_stepGoes_j32 (o1 : Nat) (i2 : Int32) (i5 : Int32) (u6 : wSt) : Option (Unit × wSt) :=
  wJ (X := wSt) (if i5 < 0 then (some (.inl u6)) else (if (u6.1 o1 13) ≤ 0 then (some (.inl u6)) else (wR (u6.2.2 o1 57) 14 (fun o42 => wN i2 o42 (fun j43 => wG (¬ (u6.1 o1 13) = 0) (wB (w_rem (u6.1 o42 j43) (u6.1 o1 13)) (fun (i44 : Int32) => wJ (X := Int32 × wSt) (if (u6.1 o1 62) = 0 then (wR (u6.2.2 o1 57) 14 (fun o49 => wN i2 o49 (fun j50 => wP (F_X9_isTold o1 i5 (u6.1 o49 j50) u6) (fun (i51 : Int32) => wJ (X := wSt) (if i51 = 0 then (wC (F_X9_isDaring o1 i2 i5 i44 u6) (fun (i56 : Int32) (u55 : wSt) => if i56 = 0 then (some (.inr (.inl (i44, u55)))) else (some (.inl u55)))) else (some (.inl u6))) (fun x => F_X9_stepGoes_j87 o1 i2 i5 i44 x))))) else (some (.inl (i44, u6)))) (fun x => F_X9_stepGoes_j97 i5 o1 i2 x.1 x.2)))))))) (fun x => F_X9_stepGoes_j112 o1 i2 x)
def F_X9_stepGoes (o1 : Nat) (i2 : Int32) (u0 : wSt) : Option (Unit × wSt) :=
  wB (w_sI u0 o1 59 (-1 : Int32)) (fun (u3 : wSt) => wJ (X := Int32 × wSt) (if (u3.1 o1 12) = 0 then (some (.inl ((-1 : Int32), u3))) else (wR (u3.2.2 o1 57) 14 (fun o57 => wN i2 o57 (fun j58 => wG (¬ (u3.1 o1 12) = 0) (wP (F_X9_sitsAt o1 i2 (w_rem (u3.1 o57 j58) (u3.1 o1 12)) u3) (fun (i59 : Int32) => some (.inl (i59, u3)))))))) (fun x => F_X9_stepGoes_j32 o1 i2 x.1 x.2))
set_option maxRecDepth 100000 in
set_option maxHeartbeats 4000000 in
theorem c_X9_stepGoes {l : Launch} {D : va_G} {κ : Nat → ClassId} {ρ : Nat → Nat} (o1 : Nat) (i2 : Int32) (h_o1 : (w_sh o1).1 = 9) : wMV l yX9_stepGoes cX9_stepGoes 4 (wRm 6 146) [.ref (ρ o1), .int i2] D κ ρ 1 (fun u => F_X9_stepGoes o1 i2 u) := by
  refine wMV_of (F := fun u => F_X9_stepGoes o1 i2 u) rfl (Nat.le_of_ble_eq_true rfl) (fun u0 z p e s m args below meth c ls A hF hC hr hlk hH hl => ?_)
  have hl : lv_has ls 4 [(0, .ref (ρ o1)), (1, .int i2)] := hl
  have hx := hC.1.1
  have hb := hC.1.2.1
  have hF : F_X9_stepGoes o1 i2 u0 = some z := hF
  unfold F_X9_stepGoes at hF
  change W p l e (wRm 6 146) s m args below meth c s.heap [] 0 0 (wQV below args s A D κ ρ 1 z) (F0 m 0 ls [])
  have key : ∀ (H : Heap) (locs : List Loc), wHp D κ ρ 1 A s.heap H locs u0 → W p l e (wRm 6 146) s m args below meth c H locs 0 0 (wQV below args s A D κ ρ 1 z) (F0 m 0 ls []) := by
    intro H locs hH
    refine lv_aload_n hx hb dX9_stepGoes_0 rfl (lv_at hl 0 rfl) ?_
    refine lv_iconst hx hb dX9_stepGoes_1 k_iconst_m1 ?_
    refine wx_putI hC hH h_o1 rfl f_X9_425 g_9_59 dX9_stepGoes_2 hF (fun u3 H locs hF hH => ?_)
    refine lv_aload_n hx hb dX9_stepGoes_5 rfl (lv_at hl 0 rfl) ?_
    refine wx_getI hC hH h_o1 rfl f_X9_219 dX9_stepGoes_6 ?_
    obtain ⟨q4_, hF, hq4⟩ := wJ_some hF
    have hJ32 : ∀ (i5 : Int32) (u6 : wSt) (H : Heap) (locs : List Loc) (ls : Array Slot), F_X9_stepGoes_j32 o1 i2 i5 u6 = some z → wHp D κ ρ 1 A s.heap H locs u6 → lv_has ls 4 [(0, .ref (ρ o1)), (1, .int i2)] → W p l e (wRm 6 146) s m args below meth c H locs 0 0 (wQV below args s A D κ ρ 1 z) (F0 m 32 ls [.int i5]) := by
      intro i5 u6 H locs ls hF hH hl
      unfold F_X9_stepGoes_j32 at hF
      refine wx_istore_n hx hb dX9_stepGoes_32 rfl hl (by decide) (fun ls hl => ?_)
      have hl : lv_has ls 4 [(2, .int i5), (0, .ref (ρ o1)), (1, .int i2)] := hl
      refine lv_iload_n hx hb dX9_stepGoes_33 rfl (lv_at hl 0 rfl) ?_
      obtain ⟨q7_, hF, hq7⟩ := wJ_some hF
      have hJ112 : ∀ (u8 : wSt) (H : Heap) (locs : List Loc) (ls : Array Slot), F_X9_stepGoes_j112 o1 i2 u8 = some z → wHp D κ ρ 1 A s.heap H locs u8 → lv_has ls 4 [(0, .ref (ρ o1)), (1, .int i2)] → W p l e (wRm 6 146) s m args below meth c H locs 0 0 (wQV below args s A D κ ρ 1 z) (F0 m 112 ls []) := by
        intro u8 H locs ls hF hH hl
        unfold F_X9_stepGoes_j112 at hF
        refine lv_iconst hx hb dX9_stepGoes_112 k_iconst_0 ?_
        refine wx_istore_n hx hb dX9_stepGoes_113 rfl hl (by decide) (fun ls hl => ?_)
        have hl : lv_has ls 4 [(3, .int (0 : Int32)), (0, .ref (ρ o1)), (1, .int i2)] := hl
        obtain ⟨q9_, hF, hq9⟩ := wJ_some hF
        have hJ163 : ∀ (u10 : wSt) (H : Heap) (locs : List Loc) (ls : Array Slot), F_X9_stepGoes_j163 o1 i2 u10 = some z → wHp D κ ρ 1 A s.heap H locs u10 → lv_has ls 4 [(0, .ref (ρ o1)), (1, .int i2)] → W p l e (wRm 6 146) s m args below meth c H locs 0 0 (wQV below args s A D κ ρ 1 z) (F0 m 163 ls []) := by
          intro u10 H locs ls hF hH hl
          unfold F_X9_stepGoes_j163 at hF
          refine lv_iconst hx hb dX9_stepGoes_163 k_iconst_0 ?_
          refine wx_istore_n hx hb dX9_stepGoes_164 rfl hl (by decide) (fun ls hl => ?_)
          have hl : lv_has ls 4 [(3, .int (0 : Int32)), (0, .ref (ρ o1)), (1, .int i2)] := hl
          obtain ⟨q11_, hF, hq11⟩ := wJ_some hF
          have hJ216 : ∀ (u12 : wSt) (H : Heap) (locs : List Loc) (ls : Array Slot), F_X9_stepGoes_j216 o1 i2 u12 = some z → wHp D κ ρ 1 A s.heap H locs u12 → lv_has ls 4 [(0, .ref (ρ o1)), (1, .int i2)] → W p l e (wRm 6 146) s m args below meth c H locs 0 0 (wQV below args s A D κ ρ 1 z) (F0 m 216 ls []) := by
            intro u12 H locs ls hF hH hl
            unfold F_X9_stepGoes_j216 at hF
            refine lv_aload_n hx hb dX9_stepGoes_216 rfl (lv_at hl 0 rfl) ?_
            refine wx_getR hC hH h_o1 rfl f_X9_112 dX9_stepGoes_217 hF (fun o13 h_o13 hF => ?_)
            refine lv_iload_n hx hb dX9_stepGoes_220 rfl (lv_at hl 1 rfl) ?_
            refine lv_dup2_11 hx hb dX9_stepGoes_221 rfl rfl ?_
            refine wx_iald hC hH h_o13 ⟨rfl, rfl⟩ dX9_stepGoes_222 hF (fun j14 hF => ?_)
            refine lv_iconst hx hb dX9_stepGoes_223 k_iconst_1 ?_
            refine lv_iadd hx hb dX9_stepGoes_224 ?_
            refine wx_iast hC hH h_o13 ⟨rfl, rfl⟩ dX9_stepGoes_225 hF (fun u15 H locs hF hH => ?_)
            exact wx_vret hC hH hr hlk dX9_stepGoes_226 hF
          have hL165 : ∀ (k16_ : Nat) (i17 : Int32) (u18 : wSt) (H : Heap) (locs : List Loc) (ls : Array Slot), wL (S := Int32 × wSt) (fun x => F_X9_stepGoes_b165 o1 i2 x.1 x.2) k16_ (i17, u18) = some q11_ → wHp D κ ρ 1 A s.heap H locs u18 → lv_has ls 4 [(0, .ref (ρ o1)), (1, .int i2), (3, .int i17)] → W p l e (wRm 6 146) s m args below meth c H locs 0 0 (wQV below args s A D κ ρ 1 z) (F0 m 165 ls []) := by
            intro k16_
            induction k16_ with
            | zero => intro i17 u18 H locs ls hF; exact wL_zero hF
            | succ k16_ ih16 =>
              intro i17 u18 H locs ls hF hH hl
              obtain ⟨q16_, hF, hq16⟩ := wL_some hF
              have hF : F_X9_stepGoes_b165 o1 i2 i17 u18 = some q16_ := hF
              unfold F_X9_stepGoes_b165 at hF
              refine lv_iload_n hx hb dX9_stepGoes_165 rfl (lv_at hl 2 rfl) ?_
              refine lv_aload_n hx hb dX9_stepGoes_166 rfl (lv_at hl 0 rfl) ?_
              refine wx_getI hC hH h_o1 rfl f_X9_219 dX9_stepGoes_167 ?_
              refine lv_icmp_ge hx hb dX9_stepGoes_170 (tgt := 216) rfl (fun h => ?_) (fun h => ?_)
              · have hF := wx_t h hF
                have hF := wJ_r hq16 hF
                have hF := wJ_l hq11 hF
                exact hJ216 u18 H locs ls hF hH (lv_sub hl [0, 1] rfl)
              have hF := wx_f h hF
              refine lv_aload_n hx hb dX9_stepGoes_173 rfl (lv_at hl 0 rfl) ?_
              refine lv_iload_n hx hb dX9_stepGoes_174 rfl (lv_at hl 1 rfl) ?_
              refine lv_iload_n hx hb dX9_stepGoes_175 rfl (lv_at hl 2 rfl) ?_
              refine wx_pvi hC hH hl (c_X9_isOn o1 i2 i17 h_o1) y_X9_isOn v_X9_isOn h_o1 rfl m_X9_386 rfl ⟨Nat.le_of_ble_eq_true rfl, Nat.le_of_ble_eq_true rfl⟩ ⟨Nat.le_refl _, Nat.le_refl _⟩ rfl (Nat.le_of_ble_eq_true rfl) dX9_stepGoes_176 hF (fun i19 H locs hF hH => ?_)
              obtain ⟨q20_, hF, hq20⟩ := wJ_some hF
              have hJ210 : ∀ (u21 : wSt) (H : Heap) (locs : List Loc) (ls : Array Slot), F_X9_stepGoes_j210 i17 u21 = some q16_ → wHp D κ ρ 1 A s.heap H locs u21 → lv_has ls 4 [(0, .ref (ρ o1)), (1, .int i2), (3, .int i17)] → W p l e (wRm 6 146) s m args below meth c H locs 0 0 (wQV below args s A D κ ρ 1 z) (F0 m 210 ls []) := by
                intro u21 H locs ls hF hH hl
                unfold F_X9_stepGoes_j210 at hF
                refine wx_iinc hx hb dX9_stepGoes_210 k_iconst_1 hl (k := 2) rfl (by decide) hF (fun i22 ls hF hl => ?_)
                have hl : lv_has ls 4 [(3, .int i22), (0, .ref (ρ o1)), (1, .int i2)] := hl
                refine lv_goto hx hb dX9_stepGoes_213 (tgt := 165) rfl ?_
                have hF := wJ_l hq16 hF
                exact ih16 i22 u21 H locs ls hF hH (lv_sub hl [1, 2, 0] rfl)
              refine lv_if_eq hx hb dX9_stepGoes_179 (tgt := 210) rfl (fun h => ?_) (fun h => ?_)
              · have hF := wx_t h hF
                have hF := wJ_l hq20 hF
                exact hJ210 u18 H locs ls hF hH (lv_sub hl [0, 1, 2] rfl)
              have hF := wx_f h hF
              refine lv_aload_n hx hb dX9_stepGoes_182 rfl (lv_at hl 0 rfl) ?_
              refine wx_getR hC hH h_o1 rfl f_X9_91 dX9_stepGoes_183 hF (fun o23 h_o23 hF => ?_)
              refine lv_bipush hx hb dX9_stepGoes_186 k_bipush_6 ?_
              refine lv_iload_n hx hb dX9_stepGoes_188 rfl (lv_at hl 1 rfl) ?_
              refine lv_imul hx hb dX9_stepGoes_189 ?_
              refine lv_iload_n hx hb dX9_stepGoes_190 rfl (lv_at hl 2 rfl) ?_
              refine lv_iadd hx hb dX9_stepGoes_191 ?_
              refine wx_iald hC hH h_o23 ⟨rfl, rfl⟩ dX9_stepGoes_192 hF (fun j24 hF => ?_)
              refine lv_bipush hx hb dX9_stepGoes_193 k_bipush_99 ?_
              refine lv_icmp_lt hx hb dX9_stepGoes_195 (tgt := 210) rfl (fun h => ?_) (fun h => ?_)
              · have hF := wx_t h hF
                have hF := wJ_l hq20 hF
                exact hJ210 u18 H locs ls hF hH (lv_sub hl [0, 1, 2] rfl)
              have hF := wx_f h hF
              refine lv_aload_n hx hb dX9_stepGoes_198 rfl (lv_at hl 0 rfl) ?_
              refine wx_getR hC hH h_o1 rfl f_X9_97 dX9_stepGoes_199 hF (fun o25 h_o25 hF => ?_)
              refine lv_bipush hx hb dX9_stepGoes_202 k_bipush_6 ?_
              refine lv_iload_n hx hb dX9_stepGoes_204 rfl (lv_at hl 1 rfl) ?_
              refine lv_imul hx hb dX9_stepGoes_205 ?_
              refine lv_iload_n hx hb dX9_stepGoes_206 rfl (lv_at hl 2 rfl) ?_
              refine lv_iadd hx hb dX9_stepGoes_207 ?_
              refine lv_iconst hx hb dX9_stepGoes_208 k_iconst_0 ?_
              refine wx_zast hC hH h_o25 ⟨rfl, rfl⟩ dX9_stepGoes_209 hF (fun u26 H locs hF hH => ?_)
              have hF := wJ_l hq20 hF
              exact hJ210 u26 H locs ls hF hH (lv_sub hl [0, 1, 2] rfl)
          exact hL165 wFu (0 : Int32) u10 H locs ls hF hH (lv_sub hl [1, 2, 0] rfl)
        have hL114 : ∀ (k27_ : Nat) (i28 : Int32) (u29 : wSt) (H : Heap) (locs : List Loc) (ls : Array Slot), wL (S := Int32 × wSt) (fun x => F_X9_stepGoes_b114 o1 i2 x.1 x.2) k27_ (i28, u29) = some q9_ → wHp D κ ρ 1 A s.heap H locs u29 → lv_has ls 4 [(0, .ref (ρ o1)), (1, .int i2), (3, .int i28)] → W p l e (wRm 6 146) s m args below meth c H locs 0 0 (wQV below args s A D κ ρ 1 z) (F0 m 114 ls []) := by
          intro k27_
          induction k27_ with
          | zero => intro i28 u29 H locs ls hF; exact wL_zero hF
          | succ k27_ ih27 =>
            intro i28 u29 H locs ls hF hH hl
            obtain ⟨q27_, hF, hq27⟩ := wL_some hF
            have hF : F_X9_stepGoes_b114 o1 i2 i28 u29 = some q27_ := hF
            unfold F_X9_stepGoes_b114 at hF
            refine lv_iload_n hx hb dX9_stepGoes_114 rfl (lv_at hl 2 rfl) ?_
            refine lv_aload_n hx hb dX9_stepGoes_115 rfl (lv_at hl 0 rfl) ?_
            refine wx_getI hC hH h_o1 rfl f_X9_219 dX9_stepGoes_116 ?_
            refine lv_icmp_ge hx hb dX9_stepGoes_119 (tgt := 163) rfl (fun h => ?_) (fun h => ?_)
            · have hF := wx_t h hF
              have hF := wJ_r hq27 hF
              have hF := wJ_l hq9 hF
              exact hJ163 u29 H locs ls hF hH (lv_sub hl [0, 1] rfl)
            have hF := wx_f h hF
            refine lv_aload_n hx hb dX9_stepGoes_122 rfl (lv_at hl 0 rfl) ?_
            refine lv_iload_n hx hb dX9_stepGoes_123 rfl (lv_at hl 1 rfl) ?_
            refine lv_iload_n hx hb dX9_stepGoes_124 rfl (lv_at hl 2 rfl) ?_
            refine wx_pvi hC hH hl (c_X9_isOn o1 i2 i28 h_o1) y_X9_isOn v_X9_isOn h_o1 rfl m_X9_386 rfl ⟨Nat.le_of_ble_eq_true rfl, Nat.le_of_ble_eq_true rfl⟩ ⟨Nat.le_refl _, Nat.le_refl _⟩ rfl (Nat.le_of_ble_eq_true rfl) dX9_stepGoes_125 hF (fun i30 H locs hF hH => ?_)
            obtain ⟨q31_, hF, hq31⟩ := wJ_some hF
            have hJ157 : ∀ (u32 : wSt) (H : Heap) (locs : List Loc) (ls : Array Slot), F_X9_stepGoes_j157 i28 u32 = some q27_ → wHp D κ ρ 1 A s.heap H locs u32 → lv_has ls 4 [(0, .ref (ρ o1)), (1, .int i2), (3, .int i28)] → W p l e (wRm 6 146) s m args below meth c H locs 0 0 (wQV below args s A D κ ρ 1 z) (F0 m 157 ls []) := by
              intro u32 H locs ls hF hH hl
              unfold F_X9_stepGoes_j157 at hF
              refine wx_iinc hx hb dX9_stepGoes_157 k_iconst_1 hl (k := 2) rfl (by decide) hF (fun i33 ls hF hl => ?_)
              have hl : lv_has ls 4 [(3, .int i33), (0, .ref (ρ o1)), (1, .int i2)] := hl
              refine lv_goto hx hb dX9_stepGoes_160 (tgt := 114) rfl ?_
              have hF := wJ_l hq27 hF
              exact ih27 i33 u32 H locs ls hF hH (lv_sub hl [1, 2, 0] rfl)
            refine lv_if_eq hx hb dX9_stepGoes_128 (tgt := 157) rfl (fun h => ?_) (fun h => ?_)
            · have hF := wx_t h hF
              have hF := wJ_l hq31 hF
              exact hJ157 u29 H locs ls hF hH (lv_sub hl [0, 1, 2] rfl)
            have hF := wx_f h hF
            refine lv_aload_n hx hb dX9_stepGoes_131 rfl (lv_at hl 0 rfl) ?_
            refine wx_getR hC hH h_o1 rfl f_X9_91 dX9_stepGoes_132 hF (fun o34 h_o34 hF => ?_)
            refine lv_bipush hx hb dX9_stepGoes_135 k_bipush_6 ?_
            refine lv_iload_n hx hb dX9_stepGoes_137 rfl (lv_at hl 1 rfl) ?_
            refine lv_imul hx hb dX9_stepGoes_138 ?_
            refine lv_iload_n hx hb dX9_stepGoes_139 rfl (lv_at hl 2 rfl) ?_
            refine lv_iadd hx hb dX9_stepGoes_140 ?_
            refine lv_dup2_11 hx hb dX9_stepGoes_141 rfl rfl ?_
            refine wx_iald hC hH h_o34 ⟨rfl, rfl⟩ dX9_stepGoes_142 hF (fun j35 hF => ?_)
            refine lv_aload_n hx hb dX9_stepGoes_143 rfl (lv_at hl 0 rfl) ?_
            refine wx_evi hC hH hl (c_X9_isDraught o1 h_o1) y_X9_isDraught v_X9_isDraught h_o1 rfl m_X9_452 rfl ⟨Nat.le_of_ble_eq_true rfl, Nat.le_of_ble_eq_true rfl⟩ ⟨Nat.le_refl _, Nat.le_refl _⟩ rfl (Nat.le_of_ble_eq_true rfl) dX9_stepGoes_144 hF (fun i37 u36 H locs hF hH => ?_)
            obtain ⟨q38_, hF, hq38⟩ := wJ_some hF
            have hJ155 : ∀ (i39 : Int32) (u40 : wSt) (H : Heap) (locs : List Loc) (ls : Array Slot), F_X9_stepGoes_j155 o34 i2 i28 u29 j35 i39 u40 = some q31_ → wHp D κ ρ 1 A s.heap H locs u40 → lv_has ls 4 [(0, .ref (ρ o1)), (1, .int i2), (3, .int i28)] → W p l e (wRm 6 146) s m args below meth c H locs 0 0 (wQV below args s A D κ ρ 1 z) (F0 m 155 ls [.int i39, .int (u29.1 o34 j35), .int (((6 : Int32) * i2) + i28), .ref (ρ o34)]) := by
              intro i39 u40 H locs ls hF hH hl
              unfold F_X9_stepGoes_j155 at hF
              refine lv_iadd hx hb dX9_stepGoes_155 ?_
              refine wx_iast hC hH h_o34 ⟨rfl, rfl⟩ dX9_stepGoes_156 hF (fun u41 H locs hF hH => ?_)
              have hF := wJ_l hq31 hF
              exact hJ157 u41 H locs ls hF hH (lv_sub hl [0, 1, 2] rfl)
            refine lv_if_eq hx hb dX9_stepGoes_147 (tgt := 154) rfl (fun h => ?_) (fun h => ?_)
            · have hF := wx_t h hF
              refine lv_iconst hx hb dX9_stepGoes_154 k_iconst_1 ?_
              have hF := wJ_l hq38 hF
              exact hJ155 (1 : Int32) u36 H locs ls hF hH (lv_sub hl [0, 1, 2] rfl)
            have hF := wx_f h hF
            refine lv_iconst hx hb dX9_stepGoes_150 k_iconst_3 ?_
            refine lv_goto hx hb dX9_stepGoes_151 (tgt := 155) rfl ?_
            have hF := wJ_l hq38 hF
            exact hJ155 (3 : Int32) u36 H locs ls hF hH (lv_sub hl [0, 1, 2] rfl)
        exact hL114 wFu (0 : Int32) u8 H locs ls hF hH (lv_sub hl [1, 2, 0] rfl)
      refine lv_if_lt hx hb dX9_stepGoes_34 (tgt := 112) rfl (fun h => ?_) (fun h => ?_)
      · have hF := wx_t h hF
        have hF := wJ_l hq7 hF
        exact hJ112 u6 H locs ls hF hH (lv_sub hl [1, 2] rfl)
      have hF := wx_f h hF
      refine lv_aload_n hx hb dX9_stepGoes_37 rfl (lv_at hl 1 rfl) ?_
      refine wx_getI hC hH h_o1 rfl f_X9_222 dX9_stepGoes_38 ?_
      refine lv_if_le hx hb dX9_stepGoes_41 (tgt := 112) rfl (fun h => ?_) (fun h => ?_)
      · have hF := wx_t h hF
        have hF := wJ_l hq7 hF
        exact hJ112 u6 H locs ls hF hH (lv_sub hl [1, 2] rfl)
      have hF := wx_f h hF
      refine lv_aload_n hx hb dX9_stepGoes_44 rfl (lv_at hl 1 rfl) ?_
      refine wx_getR hC hH h_o1 rfl f_X9_112 dX9_stepGoes_45 hF (fun o42 h_o42 hF => ?_)
      refine lv_iload_n hx hb dX9_stepGoes_48 rfl (lv_at hl 2 rfl) ?_
      refine wx_iald hC hH h_o42 ⟨rfl, rfl⟩ dX9_stepGoes_49 hF (fun j43 hF => ?_)
      refine lv_aload_n hx hb dX9_stepGoes_50 rfl (lv_at hl 1 rfl) ?_
      refine wx_getI hC hH h_o1 rfl f_X9_222 dX9_stepGoes_51 ?_
      obtain ⟨h0, hF⟩ := wG_some hF
      refine wx_irem hx hb dX9_stepGoes_54 h0 ?_
      refine wx_leti hF (fun i44 hF => ?_)
      refine wx_istore_n hx hb dX9_stepGoes_55 rfl hl (by decide) (fun ls hl => ?_)
      have hl : lv_has ls 4 [(3, .int i44), (2, .int i5), (0, .ref (ρ o1)), (1, .int i2)] := hl
      refine lv_aload_n hx hb dX9_stepGoes_56 rfl (lv_at hl 2 rfl) ?_
      refine wx_getI hC hH h_o1 rfl f_X9_359 dX9_stepGoes_57 ?_
      obtain ⟨q45_, hF, hq45⟩ := wJ_some hF
      have hJ97 : ∀ (i46 : Int32) (u47 : wSt) (H : Heap) (locs : List Loc) (ls : Array Slot), F_X9_stepGoes_j97 i5 o1 i2 i46 u47 = some q7_ → wHp D κ ρ 1 A s.heap H locs u47 → lv_has ls 4 [(0, .ref (ρ o1)), (1, .int i2), (2, .int i5), (3, .int i46)] → W p l e (wRm 6 146) s m args below meth c H locs 0 0 (wQV below args s A D κ ρ 1 z) (F0 m 97 ls []) := by
        intro i46 u47 H locs ls hF hH hl
        unfold F_X9_stepGoes_j97 at hF
        refine lv_iload_n hx hb dX9_stepGoes_97 rfl (lv_at hl 2 rfl) ?_
        refine lv_aload_n hx hb dX9_stepGoes_98 rfl (lv_at hl 0 rfl) ?_
        refine wx_getI hC hH h_o1 rfl f_X9_368 dX9_stepGoes_99 ?_
        refine lv_icmp_eq hx hb dX9_stepGoes_102 (tgt := 112) rfl (fun h => ?_) (fun h => ?_)
        · have hF := wx_t h hF
          have hF := wJ_l hq7 hF
          exact hJ112 u47 H locs ls hF hH (lv_sub hl [0, 1] rfl)
        have hF := wx_f h hF
        refine lv_aload_n hx hb dX9_stepGoes_105 rfl (lv_at hl 0 rfl) ?_
        refine lv_iload_n hx hb dX9_stepGoes_106 rfl (lv_at hl 1 rfl) ?_
        refine lv_iload_n hx hb dX9_stepGoes_107 rfl (lv_at hl 2 rfl) ?_
        refine lv_iload_n hx hb dX9_stepGoes_108 rfl (lv_at hl 3 rfl) ?_
        refine wx_evv hC hH hl (c_X9_praises o1 i2 i5 i46 h_o1) y_X9_praises v_X9_praises h_o1 rfl m_X9_449 rfl ⟨Nat.le_of_ble_eq_true rfl, Nat.le_of_ble_eq_true rfl⟩ ⟨Nat.le_refl _, Nat.le_refl _⟩ rfl (Nat.le_of_ble_eq_true rfl) dX9_stepGoes_109 hF (fun _ u48 H locs hF hH => ?_)
        have hF := wJ_l hq7 hF
        exact hJ112 u48 H locs ls hF hH (lv_sub hl [0, 1] rfl)
      refine lv_if_ne hx hb dX9_stepGoes_60 (tgt := 97) rfl (fun h => ?_) (fun h => ?_)
      · have hF := wx_f h hF
        have hF := wJ_l hq45 hF
        exact hJ97 i44 u6 H locs ls hF hH (lv_sub hl [2, 3, 1, 0] rfl)
      have hF := wx_t h hF
      refine lv_aload_n hx hb dX9_stepGoes_63 rfl (lv_at hl 2 rfl) ?_
      refine lv_iload_n hx hb dX9_stepGoes_64 rfl (lv_at hl 1 rfl) ?_
      refine lv_aload_n hx hb dX9_stepGoes_65 rfl (lv_at hl 2 rfl) ?_
      refine wx_getR hC hH h_o1 rfl f_X9_112 dX9_stepGoes_66 hF (fun o49 h_o49 hF => ?_)
      refine lv_iload_n hx hb dX9_stepGoes_69 rfl (lv_at hl 3 rfl) ?_
      refine wx_iald hC hH h_o49 ⟨rfl, rfl⟩ dX9_stepGoes_70 hF (fun j50 hF => ?_)
      refine wx_pvi hC hH hl (c_X9_isTold o1 i5 (u6.1 o49 j50) h_o1) y_X9_isTold v_X9_isTold h_o1 rfl m_X9_440 rfl ⟨Nat.le_of_ble_eq_true rfl, Nat.le_of_ble_eq_true rfl⟩ ⟨Nat.le_refl _, Nat.le_refl _⟩ rfl (Nat.le_of_ble_eq_true rfl) dX9_stepGoes_71 hF (fun i51 H locs hF hH => ?_)
      obtain ⟨q52_, hF, hq52⟩ := wJ_some hF
      have hJ87 : ∀ (u53 : wSt) (H : Heap) (locs : List Loc) (ls : Array Slot), F_X9_stepGoes_j87 o1 i2 i5 i44 u53 = some q45_ → wHp D κ ρ 1 A s.heap H locs u53 → lv_has ls 4 [(0, .ref (ρ o1)), (1, .int i2), (2, .int i5), (3, .int i44)] → W p l e (wRm 6 146) s m args below meth c H locs 0 0 (wQV below args s A D κ ρ 1 z) (F0 m 87 ls []) := by
        intro u53 H locs ls hF hH hl
        unfold F_X9_stepGoes_j87 at hF
        refine lv_aload_n hx hb dX9_stepGoes_87 rfl (lv_at hl 0 rfl) ?_
        refine lv_iload_n hx hb dX9_stepGoes_88 rfl (lv_at hl 1 rfl) ?_
        refine lv_iload_n hx hb dX9_stepGoes_89 rfl (lv_at hl 2 rfl) ?_
        refine lv_iload_n hx hb dX9_stepGoes_90 rfl (lv_at hl 3 rfl) ?_
        refine wx_evv hC hH hl (c_X9_bites o1 i2 i5 i44 h_o1) y_X9_bites v_X9_bites h_o1 rfl m_X9_446 rfl ⟨Nat.le_of_ble_eq_true rfl, Nat.le_of_ble_eq_true rfl⟩ ⟨Nat.le_refl _, Nat.le_refl _⟩ rfl (Nat.le_of_ble_eq_true rfl) dX9_stepGoes_91 hF (fun _ u54 H locs hF hH => ?_)
        refine lv_goto hx hb dX9_stepGoes_94 (tgt := 112) rfl ?_
        have hF := wJ_r hq45 hF
        have hF := wJ_l hq7 hF
        exact hJ112 u54 H locs ls hF hH (lv_sub hl [0, 1] rfl)
      refine lv_if_ne hx hb dX9_stepGoes_74 (tgt := 87) rfl (fun h => ?_) (fun h => ?_)
      · have hF := wx_f h hF
        have hF := wJ_l hq52 hF
        exact hJ87 u6 H locs ls hF hH (lv_sub hl [2, 3, 1, 0] rfl)
      have hF := wx_t h hF
      refine lv_aload_n hx hb dX9_stepGoes_77 rfl (lv_at hl 2 rfl) ?_
      refine lv_iload_n hx hb dX9_stepGoes_78 rfl (lv_at hl 3 rfl) ?_
      refine lv_iload_n hx hb dX9_stepGoes_79 rfl (lv_at hl 1 rfl) ?_
      refine lv_iload_n hx hb dX9_stepGoes_80 rfl (lv_at hl 0 rfl) ?_
      refine wx_evi hC hH hl (c_X9_isDaring o1 i2 i5 i44 h_o1) y_X9_isDaring v_X9_isDaring h_o1 rfl m_X9_443 rfl ⟨Nat.le_of_ble_eq_true rfl, Nat.le_of_ble_eq_true rfl⟩ ⟨Nat.le_refl _, Nat.le_refl _⟩ rfl (Nat.le_of_ble_eq_true rfl) dX9_stepGoes_81 hF (fun i56 u55 H locs hF hH => ?_)
      refine lv_if_eq hx hb dX9_stepGoes_84 (tgt := 97) rfl (fun h => ?_) (fun h => ?_)
      · have hF := wx_t h hF
        have hF := wJ_r hq52 hF
        have hF := wJ_l hq45 hF
        exact hJ97 i44 u55 H locs ls hF hH (lv_sub hl [2, 3, 1, 0] rfl)
      have hF := wx_f h hF
      have hF := wJ_l hq52 hF
      exact hJ87 u55 H locs ls hF hH (lv_sub hl [2, 3, 1, 0] rfl)
    refine lv_if_ne hx hb dX9_stepGoes_9 (tgt := 16) rfl (fun h => ?_) (fun h => ?_)
    · have hF := wx_f h hF
      refine lv_aload_n hx hb dX9_stepGoes_16 rfl (lv_at hl 0 rfl) ?_
      refine lv_iload_n hx hb dX9_stepGoes_17 rfl (lv_at hl 1 rfl) ?_
      refine lv_aload_n hx hb dX9_stepGoes_18 rfl (lv_at hl 0 rfl) ?_
      refine wx_getR hC hH h_o1 rfl f_X9_112 dX9_stepGoes_19 hF (fun o57 h_o57 hF => ?_)
      refine lv_iload_n hx hb dX9_stepGoes_22 rfl (lv_at hl 1 rfl) ?_
      refine wx_iald hC hH h_o57 ⟨rfl, rfl⟩ dX9_stepGoes_23 hF (fun j58 hF => ?_)
      refine lv_aload_n hx hb dX9_stepGoes_24 rfl (lv_at hl 0 rfl) ?_
      refine wx_getI hC hH h_o1 rfl f_X9_219 dX9_stepGoes_25 ?_
      obtain ⟨h0, hF⟩ := wG_some hF
      refine wx_irem hx hb dX9_stepGoes_28 h0 ?_
      refine wx_pvi hC hH hl (c_X9_sitsAt o1 i2 (w_rem (u3.1 o57 j58) (u3.1 o1 12)) h_o1) y_X9_sitsAt v_X9_sitsAt h_o1 rfl m_X9_437 rfl ⟨Nat.le_of_ble_eq_true rfl, Nat.le_of_ble_eq_true rfl⟩ ⟨Nat.le_refl _, Nat.le_refl _⟩ rfl (Nat.le_of_ble_eq_true rfl) dX9_stepGoes_29 hF (fun i59 H locs hF hH => ?_)
      have hF := wJ_l hq4 hF
      exact hJ32 i59 u3 H locs ls hF hH (lv_sub hl [0, 1] rfl)
    have hF := wx_t h hF
    refine lv_iconst hx hb dX9_stepGoes_12 k_iconst_m1 ?_
    refine lv_goto hx hb dX9_stepGoes_13 (tgt := 32) rfl ?_
    have hF := wJ_l hq4 hF
    exact hJ32 (-1 : Int32) u3 H locs ls hF hH (lv_sub hl [0, 1] rfl)
  exact key _ _ hH
def F_X9_goMany_b2 (i2 : Int32) (o1 : Nat) (i4 : Int32) (u5 : wSt) : Option ((Int32 × wSt) ⊕ (Unit × wSt)) :=
  if i2 ≤ i4 then (some (.inr ((), u5))) else (wC (F_X9_stepGoes o1 (1 : Int32) u5) (fun _ (u6 : wSt) => wB (i4 + (1 : Int32)) (fun (i7 : Int32) => some (.inl (i7, u6)))))
def F_X9_goMany (o1 : Nat) (i2 : Int32) (u0 : wSt) : Option (Unit × wSt) :=
  wL (S := Int32 × wSt) (fun x => F_X9_goMany_b2 i2 o1 x.1 x.2) wFu ((0 : Int32), u0)
set_option maxRecDepth 100000 in
set_option maxHeartbeats 4000000 in
theorem c_X9_goMany {l : Launch} {D : va_G} {κ : Nat → ClassId} {ρ : Nat → Nat} (o1 : Nat) (i2 : Int32) (h_o1 : (w_sh o1).1 = 9) : wMV l yX9_goMany cX9_goMany 3 (wRm 7 169) [.ref (ρ o1), .int i2] D κ ρ 1 (fun u => F_X9_goMany o1 i2 u) := by
  refine wMV_of (F := fun u => F_X9_goMany o1 i2 u) rfl (Nat.le_of_ble_eq_true rfl) (fun u0 z p e s m args below meth c ls A hF hC hr hlk hH hl => ?_)
  have hl : lv_has ls 3 [(0, .ref (ρ o1)), (1, .int i2)] := hl
  have hx := hC.1.1
  have hb := hC.1.2.1
  have hF : F_X9_goMany o1 i2 u0 = some z := hF
  unfold F_X9_goMany at hF
  change W p l e (wRm 7 169) s m args below meth c s.heap [] 0 0 (wQV below args s A D κ ρ 1 z) (F0 m 0 ls [])
  have key : ∀ (H : Heap) (locs : List Loc), wHp D κ ρ 1 A s.heap H locs u0 → W p l e (wRm 7 169) s m args below meth c H locs 0 0 (wQV below args s A D κ ρ 1 z) (F0 m 0 ls []) := by
    intro H locs hH
    refine lv_iconst hx hb dX9_goMany_0 k_iconst_0 ?_
    refine wx_istore_n hx hb dX9_goMany_1 rfl hl (by decide) (fun ls hl => ?_)
    have hl : lv_has ls 3 [(2, .int (0 : Int32)), (0, .ref (ρ o1)), (1, .int i2)] := hl
    have hL2 : ∀ (k3_ : Nat) (i4 : Int32) (u5 : wSt) (H : Heap) (locs : List Loc) (ls : Array Slot), wL (S := Int32 × wSt) (fun x => F_X9_goMany_b2 i2 o1 x.1 x.2) k3_ (i4, u5) = some z → wHp D κ ρ 1 A s.heap H locs u5 → lv_has ls 3 [(0, .ref (ρ o1)), (1, .int i2), (2, .int i4)] → W p l e (wRm 7 169) s m args below meth c H locs 0 0 (wQV below args s A D κ ρ 1 z) (F0 m 2 ls []) := by
      intro k3_
      induction k3_ with
      | zero => intro i4 u5 H locs ls hF; exact wL_zero hF
      | succ k3_ ih3 =>
        intro i4 u5 H locs ls hF hH hl
        obtain ⟨q3_, hF, hq3⟩ := wL_some hF
        have hF : F_X9_goMany_b2 i2 o1 i4 u5 = some q3_ := hF
        unfold F_X9_goMany_b2 at hF
        refine lv_iload_n hx hb dX9_goMany_2 rfl (lv_at hl 2 rfl) ?_
        refine lv_iload_n hx hb dX9_goMany_3 rfl (lv_at hl 1 rfl) ?_
        refine lv_icmp_ge hx hb dX9_goMany_4 (tgt := 18) rfl (fun h => ?_) (fun h => ?_)
        · have hF := wx_t h hF
          have hF := wJ_r hq3 hF
          exact wx_vret hC hH hr hlk dX9_goMany_18 hF
        have hF := wx_f h hF
        refine lv_aload_n hx hb dX9_goMany_7 rfl (lv_at hl 0 rfl) ?_
        refine lv_iconst hx hb dX9_goMany_8 k_iconst_1 ?_
        refine wx_evv hC hH hl (c_X9_stepGoes o1 (1 : Int32) h_o1) y_X9_stepGoes v_X9_stepGoes h_o1 rfl m_X9_455 rfl ⟨Nat.le_of_ble_eq_true rfl, Nat.le_of_ble_eq_true rfl⟩ ⟨Nat.le_refl _, Nat.le_refl _⟩ rfl (Nat.le_of_ble_eq_true rfl) dX9_goMany_9 hF (fun _ u6 H locs hF hH => ?_)
        refine wx_iinc hx hb dX9_goMany_12 k_iconst_1 hl (k := 2) rfl (by decide) hF (fun i7 ls hF hl => ?_)
        have hl : lv_has ls 3 [(2, .int i7), (0, .ref (ρ o1)), (1, .int i2)] := hl
        refine lv_goto hx hb dX9_goMany_15 (tgt := 2) rfl ?_
        have hF := wJ_l hq3 hF
        exact ih3 i7 u6 H locs ls hF hH (lv_sub hl [1, 2, 0] rfl)
    exact hL2 wFu (0 : Int32) u0 H locs ls hF hH (lv_sub hl [1, 2, 0] rfl)
  exact key _ _ hH
def F_X9_bitesAll_b4 (u0 : wSt) (o1 : Nat) (i2 : Int32) (i4 : Int32) (i5 : Int32) : Option ((Int32 × Int32) ⊕ Int32) :=
  if (u0.1 o1 12) ≤ i5 then (some (.inr (i4))) else (wR (u0.2.2 o1 53) 14 (fun o6 => wN (((6 : Int32) * i2) + i5) o6 (fun j7 => wB (i4 + (u0.1 o6 j7)) (fun (i8 : Int32) => wB (i5 + (1 : Int32)) (fun (i9 : Int32) => some (.inl (i8, i9)))))))
def F_X9_bitesAll (o1 : Nat) (i2 : Int32) (u0 : wSt) : Option Int32 :=
  wL (S := Int32 × Int32) (fun x => F_X9_bitesAll_b4 u0 o1 i2 x.1 x.2) wFu ((0 : Int32), (0 : Int32))
set_option maxRecDepth 100000 in
set_option maxHeartbeats 4000000 in
theorem c_X9_bitesAll {l : Launch} {D : va_G} {κ : Nat → ClassId} {ρ : Nat → Nat} (o1 : Nat) (i2 : Int32) (h_o1 : (w_sh o1).1 = 9) : wMI l yX9_bitesAll cX9_bitesAll 4 .int (wRm 0 0) [.ref (ρ o1), .int i2] D κ ρ 1 (fun u => wPu (F_X9_bitesAll o1 i2 u) u) := by
  refine wMP_of (F := fun u => F_X9_bitesAll o1 i2 u) rfl (Nat.le_of_ble_eq_true rfl) (fun u0 z p e s m args below meth c ls A hF hC hr hlk hH hl => ?_)
  have hl : lv_has ls 4 [(0, .ref (ρ o1)), (1, .int i2)] := hl
  have hx := hC.1.1
  have hb := hC.1.2.1
  have hF : F_X9_bitesAll o1 i2 u0 = some z := hF
  unfold F_X9_bitesAll at hF
  change W p l e (wRm 0 0) s m args below meth c s.heap [] 0 0 (wQI below args s A D κ ρ 1 (z, u0)) (F0 m 0 ls [])
  have key : ∀ (H : Heap) (locs : List Loc), wHp D κ ρ 1 A s.heap H locs u0 → W p l e (wRm 0 0) s m args below meth c H locs 0 0 (wQI below args s A D κ ρ 1 (z, u0)) (F0 m 0 ls []) := by
    intro H locs hH
    refine lv_iconst hx hb dX9_bitesAll_0 k_iconst_0 ?_
    refine wx_istore_n hx hb dX9_bitesAll_1 rfl hl (by decide) (fun ls hl => ?_)
    have hl : lv_has ls 4 [(2, .int (0 : Int32)), (0, .ref (ρ o1)), (1, .int i2)] := hl
    refine lv_iconst hx hb dX9_bitesAll_2 k_iconst_0 ?_
    refine wx_istore_n hx hb dX9_bitesAll_3 rfl hl (by decide) (fun ls hl => ?_)
    have hl : lv_has ls 4 [(3, .int (0 : Int32)), (2, .int (0 : Int32)), (0, .ref (ρ o1)), (1, .int i2)] := hl
    have hL4 : ∀ (k3_ : Nat) (i4 : Int32) (i5 : Int32) (H : Heap) (locs : List Loc) (ls : Array Slot), wL (S := Int32 × Int32) (fun x => F_X9_bitesAll_b4 u0 o1 i2 x.1 x.2) k3_ (i4, i5) = some z → wHp D κ ρ 1 A s.heap H locs u0 → lv_has ls 4 [(0, .ref (ρ o1)), (1, .int i2), (2, .int i4), (3, .int i5)] → W p l e (wRm 0 0) s m args below meth c H locs 0 0 (wQI below args s A D κ ρ 1 (z, u0)) (F0 m 4 ls []) := by
      intro k3_
      induction k3_ with
      | zero => intro i4 i5 H locs ls hF; exact wL_zero hF
      | succ k3_ ih3 =>
        intro i4 i5 H locs ls hF hH hl
        obtain ⟨q3_, hF, hq3⟩ := wL_some hF
        have hF : F_X9_bitesAll_b4 u0 o1 i2 i4 i5 = some q3_ := hF
        unfold F_X9_bitesAll_b4 at hF
        refine lv_iload_n hx hb dX9_bitesAll_4 rfl (lv_at hl 3 rfl) ?_
        refine lv_aload_n hx hb dX9_bitesAll_5 rfl (lv_at hl 0 rfl) ?_
        refine wx_getI hC hH h_o1 rfl f_X9_219 dX9_bitesAll_6 ?_
        refine lv_icmp_ge hx hb dX9_bitesAll_9 (tgt := 32) rfl (fun h => ?_) (fun h => ?_)
        · have hF := wx_t h hF
          refine lv_iload_n hx hb dX9_bitesAll_32 rfl (lv_at hl 2 rfl) ?_
          have hF := wJ_r hq3 hF
          exact wx_iret hC hH hr hlk dX9_bitesAll_33 (wx_pr hF)
        have hF := wx_f h hF
        refine lv_iload_n hx hb dX9_bitesAll_12 rfl (lv_at hl 2 rfl) ?_
        refine lv_aload_n hx hb dX9_bitesAll_13 rfl (lv_at hl 0 rfl) ?_
        refine wx_getR hC hH h_o1 rfl f_X9_100 dX9_bitesAll_14 hF (fun o6 h_o6 hF => ?_)
        refine lv_bipush hx hb dX9_bitesAll_17 k_bipush_6 ?_
        refine lv_iload_n hx hb dX9_bitesAll_19 rfl (lv_at hl 1 rfl) ?_
        refine lv_imul hx hb dX9_bitesAll_20 ?_
        refine lv_iload_n hx hb dX9_bitesAll_21 rfl (lv_at hl 3 rfl) ?_
        refine lv_iadd hx hb dX9_bitesAll_22 ?_
        refine wx_iald hC hH h_o6 ⟨rfl, rfl⟩ dX9_bitesAll_23 hF (fun j7 hF => ?_)
        refine lv_iadd hx hb dX9_bitesAll_24 ?_
        refine wx_leti hF (fun i8 hF => ?_)
        refine wx_istore_n hx hb dX9_bitesAll_25 rfl hl (by decide) (fun ls hl => ?_)
        have hl : lv_has ls 4 [(2, .int i8), (0, .ref (ρ o1)), (1, .int i2), (3, .int i5)] := hl
        refine wx_iinc hx hb dX9_bitesAll_26 k_iconst_1 hl (k := 3) rfl (by decide) hF (fun i9 ls hF hl => ?_)
        have hl : lv_has ls 4 [(3, .int i9), (2, .int i8), (0, .ref (ρ o1)), (1, .int i2)] := hl
        refine lv_goto hx hb dX9_bitesAll_29 (tgt := 4) rfl ?_
        have hF := wJ_l hq3 hF
        exact ih3 i8 i9 H locs ls hF hH (lv_sub hl [2, 3, 1, 0] rfl)
    exact hL4 wFu (0 : Int32) (0 : Int32) H locs ls hF hH (lv_sub hl [2, 3, 1, 0] rfl)
  exact key _ _ hH
def F_X9_fainted_j32 (i4 : Int32) (i5 : Int32) (i9 : Int32) : Option ((Int32 × Int32) ⊕ Int32) :=
  wB (i4 + i9) (fun (i10 : Int32) => wB (i5 + (1 : Int32)) (fun (i11 : Int32) => some (.inl (i10, i11))))
def F_X9_fainted_b4 (u0 : wSt) (o1 : Nat) (i2 : Int32) (i4 : Int32) (i5 : Int32) : Option ((Int32 × Int32) ⊕ Int32) :=
  if (u0.1 o1 12) ≤ i5 then (some (.inr (i4))) else (wR (u0.2.2 o1 52) 15 (fun o6 => wN (((6 : Int32) * i2) + i5) o6 (fun j7 => wJ (X := Int32) (if (u0.1 o6 j7) = 0 then (some (.inl (1 : Int32))) else (some (.inl (0 : Int32)))) (fun x => F_X9_fainted_j32 i4 i5 x))))
def F_X9_fainted (o1 : Nat) (i2 : Int32) (u0 : wSt) : Option Int32 :=
  wL (S := Int32 × Int32) (fun x => F_X9_fainted_b4 u0 o1 i2 x.1 x.2) wFu ((0 : Int32), (0 : Int32))
set_option maxRecDepth 100000 in
set_option maxHeartbeats 4000000 in
theorem c_X9_fainted {l : Launch} {D : va_G} {κ : Nat → ClassId} {ρ : Nat → Nat} (o1 : Nat) (i2 : Int32) (h_o1 : (w_sh o1).1 = 9) : wMI l yX9_fainted cX9_fainted 4 .int (wRm 0 0) [.ref (ρ o1), .int i2] D κ ρ 1 (fun u => wPu (F_X9_fainted o1 i2 u) u) := by
  refine wMP_of (F := fun u => F_X9_fainted o1 i2 u) rfl (Nat.le_of_ble_eq_true rfl) (fun u0 z p e s m args below meth c ls A hF hC hr hlk hH hl => ?_)
  have hl : lv_has ls 4 [(0, .ref (ρ o1)), (1, .int i2)] := hl
  have hx := hC.1.1
  have hb := hC.1.2.1
  have hF : F_X9_fainted o1 i2 u0 = some z := hF
  unfold F_X9_fainted at hF
  change W p l e (wRm 0 0) s m args below meth c s.heap [] 0 0 (wQI below args s A D κ ρ 1 (z, u0)) (F0 m 0 ls [])
  have key : ∀ (H : Heap) (locs : List Loc), wHp D κ ρ 1 A s.heap H locs u0 → W p l e (wRm 0 0) s m args below meth c H locs 0 0 (wQI below args s A D κ ρ 1 (z, u0)) (F0 m 0 ls []) := by
    intro H locs hH
    refine lv_iconst hx hb dX9_fainted_0 k_iconst_0 ?_
    refine wx_istore_n hx hb dX9_fainted_1 rfl hl (by decide) (fun ls hl => ?_)
    have hl : lv_has ls 4 [(2, .int (0 : Int32)), (0, .ref (ρ o1)), (1, .int i2)] := hl
    refine lv_iconst hx hb dX9_fainted_2 k_iconst_0 ?_
    refine wx_istore_n hx hb dX9_fainted_3 rfl hl (by decide) (fun ls hl => ?_)
    have hl : lv_has ls 4 [(3, .int (0 : Int32)), (2, .int (0 : Int32)), (0, .ref (ρ o1)), (1, .int i2)] := hl
    have hL4 : ∀ (k3_ : Nat) (i4 : Int32) (i5 : Int32) (H : Heap) (locs : List Loc) (ls : Array Slot), wL (S := Int32 × Int32) (fun x => F_X9_fainted_b4 u0 o1 i2 x.1 x.2) k3_ (i4, i5) = some z → wHp D κ ρ 1 A s.heap H locs u0 → lv_has ls 4 [(0, .ref (ρ o1)), (1, .int i2), (2, .int i4), (3, .int i5)] → W p l e (wRm 0 0) s m args below meth c H locs 0 0 (wQI below args s A D κ ρ 1 (z, u0)) (F0 m 4 ls []) := by
      intro k3_
      induction k3_ with
      | zero => intro i4 i5 H locs ls hF; exact wL_zero hF
      | succ k3_ ih3 =>
        intro i4 i5 H locs ls hF hH hl
        obtain ⟨q3_, hF, hq3⟩ := wL_some hF
        have hF : F_X9_fainted_b4 u0 o1 i2 i4 i5 = some q3_ := hF
        unfold F_X9_fainted_b4 at hF
        refine lv_iload_n hx hb dX9_fainted_4 rfl (lv_at hl 3 rfl) ?_
        refine lv_aload_n hx hb dX9_fainted_5 rfl (lv_at hl 0 rfl) ?_
        refine wx_getI hC hH h_o1 rfl f_X9_219 dX9_fainted_6 ?_
        refine lv_icmp_ge hx hb dX9_fainted_9 (tgt := 40) rfl (fun h => ?_) (fun h => ?_)
        · have hF := wx_t h hF
          refine lv_iload_n hx hb dX9_fainted_40 rfl (lv_at hl 2 rfl) ?_
          have hF := wJ_r hq3 hF
          exact wx_iret hC hH hr hlk dX9_fainted_41 (wx_pr hF)
        have hF := wx_f h hF
        refine lv_iload_n hx hb dX9_fainted_12 rfl (lv_at hl 2 rfl) ?_
        refine lv_aload_n hx hb dX9_fainted_13 rfl (lv_at hl 0 rfl) ?_
        refine wx_getR hC hH h_o1 rfl f_X9_97 dX9_fainted_14 hF (fun o6 h_o6 hF => ?_)
        refine lv_bipush hx hb dX9_fainted_17 k_bipush_6 ?_
        refine lv_iload_n hx hb dX9_fainted_19 rfl (lv_at hl 1 rfl) ?_
        refine lv_imul hx hb dX9_fainted_20 ?_
        refine lv_iload_n hx hb dX9_fainted_21 rfl (lv_at hl 3 rfl) ?_
        refine lv_iadd hx hb dX9_fainted_22 ?_
        refine wx_zald hC hH h_o6 ⟨rfl, rfl⟩ dX9_fainted_23 hF (fun j7 hF => ?_)
        obtain ⟨q8_, hF, hq8⟩ := wJ_some hF
        have hJ32 : ∀ (i9 : Int32) (H : Heap) (locs : List Loc) (ls : Array Slot), F_X9_fainted_j32 i4 i5 i9 = some q3_ → wHp D κ ρ 1 A s.heap H locs u0 → lv_has ls 4 [(0, .ref (ρ o1)), (1, .int i2), (3, .int i5)] → W p l e (wRm 0 0) s m args below meth c H locs 0 0 (wQI below args s A D κ ρ 1 (z, u0)) (F0 m 32 ls [.int i9, .int i4]) := by
          intro i9 H locs ls hF hH hl
          unfold F_X9_fainted_j32 at hF
          refine lv_iadd hx hb dX9_fainted_32 ?_
          refine wx_leti hF (fun i10 hF => ?_)
          refine wx_istore_n hx hb dX9_fainted_33 rfl hl (by decide) (fun ls hl => ?_)
          have hl : lv_has ls 4 [(2, .int i10), (0, .ref (ρ o1)), (1, .int i2), (3, .int i5)] := hl
          refine wx_iinc hx hb dX9_fainted_34 k_iconst_1 hl (k := 3) rfl (by decide) hF (fun i11 ls hF hl => ?_)
          have hl : lv_has ls 4 [(3, .int i11), (2, .int i10), (0, .ref (ρ o1)), (1, .int i2)] := hl
          refine lv_goto hx hb dX9_fainted_37 (tgt := 4) rfl ?_
          have hF := wJ_l hq3 hF
          exact ih3 i10 i11 H locs ls hF hH (lv_sub hl [2, 3, 1, 0] rfl)
        refine lv_if_eq hx hb dX9_fainted_24 (tgt := 31) rfl (fun h => ?_) (fun h => ?_)
        · have hF := wx_t h hF
          refine lv_iconst hx hb dX9_fainted_31 k_iconst_1 ?_
          have hF := wJ_l hq8 hF
          exact hJ32 (1 : Int32) H locs ls hF hH (lv_sub hl [0, 1, 3] rfl)
        have hF := wx_f h hF
        refine lv_iconst hx hb dX9_fainted_27 k_iconst_0 ?_
        refine lv_goto hx hb dX9_fainted_28 (tgt := 32) rfl ?_
        have hF := wJ_l hq8 hF
        exact hJ32 (0 : Int32) H locs ls hF hH (lv_sub hl [0, 1, 3] rfl)
    exact hL4 wFu (0 : Int32) (0 : Int32) H locs ls hF hH (lv_sub hl [2, 3, 1, 0] rfl)
  exact key _ _ hH
def F_X9_fedAll_b4 (u0 : wSt) (o1 : Nat) (i2 : Int32) (i4 : Int32) (i5 : Int32) : Option ((Int32 × Int32) ⊕ Int32) :=
  if (u0.1 o1 13) ≤ i5 then (some (.inr (i4))) else (wR (u0.2.2 o1 56) 14 (fun o6 => wN (((8 : Int32) * i2) + i5) o6 (fun j7 => wB (i4 + (u0.1 o6 j7)) (fun (i8 : Int32) => wB (i5 + (1 : Int32)) (fun (i9 : Int32) => some (.inl (i8, i9)))))))
def F_X9_fedAll (o1 : Nat) (i2 : Int32) (u0 : wSt) : Option Int32 :=
  wL (S := Int32 × Int32) (fun x => F_X9_fedAll_b4 u0 o1 i2 x.1 x.2) wFu ((0 : Int32), (0 : Int32))
set_option maxRecDepth 100000 in
set_option maxHeartbeats 4000000 in
theorem c_X9_fedAll {l : Launch} {D : va_G} {κ : Nat → ClassId} {ρ : Nat → Nat} (o1 : Nat) (i2 : Int32) (h_o1 : (w_sh o1).1 = 9) : wMI l yX9_fedAll cX9_fedAll 4 .int (wRm 0 0) [.ref (ρ o1), .int i2] D κ ρ 1 (fun u => wPu (F_X9_fedAll o1 i2 u) u) := by
  refine wMP_of (F := fun u => F_X9_fedAll o1 i2 u) rfl (Nat.le_of_ble_eq_true rfl) (fun u0 z p e s m args below meth c ls A hF hC hr hlk hH hl => ?_)
  have hl : lv_has ls 4 [(0, .ref (ρ o1)), (1, .int i2)] := hl
  have hx := hC.1.1
  have hb := hC.1.2.1
  have hF : F_X9_fedAll o1 i2 u0 = some z := hF
  unfold F_X9_fedAll at hF
  change W p l e (wRm 0 0) s m args below meth c s.heap [] 0 0 (wQI below args s A D κ ρ 1 (z, u0)) (F0 m 0 ls [])
  have key : ∀ (H : Heap) (locs : List Loc), wHp D κ ρ 1 A s.heap H locs u0 → W p l e (wRm 0 0) s m args below meth c H locs 0 0 (wQI below args s A D κ ρ 1 (z, u0)) (F0 m 0 ls []) := by
    intro H locs hH
    refine lv_iconst hx hb dX9_fedAll_0 k_iconst_0 ?_
    refine wx_istore_n hx hb dX9_fedAll_1 rfl hl (by decide) (fun ls hl => ?_)
    have hl : lv_has ls 4 [(2, .int (0 : Int32)), (0, .ref (ρ o1)), (1, .int i2)] := hl
    refine lv_iconst hx hb dX9_fedAll_2 k_iconst_0 ?_
    refine wx_istore_n hx hb dX9_fedAll_3 rfl hl (by decide) (fun ls hl => ?_)
    have hl : lv_has ls 4 [(3, .int (0 : Int32)), (2, .int (0 : Int32)), (0, .ref (ρ o1)), (1, .int i2)] := hl
    have hL4 : ∀ (k3_ : Nat) (i4 : Int32) (i5 : Int32) (H : Heap) (locs : List Loc) (ls : Array Slot), wL (S := Int32 × Int32) (fun x => F_X9_fedAll_b4 u0 o1 i2 x.1 x.2) k3_ (i4, i5) = some z → wHp D κ ρ 1 A s.heap H locs u0 → lv_has ls 4 [(0, .ref (ρ o1)), (1, .int i2), (2, .int i4), (3, .int i5)] → W p l e (wRm 0 0) s m args below meth c H locs 0 0 (wQI below args s A D κ ρ 1 (z, u0)) (F0 m 4 ls []) := by
      intro k3_
      induction k3_ with
      | zero => intro i4 i5 H locs ls hF; exact wL_zero hF
      | succ k3_ ih3 =>
        intro i4 i5 H locs ls hF hH hl
        obtain ⟨q3_, hF, hq3⟩ := wL_some hF
        have hF : F_X9_fedAll_b4 u0 o1 i2 i4 i5 = some q3_ := hF
        unfold F_X9_fedAll_b4 at hF
        refine lv_iload_n hx hb dX9_fedAll_4 rfl (lv_at hl 3 rfl) ?_
        refine lv_aload_n hx hb dX9_fedAll_5 rfl (lv_at hl 0 rfl) ?_
        refine wx_getI hC hH h_o1 rfl f_X9_222 dX9_fedAll_6 ?_
        refine lv_icmp_ge hx hb dX9_fedAll_9 (tgt := 32) rfl (fun h => ?_) (fun h => ?_)
        · have hF := wx_t h hF
          refine lv_iload_n hx hb dX9_fedAll_32 rfl (lv_at hl 2 rfl) ?_
          have hF := wJ_r hq3 hF
          exact wx_iret hC hH hr hlk dX9_fedAll_33 (wx_pr hF)
        have hF := wx_f h hF
        refine lv_iload_n hx hb dX9_fedAll_12 rfl (lv_at hl 2 rfl) ?_
        refine lv_aload_n hx hb dX9_fedAll_13 rfl (lv_at hl 0 rfl) ?_
        refine wx_getR hC hH h_o1 rfl f_X9_109 dX9_fedAll_14 hF (fun o6 h_o6 hF => ?_)
        refine lv_bipush hx hb dX9_fedAll_17 k_bipush_8 ?_
        refine lv_iload_n hx hb dX9_fedAll_19 rfl (lv_at hl 1 rfl) ?_
        refine lv_imul hx hb dX9_fedAll_20 ?_
        refine lv_iload_n hx hb dX9_fedAll_21 rfl (lv_at hl 3 rfl) ?_
        refine lv_iadd hx hb dX9_fedAll_22 ?_
        refine wx_iald hC hH h_o6 ⟨rfl, rfl⟩ dX9_fedAll_23 hF (fun j7 hF => ?_)
        refine lv_iadd hx hb dX9_fedAll_24 ?_
        refine wx_leti hF (fun i8 hF => ?_)
        refine wx_istore_n hx hb dX9_fedAll_25 rfl hl (by decide) (fun ls hl => ?_)
        have hl : lv_has ls 4 [(2, .int i8), (0, .ref (ρ o1)), (1, .int i2), (3, .int i5)] := hl
        refine wx_iinc hx hb dX9_fedAll_26 k_iconst_1 hl (k := 3) rfl (by decide) hF (fun i9 ls hF hl => ?_)
        have hl : lv_has ls 4 [(3, .int i9), (2, .int i8), (0, .ref (ρ o1)), (1, .int i2)] := hl
        refine lv_goto hx hb dX9_fedAll_29 (tgt := 4) rfl ?_
        have hF := wJ_l hq3 hF
        exact ih3 i8 i9 H locs ls hF hH (lv_sub hl [2, 3, 1, 0] rfl)
    exact hL4 wFu (0 : Int32) (0 : Int32) H locs ls hF hH (lv_sub hl [2, 3, 1, 0] rfl)
  exact key _ _ hH
def F_X9_fails (o1 : Nat) (i2 : Int32) (u0 : wSt) : Option (Int32 × wSt) :=
  wB (w_sI u0 o1 2 i2) (fun (u3 : wSt) => some ((0 : Int32), u3))
set_option maxRecDepth 100000 in
set_option maxHeartbeats 4000000 in
theorem c_X9_fails {l : Launch} {D : va_G} {κ : Nat → ClassId} {ρ : Nat → Nat} (o1 : Nat) (i2 : Int32) (h_o1 : (w_sh o1).1 = 9) : wMI l yX9_fails cX9_fails 2 .int (wRm 0 0) [.ref (ρ o1), .int i2] D κ ρ 1 (fun u => F_X9_fails o1 i2 u) := by
  refine wMI_of (F := fun u => F_X9_fails o1 i2 u) rfl (Nat.le_of_ble_eq_true rfl) (fun u0 z p e s m args below meth c ls A hF hC hr hlk hH hl => ?_)
  have hl : lv_has ls 2 [(0, .ref (ρ o1)), (1, .int i2)] := hl
  have hx := hC.1.1
  have hb := hC.1.2.1
  have hF : F_X9_fails o1 i2 u0 = some z := hF
  unfold F_X9_fails at hF
  change W p l e (wRm 0 0) s m args below meth c s.heap [] 0 0 (wQI below args s A D κ ρ 1 z) (F0 m 0 ls [])
  have key : ∀ (H : Heap) (locs : List Loc), wHp D κ ρ 1 A s.heap H locs u0 → W p l e (wRm 0 0) s m args below meth c H locs 0 0 (wQI below args s A D κ ρ 1 z) (F0 m 0 ls []) := by
    intro H locs hH
    refine lv_aload_n hx hb dX9_fails_0 rfl (lv_at hl 0 rfl) ?_
    refine lv_iload_n hx hb dX9_fails_1 rfl (lv_at hl 1 rfl) ?_
    refine wx_putI hC hH h_o1 rfl f_X9_142 g_9_2 dX9_fails_2 hF (fun u3 H locs hF hH => ?_)
    refine lv_iconst hx hb dX9_fails_5 k_iconst_0 ?_
    exact wx_iret hC hH hr hlk dX9_fails_6 hF
  exact key _ _ hH
def F_X9_hearing_j34 (i5 : Int32) (i6 : Int32) (i9 : Int32) : Option ((Int32 × Int32) ⊕ Int32) :=
  wB (i5 ||| i9) (fun (i10 : Int32) => wB (i6 + (1 : Int32)) (fun (i11 : Int32) => some (.inl (i10, i11))))
def F_X9_hearing_b5 (u0 : wSt) (o1 : Nat) (i2 : Int32) (i3 : Int32) (i5 : Int32) (i6 : Int32) : Option ((Int32 × Int32) ⊕ Int32) :=
  if (u0.1 o1 12) ≤ i6 then (some (.inr (i5))) else (wP (F_X9_hears o1 i2 i6 i3 u0) (fun (i7 : Int32) => wJ (X := Int32) (if i7 = 0 then (some (.inl (0 : Int32))) else (some (.inl ((1 : Int32) <<< (i6 &&& 31))))) (fun x => F_X9_hearing_j34 i5 i6 x)))
def F_X9_hearing (o1 : Nat) (i2 : Int32) (i3 : Int32) (u0 : wSt) : Option Int32 :=
  wL (S := Int32 × Int32) (fun x => F_X9_hearing_b5 u0 o1 i2 i3 x.1 x.2) wFu ((0 : Int32), (0 : Int32))
set_option maxRecDepth 100000 in
set_option maxHeartbeats 4000000 in
theorem c_X9_hearing {l : Launch} {D : va_G} {κ : Nat → ClassId} {ρ : Nat → Nat} (o1 : Nat) (i2 : Int32) (i3 : Int32) (h_o1 : (w_sh o1).1 = 9) : wMI l yX9_hearing cX9_hearing 5 .int (wRm 3 66) [.ref (ρ o1), .int i2, .int i3] D κ ρ 1 (fun u => wPu (F_X9_hearing o1 i2 i3 u) u) := by
  refine wMP_of (F := fun u => F_X9_hearing o1 i2 i3 u) rfl (Nat.le_of_ble_eq_true rfl) (fun u0 z p e s m args below meth c ls A hF hC hr hlk hH hl => ?_)
  have hl : lv_has ls 5 [(0, .ref (ρ o1)), (1, .int i2), (2, .int i3)] := hl
  have hx := hC.1.1
  have hb := hC.1.2.1
  have hF : F_X9_hearing o1 i2 i3 u0 = some z := hF
  unfold F_X9_hearing at hF
  change W p l e (wRm 3 66) s m args below meth c s.heap [] 0 0 (wQI below args s A D κ ρ 1 (z, u0)) (F0 m 0 ls [])
  have key : ∀ (H : Heap) (locs : List Loc), wHp D κ ρ 1 A s.heap H locs u0 → W p l e (wRm 3 66) s m args below meth c H locs 0 0 (wQI below args s A D κ ρ 1 (z, u0)) (F0 m 0 ls []) := by
    intro H locs hH
    refine lv_iconst hx hb dX9_hearing_0 k_iconst_0 ?_
    refine wx_istore_n hx hb dX9_hearing_1 rfl hl (by decide) (fun ls hl => ?_)
    have hl : lv_has ls 5 [(3, .int (0 : Int32)), (0, .ref (ρ o1)), (1, .int i2), (2, .int i3)] := hl
    refine lv_iconst hx hb dX9_hearing_2 k_iconst_0 ?_
    refine wx_istore hx hb dX9_hearing_3 hl (by decide) (fun ls hl => ?_)
    have hl : lv_has ls 5 [(4, .int (0 : Int32)), (3, .int (0 : Int32)), (0, .ref (ρ o1)), (1, .int i2), (2, .int i3)] := hl
    have hL5 : ∀ (k4_ : Nat) (i5 : Int32) (i6 : Int32) (H : Heap) (locs : List Loc) (ls : Array Slot), wL (S := Int32 × Int32) (fun x => F_X9_hearing_b5 u0 o1 i2 i3 x.1 x.2) k4_ (i5, i6) = some z → wHp D κ ρ 1 A s.heap H locs u0 → lv_has ls 5 [(0, .ref (ρ o1)), (1, .int i2), (2, .int i3), (3, .int i5), (4, .int i6)] → W p l e (wRm 3 66) s m args below meth c H locs 0 0 (wQI below args s A D κ ρ 1 (z, u0)) (F0 m 5 ls []) := by
      intro k4_
      induction k4_ with
      | zero => intro i5 i6 H locs ls hF; exact wL_zero hF
      | succ k4_ ih4 =>
        intro i5 i6 H locs ls hF hH hl
        obtain ⟨q4_, hF, hq4⟩ := wL_some hF
        have hF : F_X9_hearing_b5 u0 o1 i2 i3 i5 i6 = some q4_ := hF
        unfold F_X9_hearing_b5 at hF
        refine lv_iload hx hb dX9_hearing_5 (lv_at hl 4 rfl) ?_
        refine lv_aload_n hx hb dX9_hearing_7 rfl (lv_at hl 0 rfl) ?_
        refine wx_getI hC hH h_o1 rfl f_X9_219 dX9_hearing_8 ?_
        refine lv_icmp_ge hx hb dX9_hearing_11 (tgt := 42) rfl (fun h => ?_) (fun h => ?_)
        · have hF := wx_t h hF
          refine lv_iload_n hx hb dX9_hearing_42 rfl (lv_at hl 3 rfl) ?_
          have hF := wJ_r hq4 hF
          exact wx_iret hC hH hr hlk dX9_hearing_43 (wx_pr hF)
        have hF := wx_f h hF
        refine lv_iload_n hx hb dX9_hearing_14 rfl (lv_at hl 3 rfl) ?_
        refine lv_aload_n hx hb dX9_hearing_15 rfl (lv_at hl 0 rfl) ?_
        refine lv_iload_n hx hb dX9_hearing_16 rfl (lv_at hl 1 rfl) ?_
        refine lv_iload hx hb dX9_hearing_17 (lv_at hl 4 rfl) ?_
        refine lv_iload_n hx hb dX9_hearing_19 rfl (lv_at hl 2 rfl) ?_
        refine wx_pvi hC hH hl (c_X9_hears o1 i2 i6 i3 h_o1) y_X9_hears v_X9_hears h_o1 rfl m_X9_431 rfl ⟨Nat.le_of_ble_eq_true rfl, Nat.le_of_ble_eq_true rfl⟩ ⟨Nat.le_refl _, Nat.le_refl _⟩ rfl (Nat.le_of_ble_eq_true rfl) dX9_hearing_20 hF (fun i7 H locs hF hH => ?_)
        obtain ⟨q8_, hF, hq8⟩ := wJ_some hF
        have hJ34 : ∀ (i9 : Int32) (H : Heap) (locs : List Loc) (ls : Array Slot), F_X9_hearing_j34 i5 i6 i9 = some q4_ → wHp D κ ρ 1 A s.heap H locs u0 → lv_has ls 5 [(0, .ref (ρ o1)), (1, .int i2), (2, .int i3), (4, .int i6)] → W p l e (wRm 3 66) s m args below meth c H locs 0 0 (wQI below args s A D κ ρ 1 (z, u0)) (F0 m 34 ls [.int i9, .int i5]) := by
          intro i9 H locs ls hF hH hl
          unfold F_X9_hearing_j34 at hF
          refine lv_ior hx hb dX9_hearing_34 ?_
          refine wx_leti hF (fun i10 hF => ?_)
          refine wx_istore_n hx hb dX9_hearing_35 rfl hl (by decide) (fun ls hl => ?_)
          have hl : lv_has ls 5 [(3, .int i10), (0, .ref (ρ o1)), (1, .int i2), (2, .int i3), (4, .int i6)] := hl
          refine wx_iinc hx hb dX9_hearing_36 k_iconst_1 hl (k := 4) rfl (by decide) hF (fun i11 ls hF hl => ?_)
          have hl : lv_has ls 5 [(4, .int i11), (3, .int i10), (0, .ref (ρ o1)), (1, .int i2), (2, .int i3)] := hl
          refine lv_goto hx hb dX9_hearing_39 (tgt := 5) rfl ?_
          have hF := wJ_l hq4 hF
          exact ih4 i10 i11 H locs ls hF hH (lv_sub hl [2, 3, 4, 1, 0] rfl)
        refine lv_if_eq hx hb dX9_hearing_23 (tgt := 33) rfl (fun h => ?_) (fun h => ?_)
        · have hF := wx_t h hF
          refine lv_iconst hx hb dX9_hearing_33 k_iconst_0 ?_
          have hF := wJ_l hq8 hF
          exact hJ34 (0 : Int32) H locs ls hF hH (lv_sub hl [0, 1, 2, 4] rfl)
        have hF := wx_f h hF
        refine lv_iconst hx hb dX9_hearing_26 k_iconst_1 ?_
        refine lv_iload hx hb dX9_hearing_27 (lv_at hl 4 rfl) ?_
        refine lv_ishl hx hb dX9_hearing_29 ?_
        refine lv_goto hx hb dX9_hearing_30 (tgt := 34) rfl ?_
        have hF := wJ_l hq8 hF
        exact hJ34 ((1 : Int32) <<< (i6 &&& 31)) H locs ls hF hH (lv_sub hl [0, 1, 2, 4] rfl)
    exact hL5 wFu (0 : Int32) (0 : Int32) H locs ls hF hH (lv_sub hl [2, 3, 4, 1, 0] rfl)
  exact key _ _ hH
def F_X9_guest (o1 : Nat) (i2 : Int32) (i3 : Int32) (u0 : wSt) : Option (Int32 × wSt) :=
  wB (w_sI u0 o1 2 (0 : Int32)) (fun (u4 : wSt) => wP (F_X9_isGuest o1 i2 u4) (fun (i5 : Int32) => if i5 = 0 then (wC (F_X9_fails o1 (1 : Int32) u4) (fun (i23 : Int32) (u22 : wSt) => some (i23, u22))) else (wC (F_X9_plainTried o1 u4) (fun _ (u6 : wSt) => if i3 = 0 then (wR (u6.2.2 o1 49) 14 (fun o7 => wN i2 o7 (fun j8 => some ((u6.1 o7 j8), u6)))) else (if i3 = 1 then (wR (u6.2.2 o1 50) 14 (fun o9 => wN i2 o9 (fun j10 => some ((u6.1 o9 j10), u6)))) else (if i3 = 2 then (wR (u6.2.2 o1 25) 14 (fun o11 => wN i2 o11 (fun j12 => some ((u6.1 o11 j12), u6)))) else (if i3 = 3 then (wR (u6.2.2 o1 51) 14 (fun o13 => wN i2 o13 (fun j14 => some ((u6.1 o13 j14), u6)))) else (if i3 = 4 then (wR (u6.2.2 o1 52) 15 (fun o15 => wN i2 o15 (fun j16 => if (u6.1 o15 j16) = 0 then (some ((0 : Int32), u6)) else (some ((1 : Int32), u6))))) else (if i3 = 5 then (wP (F_X9_hearing o1 (0 : Int32) i2 u6) (fun (i17 : Int32) => some (i17, u6))) else (if i3 = 6 then (wR (u6.2.2 o1 53) 14 (fun o18 => wN i2 o18 (fun j19 => some ((u6.1 o18 j19), u6)))) else (wC (F_X9_fails o1 (2 : Int32) u6) (fun (i21 : Int32) (u20 : wSt) => some (i21, u20)))))))))))))
set_option maxRecDepth 100000 in
set_option maxHeartbeats 4000000 in
theorem c_X9_guest {l : Launch} {D : va_G} {κ : Nat → ClassId} {ρ : Nat → Nat} (o1 : Nat) (i2 : Int32) (i3 : Int32) (h_o1 : (w_sh o1).1 = 9) : wMI l yX9_guest cX9_guest 3 .int (wRm 4 90) [.ref (ρ o1), .int i2, .int i3] D κ ρ 1 (fun u => F_X9_guest o1 i2 i3 u) := by
  refine wMI_of (F := fun u => F_X9_guest o1 i2 i3 u) rfl (Nat.le_of_ble_eq_true rfl) (fun u0 z p e s m args below meth c ls A hF hC hr hlk hH hl => ?_)
  have hl : lv_has ls 3 [(0, .ref (ρ o1)), (1, .int i2), (2, .int i3)] := hl
  have hx := hC.1.1
  have hb := hC.1.2.1
  have hF : F_X9_guest o1 i2 i3 u0 = some z := hF
  unfold F_X9_guest at hF
  change W p l e (wRm 4 90) s m args below meth c s.heap [] 0 0 (wQI below args s A D κ ρ 1 z) (F0 m 0 ls [])
  have key : ∀ (H : Heap) (locs : List Loc), wHp D κ ρ 1 A s.heap H locs u0 → W p l e (wRm 4 90) s m args below meth c H locs 0 0 (wQI below args s A D κ ρ 1 z) (F0 m 0 ls []) := by
    intro H locs hH
    refine lv_aload_n hx hb dX9_guest_0 rfl (lv_at hl 0 rfl) ?_
    refine lv_iconst hx hb dX9_guest_1 k_iconst_0 ?_
    refine wx_putI hC hH h_o1 rfl f_X9_142 g_9_2 dX9_guest_2 hF (fun u4 H locs hF hH => ?_)
    refine lv_aload_n hx hb dX9_guest_5 rfl (lv_at hl 0 rfl) ?_
    refine lv_iload_n hx hb dX9_guest_6 rfl (lv_at hl 1 rfl) ?_
    refine wx_pvi hC hH hl (c_X9_isGuest o1 i2 h_o1) y_X9_isGuest v_X9_isGuest h_o1 rfl m_X9_380 rfl ⟨Nat.le_of_ble_eq_true rfl, Nat.le_of_ble_eq_true rfl⟩ ⟨Nat.le_refl _, Nat.le_refl _⟩ rfl (Nat.le_of_ble_eq_true rfl) dX9_guest_7 hF (fun i5 H locs hF hH => ?_)
    refine lv_if_ne hx hb dX9_guest_10 (tgt := 19) rfl (fun h => ?_) (fun h => ?_)
    · have hF := wx_f h hF
      refine lv_aload_n hx hb dX9_guest_19 rfl (lv_at hl 0 rfl) ?_
      refine wx_evv hC hH hl (c_X9_plainTried o1 h_o1) y_X9_plainTried v_X9_plainTried h_o1 rfl m_X9_341 rfl ⟨Nat.le_of_ble_eq_true rfl, Nat.le_of_ble_eq_true rfl⟩ ⟨Nat.le_refl _, Nat.le_refl _⟩ rfl (Nat.le_of_ble_eq_true rfl) dX9_guest_20 hF (fun _ u6 H locs hF hH => ?_)
      refine lv_iload_n hx hb dX9_guest_23 rfl (lv_at hl 2 rfl) ?_
      by_cases hs0 : i3 = 0
      · have hF := wx_t hs0 hF
        refine wx_sw hx hb dX9_guest_24 (by decide) (tgt := 68) (by rw [hs0]; decide) ?_
        refine lv_aload_n hx hb dX9_guest_68 rfl (lv_at hl 0 rfl) ?_
        refine wx_getR hC hH h_o1 rfl f_X9_88 dX9_guest_69 hF (fun o7 h_o7 hF => ?_)
        refine lv_iload_n hx hb dX9_guest_72 rfl (lv_at hl 1 rfl) ?_
        refine wx_iald hC hH h_o7 ⟨rfl, rfl⟩ dX9_guest_73 hF (fun j8 hF => ?_)
        exact wx_iret hC hH hr hlk dX9_guest_74 hF
      have hF := wx_f hs0 hF
      by_cases hs1 : i3 = 1
      · have hF := wx_t hs1 hF
        refine wx_sw hx hb dX9_guest_24 (by decide) (tgt := 75) (by rw [hs1]; decide) ?_
        refine lv_aload_n hx hb dX9_guest_75 rfl (lv_at hl 0 rfl) ?_
        refine wx_getR hC hH h_o1 rfl f_X9_91 dX9_guest_76 hF (fun o9 h_o9 hF => ?_)
        refine lv_iload_n hx hb dX9_guest_79 rfl (lv_at hl 1 rfl) ?_
        refine wx_iald hC hH h_o9 ⟨rfl, rfl⟩ dX9_guest_80 hF (fun j10 hF => ?_)
        exact wx_iret hC hH hr hlk dX9_guest_81 hF
      have hF := wx_f hs1 hF
      by_cases hs2 : i3 = 2
      · have hF := wx_t hs2 hF
        refine wx_sw hx hb dX9_guest_24 (by decide) (tgt := 82) (by rw [hs2]; decide) ?_
        refine lv_aload_n hx hb dX9_guest_82 rfl (lv_at hl 0 rfl) ?_
        refine wx_getR hC hH h_o1 rfl f_X9_36 dX9_guest_83 hF (fun o11 h_o11 hF => ?_)
        refine lv_iload_n hx hb dX9_guest_86 rfl (lv_at hl 1 rfl) ?_
        refine wx_iald hC hH h_o11 ⟨rfl, rfl⟩ dX9_guest_87 hF (fun j12 hF => ?_)
        exact wx_iret hC hH hr hlk dX9_guest_88 hF
      have hF := wx_f hs2 hF
      by_cases hs3 : i3 = 3
      · have hF := wx_t hs3 hF
        refine wx_sw hx hb dX9_guest_24 (by decide) (tgt := 89) (by rw [hs3]; decide) ?_
        refine lv_aload_n hx hb dX9_guest_89 rfl (lv_at hl 0 rfl) ?_
        refine wx_getR hC hH h_o1 rfl f_X9_94 dX9_guest_90 hF (fun o13 h_o13 hF => ?_)
        refine lv_iload_n hx hb dX9_guest_93 rfl (lv_at hl 1 rfl) ?_
        refine wx_iald hC hH h_o13 ⟨rfl, rfl⟩ dX9_guest_94 hF (fun j14 hF => ?_)
        exact wx_iret hC hH hr hlk dX9_guest_95 hF
      have hF := wx_f hs3 hF
      by_cases hs4 : i3 = 4
      · have hF := wx_t hs4 hF
        refine wx_sw hx hb dX9_guest_24 (by decide) (tgt := 96) (by rw [hs4]; decide) ?_
        refine lv_aload_n hx hb dX9_guest_96 rfl (lv_at hl 0 rfl) ?_
        refine wx_getR hC hH h_o1 rfl f_X9_97 dX9_guest_97 hF (fun o15 h_o15 hF => ?_)
        refine lv_iload_n hx hb dX9_guest_100 rfl (lv_at hl 1 rfl) ?_
        refine wx_zald hC hH h_o15 ⟨rfl, rfl⟩ dX9_guest_101 hF (fun j16 hF => ?_)
        refine lv_if_eq hx hb dX9_guest_102 (tgt := 109) rfl (fun h => ?_) (fun h => ?_)
        · have hF := wx_t h hF
          refine lv_iconst hx hb dX9_guest_109 k_iconst_0 ?_
          exact wx_iret hC hH hr hlk dX9_guest_110 hF
        have hF := wx_f h hF
        refine lv_iconst hx hb dX9_guest_105 k_iconst_1 ?_
        refine lv_goto hx hb dX9_guest_106 (tgt := 110) rfl ?_
        exact wx_iret hC hH hr hlk dX9_guest_110 hF
      have hF := wx_f hs4 hF
      by_cases hs5 : i3 = 5
      · have hF := wx_t hs5 hF
        refine wx_sw hx hb dX9_guest_24 (by decide) (tgt := 111) (by rw [hs5]; decide) ?_
        refine lv_aload_n hx hb dX9_guest_111 rfl (lv_at hl 0 rfl) ?_
        refine lv_iconst hx hb dX9_guest_112 k_iconst_0 ?_
        refine lv_iload_n hx hb dX9_guest_113 rfl (lv_at hl 1 rfl) ?_
        refine wx_pvi hC hH hl (c_X9_hearing o1 (0 : Int32) i2 h_o1) y_X9_hearing v_X9_hearing h_o1 rfl m_X9_461 rfl ⟨Nat.le_of_ble_eq_true rfl, Nat.le_of_ble_eq_true rfl⟩ ⟨Nat.le_refl _, Nat.le_refl _⟩ rfl (Nat.le_of_ble_eq_true rfl) dX9_guest_114 hF (fun i17 H locs hF hH => ?_)
        exact wx_iret hC hH hr hlk dX9_guest_117 hF
      have hF := wx_f hs5 hF
      by_cases hs6 : i3 = 6
      · have hF := wx_t hs6 hF
        refine wx_sw hx hb dX9_guest_24 (by decide) (tgt := 118) (by rw [hs6]; decide) ?_
        refine lv_aload_n hx hb dX9_guest_118 rfl (lv_at hl 0 rfl) ?_
        refine wx_getR hC hH h_o1 rfl f_X9_100 dX9_guest_119 hF (fun o18 h_o18 hF => ?_)
        refine lv_iload_n hx hb dX9_guest_122 rfl (lv_at hl 1 rfl) ?_
        refine wx_iald hC hH h_o18 ⟨rfl, rfl⟩ dX9_guest_123 hF (fun j19 hF => ?_)
        exact wx_iret hC hH hr hlk dX9_guest_124 hF
      have hF := wx_f hs6 hF
      have htg : ((24 : Nat) : Int) + wTg (101) (0) (6) #[44, 51, 58, 65, 72, 87, 94] i3 = ((125 : Nat) : Int) := by
        have n0 : ¬ (i3).toInt = 0 := lv_neT (k := 0) (a := 0) (fun q => hs0 (q)) (by decide)
        have n1 : ¬ (i3).toInt = 1 := lv_neT (k := 1) (a := 1) (fun q => hs1 (q)) (by decide)
        have n2 : ¬ (i3).toInt = 2 := lv_neT (k := 2) (a := 2) (fun q => hs2 (q)) (by decide)
        have n3 : ¬ (i3).toInt = 3 := lv_neT (k := 3) (a := 3) (fun q => hs3 (q)) (by decide)
        have n4 : ¬ (i3).toInt = 4 := lv_neT (k := 4) (a := 4) (fun q => hs4 (q)) (by decide)
        have n5 : ¬ (i3).toInt = 5 := lv_neT (k := 5) (a := 5) (fun q => hs5 (q)) (by decide)
        have n6 : ¬ (i3).toInt = 6 := lv_neT (k := 6) (a := 6) (fun q => hs6 (q)) (by decide)
        rw [wTg_lo (by omega)]; rfl
      refine wx_sw hx hb dX9_guest_24 (by decide) (tgt := 125) htg ?_
      refine lv_aload_n hx hb dX9_guest_125 rfl (lv_at hl 0 rfl) ?_
      refine lv_iconst hx hb dX9_guest_126 k_iconst_2 ?_
      refine wx_evi hC hH hl (c_X9_fails o1 (2 : Int32) h_o1) y_X9_fails v_X9_fails h_o1 rfl m_X9_458 rfl ⟨Nat.le_of_ble_eq_true rfl, Nat.le_of_ble_eq_true rfl⟩ ⟨Nat.le_refl _, Nat.le_refl _⟩ rfl (Nat.le_of_ble_eq_true rfl) dX9_guest_127 hF (fun i21 u20 H locs hF hH => ?_)
      exact wx_iret hC hH hr hlk dX9_guest_130 hF
    have hF := wx_t h hF
    refine lv_aload_n hx hb dX9_guest_13 rfl (lv_at hl 0 rfl) ?_
    refine lv_iconst hx hb dX9_guest_14 k_iconst_1 ?_
    refine wx_evi hC hH hl (c_X9_fails o1 (1 : Int32) h_o1) y_X9_fails v_X9_fails h_o1 rfl m_X9_458 rfl ⟨Nat.le_of_ble_eq_true rfl, Nat.le_of_ble_eq_true rfl⟩ ⟨Nat.le_refl _, Nat.le_refl _⟩ rfl (Nat.le_of_ble_eq_true rfl) dX9_guest_15 hF (fun i23 u22 H locs hF hH => ?_)
    exact wx_iret hC hH hr hlk dX9_guest_18 hF
  exact key _ _ hH
def F_X9_fruit (o1 : Nat) (i2 : Int32) (i3 : Int32) (u0 : wSt) : Option (Int32 × wSt) :=
  wB (w_sI u0 o1 2 (0 : Int32)) (fun (u4 : wSt) => wP (F_X9_isFruit o1 i2 u4) (fun (i5 : Int32) => if i5 = 0 then (some ((-1 : Int32), u4)) else (if i3 = 0 then (wR (u4.2.2 o1 27) 14 (fun o6 => wN i2 o6 (fun j7 => some ((u4.1 o6 j7), u4)))) else (if i3 = 1 then (wR (u4.2.2 o1 28) 14 (fun o8 => wN i2 o8 (fun j9 => some ((u4.1 o8 j9), u4)))) else (if i3 = 2 then (wR (u4.2.2 o1 55) 15 (fun o10 => wN i2 o10 (fun j11 => if (u4.1 o10 j11) = 0 then (some ((0 : Int32), u4)) else (some ((1 : Int32), u4))))) else (if i3 = 3 then (wR (u4.2.2 o1 54) 14 (fun o12 => wN i2 o12 (fun j13 => some ((u4.1 o12 j13), u4)))) else (if i3 = 4 then (wR (u4.2.2 o1 56) 14 (fun o14 => wN i2 o14 (fun j15 => some ((u4.1 o14 j15), u4)))) else (some ((-1 : Int32), u4)))))))))
set_option maxRecDepth 100000 in
set_option maxHeartbeats 4000000 in
theorem c_X9_fruit {l : Launch} {D : va_G} {κ : Nat → ClassId} {ρ : Nat → Nat} (o1 : Nat) (i2 : Int32) (i3 : Int32) (h_o1 : (w_sh o1).1 = 9) : wMI l yX9_fruit cX9_fruit 3 .int (wRm 1 21) [.ref (ρ o1), .int i2, .int i3] D κ ρ 1 (fun u => F_X9_fruit o1 i2 i3 u) := by
  refine wMI_of (F := fun u => F_X9_fruit o1 i2 i3 u) rfl (Nat.le_of_ble_eq_true rfl) (fun u0 z p e s m args below meth c ls A hF hC hr hlk hH hl => ?_)
  have hl : lv_has ls 3 [(0, .ref (ρ o1)), (1, .int i2), (2, .int i3)] := hl
  have hx := hC.1.1
  have hb := hC.1.2.1
  have hF : F_X9_fruit o1 i2 i3 u0 = some z := hF
  unfold F_X9_fruit at hF
  change W p l e (wRm 1 21) s m args below meth c s.heap [] 0 0 (wQI below args s A D κ ρ 1 z) (F0 m 0 ls [])
  have key : ∀ (H : Heap) (locs : List Loc), wHp D κ ρ 1 A s.heap H locs u0 → W p l e (wRm 1 21) s m args below meth c H locs 0 0 (wQI below args s A D κ ρ 1 z) (F0 m 0 ls []) := by
    intro H locs hH
    refine lv_aload_n hx hb dX9_fruit_0 rfl (lv_at hl 0 rfl) ?_
    refine lv_iconst hx hb dX9_fruit_1 k_iconst_0 ?_
    refine wx_putI hC hH h_o1 rfl f_X9_142 g_9_2 dX9_fruit_2 hF (fun u4 H locs hF hH => ?_)
    refine lv_aload_n hx hb dX9_fruit_5 rfl (lv_at hl 0 rfl) ?_
    refine lv_iload_n hx hb dX9_fruit_6 rfl (lv_at hl 1 rfl) ?_
    refine wx_pvi hC hH hl (c_X9_isFruit o1 i2 h_o1) y_X9_isFruit v_X9_isFruit h_o1 rfl m_X9_464 rfl ⟨Nat.le_of_ble_eq_true rfl, Nat.le_of_ble_eq_true rfl⟩ ⟨Nat.le_refl _, Nat.le_refl _⟩ rfl (Nat.le_of_ble_eq_true rfl) dX9_fruit_7 hF (fun i5 H locs hF hH => ?_)
    refine lv_if_ne hx hb dX9_fruit_10 (tgt := 15) rfl (fun h => ?_) (fun h => ?_)
    · have hF := wx_f h hF
      refine lv_iload_n hx hb dX9_fruit_15 rfl (lv_at hl 2 rfl) ?_
      by_cases hs0 : i3 = 0
      · have hF := wx_t hs0 hF
        refine wx_sw hx hb dX9_fruit_16 (by decide) (tgt := 52) (by rw [hs0]; decide) ?_
        refine lv_aload_n hx hb dX9_fruit_52 rfl (lv_at hl 0 rfl) ?_
        refine wx_getR hC hH h_o1 rfl f_X9_42 dX9_fruit_53 hF (fun o6 h_o6 hF => ?_)
        refine lv_iload_n hx hb dX9_fruit_56 rfl (lv_at hl 1 rfl) ?_
        refine wx_iald hC hH h_o6 ⟨rfl, rfl⟩ dX9_fruit_57 hF (fun j7 hF => ?_)
        exact wx_iret hC hH hr hlk dX9_fruit_58 hF
      have hF := wx_f hs0 hF
      by_cases hs1 : i3 = 1
      · have hF := wx_t hs1 hF
        refine wx_sw hx hb dX9_fruit_16 (by decide) (tgt := 59) (by rw [hs1]; decide) ?_
        refine lv_aload_n hx hb dX9_fruit_59 rfl (lv_at hl 0 rfl) ?_
        refine wx_getR hC hH h_o1 rfl f_X9_45 dX9_fruit_60 hF (fun o8 h_o8 hF => ?_)
        refine lv_iload_n hx hb dX9_fruit_63 rfl (lv_at hl 1 rfl) ?_
        refine wx_iald hC hH h_o8 ⟨rfl, rfl⟩ dX9_fruit_64 hF (fun j9 hF => ?_)
        exact wx_iret hC hH hr hlk dX9_fruit_65 hF
      have hF := wx_f hs1 hF
      by_cases hs2 : i3 = 2
      · have hF := wx_t hs2 hF
        refine wx_sw hx hb dX9_fruit_16 (by decide) (tgt := 66) (by rw [hs2]; decide) ?_
        refine lv_aload_n hx hb dX9_fruit_66 rfl (lv_at hl 0 rfl) ?_
        refine wx_getR hC hH h_o1 rfl f_X9_106 dX9_fruit_67 hF (fun o10 h_o10 hF => ?_)
        refine lv_iload_n hx hb dX9_fruit_70 rfl (lv_at hl 1 rfl) ?_
        refine wx_zald hC hH h_o10 ⟨rfl, rfl⟩ dX9_fruit_71 hF (fun j11 hF => ?_)
        refine lv_if_eq hx hb dX9_fruit_72 (tgt := 79) rfl (fun h => ?_) (fun h => ?_)
        · have hF := wx_t h hF
          refine lv_iconst hx hb dX9_fruit_79 k_iconst_0 ?_
          exact wx_iret hC hH hr hlk dX9_fruit_80 hF
        have hF := wx_f h hF
        refine lv_iconst hx hb dX9_fruit_75 k_iconst_1 ?_
        refine lv_goto hx hb dX9_fruit_76 (tgt := 80) rfl ?_
        exact wx_iret hC hH hr hlk dX9_fruit_80 hF
      have hF := wx_f hs2 hF
      by_cases hs3 : i3 = 3
      · have hF := wx_t hs3 hF
        refine wx_sw hx hb dX9_fruit_16 (by decide) (tgt := 81) (by rw [hs3]; decide) ?_
        refine lv_aload_n hx hb dX9_fruit_81 rfl (lv_at hl 0 rfl) ?_
        refine wx_getR hC hH h_o1 rfl f_X9_103 dX9_fruit_82 hF (fun o12 h_o12 hF => ?_)
        refine lv_iload_n hx hb dX9_fruit_85 rfl (lv_at hl 1 rfl) ?_
        refine wx_iald hC hH h_o12 ⟨rfl, rfl⟩ dX9_fruit_86 hF (fun j13 hF => ?_)
        exact wx_iret hC hH hr hlk dX9_fruit_87 hF
      have hF := wx_f hs3 hF
      by_cases hs4 : i3 = 4
      · have hF := wx_t hs4 hF
        refine wx_sw hx hb dX9_fruit_16 (by decide) (tgt := 88) (by rw [hs4]; decide) ?_
        refine lv_aload_n hx hb dX9_fruit_88 rfl (lv_at hl 0 rfl) ?_
        refine wx_getR hC hH h_o1 rfl f_X9_109 dX9_fruit_89 hF (fun o14 h_o14 hF => ?_)
        refine lv_iload_n hx hb dX9_fruit_92 rfl (lv_at hl 1 rfl) ?_
        refine wx_iald hC hH h_o14 ⟨rfl, rfl⟩ dX9_fruit_93 hF (fun j15 hF => ?_)
        exact wx_iret hC hH hr hlk dX9_fruit_94 hF
      have hF := wx_f hs4 hF
      have htg : ((16 : Nat) : Int) + wTg (79) (0) (4) #[36, 43, 50, 65, 72] i3 = ((95 : Nat) : Int) := by
        have n0 : ¬ (i3).toInt = 0 := lv_neT (k := 0) (a := 0) (fun q => hs0 (q)) (by decide)
        have n1 : ¬ (i3).toInt = 1 := lv_neT (k := 1) (a := 1) (fun q => hs1 (q)) (by decide)
        have n2 : ¬ (i3).toInt = 2 := lv_neT (k := 2) (a := 2) (fun q => hs2 (q)) (by decide)
        have n3 : ¬ (i3).toInt = 3 := lv_neT (k := 3) (a := 3) (fun q => hs3 (q)) (by decide)
        have n4 : ¬ (i3).toInt = 4 := lv_neT (k := 4) (a := 4) (fun q => hs4 (q)) (by decide)
        rw [wTg_lo (by omega)]; rfl
      refine wx_sw hx hb dX9_fruit_16 (by decide) (tgt := 95) htg ?_
      refine lv_iconst hx hb dX9_fruit_95 k_iconst_m1 ?_
      exact wx_iret hC hH hr hlk dX9_fruit_96 hF
    have hF := wx_t h hF
    refine lv_iconst hx hb dX9_fruit_13 k_iconst_m1 ?_
    exact wx_iret hC hH hr hlk dX9_fruit_14 hF
  exact key _ _ hH
def F_X9_law_j39 (u8 : wSt) : Option (Int64 × wSt) :=
  some ((-9223372036854775808 : Int64), u8)
def F_X9_law (o1 : Nat) (i2 : Int32) (i3 : Int32) (i4 : Int32) (u0 : wSt) : Option (Int64 × wSt) :=
  wB (w_sI u0 o1 2 (0 : Int32)) (fun (u5 : wSt) => wP (F_X9_isIn i2 (0 : Int32) (2 : Int32) u5) (fun (i6 : Int32) => wJ (X := wSt) (if i6 = 0 then (some (.inl u5)) else (wR (u5.2.2 o1 31) 15 (fun o9 => wN i2 o9 (fun j10 => if (u5.1 o9 j10) = 0 then (some (.inl u5)) else (wP (F_X9_isGuest o1 i3 u5) (fun (i11 : Int32) => if i11 = 0 then (some (.inl u5)) else (wP (F_X9_isFruit o1 i4 u5) (fun (i12 : Int32) => if i12 = 0 then (some (.inl u5)) else (wC (F_X9_plainTried o1 u5) (fun _ (u13 : wSt) => wC (F_X9_layNames o1 (0 : Int32) i3 i4 u13) (fun _ (u14 : wSt) => wC (F_X9_lawOf o1 i2 u14) (fun (q16 : Int64) (u15 : wSt) => if (u15.1 o1 48) = 0 then (some (.inr (q16, u15))) else (some (.inr ((-9223372036854775808 : Int64), u15))))))))))))))) (fun x => F_X9_law_j39 x)))
set_option maxRecDepth 100000 in
set_option maxHeartbeats 4000000 in
theorem c_X9_law {l : Launch} {D : va_G} {κ : Nat → ClassId} {ρ : Nat → Nat} (o1 : Nat) (i2 : Int32) (i3 : Int32) (i4 : Int32) (h_o1 : (w_sh o1).1 = 9) : wML l yX9_law cX9_law 6 (wRm 4 89) [.ref (ρ o1), .int i2, .int i3, .int i4] D κ ρ 1 (fun u => F_X9_law o1 i2 i3 i4 u) := by
  refine wML_of (F := fun u => F_X9_law o1 i2 i3 i4 u) rfl (Nat.le_of_ble_eq_true rfl) (fun u0 z p e s m args below meth c ls A hF hC hr hlk hH hl => ?_)
  have hl : lv_has ls 6 [(0, .ref (ρ o1)), (1, .int i2), (2, .int i3), (3, .int i4)] := hl
  have hx := hC.1.1
  have hb := hC.1.2.1
  have hF : F_X9_law o1 i2 i3 i4 u0 = some z := hF
  unfold F_X9_law at hF
  change W p l e (wRm 4 89) s m args below meth c s.heap [] 0 0 (wQL below args s A D κ ρ 1 z) (F0 m 0 ls [])
  have key : ∀ (H : Heap) (locs : List Loc), wHp D κ ρ 1 A s.heap H locs u0 → W p l e (wRm 4 89) s m args below meth c H locs 0 0 (wQL below args s A D κ ρ 1 z) (F0 m 0 ls []) := by
    intro H locs hH
    refine lv_aload_n hx hb dX9_law_0 rfl (lv_at hl 0 rfl) ?_
    refine lv_iconst hx hb dX9_law_1 k_iconst_0 ?_
    refine wx_putI hC hH h_o1 rfl f_X9_142 g_9_2 dX9_law_2 hF (fun u5 H locs hF hH => ?_)
    refine lv_iload_n hx hb dX9_law_5 rfl (lv_at hl 1 rfl) ?_
    refine lv_iconst hx hb dX9_law_6 k_iconst_0 ?_
    refine lv_iconst hx hb dX9_law_7 k_iconst_2 ?_
    refine wx_psi hC hH hl (c_X9_isIn i2 (0 : Int32) (2 : Int32)) y_X9_isIn v_X9_isIn m_X9_187 rfl ⟨Nat.le_of_ble_eq_true rfl, Nat.le_of_ble_eq_true rfl⟩ ⟨Nat.le_refl _, Nat.le_refl _⟩ rfl (Nat.le_of_ble_eq_true rfl) dX9_law_8 hF (fun i6 H locs hF hH => ?_)
    obtain ⟨q7_, hF, hq7⟩ := wJ_some hF
    have hJ39 : ∀ (u8 : wSt) (H : Heap) (locs : List Loc) (ls : Array Slot), F_X9_law_j39 u8 = some z → wHp D κ ρ 1 A s.heap H locs u8 → lv_has ls 6 [] → W p l e (wRm 4 89) s m args below meth c H locs 0 0 (wQL below args s A D κ ρ 1 z) (F0 m 39 ls []) := by
      intro u8 H locs ls hF hH hl
      unfold F_X9_law_j39 at hF
      refine lv_ldc2 hx hb hC.1.2.2.2.1 (hC.1.2.2.2.2 _ l_X9_467) dX9_law_39 ?_
      exact wx_lret hC hH hr hlk dX9_law_42 hF
    refine lv_if_eq hx hb dX9_law_11 (tgt := 39) rfl (fun h => ?_) (fun h => ?_)
    · have hF := wx_t h hF
      have hF := wJ_l hq7 hF
      exact hJ39 u5 H locs ls hF hH (lv_sub hl [] rfl)
    have hF := wx_f h hF
    refine lv_aload_n hx hb dX9_law_14 rfl (lv_at hl 0 rfl) ?_
    refine wx_getR hC hH h_o1 rfl f_X9_54 dX9_law_15 hF (fun o9 h_o9 hF => ?_)
    refine lv_iload_n hx hb dX9_law_18 rfl (lv_at hl 1 rfl) ?_
    refine wx_zald hC hH h_o9 ⟨rfl, rfl⟩ dX9_law_19 hF (fun j10 hF => ?_)
    refine lv_if_eq hx hb dX9_law_20 (tgt := 39) rfl (fun h => ?_) (fun h => ?_)
    · have hF := wx_t h hF
      have hF := wJ_l hq7 hF
      exact hJ39 u5 H locs ls hF hH (lv_sub hl [] rfl)
    have hF := wx_f h hF
    refine lv_aload_n hx hb dX9_law_23 rfl (lv_at hl 0 rfl) ?_
    refine lv_iload_n hx hb dX9_law_24 rfl (lv_at hl 2 rfl) ?_
    refine wx_pvi hC hH hl (c_X9_isGuest o1 i3 h_o1) y_X9_isGuest v_X9_isGuest h_o1 rfl m_X9_380 rfl ⟨Nat.le_of_ble_eq_true rfl, Nat.le_of_ble_eq_true rfl⟩ ⟨Nat.le_refl _, Nat.le_refl _⟩ rfl (Nat.le_of_ble_eq_true rfl) dX9_law_25 hF (fun i11 H locs hF hH => ?_)
    refine lv_if_eq hx hb dX9_law_28 (tgt := 39) rfl (fun h => ?_) (fun h => ?_)
    · have hF := wx_t h hF
      have hF := wJ_l hq7 hF
      exact hJ39 u5 H locs ls hF hH (lv_sub hl [] rfl)
    have hF := wx_f h hF
    refine lv_aload_n hx hb dX9_law_31 rfl (lv_at hl 0 rfl) ?_
    refine lv_iload_n hx hb dX9_law_32 rfl (lv_at hl 3 rfl) ?_
    refine wx_pvi hC hH hl (c_X9_isFruit o1 i4 h_o1) y_X9_isFruit v_X9_isFruit h_o1 rfl m_X9_464 rfl ⟨Nat.le_of_ble_eq_true rfl, Nat.le_of_ble_eq_true rfl⟩ ⟨Nat.le_refl _, Nat.le_refl _⟩ rfl (Nat.le_of_ble_eq_true rfl) dX9_law_33 hF (fun i12 H locs hF hH => ?_)
    refine lv_if_ne hx hb dX9_law_36 (tgt := 43) rfl (fun h => ?_) (fun h => ?_)
    · have hF := wx_f h hF
      refine lv_aload_n hx hb dX9_law_43 rfl (lv_at hl 0 rfl) ?_
      refine wx_evv hC hH hl (c_X9_plainTried o1 h_o1) y_X9_plainTried v_X9_plainTried h_o1 rfl m_X9_341 rfl ⟨Nat.le_of_ble_eq_true rfl, Nat.le_of_ble_eq_true rfl⟩ ⟨Nat.le_refl _, Nat.le_refl _⟩ rfl (Nat.le_of_ble_eq_true rfl) dX9_law_44 hF (fun _ u13 H locs hF hH => ?_)
      refine lv_aload_n hx hb dX9_law_47 rfl (lv_at hl 0 rfl) ?_
      refine lv_iconst hx hb dX9_law_48 k_iconst_0 ?_
      refine lv_iload_n hx hb dX9_law_49 rfl (lv_at hl 2 rfl) ?_
      refine lv_iload_n hx hb dX9_law_50 rfl (lv_at hl 3 rfl) ?_
      refine wx_evv hC hH hl (c_X9_layNames o1 (0 : Int32) i3 i4 h_o1) y_X9_layNames v_X9_layNames h_o1 rfl m_X9_404 rfl ⟨Nat.le_of_ble_eq_true rfl, Nat.le_of_ble_eq_true rfl⟩ ⟨Nat.le_refl _, Nat.le_refl _⟩ rfl (Nat.le_of_ble_eq_true rfl) dX9_law_51 hF (fun _ u14 H locs hF hH => ?_)
      refine lv_aload_n hx hb dX9_law_54 rfl (lv_at hl 0 rfl) ?_
      refine lv_iload_n hx hb dX9_law_55 rfl (lv_at hl 1 rfl) ?_
      refine wx_evl hC hH hl (c_X9_lawOf o1 i2 h_o1) y_X9_lawOf v_X9_lawOf h_o1 rfl m_X9_399 rfl ⟨Nat.le_of_ble_eq_true rfl, Nat.le_of_ble_eq_true rfl⟩ ⟨Nat.le_refl _, Nat.le_refl _⟩ rfl (Nat.le_of_ble_eq_true rfl) dX9_law_56 hF (fun q16 u15 H locs hF hH => ?_)
      refine wx_lstore hx hb dX9_law_59 hl (by decide) (fun ls hl => ?_)
      have hl : lv_has ls 6 [(4, .long q16), (0, .ref (ρ o1)), (1, .int i2), (2, .int i3), (3, .int i4)] := hl
      refine lv_aload_n hx hb dX9_law_61 rfl (lv_at hl 1 rfl) ?_
      refine wx_getI hC hH h_o1 rfl f_X9_315 dX9_law_62 ?_
      refine lv_if_eq hx hb dX9_law_65 (tgt := 74) rfl (fun h => ?_) (fun h => ?_)
      · have hF := wx_t h hF
        refine lv_lload hx hb dX9_law_74 (lv_at hl 0 rfl) ?_
        have hF := wJ_r hq7 hF
        exact wx_lret hC hH hr hlk dX9_law_76 hF
      have hF := wx_f h hF
      refine lv_ldc2 hx hb hC.1.2.2.2.1 (hC.1.2.2.2.2 _ l_X9_467) dX9_law_68 ?_
      refine lv_goto hx hb dX9_law_71 (tgt := 76) rfl ?_
      have hF := wJ_r hq7 hF
      exact wx_lret hC hH hr hlk dX9_law_76 hF
    have hF := wx_t h hF
    have hF := wJ_l hq7 hF
    exact hJ39 u5 H locs ls hF hH (lv_sub hl [] rfl)
  exact key _ _ hH
def F_X9_areTwo (o1 : Nat) (i2 : Int32) (i3 : Int32) (u0 : wSt) : Option Int32 :=
  wP (F_X9_isGuest o1 i2 u0) (fun (i4 : Int32) => if i4 = 0 then (some ((0 : Int32))) else (wP (F_X9_isGuest o1 i3 u0) (fun (i5 : Int32) => if i5 = 0 then (some ((0 : Int32))) else (if i2 = i3 then (some ((0 : Int32))) else (some ((1 : Int32)))))))
set_option maxRecDepth 100000 in
set_option maxHeartbeats 4000000 in
theorem c_X9_areTwo {l : Launch} {D : va_G} {κ : Nat → ClassId} {ρ : Nat → Nat} (o1 : Nat) (i2 : Int32) (i3 : Int32) (h_o1 : (w_sh o1).1 = 9) : wMI l yX9_areTwo cX9_areTwo 3 .boolean (wRm 1 21) [.ref (ρ o1), .int i2, .int i3] D κ ρ 1 (fun u => wPu (F_X9_areTwo o1 i2 i3 u) u) := by
  refine wMP_of (F := fun u => F_X9_areTwo o1 i2 i3 u) rfl (Nat.le_of_ble_eq_true rfl) (fun u0 z p e s m args below meth c ls A hF hC hr hlk hH hl => ?_)
  have hl : lv_has ls 3 [(0, .ref (ρ o1)), (1, .int i2), (2, .int i3)] := hl
  have hx := hC.1.1
  have hb := hC.1.2.1
  have hF : F_X9_areTwo o1 i2 i3 u0 = some z := hF
  unfold F_X9_areTwo at hF
  change W p l e (wRm 1 21) s m args below meth c s.heap [] 0 0 (wQI below args s A D κ ρ 1 (z, u0)) (F0 m 0 ls [])
  have key : ∀ (H : Heap) (locs : List Loc), wHp D κ ρ 1 A s.heap H locs u0 → W p l e (wRm 1 21) s m args below meth c H locs 0 0 (wQI below args s A D κ ρ 1 (z, u0)) (F0 m 0 ls []) := by
    intro H locs hH
    refine lv_aload_n hx hb dX9_areTwo_0 rfl (lv_at hl 0 rfl) ?_
    refine lv_iload_n hx hb dX9_areTwo_1 rfl (lv_at hl 1 rfl) ?_
    refine wx_pvi hC hH hl (c_X9_isGuest o1 i2 h_o1) y_X9_isGuest v_X9_isGuest h_o1 rfl m_X9_380 rfl ⟨Nat.le_of_ble_eq_true rfl, Nat.le_of_ble_eq_true rfl⟩ ⟨Nat.le_refl _, Nat.le_refl _⟩ rfl (Nat.le_of_ble_eq_true rfl) dX9_areTwo_2 hF (fun i4 H locs hF hH => ?_)
    refine lv_if_eq hx hb dX9_areTwo_5 (tgt := 25) rfl (fun h => ?_) (fun h => ?_)
    · have hF := wx_t h hF
      refine lv_iconst hx hb dX9_areTwo_25 k_iconst_0 ?_
      exact wx_zret hC hH hr hlk dX9_areTwo_26 (Or.inl rfl) (wx_pr hF)
    have hF := wx_f h hF
    refine lv_aload_n hx hb dX9_areTwo_8 rfl (lv_at hl 0 rfl) ?_
    refine lv_iload_n hx hb dX9_areTwo_9 rfl (lv_at hl 2 rfl) ?_
    refine wx_pvi hC hH hl (c_X9_isGuest o1 i3 h_o1) y_X9_isGuest v_X9_isGuest h_o1 rfl m_X9_380 rfl ⟨Nat.le_of_ble_eq_true rfl, Nat.le_of_ble_eq_true rfl⟩ ⟨Nat.le_refl _, Nat.le_refl _⟩ rfl (Nat.le_of_ble_eq_true rfl) dX9_areTwo_10 hF (fun i5 H locs hF hH => ?_)
    refine lv_if_eq hx hb dX9_areTwo_13 (tgt := 25) rfl (fun h => ?_) (fun h => ?_)
    · have hF := wx_t h hF
      refine lv_iconst hx hb dX9_areTwo_25 k_iconst_0 ?_
      exact wx_zret hC hH hr hlk dX9_areTwo_26 (Or.inl rfl) (wx_pr hF)
    have hF := wx_f h hF
    refine lv_iload_n hx hb dX9_areTwo_16 rfl (lv_at hl 1 rfl) ?_
    refine lv_iload_n hx hb dX9_areTwo_17 rfl (lv_at hl 2 rfl) ?_
    refine lv_icmp_eq hx hb dX9_areTwo_18 (tgt := 25) rfl (fun h => ?_) (fun h => ?_)
    · have hF := wx_t h hF
      refine lv_iconst hx hb dX9_areTwo_25 k_iconst_0 ?_
      exact wx_zret hC hH hr hlk dX9_areTwo_26 (Or.inl rfl) (wx_pr hF)
    have hF := wx_f h hF
    refine lv_iconst hx hb dX9_areTwo_21 k_iconst_1 ?_
    refine lv_goto hx hb dX9_areTwo_22 (tgt := 26) rfl ?_
    exact wx_zret hC hH hr hlk dX9_areTwo_26 (Or.inr rfl) (wx_pr hF)
  exact key _ _ hH

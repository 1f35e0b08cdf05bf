def F_X9_marked_j34 (i4 : Int32) (i5 : Int32) (i9 : Int32) : Option ((Int32 × Int32) ⊕ (Int32 × wSt)) :=
  wB (i4 ||| i9) (fun (i10 : Int32) => wB (i5 + (1 : Int32)) (fun (i11 : Int32) => some (.inl (i10, i11))))
def F_X9_marked_b9 (u2 : wSt) (o1 : Nat) (i4 : Int32) (i5 : Int32) : Option ((Int32 × Int32) ⊕ (Int32 × wSt)) :=
  if (u2.1 o1 13) ≤ i5 then (some (.inr (i4, u2))) else (wR (u2.2.2 o1 54) 14 (fun o6 => wN i5 o6 (fun j7 => wJ (X := Int32) (if (u2.1 o6 j7) ≤ 0 then (some (.inl (0 : Int32))) else (some (.inl ((1 : Int32) <<< (i5 &&& 31))))) (fun x => F_X9_marked_j34 i4 i5 x))))
def F_X9_marked (o1 : Nat) (u0 : wSt) : Option (Int32 × wSt) :=
  wB (w_sI u0 o1 2 (0 : Int32)) (fun (u2 : wSt) => wL (S := Int32 × Int32) (fun x => F_X9_marked_b9 u2 o1 x.1 x.2) wFu ((0 : Int32), (0 : Int32)))
set_option maxRecDepth 100000 in
set_option maxHeartbeats 4000000 in
theorem c_X9_marked {l : Launch} {D : va_G} {κ : Nat → ClassId} {ρ : Nat → Nat} (o1 : Nat) (h_o1 : (w_sh o1).1 = 9) : wMI l yX9_marked cX9_marked 3 .int (wRm 0 0) [.ref (ρ o1)] D κ ρ 1 (fun u => F_X9_marked o1 u) := by
  refine wMI_of (F := fun u => F_X9_marked o1 u) rfl (Nat.le_of_ble_eq_true rfl) (fun u0 z p e s m args below meth c ls A hF hC hr hlk hH hl => ?_)
  have hl : lv_has ls 3 [(0, .ref (ρ o1))] := hl
  have hx := hC.1.1
  have hb := hC.1.2.1
  have hF : F_X9_marked o1 u0 = some z := hF
  unfold F_X9_marked at hF
  change W p l e (wRm 0 0) s m args below meth c s.heap [] 0 0 (wQI below args s A D κ ρ 1 z) (F0 m 0 ls [])
  have key : ∀ (H : Heap) (locs : List Loc), wHp D κ ρ 1 A s.heap H locs u0 → W p l e (wRm 0 0) s m args below meth c H locs 0 0 (wQI below args s A D κ ρ 1 z) (F0 m 0 ls []) := by
    intro H locs hH
    refine lv_aload_n hx hb dX9_marked_0 rfl (lv_at hl 0 rfl) ?_
    refine lv_iconst hx hb dX9_marked_1 k_iconst_0 ?_
    refine wx_putI hC hH h_o1 rfl f_X9_142 g_9_2 dX9_marked_2 hF (fun u2 H locs hF hH => ?_)
    refine lv_iconst hx hb dX9_marked_5 k_iconst_0 ?_
    refine wx_istore_n hx hb dX9_marked_6 rfl hl (by decide) (fun ls hl => ?_)
    have hl : lv_has ls 3 [(1, .int (0 : Int32)), (0, .ref (ρ o1))] := hl
    refine lv_iconst hx hb dX9_marked_7 k_iconst_0 ?_
    refine wx_istore_n hx hb dX9_marked_8 rfl hl (by decide) (fun ls hl => ?_)
    have hl : lv_has ls 3 [(2, .int (0 : Int32)), (1, .int (0 : Int32)), (0, .ref (ρ o1))] := hl
    have hL9 : ∀ (k3_ : Nat) (i4 : Int32) (i5 : Int32) (H : Heap) (locs : List Loc) (ls : Array Slot), wL (S := Int32 × Int32) (fun x => F_X9_marked_b9 u2 o1 x.1 x.2) k3_ (i4, i5) = some z → wHp D κ ρ 1 A s.heap H locs u2 → lv_has ls 3 [(0, .ref (ρ o1)), (1, .int i4), (2, .int i5)] → W p l e (wRm 0 0) s m args below meth c H locs 0 0 (wQI below args s A D κ ρ 1 z) (F0 m 9 ls []) := by
      intro k3_
      induction k3_ with
      | zero => intro i4 i5 H locs ls hF; exact wL_zero hF
      | succ k3_ ih3 =>
        intro i4 i5 H locs ls hF hH hl
        obtain ⟨q3_, hF, hq3⟩ := wL_some hF
        have hF : F_X9_marked_b9 u2 o1 i4 i5 = some q3_ := hF
        unfold F_X9_marked_b9 at hF
        refine lv_iload_n hx hb dX9_marked_9 rfl (lv_at hl 2 rfl) ?_
        refine lv_aload_n hx hb dX9_marked_10 rfl (lv_at hl 0 rfl) ?_
        refine wx_getI hC hH h_o1 rfl f_X9_222 dX9_marked_11 ?_
        refine lv_icmp_ge hx hb dX9_marked_14 (tgt := 42) rfl (fun h => ?_) (fun h => ?_)
        · have hF := wx_t h hF
          refine lv_iload_n hx hb dX9_marked_42 rfl (lv_at hl 1 rfl) ?_
          have hF := wJ_r hq3 hF
          exact wx_iret hC hH hr hlk dX9_marked_43 hF
        have hF := wx_f h hF
        refine lv_iload_n hx hb dX9_marked_17 rfl (lv_at hl 1 rfl) ?_
        refine lv_aload_n hx hb dX9_marked_18 rfl (lv_at hl 0 rfl) ?_
        refine wx_getR hC hH h_o1 rfl f_X9_103 dX9_marked_19 hF (fun o6 h_o6 hF => ?_)
        refine lv_iload_n hx hb dX9_marked_22 rfl (lv_at hl 2 rfl) ?_
        refine wx_iald hC hH h_o6 ⟨rfl, rfl⟩ dX9_marked_23 hF (fun j7 hF => ?_)
        obtain ⟨q8_, hF, hq8⟩ := wJ_some hF
        have hJ34 : ∀ (i9 : Int32) (H : Heap) (locs : List Loc) (ls : Array Slot), F_X9_marked_j34 i4 i5 i9 = some q3_ → wHp D κ ρ 1 A s.heap H locs u2 → lv_has ls 3 [(0, .ref (ρ o1)), (2, .int i5)] → W p l e (wRm 0 0) s m args below meth c H locs 0 0 (wQI below args s A D κ ρ 1 z) (F0 m 34 ls [.int i9, .int i4]) := by
          intro i9 H locs ls hF hH hl
          unfold F_X9_marked_j34 at hF
          refine lv_ior hx hb dX9_marked_34 ?_
          refine wx_leti hF (fun i10 hF => ?_)
          refine wx_istore_n hx hb dX9_marked_35 rfl hl (by decide) (fun ls hl => ?_)
          have hl : lv_has ls 3 [(1, .int i10), (0, .ref (ρ o1)), (2, .int i5)] := hl
          refine wx_iinc hx hb dX9_marked_36 k_iconst_1 hl (k := 2) rfl (by decide) hF (fun i11 ls hF hl => ?_)
          have hl : lv_has ls 3 [(2, .int i11), (1, .int i10), (0, .ref (ρ o1))] := hl
          refine lv_goto hx hb dX9_marked_39 (tgt := 9) rfl ?_
          have hF := wJ_l hq3 hF
          exact ih3 i10 i11 H locs ls hF hH (lv_sub hl [2, 1, 0] rfl)
        refine lv_if_le hx hb dX9_marked_24 (tgt := 33) rfl (fun h => ?_) (fun h => ?_)
        · have hF := wx_t h hF
          refine lv_iconst hx hb dX9_marked_33 k_iconst_0 ?_
          have hF := wJ_l hq8 hF
          exact hJ34 (0 : Int32) H locs ls hF hH (lv_sub hl [0, 2] rfl)
        have hF := wx_f h hF
        refine lv_iconst hx hb dX9_marked_27 k_iconst_1 ?_
        refine lv_iload_n hx hb dX9_marked_28 rfl (lv_at hl 2 rfl) ?_
        refine lv_ishl hx hb dX9_marked_29 ?_
        refine lv_goto hx hb dX9_marked_30 (tgt := 34) rfl ?_
        have hF := wJ_l hq8 hF
        exact hJ34 ((1 : Int32) <<< (i5 &&& 31)) H locs ls hF hH (lv_sub hl [0, 2] rfl)
    exact hL9 wFu (0 : Int32) (0 : Int32) H locs ls hF hH (lv_sub hl [2, 1, 0] rfl)
  exact key _ _ hH
def F_X9_grace_j65 (i8 : Int32) (i9 : Int32) (i13 : Int32) : Option ((Int32 × Int32) ⊕ (Int32 × wSt)) :=
  wB (i8 + i13) (fun (i14 : Int32) => wB (i9 + (1 : Int32)) (fun (i15 : Int32) => some (.inl (i14, i15))))
def F_X9_grace_b31 (u6 : wSt) (o1 : Nat) (i8 : Int32) (i9 : Int32) : Option ((Int32 × Int32) ⊕ (Int32 × wSt)) :=
  if (u6.1 o1 12) ≤ i9 then (some (.inr (i8, u6))) else (wR (u6.2.2 o1 52) 15 (fun o10 => wN ((6 : Int32) + i9) o10 (fun j11 => wJ (X := Int32) (if (u6.1 o10 j11) = 0 then (some (.inl (0 : Int32))) else (wR (u6.2.2 o1 49) 14 (fun o16 => wN ((6 : Int32) + i9) o16 (fun j17 => some (.inl (u6.1 o16 j17)))))) (fun x => F_X9_grace_j65 i8 i9 x))))
def F_X9_grace (o1 : Nat) (i2 : Int32) (u0 : wSt) : Option (Int32 × wSt) :=
  wB (w_sI u0 o1 2 (0 : Int32)) (fun (u3 : wSt) => wP (F_X9_isIn i2 (0 : Int32) (200 : Int32) u3) (fun (i4 : Int32) => if i4 = 0 then (some ((-1 : Int32), u3)) else (wC (F_X9_layTried o1 u3) (fun _ (u5 : wSt) => wC (F_X9_goMany o1 i2 u5) (fun _ (u6 : wSt) => wL (S := Int32 × Int32) (fun x => F_X9_grace_b31 u6 o1 x.1 x.2) wFu ((0 : Int32), (0 : Int32)))))))
set_option maxRecDepth 100000 in
set_option maxHeartbeats 4000000 in
theorem c_X9_grace {l : Launch} {D : va_G} {κ : Nat → ClassId} {ρ : Nat → Nat} (o1 : Nat) (i2 : Int32) (h_o1 : (w_sh o1).1 = 9) : wMI l yX9_grace cX9_grace 4 .int (wRm 8 191) [.ref (ρ o1), .int i2] D κ ρ 1 (fun u => F_X9_grace o1 i2 u) := by
  refine wMI_of (F := fun u => F_X9_grace o1 i2 u) rfl (Nat.le_of_ble_eq_true rfl) (fun u0 z p e s m args below meth c ls A hF hC hr hlk hH hl => ?_)
  have hl : lv_has ls 4 [(0, .ref (ρ o1)), (1, .int i2)] := hl
  have hx := hC.1.1
  have hb := hC.1.2.1
  have hF : F_X9_grace o1 i2 u0 = some z := hF
  unfold F_X9_grace at hF
  change W p l e (wRm 8 191) s m args below meth c s.heap [] 0 0 (wQI below args s A D κ ρ 1 z) (F0 m 0 ls [])
  have key : ∀ (H : Heap) (locs : List Loc), wHp D κ ρ 1 A s.heap H locs u0 → W p l e (wRm 8 191) s m args below meth c H locs 0 0 (wQI below args s A D κ ρ 1 z) (F0 m 0 ls []) := by
    intro H locs hH
    refine lv_aload_n hx hb dX9_grace_0 rfl (lv_at hl 0 rfl) ?_
    refine lv_iconst hx hb dX9_grace_1 k_iconst_0 ?_
    refine wx_putI hC hH h_o1 rfl f_X9_142 g_9_2 dX9_grace_2 hF (fun u3 H locs hF hH => ?_)
    refine lv_iload_n hx hb dX9_grace_5 rfl (lv_at hl 1 rfl) ?_
    refine lv_iconst hx hb dX9_grace_6 k_iconst_0 ?_
    refine lv_sipush hx hb dX9_grace_7 k_sipush_200 ?_
    refine wx_psi hC hH hl (c_X9_isIn i2 (0 : Int32) (200 : Int32)) y_X9_isIn v_X9_isIn m_X9_187 rfl ⟨Nat.le_of_ble_eq_true rfl, Nat.le_of_ble_eq_true rfl⟩ ⟨Nat.le_refl _, Nat.le_refl _⟩ rfl (Nat.le_of_ble_eq_true rfl) dX9_grace_10 hF (fun i4 H locs hF hH => ?_)
    refine lv_if_ne hx hb dX9_grace_13 (tgt := 18) rfl (fun h => ?_) (fun h => ?_)
    · have hF := wx_f h hF
      refine lv_aload_n hx hb dX9_grace_18 rfl (lv_at hl 0 rfl) ?_
      refine wx_evv hC hH hl (c_X9_layTried o1 h_o1) y_X9_layTried v_X9_layTried h_o1 rfl m_X9_475 rfl ⟨Nat.le_of_ble_eq_true rfl, Nat.le_of_ble_eq_true rfl⟩ ⟨Nat.le_refl _, Nat.le_refl _⟩ rfl (Nat.le_of_ble_eq_true rfl) dX9_grace_19 hF (fun _ u5 H locs hF hH => ?_)
      refine lv_aload_n hx hb dX9_grace_22 rfl (lv_at hl 0 rfl) ?_
      refine lv_iload_n hx hb dX9_grace_23 rfl (lv_at hl 1 rfl) ?_
      refine wx_evv hC hH hl (c_X9_goMany o1 i2 h_o1) y_X9_goMany v_X9_goMany h_o1 rfl m_X9_478 rfl ⟨Nat.le_of_ble_eq_true rfl, Nat.le_of_ble_eq_true rfl⟩ ⟨Nat.le_refl _, Nat.le_refl _⟩ rfl (Nat.le_of_ble_eq_true rfl) dX9_grace_24 hF (fun _ u6 H locs hF hH => ?_)
      refine lv_iconst hx hb dX9_grace_27 k_iconst_0 ?_
      refine wx_istore_n hx hb dX9_grace_28 rfl hl (by decide) (fun ls hl => ?_)
      have hl : lv_has ls 4 [(2, .int (0 : Int32)), (0, .ref (ρ o1)), (1, .int i2)] := hl
      refine lv_iconst hx hb dX9_grace_29 k_iconst_0 ?_
      refine wx_istore_n hx hb dX9_grace_30 rfl hl (by decide) (fun ls hl => ?_)
      have hl : lv_has ls 4 [(3, .int (0 : Int32)), (2, .int (0 : Int32)), (0, .ref (ρ o1)), (1, .int i2)] := hl
      have hL31 : ∀ (k7_ : Nat) (i8 : Int32) (i9 : Int32) (H : Heap) (locs : List Loc) (ls : Array Slot), wL (S := Int32 × Int32) (fun x => F_X9_grace_b31 u6 o1 x.1 x.2) k7_ (i8, i9) = some z → wHp D κ ρ 1 A s.heap H locs u6 → lv_has ls 4 [(0, .ref (ρ o1)), (2, .int i8), (3, .int i9)] → W p l e (wRm 8 191) s m args below meth c H locs 0 0 (wQI below args s A D κ ρ 1 z) (F0 m 31 ls []) := by
        intro k7_
        induction k7_ with
        | zero => intro i8 i9 H locs ls hF; exact wL_zero hF
        | succ k7_ ih7 =>
          intro i8 i9 H locs ls hF hH hl
          obtain ⟨q7_, hF, hq7⟩ := wL_some hF
          have hF : F_X9_grace_b31 u6 o1 i8 i9 = some q7_ := hF
          unfold F_X9_grace_b31 at hF
          refine lv_iload_n hx hb dX9_grace_31 rfl (lv_at hl 2 rfl) ?_
          refine lv_aload_n hx hb dX9_grace_32 rfl (lv_at hl 0 rfl) ?_
          refine wx_getI hC hH h_o1 rfl f_X9_219 dX9_grace_33 ?_
          refine lv_icmp_ge hx hb dX9_grace_36 (tgt := 73) rfl (fun h => ?_) (fun h => ?_)
          · have hF := wx_t h hF
            refine lv_iload_n hx hb dX9_grace_73 rfl (lv_at hl 1 rfl) ?_
            have hF := wJ_r hq7 hF
            exact wx_iret hC hH hr hlk dX9_grace_74 hF
          have hF := wx_f h hF
          refine lv_iload_n hx hb dX9_grace_39 rfl (lv_at hl 1 rfl) ?_
          refine lv_aload_n hx hb dX9_grace_40 rfl (lv_at hl 0 rfl) ?_
          refine wx_getR hC hH h_o1 rfl f_X9_97 dX9_grace_41 hF (fun o10 h_o10 hF => ?_)
          refine lv_bipush hx hb dX9_grace_44 k_bipush_6 ?_
          refine lv_iload_n hx hb dX9_grace_46 rfl (lv_at hl 2 rfl) ?_
          refine lv_iadd hx hb dX9_grace_47 ?_
          refine wx_zald hC hH h_o10 ⟨rfl, rfl⟩ dX9_grace_48 hF (fun j11 hF => ?_)
          obtain ⟨q12_, hF, hq12⟩ := wJ_some hF
          have hJ65 : ∀ (i13 : Int32) (H : Heap) (locs : List Loc) (ls : Array Slot), F_X9_grace_j65 i8 i9 i13 = some q7_ → wHp D κ ρ 1 A s.heap H locs u6 → lv_has ls 4 [(0, .ref (ρ o1)), (3, .int i9)] → W p l e (wRm 8 191) s m args below meth c H locs 0 0 (wQI below args s A D κ ρ 1 z) (F0 m 65 ls [.int i13, .int i8]) := by
            intro i13 H locs ls hF hH hl
            unfold F_X9_grace_j65 at hF
            refine lv_iadd hx hb dX9_grace_65 ?_
            refine wx_leti hF (fun i14 hF => ?_)
            refine wx_istore_n hx hb dX9_grace_66 rfl hl (by decide) (fun ls hl => ?_)
            have hl : lv_has ls 4 [(2, .int i14), (0, .ref (ρ o1)), (3, .int i9)] := hl
            refine wx_iinc hx hb dX9_grace_67 k_iconst_1 hl (k := 2) rfl (by decide) hF (fun i15 ls hF hl => ?_)
            have hl : lv_has ls 4 [(3, .int i15), (2, .int i14), (0, .ref (ρ o1))] := hl
            refine lv_goto hx hb dX9_grace_70 (tgt := 31) rfl ?_
            have hF := wJ_l hq7 hF
            exact ih7 i14 i15 H locs ls hF hH (lv_sub hl [2, 1, 0] rfl)
          refine lv_if_eq hx hb dX9_grace_49 (tgt := 64) rfl (fun h => ?_) (fun h => ?_)
          · have hF := wx_t h hF
            refine lv_iconst hx hb dX9_grace_64 k_iconst_0 ?_
            have hF := wJ_l hq12 hF
            exact hJ65 (0 : Int32) H locs ls hF hH (lv_sub hl [0, 2] rfl)
          have hF := wx_f h hF
          refine lv_aload_n hx hb dX9_grace_52 rfl (lv_at hl 0 rfl) ?_
          refine wx_getR hC hH h_o1 rfl f_X9_88 dX9_grace_53 hF (fun o16 h_o16 hF => ?_)
          refine lv_bipush hx hb dX9_grace_56 k_bipush_6 ?_
          refine lv_iload_n hx hb dX9_grace_58 rfl (lv_at hl 2 rfl) ?_
          refine lv_iadd hx hb dX9_grace_59 ?_
          refine wx_iald hC hH h_o16 ⟨rfl, rfl⟩ dX9_grace_60 hF (fun j17 hF => ?_)
          refine lv_goto hx hb dX9_grace_61 (tgt := 65) rfl ?_
          have hF := wJ_l hq12 hF
          exact hJ65 (u6.1 o16 j17) H locs ls hF hH (lv_sub hl [0, 2] rfl)
      exact hL31 wFu (0 : Int32) (0 : Int32) H locs ls hF hH (lv_sub hl [2, 1, 0] rfl)
    have hF := wx_t h hF
    refine lv_iconst hx hb dX9_grace_16 k_iconst_m1 ?_
    exact wx_iret hC hH hr hlk dX9_grace_17 hF
  exact key _ _ hH
def F_X9_untouched_j43 (i4 : Int32) (i5 : Int32) (i10 : Int32) : Option ((Int32 × Int32) ⊕ (Int32 × wSt)) :=
  wB (i4 ||| i10) (fun (i11 : Int32) => wB (i5 + (1 : Int32)) (fun (i12 : Int32) => some (.inl (i11, i12))))
def F_X9_untouched_j42 : Option ((Int32) ⊕ ((Int32 × Int32) ⊕ (Int32 × wSt))) :=
  some (.inl (0 : Int32))
def F_X9_untouched_b9 (u2 : wSt) (o1 : Nat) (i4 : Int32) (i5 : Int32) : Option ((Int32 × Int32) ⊕ (Int32 × wSt)) :=
  if (u2.1 o1 13) ≤ i5 then (some (.inr (i4, u2))) else (wR (u2.2.2 o1 54) 14 (fun o6 => wN i5 o6 (fun j7 => wJ (X := Int32) (wJ (X := Unit) (if (u2.1 o6 j7) = 0 then (wR (u2.2.2 o1 55) 15 (fun o13 => wN i5 o13 (fun j14 => if (u2.1 o13 j14) = 0 then (some (.inr (.inl ((1 : Int32) <<< (i5 &&& 31))))) else (some (.inl ()))))) else (some (.inl ()))) (fun x => F_X9_untouched_j42)) (fun x => F_X9_untouched_j43 i4 i5 x))))
def F_X9_untouched (o1 : Nat) (u0 : wSt) : Option (Int32 × wSt) :=
  wB (w_sI u0 o1 2 (0 : Int32)) (fun (u2 : wSt) => wL (S := Int32 × Int32) (fun x => F_X9_untouched_b9 u2 o1 x.1 x.2) wFu ((0 : Int32), (0 : Int32)))
set_option maxRecDepth 100000 in
set_option maxHeartbeats 4000000 in
theorem c_X9_untouched {l : Launch} {D : va_G} {κ : Nat → ClassId} {ρ : Nat → Nat} (o1 : Nat) (h_o1 : (w_sh o1).1 = 9) : wMI l yX9_untouched cX9_untouched 3 .int (wRm 0 0) [.ref (ρ o1)] D κ ρ 1 (fun u => F_X9_untouched o1 u) := by
  refine wMI_of (F := fun u => F_X9_untouched o1 u) rfl (Nat.le_of_ble_eq_true rfl) (fun u0 z p e s m args below meth c ls A hF hC hr hlk hH hl => ?_)
  have hl : lv_has ls 3 [(0, .ref (ρ o1))] := hl
  have hx := hC.1.1
  have hb := hC.1.2.1
  have hF : F_X9_untouched o1 u0 = some z := hF
  unfold F_X9_untouched at hF
  change W p l e (wRm 0 0) s m args below meth c s.heap [] 0 0 (wQI below args s A D κ ρ 1 z) (F0 m 0 ls [])
  have key : ∀ (H : Heap) (locs : List Loc), wHp D κ ρ 1 A s.heap H locs u0 → W p l e (wRm 0 0) s m args below meth c H locs 0 0 (wQI below args s A D κ ρ 1 z) (F0 m 0 ls []) := by
    intro H locs hH
    refine lv_aload_n hx hb dX9_untouched_0 rfl (lv_at hl 0 rfl) ?_
    refine lv_iconst hx hb dX9_untouched_1 k_iconst_0 ?_
    refine wx_putI hC hH h_o1 rfl f_X9_142 g_9_2 dX9_untouched_2 hF (fun u2 H locs hF hH => ?_)
    refine lv_iconst hx hb dX9_untouched_5 k_iconst_0 ?_
    refine wx_istore_n hx hb dX9_untouched_6 rfl hl (by decide) (fun ls hl => ?_)
    have hl : lv_has ls 3 [(1, .int (0 : Int32)), (0, .ref (ρ o1))] := hl
    refine lv_iconst hx hb dX9_untouched_7 k_iconst_0 ?_
    refine wx_istore_n hx hb dX9_untouched_8 rfl hl (by decide) (fun ls hl => ?_)
    have hl : lv_has ls 3 [(2, .int (0 : Int32)), (1, .int (0 : Int32)), (0, .ref (ρ o1))] := hl
    have hL9 : ∀ (k3_ : Nat) (i4 : Int32) (i5 : Int32) (H : Heap) (locs : List Loc) (ls : Array Slot), wL (S := Int32 × Int32) (fun x => F_X9_untouched_b9 u2 o1 x.1 x.2) k3_ (i4, i5) = some z → wHp D κ ρ 1 A s.heap H locs u2 → lv_has ls 3 [(0, .ref (ρ o1)), (1, .int i4), (2, .int i5)] → W p l e (wRm 0 0) s m args below meth c H locs 0 0 (wQI below args s A D κ ρ 1 z) (F0 m 9 ls []) := by
      intro k3_
      induction k3_ with
      | zero => intro i4 i5 H locs ls hF; exact wL_zero hF
      | succ k3_ ih3 =>
        intro i4 i5 H locs ls hF hH hl
        obtain ⟨q3_, hF, hq3⟩ := wL_some hF
        have hF : F_X9_untouched_b9 u2 o1 i4 i5 = some q3_ := hF
        unfold F_X9_untouched_b9 at hF
        refine lv_iload_n hx hb dX9_untouched_9 rfl (lv_at hl 2 rfl) ?_
        refine lv_aload_n hx hb dX9_untouched_10 rfl (lv_at hl 0 rfl) ?_
        refine wx_getI hC hH h_o1 rfl f_X9_222 dX9_untouched_11 ?_
        refine lv_icmp_ge hx hb dX9_untouched_14 (tgt := 51) rfl (fun h => ?_) (fun h => ?_)
        · have hF := wx_t h hF
          refine lv_iload_n hx hb dX9_untouched_51 rfl (lv_at hl 1 rfl) ?_
          have hF := wJ_r hq3 hF
          exact wx_iret hC hH hr hlk dX9_untouched_52 hF
        have hF := wx_f h hF
        refine lv_iload_n hx hb dX9_untouched_17 rfl (lv_at hl 1 rfl) ?_
        refine lv_aload_n hx hb dX9_untouched_18 rfl (lv_at hl 0 rfl) ?_
        refine wx_getR hC hH h_o1 rfl f_X9_103 dX9_untouched_19 hF (fun o6 h_o6 hF => ?_)
        refine lv_iload_n hx hb dX9_untouched_22 rfl (lv_at hl 2 rfl) ?_
        refine wx_iald hC hH h_o6 ⟨rfl, rfl⟩ dX9_untouched_23 hF (fun j7 hF => ?_)
        obtain ⟨q8_, hF, hq8⟩ := wJ_some hF
        obtain ⟨q9_, hF, hq9⟩ := wJ_some hF
        have hJ43 : ∀ (i10 : Int32) (H : Heap) (locs : List Loc) (ls : Array Slot), F_X9_untouched_j43 i4 i5 i10 = some q3_ → wHp D κ ρ 1 A s.heap H locs u2 → lv_has ls 3 [(0, .ref (ρ o1)), (2, .int i5)] → W p l e (wRm 0 0) s m args below meth c H locs 0 0 (wQI below args s A D κ ρ 1 z) (F0 m 43 ls [.int i10, .int i4]) := by
          intro i10 H locs ls hF hH hl
          unfold F_X9_untouched_j43 at hF
          refine lv_ior hx hb dX9_untouched_43 ?_
          refine wx_leti hF (fun i11 hF => ?_)
          refine wx_istore_n hx hb dX9_untouched_44 rfl hl (by decide) (fun ls hl => ?_)
          have hl : lv_has ls 3 [(1, .int i11), (0, .ref (ρ o1)), (2, .int i5)] := hl
          refine wx_iinc hx hb dX9_untouched_45 k_iconst_1 hl (k := 2) rfl (by decide) hF (fun i12 ls hF hl => ?_)
          have hl : lv_has ls 3 [(2, .int i12), (1, .int i11), (0, .ref (ρ o1))] := hl
          refine lv_goto hx hb dX9_untouched_48 (tgt := 9) rfl ?_
          have hF := wJ_l hq3 hF
          exact ih3 i11 i12 H locs ls hF hH (lv_sub hl [2, 1, 0] rfl)
        have hJ42 : ∀ (H : Heap) (locs : List Loc) (ls : Array Slot), F_X9_untouched_j42 = some q8_ → wHp D κ ρ 1 A s.heap H locs u2 → lv_has ls 3 [(0, .ref (ρ o1)), (2, .int i5)] → W p l e (wRm 0 0) s m args below meth c H locs 0 0 (wQI below args s A D κ ρ 1 z) (F0 m 42 ls [.int i4]) := by
          intro H locs ls hF hH hl
          unfold F_X9_untouched_j42 at hF
          refine lv_iconst hx hb dX9_untouched_42 k_iconst_0 ?_
          have hF := wJ_l hq8 hF
          exact hJ43 (0 : Int32) H locs ls hF hH (lv_sub hl [0, 1] rfl)
        refine lv_if_ne hx hb dX9_untouched_24 (tgt := 42) rfl (fun h => ?_) (fun h => ?_)
        · have hF := wx_f h hF
          have hF := wJ_l hq9 hF
          exact hJ42 H locs ls hF hH (lv_sub hl [0, 2] rfl)
        have hF := wx_t h hF
        refine lv_aload_n hx hb dX9_untouched_27 rfl (lv_at hl 0 rfl) ?_
        refine wx_getR hC hH h_o1 rfl f_X9_106 dX9_untouched_28 hF (fun o13 h_o13 hF => ?_)
        refine lv_iload_n hx hb dX9_untouched_31 rfl (lv_at hl 2 rfl) ?_
        refine wx_zald hC hH h_o13 ⟨rfl, rfl⟩ dX9_untouched_32 hF (fun j14 hF => ?_)
        refine lv_if_ne hx hb dX9_untouched_33 (tgt := 42) rfl (fun h => ?_) (fun h => ?_)
        · have hF := wx_f h hF
          have hF := wJ_l hq9 hF
          exact hJ42 H locs ls hF hH (lv_sub hl [0, 2] rfl)
        have hF := wx_t h hF
        refine lv_iconst hx hb dX9_untouched_36 k_iconst_1 ?_
        refine lv_iload_n hx hb dX9_untouched_37 rfl (lv_at hl 2 rfl) ?_
        refine lv_ishl hx hb dX9_untouched_38 ?_
        refine lv_goto hx hb dX9_untouched_39 (tgt := 43) rfl ?_
        have hF := wJ_r hq9 hF
        have hF := wJ_l hq8 hF
        exact hJ43 ((1 : Int32) <<< (i5 &&& 31)) H locs ls hF hH (lv_sub hl [0, 2] rfl)
    exact hL9 wFu (0 : Int32) (0 : Int32) H locs ls hF hH (lv_sub hl [2, 1, 0] rfl)
  exact key _ _ hH
def F_X9_apart (o1 : Nat) (i2 : Int32) (i3 : Int32) (u0 : wSt) : Option (Int32 × wSt) :=
  wB (w_sI u0 o1 2 (0 : Int32)) (fun (u4 : wSt) => wP (F_X9_isGuest o1 i2 u4) (fun (i5 : Int32) => if i5 = 0 then (some ((-1 : Int32), u4)) else (wP (F_X9_isGuest o1 i3 u4) (fun (i6 : Int32) => if i6 = 0 then (some ((-1 : Int32), u4)) else (wP (F_X9_far o1 (0 : Int32) i2 i3 u4) (fun (i7 : Int32) => some (i7, u4)))))))
set_option maxRecDepth 100000 in
set_option maxHeartbeats 4000000 in
theorem c_X9_apart {l : Launch} {D : va_G} {κ : Nat → ClassId} {ρ : Nat → Nat} (o1 : Nat) (i2 : Int32) (i3 : Int32) (h_o1 : (w_sh o1).1 = 9) : wMI l yX9_apart cX9_apart 3 .int (wRm 1 26) [.ref (ρ o1), .int i2, .int i3] D κ ρ 1 (fun u => F_X9_apart o1 i2 i3 u) := by
  refine wMI_of (F := fun u => F_X9_apart o1 i2 i3 u) rfl (Nat.le_of_ble_eq_true rfl) (fun u0 z p e s m args below meth c ls A hF hC hr hlk hH hl => ?_)
  have hl : lv_has ls 3 [(0, .ref (ρ o1)), (1, .int i2), (2, .int i3)] := hl
  have hx := hC.1.1
  have hb := hC.1.2.1
  have hF : F_X9_apart o1 i2 i3 u0 = some z := hF
  unfold F_X9_apart at hF
  change W p l e (wRm 1 26) s m args below meth c s.heap [] 0 0 (wQI below args s A D κ ρ 1 z) (F0 m 0 ls [])
  have key : ∀ (H : Heap) (locs : List Loc), wHp D κ ρ 1 A s.heap H locs u0 → W p l e (wRm 1 26) s m args below meth c H locs 0 0 (wQI below args s A D κ ρ 1 z) (F0 m 0 ls []) := by
    intro H locs hH
    refine lv_aload_n hx hb dX9_apart_0 rfl (lv_at hl 0 rfl) ?_
    refine lv_iconst hx hb dX9_apart_1 k_iconst_0 ?_
    refine wx_putI hC hH h_o1 rfl f_X9_142 g_9_2 dX9_apart_2 hF (fun u4 H locs hF hH => ?_)
    refine lv_aload_n hx hb dX9_apart_5 rfl (lv_at hl 0 rfl) ?_
    refine lv_iload_n hx hb dX9_apart_6 rfl (lv_at hl 1 rfl) ?_
    refine wx_pvi hC hH hl (c_X9_isGuest o1 i2 h_o1) y_X9_isGuest v_X9_isGuest h_o1 rfl m_X9_380 rfl ⟨Nat.le_of_ble_eq_true rfl, Nat.le_of_ble_eq_true rfl⟩ ⟨Nat.le_refl _, Nat.le_refl _⟩ rfl (Nat.le_of_ble_eq_true rfl) dX9_apart_7 hF (fun i5 H locs hF hH => ?_)
    refine lv_if_eq hx hb dX9_apart_10 (tgt := 31) rfl (fun h => ?_) (fun h => ?_)
    · have hF := wx_t h hF
      refine lv_iconst hx hb dX9_apart_31 k_iconst_m1 ?_
      exact wx_iret hC hH hr hlk dX9_apart_32 hF
    have hF := wx_f h hF
    refine lv_aload_n hx hb dX9_apart_13 rfl (lv_at hl 0 rfl) ?_
    refine lv_iload_n hx hb dX9_apart_14 rfl (lv_at hl 2 rfl) ?_
    refine wx_pvi hC hH hl (c_X9_isGuest o1 i3 h_o1) y_X9_isGuest v_X9_isGuest h_o1 rfl m_X9_380 rfl ⟨Nat.le_of_ble_eq_true rfl, Nat.le_of_ble_eq_true rfl⟩ ⟨Nat.le_refl _, Nat.le_refl _⟩ rfl (Nat.le_of_ble_eq_true rfl) dX9_apart_15 hF (fun i6 H locs hF hH => ?_)
    refine lv_if_eq hx hb dX9_apart_18 (tgt := 31) rfl (fun h => ?_) (fun h => ?_)
    · have hF := wx_t h hF
      refine lv_iconst hx hb dX9_apart_31 k_iconst_m1 ?_
      exact wx_iret hC hH hr hlk dX9_apart_32 hF
    have hF := wx_f h hF
    refine lv_aload_n hx hb dX9_apart_21 rfl (lv_at hl 0 rfl) ?_
    refine lv_iconst hx hb dX9_apart_22 k_iconst_0 ?_
    refine lv_iload_n hx hb dX9_apart_23 rfl (lv_at hl 1 rfl) ?_
    refine lv_iload_n hx hb dX9_apart_24 rfl (lv_at hl 2 rfl) ?_
    refine wx_pvi hC hH hl (c_X9_far o1 (0 : Int32) i2 i3 h_o1) y_X9_far v_X9_far h_o1 rfl m_X9_410 rfl ⟨Nat.le_of_ble_eq_true rfl, Nat.le_of_ble_eq_true rfl⟩ ⟨Nat.le_refl _, Nat.le_refl _⟩ rfl (Nat.le_of_ble_eq_true rfl) dX9_apart_25 hF (fun i7 H locs hF hH => ?_)
    refine lv_goto hx hb dX9_apart_28 (tgt := 32) rfl ?_
    exact wx_iret hC hH hr hlk dX9_apart_32 hF
  exact key _ _ hH
def F_X9_noted (o1 : Nat) (i2 : Int32) (i3 : Int32) (i4 : Int32) (i5 : Int32) (u0 : wSt) : Option (Int32 × wSt) :=
  wR (u0.2.2 o1 72) 14 (fun o6 => wSI u0 o6 ((4 : Int32) * (u0.1 o1 70)) i2 (fun (u7 : wSt) => wR (u7.2.2 o1 72) 14 (fun o8 => wSI u7 o8 (((4 : Int32) * (u7.1 o1 70)) + (1 : Int32)) i3 (fun (u9 : wSt) => wR (u9.2.2 o1 72) 14 (fun o10 => wSI u9 o10 (((4 : Int32) * (u9.1 o1 70)) + (2 : Int32)) i4 (fun (u11 : wSt) => wR (u11.2.2 o1 72) 14 (fun o12 => wSI u11 o12 (((4 : Int32) * (u11.1 o1 70)) + (3 : Int32)) i5 (fun (u13 : wSt) => wB (w_sI u13 o1 70 ((u13.1 o1 70) + (1 : Int32))) (fun (u14 : wSt) => some (((u14.1 o1 70) - (1 : Int32)), u14))))))))))
set_option maxRecDepth 100000 in
set_option maxHeartbeats 4000000 in
theorem c_X9_noted {l : Launch} {D : va_G} {κ : Nat → ClassId} {ρ : Nat → Nat} (o1 : Nat) (i2 : Int32) (i3 : Int32) (i4 : Int32) (i5 : Int32) (h_o1 : (w_sh o1).1 = 9) : wMI l yX9_noted cX9_noted 5 .int (wRm 0 0) [.ref (ρ o1), .int i2, .int i3, .int i4, .int i5] D κ ρ 1 (fun u => F_X9_noted o1 i2 i3 i4 i5 u) := by
  refine wMI_of (F := fun u => F_X9_noted o1 i2 i3 i4 i5 u) rfl (Nat.le_of_ble_eq_true rfl) (fun u0 z p e s m args below meth c ls A hF hC hr hlk hH hl => ?_)
  have hl : lv_has ls 5 [(0, .ref (ρ o1)), (1, .int i2), (2, .int i3), (3, .int i4), (4, .int i5)] := hl
  have hx := hC.1.1
  have hb := hC.1.2.1
  have hF : F_X9_noted o1 i2 i3 i4 i5 u0 = some z := hF
  unfold F_X9_noted at hF
  change W p l e (wRm 0 0) s m args below meth c s.heap [] 0 0 (wQI below args s A D κ ρ 1 z) (F0 m 0 ls [])
  have key : ∀ (H : Heap) (locs : List Loc), wHp D κ ρ 1 A s.heap H locs u0 → W p l e (wRm 0 0) s m args below meth c H locs 0 0 (wQI below args s A D κ ρ 1 z) (F0 m 0 ls []) := by
    intro H locs hH
    refine lv_aload_n hx hb dX9_noted_0 rfl (lv_at hl 0 rfl) ?_
    refine wx_getR hC hH h_o1 rfl f_X9_121 dX9_noted_1 hF (fun o6 h_o6 hF => ?_)
    refine lv_iconst hx hb dX9_noted_4 k_iconst_4 ?_
    refine lv_aload_n hx hb dX9_noted_5 rfl (lv_at hl 0 rfl) ?_
    refine wx_getI hC hH h_o1 rfl f_X9_344 dX9_noted_6 ?_
    refine lv_imul hx hb dX9_noted_9 ?_
    refine lv_iload_n hx hb dX9_noted_10 rfl (lv_at hl 1 rfl) ?_
    refine wx_iast hC hH h_o6 ⟨rfl, rfl⟩ dX9_noted_11 hF (fun u7 H locs hF hH => ?_)
    refine lv_aload_n hx hb dX9_noted_12 rfl (lv_at hl 0 rfl) ?_
    refine wx_getR hC hH h_o1 rfl f_X9_121 dX9_noted_13 hF (fun o8 h_o8 hF => ?_)
    refine lv_iconst hx hb dX9_noted_16 k_iconst_4 ?_
    refine lv_aload_n hx hb dX9_noted_17 rfl (lv_at hl 0 rfl) ?_
    refine wx_getI hC hH h_o1 rfl f_X9_344 dX9_noted_18 ?_
    refine lv_imul hx hb dX9_noted_21 ?_
    refine lv_iconst hx hb dX9_noted_22 k_iconst_1 ?_
    refine lv_iadd hx hb dX9_noted_23 ?_
    refine lv_iload_n hx hb dX9_noted_24 rfl (lv_at hl 2 rfl) ?_
    refine wx_iast hC hH h_o8 ⟨rfl, rfl⟩ dX9_noted_25 hF (fun u9 H locs hF hH => ?_)
    refine lv_aload_n hx hb dX9_noted_26 rfl (lv_at hl 0 rfl) ?_
    refine wx_getR hC hH h_o1 rfl f_X9_121 dX9_noted_27 hF (fun o10 h_o10 hF => ?_)
    refine lv_iconst hx hb dX9_noted_30 k_iconst_4 ?_
    refine lv_aload_n hx hb dX9_noted_31 rfl (lv_at hl 0 rfl) ?_
    refine wx_getI hC hH h_o1 rfl f_X9_344 dX9_noted_32 ?_
    refine lv_imul hx hb dX9_noted_35 ?_
    refine lv_iconst hx hb dX9_noted_36 k_iconst_2 ?_
    refine lv_iadd hx hb dX9_noted_37 ?_
    refine lv_iload_n hx hb dX9_noted_38 rfl (lv_at hl 3 rfl) ?_
    refine wx_iast hC hH h_o10 ⟨rfl, rfl⟩ dX9_noted_39 hF (fun u11 H locs hF hH => ?_)
    refine lv_aload_n hx hb dX9_noted_40 rfl (lv_at hl 0 rfl) ?_
    refine wx_getR hC hH h_o1 rfl f_X9_121 dX9_noted_41 hF (fun o12 h_o12 hF => ?_)
    refine lv_iconst hx hb dX9_noted_44 k_iconst_4 ?_
    refine lv_aload_n hx hb dX9_noted_45 rfl (lv_at hl 0 rfl) ?_
    refine wx_getI hC hH h_o1 rfl f_X9_344 dX9_noted_46 ?_
    refine lv_imul hx hb dX9_noted_49 ?_
    refine lv_iconst hx hb dX9_noted_50 k_iconst_3 ?_
    refine lv_iadd hx hb dX9_noted_51 ?_
    refine lv_iload hx hb dX9_noted_52 (lv_at hl 4 rfl) ?_
    refine wx_iast hC hH h_o12 ⟨rfl, rfl⟩ dX9_noted_54 hF (fun u13 H locs hF hH => ?_)
    refine lv_aload_n hx hb dX9_noted_55 rfl (lv_at hl 0 rfl) ?_
    refine lv_dup hx hb dX9_noted_56 rfl ?_
    refine wx_getI hC hH h_o1 rfl f_X9_344 dX9_noted_57 ?_
    refine lv_iconst hx hb dX9_noted_60 k_iconst_1 ?_
    refine lv_iadd hx hb dX9_noted_61 ?_
    refine wx_putI hC hH h_o1 rfl f_X9_344 g_9_70 dX9_noted_62 hF (fun u14 H locs hF hH => ?_)
    refine lv_aload_n hx hb dX9_noted_65 rfl (lv_at hl 0 rfl) ?_
    refine wx_getI hC hH h_o1 rfl f_X9_344 dX9_noted_66 ?_
    refine lv_iconst hx hb dX9_noted_69 k_iconst_1 ?_
    refine lv_isub hx hb dX9_noted_70 ?_
    exact wx_iret hC hH hr hlk dX9_noted_71 hF
  exact key _ _ hH
def F_X9_see_j60 (o1 : Nat) (i2 : Int32) (i3 : Int32) (i4 : Int32) (u6 : wSt) (i11 : Int32) : Option (Int32 × wSt) :=
  wC (F_X9_noted o1 i2 i3 i4 i11 u6) (fun (i13 : Int32) (u12 : wSt) => some (i13, u12))
def F_X9_see (o1 : Nat) (i2 : Int32) (i3 : Int32) (i4 : Int32) (i5 : Int32) (u0 : wSt) : Option (Int32 × wSt) :=
  wB (w_sI u0 o1 2 (0 : Int32)) (fun (u6 : wSt) => if (u6.1 o1 70) = (24 : Int32) then (some ((-1 : Int32), u6)) else (wP (F_X9_isIn i2 (1 : Int32) (99 : Int32) u6) (fun (i7 : Int32) => if i7 = 0 then (some ((-1 : Int32), u6)) else (wP (F_X9_isGuest o1 i3 u6) (fun (i8 : Int32) => if i8 = 0 then (some ((-1 : Int32), u6)) else (wP (F_X9_isIn i4 (0 : Int32) (99 : Int32) u6) (fun (i9 : Int32) => if i9 = 0 then (some ((-1 : Int32), u6)) else (wJ (X := Int32) (if i5 = 0 then (some (.inl (0 : Int32))) else (some (.inl (1 : Int32)))) (fun x => F_X9_see_j60 o1 i2 i3 i4 u6 x)))))))))
set_option maxRecDepth 100000 in
set_option maxHeartbeats 4000000 in
theorem c_X9_see {l : Launch} {D : va_G} {κ : Nat → ClassId} {ρ : Nat → Nat} (o1 : Nat) (i2 : Int32) (i3 : Int32) (i4 : Int32) (i5 : Int32) (h_o1 : (w_sh o1).1 = 9) : wMI l yX9_see cX9_see 5 .int (wRm 1 24) [.ref (ρ o1), .int i2, .int i3, .int i4, .int i5] D κ ρ 1 (fun u => F_X9_see o1 i2 i3 i4 i5 u) := by
  refine wMI_of (F := fun u => F_X9_see o1 i2 i3 i4 i5 u) rfl (Nat.le_of_ble_eq_true rfl) (fun u0 z p e s m args below meth c ls A hF hC hr hlk hH hl => ?_)
  have hl : lv_has ls 5 [(0, .ref (ρ o1)), (1, .int i2), (2, .int i3), (3, .int i4), (4, .int i5)] := hl
  have hx := hC.1.1
  have hb := hC.1.2.1
  have hF : F_X9_see o1 i2 i3 i4 i5 u0 = some z := hF
  unfold F_X9_see at hF
  change W p l e (wRm 1 24) s m args below meth c s.heap [] 0 0 (wQI below args s A D κ ρ 1 z) (F0 m 0 ls [])
  have key : ∀ (H : Heap) (locs : List Loc), wHp D κ ρ 1 A s.heap H locs u0 → W p l e (wRm 1 24) s m args below meth c H locs 0 0 (wQI below args s A D κ ρ 1 z) (F0 m 0 ls []) := by
    intro H locs hH
    refine lv_aload_n hx hb dX9_see_0 rfl (lv_at hl 0 rfl) ?_
    refine lv_iconst hx hb dX9_see_1 k_iconst_0 ?_
    refine wx_putI hC hH h_o1 rfl f_X9_142 g_9_2 dX9_see_2 hF (fun u6 H locs hF hH => ?_)
    refine lv_aload_n hx hb dX9_see_5 rfl (lv_at hl 0 rfl) ?_
    refine wx_getI hC hH h_o1 rfl f_X9_344 dX9_see_6 ?_
    refine lv_bipush hx hb dX9_see_9 k_bipush_24 ?_
    refine lv_icmp_eq hx hb dX9_see_11 (tgt := 42) rfl (fun h => ?_) (fun h => ?_)
    · have hF := wx_t h hF
      refine lv_iconst hx hb dX9_see_42 k_iconst_m1 ?_
      refine lv_goto hx hb dX9_see_43 (tgt := 63) rfl ?_
      exact wx_iret hC hH hr hlk dX9_see_63 hF
    have hF := wx_f h hF
    refine lv_iload_n hx hb dX9_see_14 rfl (lv_at hl 1 rfl) ?_
    refine lv_iconst hx hb dX9_see_15 k_iconst_1 ?_
    refine lv_bipush hx hb dX9_see_16 k_bipush_99 ?_
    refine wx_psi hC hH hl (c_X9_isIn i2 (1 : Int32) (99 : Int32)) y_X9_isIn v_X9_isIn m_X9_187 rfl ⟨Nat.le_of_ble_eq_true rfl, Nat.le_of_ble_eq_true rfl⟩ ⟨Nat.le_refl _, Nat.le_refl _⟩ rfl (Nat.le_of_ble_eq_true rfl) dX9_see_18 hF (fun i7 H locs hF hH => ?_)
    refine lv_if_eq hx hb dX9_see_21 (tgt := 42) rfl (fun h => ?_) (fun h => ?_)
    · have hF := wx_t h hF
      refine lv_iconst hx hb dX9_see_42 k_iconst_m1 ?_
      refine lv_goto hx hb dX9_see_43 (tgt := 63) rfl ?_
      exact wx_iret hC hH hr hlk dX9_see_63 hF
    have hF := wx_f h hF
    refine lv_aload_n hx hb dX9_see_24 rfl (lv_at hl 0 rfl) ?_
    refine lv_iload_n hx hb dX9_see_25 rfl (lv_at hl 2 rfl) ?_
    refine wx_pvi hC hH hl (c_X9_isGuest o1 i3 h_o1) y_X9_isGuest v_X9_isGuest h_o1 rfl m_X9_380 rfl ⟨Nat.le_of_ble_eq_true rfl, Nat.le_of_ble_eq_true rfl⟩ ⟨Nat.le_refl _, Nat.le_refl _⟩ rfl (Nat.le_of_ble_eq_true rfl) dX9_see_26 hF (fun i8 H locs hF hH => ?_)
    refine lv_if_eq hx hb dX9_see_29 (tgt := 42) rfl (fun h => ?_) (fun h => ?_)
    · have hF := wx_t h hF
      refine lv_iconst hx hb dX9_see_42 k_iconst_m1 ?_
      refine lv_goto hx hb dX9_see_43 (tgt := 63) rfl ?_
      exact wx_iret hC hH hr hlk dX9_see_63 hF
    have hF := wx_f h hF
    refine lv_iload_n hx hb dX9_see_32 rfl (lv_at hl 3 rfl) ?_
    refine lv_iconst hx hb dX9_see_33 k_iconst_0 ?_
    refine lv_bipush hx hb dX9_see_34 k_bipush_99 ?_
    refine wx_psi hC hH hl (c_X9_isIn i4 (0 : Int32) (99 : Int32)) y_X9_isIn v_X9_isIn m_X9_187 rfl ⟨Nat.le_of_ble_eq_true rfl, Nat.le_of_ble_eq_true rfl⟩ ⟨Nat.le_refl _, Nat.le_refl _⟩ rfl (Nat.le_of_ble_eq_true rfl) dX9_see_36 hF (fun i9 H locs hF hH => ?_)
    refine lv_if_ne hx hb dX9_see_39 (tgt := 46) rfl (fun h => ?_) (fun h => ?_)
    · have hF := wx_f h hF
      refine lv_aload_n hx hb dX9_see_46 rfl (lv_at hl 0 rfl) ?_
      refine lv_iload_n hx hb dX9_see_47 rfl (lv_at hl 1 rfl) ?_
      refine lv_iload_n hx hb dX9_see_48 rfl (lv_at hl 2 rfl) ?_
      refine lv_iload_n hx hb dX9_see_49 rfl (lv_at hl 3 rfl) ?_
      refine lv_iload hx hb dX9_see_50 (lv_at hl 4 rfl) ?_
      obtain ⟨q10_, hF, hq10⟩ := wJ_some hF
      have hJ60 : ∀ (i11 : Int32) (H : Heap) (locs : List Loc) (ls : Array Slot), F_X9_see_j60 o1 i2 i3 i4 u6 i11 = some z → wHp D κ ρ 1 A s.heap H locs u6 → lv_has ls 5 [] → W p l e (wRm 1 24) s m args below meth c H locs 0 0 (wQI below args s A D κ ρ 1 z) (F0 m 60 ls [.int i11, .int i4, .int i3, .int i2, .ref (ρ o1)]) := by
        intro i11 H locs ls hF hH hl
        unfold F_X9_see_j60 at hF
        refine wx_evi hC hH hl (c_X9_noted o1 i2 i3 i4 i11 h_o1) y_X9_noted v_X9_noted h_o1 rfl m_X9_525 rfl ⟨Nat.le_of_ble_eq_true rfl, Nat.le_of_ble_eq_true rfl⟩ ⟨Nat.le_refl _, Nat.le_refl _⟩ rfl (Nat.le_of_ble_eq_true rfl) dX9_see_60 hF (fun i13 u12 H locs hF hH => ?_)
        exact wx_iret hC hH hr hlk dX9_see_63 hF
      refine lv_if_eq hx hb dX9_see_52 (tgt := 59) rfl (fun h => ?_) (fun h => ?_)
      · have hF := wx_t h hF
        refine lv_iconst hx hb dX9_see_59 k_iconst_0 ?_
        have hF := wJ_l hq10 hF
        exact hJ60 (0 : Int32) H locs ls hF hH (lv_sub hl [] rfl)
      have hF := wx_f h hF
      refine lv_iconst hx hb dX9_see_55 k_iconst_1 ?_
      refine lv_goto hx hb dX9_see_56 (tgt := 60) rfl ?_
      have hF := wJ_l hq10 hF
      exact hJ60 (1 : Int32) H locs ls hF hH (lv_sub hl [] rfl)
    have hF := wx_t h hF
    refine lv_iconst hx hb dX9_see_42 k_iconst_m1 ?_
    refine lv_goto hx hb dX9_see_43 (tgt := 63) rfl ?_
    exact wx_iret hC hH hr hlk dX9_see_63 hF
  exact key _ _ hH
def F_X9_strike (o1 : Nat) (i2 : Int32) (u0 : wSt) : Option (Int32 × wSt) :=
  wB (w_sI u0 o1 2 (0 : Int32)) (fun (u3 : wSt) => if (u3.1 o1 70) = (24 : Int32) then (some ((-1 : Int32), u3)) else (if i2 < 0 then (some ((-1 : Int32), u3)) else (if i2 < (u3.1 o1 70) then (wC (F_X9_noted o1 (-1 : Int32) i2 (0 : Int32) (0 : Int32) u3) (fun (i5 : Int32) (u4 : wSt) => some (i5, u4))) else (some ((-1 : Int32), u3)))))
set_option maxRecDepth 100000 in
set_option maxHeartbeats 4000000 in
theorem c_X9_strike {l : Launch} {D : va_G} {κ : Nat → ClassId} {ρ : Nat → Nat} (o1 : Nat) (i2 : Int32) (h_o1 : (w_sh o1).1 = 9) : wMI l yX9_strike cX9_strike 2 .int (wRm 1 24) [.ref (ρ o1), .int i2] D κ ρ 1 (fun u => F_X9_strike o1 i2 u) := by
  refine wMI_of (F := fun u => F_X9_strike o1 i2 u) rfl (Nat.le_of_ble_eq_true rfl) (fun u0 z p e s m args below meth c ls A hF hC hr hlk hH hl => ?_)
  have hl : lv_has ls 2 [(0, .ref (ρ o1)), (1, .int i2)] := hl
  have hx := hC.1.1
  have hb := hC.1.2.1
  have hF : F_X9_strike o1 i2 u0 = some z := hF
  unfold F_X9_strike at hF
  change W p l e (wRm 1 24) s m args below meth c s.heap [] 0 0 (wQI below args s A D κ ρ 1 z) (F0 m 0 ls [])
  have key : ∀ (H : Heap) (locs : List Loc), wHp D κ ρ 1 A s.heap H locs u0 → W p l e (wRm 1 24) s m args below meth c H locs 0 0 (wQI below args s A D κ ρ 1 z) (F0 m 0 ls []) := by
    intro H locs hH
    refine lv_aload_n hx hb dX9_strike_0 rfl (lv_at hl 0 rfl) ?_
    refine lv_iconst hx hb dX9_strike_1 k_iconst_0 ?_
    refine wx_putI hC hH h_o1 rfl f_X9_142 g_9_2 dX9_strike_2 hF (fun u3 H locs hF hH => ?_)
    refine lv_aload_n hx hb dX9_strike_5 rfl (lv_at hl 0 rfl) ?_
    refine wx_getI hC hH h_o1 rfl f_X9_344 dX9_strike_6 ?_
    refine lv_bipush hx hb dX9_strike_9 k_bipush_24 ?_
    refine lv_icmp_eq hx hb dX9_strike_11 (tgt := 26) rfl (fun h => ?_) (fun h => ?_)
    · have hF := wx_t h hF
      refine lv_iconst hx hb dX9_strike_26 k_iconst_m1 ?_
      refine lv_goto hx hb dX9_strike_27 (tgt := 38) rfl ?_
      exact wx_iret hC hH hr hlk dX9_strike_38 hF
    have hF := wx_f h hF
    refine lv_iload_n hx hb dX9_strike_14 rfl (lv_at hl 1 rfl) ?_
    refine lv_if_lt hx hb dX9_strike_15 (tgt := 26) rfl (fun h => ?_) (fun h => ?_)
    · have hF := wx_t h hF
      refine lv_iconst hx hb dX9_strike_26 k_iconst_m1 ?_
      refine lv_goto hx hb dX9_strike_27 (tgt := 38) rfl ?_
      exact wx_iret hC hH hr hlk dX9_strike_38 hF
    have hF := wx_f h hF
    refine lv_iload_n hx hb dX9_strike_18 rfl (lv_at hl 1 rfl) ?_
    refine lv_aload_n hx hb dX9_strike_19 rfl (lv_at hl 0 rfl) ?_
    refine wx_getI hC hH h_o1 rfl f_X9_344 dX9_strike_20 ?_
    refine lv_icmp_lt hx hb dX9_strike_23 (tgt := 30) rfl (fun h => ?_) (fun h => ?_)
    · have hF := wx_t h hF
      refine lv_aload_n hx hb dX9_strike_30 rfl (lv_at hl 0 rfl) ?_
      refine lv_iconst hx hb dX9_strike_31 k_iconst_m1 ?_
      refine lv_iload_n hx hb dX9_strike_32 rfl (lv_at hl 1 rfl) ?_
      refine lv_iconst hx hb dX9_strike_33 k_iconst_0 ?_
      refine lv_iconst hx hb dX9_strike_34 k_iconst_0 ?_
      refine wx_evi hC hH hl (c_X9_noted o1 (-1 : Int32) i2 (0 : Int32) (0 : Int32) h_o1) y_X9_noted v_X9_noted h_o1 rfl m_X9_525 rfl ⟨Nat.le_of_ble_eq_true rfl, Nat.le_of_ble_eq_true rfl⟩ ⟨Nat.le_refl _, Nat.le_refl _⟩ rfl (Nat.le_of_ble_eq_true rfl) dX9_strike_35 hF (fun i5 u4 H locs hF hH => ?_)
      exact wx_iret hC hH hr hlk dX9_strike_38 hF
    have hF := wx_f h hF
    refine lv_iconst hx hb dX9_strike_26 k_iconst_m1 ?_
    refine lv_goto hx hb dX9_strike_27 (tgt := 38) rfl ?_
    exact wx_iret hC hH hr hlk dX9_strike_38 hF
  exact key _ _ hH
def F_X9_known (o1 : Nat) (i2 : Int32) (u0 : wSt) : Option (Int32 × wSt) :=
  wB (w_sI u0 o1 2 (0 : Int32)) (fun (u3 : wSt) => wP (F_X9_isIn i2 (-1 : Int32) (u3.1 o1 70) u3) (fun (i4 : Int32) => if i4 = 0 then (some ((0 : Int32), u3)) else (wB (w_sI u3 o1 71 i2) (fun (u5 : wSt) => some ((1 : Int32), u5)))))
set_option maxRecDepth 100000 in
set_option maxHeartbeats 4000000 in
theorem c_X9_known {l : Launch} {D : va_G} {κ : Nat → ClassId} {ρ : Nat → Nat} (o1 : Nat) (i2 : Int32) (h_o1 : (w_sh o1).1 = 9) : wMI l yX9_known cX9_known 2 .boolean (wRm 1 22) [.ref (ρ o1), .int i2] D κ ρ 1 (fun u => F_X9_known o1 i2 u) := by
  refine wMI_of (F := fun u => F_X9_known o1 i2 u) rfl (Nat.le_of_ble_eq_true rfl) (fun u0 z p e s m args below meth c ls A hF hC hr hlk hH hl => ?_)
  have hl : lv_has ls 2 [(0, .ref (ρ o1)), (1, .int i2)] := hl
  have hx := hC.1.1
  have hb := hC.1.2.1
  have hF : F_X9_known o1 i2 u0 = some z := hF
  unfold F_X9_known at hF
  change W p l e (wRm 1 22) s m args below meth c s.heap [] 0 0 (wQI below args s A D κ ρ 1 z) (F0 m 0 ls [])
  have key : ∀ (H : Heap) (locs : List Loc), wHp D κ ρ 1 A s.heap H locs u0 → W p l e (wRm 1 22) s m args below meth c H locs 0 0 (wQI below args s A D κ ρ 1 z) (F0 m 0 ls []) := by
    intro H locs hH
    refine lv_aload_n hx hb dX9_known_0 rfl (lv_at hl 0 rfl) ?_
    refine lv_iconst hx hb dX9_known_1 k_iconst_0 ?_
    refine wx_putI hC hH h_o1 rfl f_X9_142 g_9_2 dX9_known_2 hF (fun u3 H locs hF hH => ?_)
    refine lv_iload_n hx hb dX9_known_5 rfl (lv_at hl 1 rfl) ?_
    refine lv_iconst hx hb dX9_known_6 k_iconst_m1 ?_
    refine lv_aload_n hx hb dX9_known_7 rfl (lv_at hl 0 rfl) ?_
    refine wx_getI hC hH h_o1 rfl f_X9_344 dX9_known_8 ?_
    refine wx_psi hC hH hl (c_X9_isIn i2 (-1 : Int32) (u3.1 o1 70)) y_X9_isIn v_X9_isIn m_X9_187 rfl ⟨Nat.le_of_ble_eq_true rfl, Nat.le_of_ble_eq_true rfl⟩ ⟨Nat.le_refl _, Nat.le_refl _⟩ rfl (Nat.le_of_ble_eq_true rfl) dX9_known_11 hF (fun i4 H locs hF hH => ?_)
    refine lv_if_ne hx hb dX9_known_14 (tgt := 19) rfl (fun h => ?_) (fun h => ?_)
    · have hF := wx_f h hF
      refine lv_aload_n hx hb dX9_known_19 rfl (lv_at hl 0 rfl) ?_
      refine lv_iload_n hx hb dX9_known_20 rfl (lv_at hl 1 rfl) ?_
      refine wx_putI hC hH h_o1 rfl f_X9_118 g_9_71 dX9_known_21 hF (fun u5 H locs hF hH => ?_)
      refine lv_iconst hx hb dX9_known_24 k_iconst_1 ?_
      exact wx_zret hC hH hr hlk dX9_known_25 (Or.inr rfl) hF
    have hF := wx_t h hF
    refine lv_iconst hx hb dX9_known_17 k_iconst_0 ?_
    exact wx_zret hC hH hr hlk dX9_known_18 (Or.inl rfl) hF
  exact key _ _ hH
def F_X9_knownBy (o1 : Nat) (u0 : wSt) : Option Int32 :=
  if 0 ≤ (u0.1 o1 71) then (some ((u0.1 o1 71))) else (some ((u0.1 o1 70)))
set_option maxRecDepth 100000 in
set_option maxHeartbeats 4000000 in
theorem c_X9_knownBy {l : Launch} {D : va_G} {κ : Nat → ClassId} {ρ : Nat → Nat} (o1 : Nat) (h_o1 : (w_sh o1).1 = 9) : wMI l yX9_knownBy cX9_knownBy 1 .int (wRm 0 0) [.ref (ρ o1)] D κ ρ 1 (fun u => wPu (F_X9_knownBy o1 u) u) := by
  refine wMP_of (F := fun u => F_X9_knownBy o1 u) rfl (Nat.le_of_ble_eq_true rfl) (fun u0 z p e s m args below meth c ls A hF hC hr hlk hH hl => ?_)
  have hl : lv_has ls 1 [(0, .ref (ρ o1))] := hl
  have hx := hC.1.1
  have hb := hC.1.2.1
  have hF : F_X9_knownBy o1 u0 = some z := hF
  unfold F_X9_knownBy at hF
  change W p l e (wRm 0 0) s m args below meth c s.heap [] 0 0 (wQI below args s A D κ ρ 1 (z, u0)) (F0 m 0 ls [])
  have key : ∀ (H : Heap) (locs : List Loc), wHp D κ ρ 1 A s.heap H locs u0 → W p l e (wRm 0 0) s m args below meth c H locs 0 0 (wQI below args s A D κ ρ 1 (z, u0)) (F0 m 0 ls []) := by
    intro H locs hH
    refine lv_aload_n hx hb dX9_knownBy_0 rfl (lv_at hl 0 rfl) ?_
    refine wx_getI hC hH h_o1 rfl f_X9_118 dX9_knownBy_1 ?_
    refine lv_if_ge hx hb dX9_knownBy_4 (tgt := 14) rfl (fun h => ?_) (fun h => ?_)
    · have hF := wx_t h hF
      refine lv_aload_n hx hb dX9_knownBy_14 rfl (lv_at hl 0 rfl) ?_
      refine wx_getI hC hH h_o1 rfl f_X9_118 dX9_knownBy_15 ?_
      exact wx_iret hC hH hr hlk dX9_knownBy_18 (wx_pr hF)
    have hF := wx_f h hF
    refine lv_aload_n hx hb dX9_knownBy_7 rfl (lv_at hl 0 rfl) ?_
    refine wx_getI hC hH h_o1 rfl f_X9_344 dX9_knownBy_8 ?_
    refine lv_goto hx hb dX9_knownBy_11 (tgt := 18) rfl ?_
    exact wx_iret hC hH hr hlk dX9_knownBy_18 (wx_pr hF)
  exact key _ _ hH
def F_X9_isSo_j94 (i4 : Int32) : Option ((Int32) ⊕ Int32) :=
  wB (i4 + (1 : Int32)) (fun (i9 : Int32) => some (.inl i9))
def F_X9_isSo_j89 (i19 : Int32) (i23 : Int32) : Option ((Unit) ⊕ ((Int32) ⊕ Int32)) :=
  if i19 = i23 then (some (.inl ())) else (some (.inr (.inr ((0 : Int32)))))
def F_X9_isSo_j70 (u0 : wSt) (o1 : Nat) (i4 : Int32) (i19 : Int32) : Option ((Unit) ⊕ ((Int32) ⊕ Int32)) :=
  wR (u0.2.2 o1 72) 14 (fun o20 => wN (((4 : Int32) * i4) + (3 : Int32)) o20 (fun j21 => wJ (X := Int32) (if (u0.1 o20 j21) = (1 : Int32) then (some (.inl (1 : Int32))) else (some (.inl (0 : Int32)))) (fun x => F_X9_isSo_j89 i19 x)))
def F_X9_isSo_b2 (o1 : Nat) (u0 : wSt) (i2 : Int32) (i4 : Int32) : Option ((Int32) ⊕ Int32) :=
  wP (F_X9_knownBy o1 u0) (fun (i5 : Int32) => if i5 ≤ i4 then (some (.inr ((1 : Int32)))) else (wR (u0.2.2 o1 73) 15 (fun o6 => wN i4 o6 (fun j7 => wJ (X := Unit) (if (u0.1 o6 j7) = 0 then (some (.inl ())) else (wR (u0.2.2 o1 72) 14 (fun o10 => wN ((4 : Int32) * i4) o10 (fun j11 => if (u0.1 o10 j11) = i2 then (wR (u0.2.2 o1 50) 14 (fun o12 => wR (u0.2.2 o1 72) 14 (fun o13 => wN (((4 : Int32) * i4) + (1 : Int32)) o13 (fun j14 => wN ((6 : Int32) + (u0.1 o13 j14)) o12 (fun j15 => wR (u0.2.2 o1 72) 14 (fun o16 => wN (((4 : Int32) * i4) + (2 : Int32)) o16 (fun j17 => wJ (X := Int32) (if (u0.1 o12 j15) < (u0.1 o16 j17) then (some (.inl (0 : Int32))) else (some (.inl (1 : Int32)))) (fun x => F_X9_isSo_j70 u0 o1 i4 x)))))))) else (some (.inl ())))))) (fun x => F_X9_isSo_j94 i4)))))
def F_X9_isSo (o1 : Nat) (i2 : Int32) (u0 : wSt) : Option Int32 :=
  wL (S := Int32) (fun x => F_X9_isSo_b2 o1 u0 i2 x) wFu (0 : Int32)
set_option maxRecDepth 100000 in
set_option maxHeartbeats 4000000 in
theorem c_X9_isSo {l : Launch} {D : va_G} {κ : Nat → ClassId} {ρ : Nat → Nat} (o1 : Nat) (i2 : Int32) (h_o1 : (w_sh o1).1 = 9) : wMI l yX9_isSo cX9_isSo 3 .boolean (wRm 1 20) [.ref (ρ o1), .int i2] D κ ρ 1 (fun u => wPu (F_X9_isSo o1 i2 u) u) := by
  refine wMP_of (F := fun u => F_X9_isSo o1 i2 u) rfl (Nat.le_of_ble_eq_true rfl) (fun u0 z p e s m args below meth c ls A hF hC hr hlk hH hl => ?_)
  have hl : lv_has ls 3 [(0, .ref (ρ o1)), (1, .int i2)] := hl
  have hx := hC.1.1
  have hb := hC.1.2.1
  have hF : F_X9_isSo o1 i2 u0 = some z := hF
  unfold F_X9_isSo at hF
  change W p l e (wRm 1 20) s m args below meth c s.heap [] 0 0 (wQI below args s A D κ ρ 1 (z, u0)) (F0 m 0 ls [])
  have key : ∀ (H : Heap) (locs : List Loc), wHp D κ ρ 1 A s.heap H locs u0 → W p l e (wRm 1 20) s m args below meth c H locs 0 0 (wQI below args s A D κ ρ 1 (z, u0)) (F0 m 0 ls []) := by
    intro H locs hH
    refine lv_iconst hx hb dX9_isSo_0 k_iconst_0 ?_
    refine wx_istore_n hx hb dX9_isSo_1 rfl hl (by decide) (fun ls hl => ?_)
    have hl : lv_has ls 3 [(2, .int (0 : Int32)), (0, .ref (ρ o1)), (1, .int i2)] := hl
    have hL2 : ∀ (k3_ : Nat) (i4 : Int32) (H : Heap) (locs : List Loc) (ls : Array Slot), wL (S := Int32) (fun x => F_X9_isSo_b2 o1 u0 i2 x) k3_ i4 = some z → wHp D κ ρ 1 A s.heap H locs u0 → lv_has ls 3 [(0, .ref (ρ o1)), (1, .int i2), (2, .int i4)] → W p l e (wRm 1 20) s m args below meth c H locs 0 0 (wQI below args s A D κ ρ 1 (z, u0)) (F0 m 2 ls []) := by
      intro k3_
      induction k3_ with
      | zero => intro i4 H locs ls hF; exact wL_zero hF
      | succ k3_ ih3 =>
        intro i4 H locs ls hF hH hl
        obtain ⟨q3_, hF, hq3⟩ := wL_some hF
        have hF : F_X9_isSo_b2 o1 u0 i2 i4 = some q3_ := hF
        unfold F_X9_isSo_b2 at hF
        refine lv_iload_n hx hb dX9_isSo_2 rfl (lv_at hl 2 rfl) ?_
        refine lv_aload_n hx hb dX9_isSo_3 rfl (lv_at hl 0 rfl) ?_
        refine wx_pvi hC hH hl (c_X9_knownBy o1 h_o1) y_X9_knownBy v_X9_knownBy h_o1 rfl m_X9_528 rfl ⟨Nat.le_of_ble_eq_true rfl, Nat.le_of_ble_eq_true rfl⟩ ⟨Nat.le_refl _, Nat.le_refl _⟩ rfl (Nat.le_of_ble_eq_true rfl) dX9_isSo_4 hF (fun i5 H locs hF hH => ?_)
        refine lv_icmp_ge hx hb dX9_isSo_7 (tgt := 100) rfl (fun h => ?_) (fun h => ?_)
        · have hF := wx_t h hF
          refine lv_iconst hx hb dX9_isSo_100 k_iconst_1 ?_
          have hF := wJ_r hq3 hF
          exact wx_zret hC hH hr hlk dX9_isSo_101 (Or.inr rfl) (wx_pr hF)
        have hF := wx_f h hF
        refine lv_aload_n hx hb dX9_isSo_10 rfl (lv_at hl 0 rfl) ?_
        refine wx_getR hC hH h_o1 rfl f_X9_124 dX9_isSo_11 hF (fun o6 h_o6 hF => ?_)
        refine lv_iload_n hx hb dX9_isSo_14 rfl (lv_at hl 2 rfl) ?_
        refine wx_zald hC hH h_o6 ⟨rfl, rfl⟩ dX9_isSo_15 hF (fun j7 hF => ?_)
        obtain ⟨q8_, hF, hq8⟩ := wJ_some hF
        have hJ94 : ∀ (H : Heap) (locs : List Loc) (ls : Array Slot), F_X9_isSo_j94 i4 = some q3_ → wHp D κ ρ 1 A s.heap H locs u0 → lv_has ls 3 [(0, .ref (ρ o1)), (1, .int i2), (2, .int i4)] → W p l e (wRm 1 20) s m args below meth c H locs 0 0 (wQI below args s A D κ ρ 1 (z, u0)) (F0 m 94 ls []) := by
          intro H locs ls hF hH hl
          unfold F_X9_isSo_j94 at hF
          refine wx_iinc hx hb dX9_isSo_94 k_iconst_1 hl (k := 2) rfl (by decide) hF (fun i9 ls hF hl => ?_)
          have hl : lv_has ls 3 [(2, .int i9), (0, .ref (ρ o1)), (1, .int i2)] := hl
          refine lv_goto hx hb dX9_isSo_97 (tgt := 2) rfl ?_
          have hF := wJ_l hq3 hF
          exact ih3 i9 H locs ls hF hH (lv_sub hl [1, 2, 0] rfl)
        refine lv_if_eq hx hb dX9_isSo_16 (tgt := 94) rfl (fun h => ?_) (fun h => ?_)
        · have hF := wx_t h hF
          have hF := wJ_l hq8 hF
          exact hJ94 H locs ls hF hH (lv_sub hl [0, 1, 2] rfl)
        have hF := wx_f h hF
        refine lv_aload_n hx hb dX9_isSo_19 rfl (lv_at hl 0 rfl) ?_
        refine wx_getR hC hH h_o1 rfl f_X9_121 dX9_isSo_20 hF (fun o10 h_o10 hF => ?_)
        refine lv_iconst hx hb dX9_isSo_23 k_iconst_4 ?_
        refine lv_iload_n hx hb dX9_isSo_24 rfl (lv_at hl 2 rfl) ?_
        refine lv_imul hx hb dX9_isSo_25 ?_
        refine wx_iald hC hH h_o10 ⟨rfl, rfl⟩ dX9_isSo_26 hF (fun j11 hF => ?_)
        refine lv_iload_n hx hb dX9_isSo_27 rfl (lv_at hl 1 rfl) ?_
        refine lv_icmp_eq hx hb dX9_isSo_28 (tgt := 34) rfl (fun h => ?_) (fun h => ?_)
        · have hF := wx_t h hF
          refine lv_aload_n hx hb dX9_isSo_34 rfl (lv_at hl 0 rfl) ?_
          refine wx_getR hC hH h_o1 rfl f_X9_91 dX9_isSo_35 hF (fun o12 h_o12 hF => ?_)
          refine lv_bipush hx hb dX9_isSo_38 k_bipush_6 ?_
          refine lv_aload_n hx hb dX9_isSo_40 rfl (lv_at hl 0 rfl) ?_
          refine wx_getR hC hH h_o1 rfl f_X9_121 dX9_isSo_41 hF (fun o13 h_o13 hF => ?_)
          refine lv_iconst hx hb dX9_isSo_44 k_iconst_4 ?_
          refine lv_iload_n hx hb dX9_isSo_45 rfl (lv_at hl 2 rfl) ?_
          refine lv_imul hx hb dX9_isSo_46 ?_
          refine lv_iconst hx hb dX9_isSo_47 k_iconst_1 ?_
          refine lv_iadd hx hb dX9_isSo_48 ?_
          refine wx_iald hC hH h_o13 ⟨rfl, rfl⟩ dX9_isSo_49 hF (fun j14 hF => ?_)
          refine lv_iadd hx hb dX9_isSo_50 ?_
          refine wx_iald hC hH h_o12 ⟨rfl, rfl⟩ dX9_isSo_51 hF (fun j15 hF => ?_)
          refine lv_aload_n hx hb dX9_isSo_52 rfl (lv_at hl 0 rfl) ?_
          refine wx_getR hC hH h_o1 rfl f_X9_121 dX9_isSo_53 hF (fun o16 h_o16 hF => ?_)
          refine lv_iconst hx hb dX9_isSo_56 k_iconst_4 ?_
          refine lv_iload_n hx hb dX9_isSo_57 rfl (lv_at hl 2 rfl) ?_
          refine lv_imul hx hb dX9_isSo_58 ?_
          refine lv_iconst hx hb dX9_isSo_59 k_iconst_2 ?_
          refine lv_iadd hx hb dX9_isSo_60 ?_
          refine wx_iald hC hH h_o16 ⟨rfl, rfl⟩ dX9_isSo_61 hF (fun j17 hF => ?_)
          obtain ⟨q18_, hF, hq18⟩ := wJ_some hF
          have hJ70 : ∀ (i19 : Int32) (H : Heap) (locs : List Loc) (ls : Array Slot), F_X9_isSo_j70 u0 o1 i4 i19 = some q8_ → wHp D κ ρ 1 A s.heap H locs u0 → lv_has ls 3 [(0, .ref (ρ o1)), (1, .int i2), (2, .int i4)] → W p l e (wRm 1 20) s m args below meth c H locs 0 0 (wQI below args s A D κ ρ 1 (z, u0)) (F0 m 70 ls [.int i19]) := by
            intro i19 H locs ls hF hH hl
            unfold F_X9_isSo_j70 at hF
            refine lv_aload_n hx hb dX9_isSo_70 rfl (lv_at hl 0 rfl) ?_
            refine wx_getR hC hH h_o1 rfl f_X9_121 dX9_isSo_71 hF (fun o20 h_o20 hF => ?_)
            refine lv_iconst hx hb dX9_isSo_74 k_iconst_4 ?_
            refine lv_iload_n hx hb dX9_isSo_75 rfl (lv_at hl 2 rfl) ?_
            refine lv_imul hx hb dX9_isSo_76 ?_
            refine lv_iconst hx hb dX9_isSo_77 k_iconst_3 ?_
            refine lv_iadd hx hb dX9_isSo_78 ?_
            refine wx_iald hC hH h_o20 ⟨rfl, rfl⟩ dX9_isSo_79 hF (fun j21 hF => ?_)
            refine lv_iconst hx hb dX9_isSo_80 k_iconst_1 ?_
            obtain ⟨q22_, hF, hq22⟩ := wJ_some hF
            have hJ89 : ∀ (i23 : Int32) (H : Heap) (locs : List Loc) (ls : Array Slot), F_X9_isSo_j89 i19 i23 = some q8_ → wHp D κ ρ 1 A s.heap H locs u0 → lv_has ls 3 [(0, .ref (ρ o1)), (1, .int i2), (2, .int i4)] → W p l e (wRm 1 20) s m args below meth c H locs 0 0 (wQI below args s A D κ ρ 1 (z, u0)) (F0 m 89 ls [.int i23, .int i19]) := by
              intro i23 H locs ls hF hH hl
              unfold F_X9_isSo_j89 at hF
              refine lv_icmp_eq hx hb dX9_isSo_89 (tgt := 94) rfl (fun h => ?_) (fun h => ?_)
              · have hF := wx_t h hF
                have hF := wJ_l hq8 hF
                exact hJ94 H locs ls hF hH (lv_sub hl [0, 1, 2] rfl)
              have hF := wx_f h hF
              refine lv_iconst hx hb dX9_isSo_92 k_iconst_0 ?_
              have hF := wJ_r hq8 hF
              have hF := wJ_r hq3 hF
              exact wx_zret hC hH hr hlk dX9_isSo_93 (Or.inl rfl) (wx_pr hF)
            refine lv_icmp_ne hx hb dX9_isSo_81 (tgt := 88) rfl (fun h => ?_) (fun h => ?_)
            · have hF := wx_f h hF
              refine lv_iconst hx hb dX9_isSo_88 k_iconst_0 ?_
              have hF := wJ_l hq22 hF
              exact hJ89 (0 : Int32) H locs ls hF hH (lv_sub hl [0, 1, 2] rfl)
            have hF := wx_t h hF
            refine lv_iconst hx hb dX9_isSo_84 k_iconst_1 ?_
            refine lv_goto hx hb dX9_isSo_85 (tgt := 89) rfl ?_
            have hF := wJ_l hq22 hF
            exact hJ89 (1 : Int32) H locs ls hF hH (lv_sub hl [0, 1, 2] rfl)
          refine lv_icmp_lt hx hb dX9_isSo_62 (tgt := 69) rfl (fun h => ?_) (fun h => ?_)
          · have hF := wx_t h hF
            refine lv_iconst hx hb dX9_isSo_69 k_iconst_0 ?_
            have hF := wJ_l hq18 hF
            exact hJ70 (0 : Int32) H locs ls hF hH (lv_sub hl [0, 1, 2] rfl)
          have hF := wx_f h hF
          refine lv_iconst hx hb dX9_isSo_65 k_iconst_1 ?_
          refine lv_goto hx hb dX9_isSo_66 (tgt := 70) rfl ?_
          have hF := wJ_l hq18 hF
          exact hJ70 (1 : Int32) H locs ls hF hH (lv_sub hl [0, 1, 2] rfl)
        have hF := wx_f h hF
        refine lv_goto hx hb dX9_isSo_31 (tgt := 94) rfl ?_
        have hF := wJ_l hq8 hF
        exact hJ94 H locs ls hF hH (lv_sub hl [0, 1, 2] rfl)
    exact hL2 wFu (0 : Int32) H locs ls hF hH (lv_sub hl [1, 2, 0] rfl)
  exact key _ _ hH
def F_X9_fits_b21 (o1 : Nat) (i9 : Int32) (u10 : wSt) : Option ((Int32 × wSt) ⊕ (Int32 × wSt)) :=
  if (99 : Int32) < i9 then (some (.inr ((1 : Int32), u10))) else (wC (F_X9_stepGoes o1 (1 : Int32) u10) (fun _ (u11 : wSt) => wP (F_X9_isSo o1 i9 u11) (fun (i12 : Int32) => if i12 = 0 then (some (.inr ((0 : Int32), u11))) else (wB (i9 + (1 : Int32)) (fun (i13 : Int32) => some (.inl (i13, u11)))))))
def F_X9_fits (o1 : Nat) (i2 : Int32) (i3 : Int32) (u0 : wSt) : Option (Int32 × wSt) :=
  wC (F_X9_atFirst o1 (1 : Int32) u0) (fun _ (u4 : wSt) => wC (F_X9_plainTried o1 u4) (fun _ (u5 : wSt) => wB (w_sI u5 o1 67 i2) (fun (u6 : wSt) => wB (w_sI u6 o1 68 i3) (fun (u7 : wSt) => wL (S := Int32 × wSt) (fun x => F_X9_fits_b21 o1 x.1 x.2) wFu ((1 : Int32), u7)))))
set_option maxRecDepth 100000 in
set_option maxHeartbeats 4000000 in
theorem c_X9_fits {l : Launch} {D : va_G} {κ : Nat → ClassId} {ρ : Nat → Nat} (o1 : Nat) (i2 : Int32) (i3 : Int32) (h_o1 : (w_sh o1).1 = 9) : wMI l yX9_fits cX9_fits 4 .boolean (wRm 7 169) [.ref (ρ o1), .int i2, .int i3] D κ ρ 1 (fun u => F_X9_fits o1 i2 i3 u) := by
  refine wMI_of (F := fun u => F_X9_fits o1 i2 i3 u) rfl (Nat.le_of_ble_eq_true rfl) (fun u0 z p e s m args below meth c ls A hF hC hr hlk hH hl => ?_)
  have hl : lv_has ls 4 [(0, .ref (ρ o1)), (1, .int i2), (2, .int i3)] := hl
  have hx := hC.1.1
  have hb := hC.1.2.1
  have hF : F_X9_fits o1 i2 i3 u0 = some z := hF
  unfold F_X9_fits at hF
  change W p l e (wRm 7 169) s m args below meth c s.heap [] 0 0 (wQI below args s A D κ ρ 1 z) (F0 m 0 ls [])
  have key : ∀ (H : Heap) (locs : List Loc), wHp D κ ρ 1 A s.heap H locs u0 → W p l e (wRm 7 169) s m args below meth c H locs 0 0 (wQI below args s A D κ ρ 1 z) (F0 m 0 ls []) := by
    intro H locs hH
    refine lv_aload_n hx hb dX9_fits_0 rfl (lv_at hl 0 rfl) ?_
    refine lv_iconst hx hb dX9_fits_1 k_iconst_1 ?_
    refine wx_evv hC hH hl (c_X9_atFirst o1 (1 : Int32) h_o1) y_X9_atFirst v_X9_atFirst h_o1 rfl m_X9_334 rfl ⟨Nat.le_of_ble_eq_true rfl, Nat.le_of_ble_eq_true rfl⟩ ⟨Nat.le_refl _, Nat.le_refl _⟩ rfl (Nat.le_of_ble_eq_true rfl) dX9_fits_2 hF (fun _ u4 H locs hF hH => ?_)
    refine lv_aload_n hx hb dX9_fits_5 rfl (lv_at hl 0 rfl) ?_
    refine wx_evv hC hH hl (c_X9_plainTried o1 h_o1) y_X9_plainTried v_X9_plainTried h_o1 rfl m_X9_341 rfl ⟨Nat.le_of_ble_eq_true rfl, Nat.le_of_ble_eq_true rfl⟩ ⟨Nat.le_refl _, Nat.le_refl _⟩ rfl (Nat.le_of_ble_eq_true rfl) dX9_fits_6 hF (fun _ u5 H locs hF hH => ?_)
    refine lv_aload_n hx hb dX9_fits_9 rfl (lv_at hl 0 rfl) ?_
    refine lv_iload_n hx hb dX9_fits_10 rfl (lv_at hl 1 rfl) ?_
    refine wx_putI hC hH h_o1 rfl f_X9_374 g_9_67 dX9_fits_11 hF (fun u6 H locs hF hH => ?_)
    refine lv_aload_n hx hb dX9_fits_14 rfl (lv_at hl 0 rfl) ?_
    refine lv_iload_n hx hb dX9_fits_15 rfl (lv_at hl 2 rfl) ?_
    refine wx_putI hC hH h_o1 rfl f_X9_377 g_9_68 dX9_fits_16 hF (fun u7 H locs hF hH => ?_)
    refine lv_iconst hx hb dX9_fits_19 k_iconst_1 ?_
    refine wx_istore_n hx hb dX9_fits_20 rfl hl (by decide) (fun ls hl => ?_)
    have hl : lv_has ls 4 [(3, .int (1 : Int32)), (0, .ref (ρ o1)), (1, .int i2), (2, .int i3)] := hl
    have hL21 : ∀ (k8_ : Nat) (i9 : Int32) (u10 : wSt) (H : Heap) (locs : List Loc) (ls : Array Slot), wL (S := Int32 × wSt) (fun x => F_X9_fits_b21 o1 x.1 x.2) k8_ (i9, u10) = some z → wHp D κ ρ 1 A s.heap H locs u10 → lv_has ls 4 [(0, .ref (ρ o1)), (3, .int i9)] → W p l e (wRm 7 169) s m args below meth c H locs 0 0 (wQI below args s A D κ ρ 1 z) (F0 m 21 ls []) := by
      intro k8_
      induction k8_ with
      | zero => intro i9 u10 H locs ls hF; exact wL_zero hF
      | succ k8_ ih8 =>
        intro i9 u10 H locs ls hF hH hl
        obtain ⟨q8_, hF, hq8⟩ := wL_some hF
        have hF : F_X9_fits_b21 o1 i9 u10 = some q8_ := hF
        unfold F_X9_fits_b21 at hF
        refine lv_iload_n hx hb dX9_fits_21 rfl (lv_at hl 1 rfl) ?_
        refine lv_bipush hx hb dX9_fits_22 k_bipush_99 ?_
        refine lv_icmp_gt hx hb dX9_fits_24 (tgt := 48) rfl (fun h => ?_) (fun h => ?_)
        · have hF := wx_t h hF
          refine lv_iconst hx hb dX9_fits_48 k_iconst_1 ?_
          have hF := wJ_r hq8 hF
          exact wx_zret hC hH hr hlk dX9_fits_49 (Or.inr rfl) hF
        have hF := wx_f h hF
        refine lv_aload_n hx hb dX9_fits_27 rfl (lv_at hl 0 rfl) ?_
        refine lv_iconst hx hb dX9_fits_28 k_iconst_1 ?_
        refine wx_evv hC hH hl (c_X9_stepGoes o1 (1 : Int32) h_o1) y_X9_stepGoes v_X9_stepGoes h_o1 rfl m_X9_455 rfl ⟨Nat.le_of_ble_eq_true rfl, Nat.le_of_ble_eq_true rfl⟩ ⟨Nat.le_refl _, Nat.le_refl _⟩ rfl (Nat.le_of_ble_eq_true rfl) dX9_fits_29 hF (fun _ u11 H locs hF hH => ?_)
        refine lv_aload_n hx hb dX9_fits_32 rfl (lv_at hl 0 rfl) ?_
        refine lv_iload_n hx hb dX9_fits_33 rfl (lv_at hl 1 rfl) ?_
        refine wx_pvi hC hH hl (c_X9_isSo o1 i9 h_o1) y_X9_isSo v_X9_isSo h_o1 rfl m_X9_531 rfl ⟨Nat.le_of_ble_eq_true rfl, Nat.le_of_ble_eq_true rfl⟩ ⟨Nat.le_refl _, Nat.le_refl _⟩ rfl (Nat.le_of_ble_eq_true rfl) dX9_fits_34 hF (fun i12 H locs hF hH => ?_)
        refine lv_if_ne hx hb dX9_fits_37 (tgt := 42) rfl (fun h => ?_) (fun h => ?_)
        · have hF := wx_f h hF
          refine wx_iinc hx hb dX9_fits_42 k_iconst_1 hl (k := 1) rfl (by decide) hF (fun i13 ls hF hl => ?_)
          have hl : lv_has ls 4 [(3, .int i13), (0, .ref (ρ o1))] := hl
          refine lv_goto hx hb dX9_fits_45 (tgt := 21) rfl ?_
          have hF := wJ_l hq8 hF
          exact ih8 i13 u11 H locs ls hF hH (lv_sub hl [1, 0] rfl)
        have hF := wx_t h hF
        refine lv_iconst hx hb dX9_fits_40 k_iconst_0 ?_
        have hF := wJ_r hq8 hF
        exact wx_zret hC hH hr hlk dX9_fits_41 (Or.inl rfl) hF
    exact hL21 wFu (1 : Int32) u7 H locs ls hF hH (lv_sub hl [1, 0] rfl)
  exact key _ _ hH
def F_X9_sweets_j126 (o1 : Nat) (i12 : Int32) (u13 : wSt) : Option (Int32 × wSt) :=
  wC (F_X9_plainTried o1 u13) (fun _ (u14 : wSt) => some (i12, u14))
def F_X9_sweets_j118 (i16 : Int32) (i17 : Int32) (i22 : Int32) (u23 : wSt) : Option ((Int32 × Int32 × wSt) ⊕ ((Int32 × wSt) ⊕ (Int32 × wSt))) :=
  wB (i16 ||| i22) (fun (i24 : Int32) => wB (i17 + (1 : Int32)) (fun (i25 : Int32) => some (.inl (i24, i25, u23))))
def F_X9_sweets_b95 (o1 : Nat) (i2 : Int32) (i16 : Int32) (i17 : Int32) (u18 : wSt) : Option ((Int32 × Int32 × wSt) ⊕ ((Int32 × wSt) ⊕ (Int32 × wSt))) :=
  if (10 : Int32) ≤ i17 then (some (.inr (.inl (i16, u18)))) else (wC (F_X9_fits o1 i2 i17 u18) (fun (i20 : Int32) (u19 : wSt) => wJ (X := Int32 × wSt) (if i20 = 0 then (some (.inl ((0 : Int32), u19))) else (some (.inl (((1 : Int32) <<< (i17 &&& 31)), u19)))) (fun x => F_X9_sweets_j118 i16 i17 x.1 x.2)))
def F_X9_sweets_j91 (o1 : Nat) (i2 : Int32) (u10 : wSt) : Option (Int32 × wSt) :=
  wJ (X := Int32 × wSt) (wL (S := Int32 × Int32 × wSt) (fun x => F_X9_sweets_b95 o1 i2 x.1 x.2.1 x.2.2) wFu ((0 : Int32), (0 : Int32), u10)) (fun x => F_X9_sweets_j126 o1 x.1 x.2)
def F_X9_sweets_j85 (i27 : Int32) (u32 : wSt) : Option ((Int32 × wSt) ⊕ ((wSt) ⊕ (Int32 × wSt))) :=
  wB (i27 + (-1 : Int32)) (fun (i33 : Int32) => some (.inl (i33, u32)))
def F_X9_sweets_b45 (o1 : Nat) (i27 : Int32) (u28 : wSt) : Option ((Int32 × wSt) ⊕ ((wSt) ⊕ (Int32 × wSt))) :=
  if i27 < 0 then (some (.inr (.inl u28))) else (wR (u28.2.2 o1 73) 15 (fun o29 => wN i27 o29 (fun j30 => wJ (X := wSt) (if (u28.1 o29 j30) = 0 then (some (.inl u28)) else (wR (u28.2.2 o1 72) 14 (fun o34 => wN ((4 : Int32) * i27) o34 (fun j35 => if 0 ≤ (u28.1 o34 j35) then (some (.inl u28)) else (wR (u28.2.2 o1 73) 15 (fun o36 => wR (u28.2.2 o1 72) 14 (fun o37 => wN (((4 : Int32) * i27) + (1 : Int32)) o37 (fun j38 => wSZ u28 o36 (u28.1 o37 j38) (0 : Int32) (fun (u39 : wSt) => some (.inl u39)))))))))) (fun x => F_X9_sweets_j85 i27 x))))
def F_X9_sweets_j38 (o1 : Nat) (i2 : Int32) (u6 : wSt) : Option (Int32 × wSt) :=
  wP (F_X9_knownBy o1 u6) (fun (i7 : Int32) => wB (i7 - (1 : Int32)) (fun (i8 : Int32) => wJ (X := wSt) (wL (S := Int32 × wSt) (fun x => F_X9_sweets_b45 o1 x.1 x.2) wFu (i8, u6)) (fun x => F_X9_sweets_j91 o1 i2 x)))
def F_X9_sweets_b17 (o1 : Nat) (i41 : Int32) (u42 : wSt) : Option ((Int32 × wSt) ⊕ ((wSt) ⊕ (Int32 × wSt))) :=
  wP (F_X9_knownBy o1 u42) (fun (i43 : Int32) => if i43 ≤ i41 then (some (.inr (.inl u42))) else (wR (u42.2.2 o1 73) 15 (fun o44 => wSZ u42 o44 i41 (1 : Int32) (fun (u45 : wSt) => wB (i41 + (1 : Int32)) (fun (i46 : Int32) => some (.inl (i46, u45)))))))
def F_X9_sweets (o1 : Nat) (i2 : Int32) (u0 : wSt) : Option (Int32 × wSt) :=
  wB (w_sI u0 o1 2 (0 : Int32)) (fun (u3 : wSt) => wP (F_X9_isFruit o1 i2 u3) (fun (i4 : Int32) => if i4 = 0 then (some ((-1 : Int32), u3)) else (wJ (X := wSt) (wL (S := Int32 × wSt) (fun x => F_X9_sweets_b17 o1 x.1 x.2) wFu ((0 : Int32), u3)) (fun x => F_X9_sweets_j38 o1 i2 x))))
set_option maxRecDepth 100000 in
set_option maxHeartbeats 4000000 in
theorem c_X9_sweets {l : Launch} {D : va_G} {κ : Nat → ClassId} {ρ : Nat → Nat} (o1 : Nat) (i2 : Int32) (h_o1 : (w_sh o1).1 = 9) : wMI l yX9_sweets cX9_sweets 4 .int (wRm 8 192) [.ref (ρ o1), .int i2] D κ ρ 1 (fun u => F_X9_sweets o1 i2 u) := by
  refine wMI_of (F := fun u => F_X9_sweets o1 i2 u) rfl (Nat.le_of_ble_eq_true rfl) (fun u0 z p e s m args below meth c ls A hF hC hr hlk hH hl => ?_)
  have hl : lv_has ls 4 [(0, .ref (ρ o1)), (1, .int i2)] := hl
  have hx := hC.1.1
  have hb := hC.1.2.1
  have hF : F_X9_sweets o1 i2 u0 = some z := hF
  unfold F_X9_sweets at hF
  change W p l e (wRm 8 192) s m args below meth c s.heap [] 0 0 (wQI below args s A D κ ρ 1 z) (F0 m 0 ls [])
  have key : ∀ (H : Heap) (locs : List Loc), wHp D κ ρ 1 A s.heap H locs u0 → W p l e (wRm 8 192) s m args below meth c H locs 0 0 (wQI below args s A D κ ρ 1 z) (F0 m 0 ls []) := by
    intro H locs hH
    refine lv_aload_n hx hb dX9_sweets_0 rfl (lv_at hl 0 rfl) ?_
    refine lv_iconst hx hb dX9_sweets_1 k_iconst_0 ?_
    refine wx_putI hC hH h_o1 rfl f_X9_142 g_9_2 dX9_sweets_2 hF (fun u3 H locs hF hH => ?_)
    refine lv_aload_n hx hb dX9_sweets_5 rfl (lv_at hl 0 rfl) ?_
    refine lv_iload_n hx hb dX9_sweets_6 rfl (lv_at hl 1 rfl) ?_
    refine wx_pvi hC hH hl (c_X9_isFruit o1 i2 h_o1) y_X9_isFruit v_X9_isFruit h_o1 rfl m_X9_464 rfl ⟨Nat.le_of_ble_eq_true rfl, Nat.le_of_ble_eq_true rfl⟩ ⟨Nat.le_refl _, Nat.le_refl _⟩ rfl (Nat.le_of_ble_eq_true rfl) dX9_sweets_7 hF (fun i4 H locs hF hH => ?_)
    refine lv_if_ne hx hb dX9_sweets_10 (tgt := 15) rfl (fun h => ?_) (fun h => ?_)
    · have hF := wx_f h hF
      refine lv_iconst hx hb dX9_sweets_15 k_iconst_0 ?_
      refine wx_istore_n hx hb dX9_sweets_16 rfl hl (by decide) (fun ls hl => ?_)
      have hl : lv_has ls 4 [(2, .int (0 : Int32)), (0, .ref (ρ o1)), (1, .int i2)] := hl
      obtain ⟨q5_, hF, hq5⟩ := wJ_some hF
      have hJ38 : ∀ (u6 : wSt) (H : Heap) (locs : List Loc) (ls : Array Slot), F_X9_sweets_j38 o1 i2 u6 = some z → wHp D κ ρ 1 A s.heap H locs u6 → lv_has ls 4 [(0, .ref (ρ o1)), (1, .int i2)] → W p l e (wRm 8 192) s m args below meth c H locs 0 0 (wQI below args s A D κ ρ 1 z) (F0 m 38 ls []) := by
        intro u6 H locs ls hF hH hl
        unfold F_X9_sweets_j38 at hF
        refine lv_aload_n hx hb dX9_sweets_38 rfl (lv_at hl 0 rfl) ?_
        refine wx_pvi hC hH hl (c_X9_knownBy o1 h_o1) y_X9_knownBy v_X9_knownBy h_o1 rfl m_X9_528 rfl ⟨Nat.le_of_ble_eq_true rfl, Nat.le_of_ble_eq_true rfl⟩ ⟨Nat.le_refl _, Nat.le_refl _⟩ rfl (Nat.le_of_ble_eq_true rfl) dX9_sweets_39 hF (fun i7 H locs hF hH => ?_)
        refine lv_iconst hx hb dX9_sweets_42 k_iconst_1 ?_
        refine lv_isub hx hb dX9_sweets_43 ?_
        refine wx_leti hF (fun i8 hF => ?_)
        refine wx_istore_n hx hb dX9_sweets_44 rfl hl (by decide) (fun ls hl => ?_)
        have hl : lv_has ls 4 [(2, .int i8), (0, .ref (ρ o1)), (1, .int i2)] := hl
        obtain ⟨q9_, hF, hq9⟩ := wJ_some hF
        have hJ91 : ∀ (u10 : wSt) (H : Heap) (locs : List Loc) (ls : Array Slot), F_X9_sweets_j91 o1 i2 u10 = some z → wHp D κ ρ 1 A s.heap H locs u10 → lv_has ls 4 [(0, .ref (ρ o1)), (1, .int i2)] → W p l e (wRm 8 192) s m args below meth c H locs 0 0 (wQI below args s A D κ ρ 1 z) (F0 m 91 ls []) := by
          intro u10 H locs ls hF hH hl
          unfold F_X9_sweets_j91 at hF
          refine lv_iconst hx hb dX9_sweets_91 k_iconst_0 ?_
          refine wx_istore_n hx hb dX9_sweets_92 rfl hl (by decide) (fun ls hl => ?_)
          have hl : lv_has ls 4 [(2, .int (0 : Int32)), (0, .ref (ρ o1)), (1, .int i2)] := hl
          refine lv_iconst hx hb dX9_sweets_93 k_iconst_0 ?_
          refine wx_istore_n hx hb dX9_sweets_94 rfl hl (by decide) (fun ls hl => ?_)
          have hl : lv_has ls 4 [(3, .int (0 : Int32)), (2, .int (0 : Int32)), (0, .ref (ρ o1)), (1, .int i2)] := hl
          obtain ⟨q11_, hF, hq11⟩ := wJ_some hF
          have hJ126 : ∀ (i12 : Int32) (u13 : wSt) (H : Heap) (locs : List Loc) (ls : Array Slot), F_X9_sweets_j126 o1 i12 u13 = some z → wHp D κ ρ 1 A s.heap H locs u13 → lv_has ls 4 [(0, .ref (ρ o1)), (2, .int i12)] → W p l e (wRm 8 192) s m args below meth c H locs 0 0 (wQI below args s A D κ ρ 1 z) (F0 m 126 ls []) := by
            intro i12 u13 H locs ls hF hH hl
            unfold F_X9_sweets_j126 at hF
            refine lv_aload_n hx hb dX9_sweets_126 rfl (lv_at hl 0 rfl) ?_
            refine wx_evv hC hH hl (c_X9_plainTried o1 h_o1) y_X9_plainTried v_X9_plainTried h_o1 rfl m_X9_341 rfl ⟨Nat.le_of_ble_eq_true rfl, Nat.le_of_ble_eq_true rfl⟩ ⟨Nat.le_refl _, Nat.le_refl _⟩ rfl (Nat.le_of_ble_eq_true rfl) dX9_sweets_127 hF (fun _ u14 H locs hF hH => ?_)
            refine lv_iload_n hx hb dX9_sweets_130 rfl (lv_at hl 1 rfl) ?_
            exact wx_iret hC hH hr hlk dX9_sweets_131 hF
          have hL95 : ∀ (k15_ : Nat) (i16 : Int32) (i17 : Int32) (u18 : wSt) (H : Heap) (locs : List Loc) (ls : Array Slot), wL (S := Int32 × Int32 × wSt) (fun x => F_X9_sweets_b95 o1 i2 x.1 x.2.1 x.2.2) k15_ (i16, i17, u18) = some q11_ → wHp D κ ρ 1 A s.heap H locs u18 → lv_has ls 4 [(0, .ref (ρ o1)), (1, .int i2), (2, .int i16), (3, .int i17)] → W p l e (wRm 8 192) s m args below meth c H locs 0 0 (wQI below args s A D κ ρ 1 z) (F0 m 95 ls []) := by
            intro k15_
            induction k15_ with
            | zero => intro i16 i17 u18 H locs ls hF; exact wL_zero hF
            | succ k15_ ih15 =>
              intro i16 i17 u18 H locs ls hF hH hl
              obtain ⟨q15_, hF, hq15⟩ := wL_some hF
              have hF : F_X9_sweets_b95 o1 i2 i16 i17 u18 = some q15_ := hF
              unfold F_X9_sweets_b95 at hF
              refine lv_iload_n hx hb dX9_sweets_95 rfl (lv_at hl 3 rfl) ?_
              refine lv_bipush hx hb dX9_sweets_96 k_bipush_10 ?_
              refine lv_icmp_ge hx hb dX9_sweets_98 (tgt := 126) rfl (fun h => ?_) (fun h => ?_)
              · have hF := wx_t h hF
                have hF := wJ_r hq15 hF
                have hF := wJ_l hq11 hF
                exact hJ126 i16 u18 H locs ls hF hH (lv_sub hl [0, 2] rfl)
              have hF := wx_f h hF
              refine lv_iload_n hx hb dX9_sweets_101 rfl (lv_at hl 2 rfl) ?_
              refine lv_aload_n hx hb dX9_sweets_102 rfl (lv_at hl 0 rfl) ?_
              refine lv_iload_n hx hb dX9_sweets_103 rfl (lv_at hl 1 rfl) ?_
              refine lv_iload_n hx hb dX9_sweets_104 rfl (lv_at hl 3 rfl) ?_
              refine wx_evi hC hH hl (c_X9_fits o1 i2 i17 h_o1) y_X9_fits v_X9_fits h_o1 rfl m_X9_534 rfl ⟨Nat.le_of_ble_eq_true rfl, Nat.le_of_ble_eq_true rfl⟩ ⟨Nat.le_refl _, Nat.le_refl _⟩ rfl (Nat.le_of_ble_eq_true rfl) dX9_sweets_105 hF (fun i20 u19 H locs hF hH => ?_)
              obtain ⟨q21_, hF, hq21⟩ := wJ_some hF
              have hJ118 : ∀ (i22 : Int32) (u23 : wSt) (H : Heap) (locs : List Loc) (ls : Array Slot), F_X9_sweets_j118 i16 i17 i22 u23 = some q15_ → wHp D κ ρ 1 A s.heap H locs u23 → lv_has ls 4 [(0, .ref (ρ o1)), (1, .int i2), (3, .int i17)] → W p l e (wRm 8 192) s m args below meth c H locs 0 0 (wQI below args s A D κ ρ 1 z) (F0 m 118 ls [.int i22, .int i16]) := by
                intro i22 u23 H locs ls hF hH hl
                unfold F_X9_sweets_j118 at hF
                refine lv_ior hx hb dX9_sweets_118 ?_
                refine wx_leti hF (fun i24 hF => ?_)
                refine wx_istore_n hx hb dX9_sweets_119 rfl hl (by decide) (fun ls hl => ?_)
                have hl : lv_has ls 4 [(2, .int i24), (0, .ref (ρ o1)), (1, .int i2), (3, .int i17)] := hl
                refine wx_iinc hx hb dX9_sweets_120 k_iconst_1 hl (k := 3) rfl (by decide) hF (fun i25 ls hF hl => ?_)
                have hl : lv_has ls 4 [(3, .int i25), (2, .int i24), (0, .ref (ρ o1)), (1, .int i2)] := hl
                refine lv_goto hx hb dX9_sweets_123 (tgt := 95) rfl ?_
                have hF := wJ_l hq15 hF
                exact ih15 i24 i25 u23 H locs ls hF hH (lv_sub hl [2, 3, 1, 0] rfl)
              refine lv_if_eq hx hb dX9_sweets_108 (tgt := 117) rfl (fun h => ?_) (fun h => ?_)
              · have hF := wx_t h hF
                refine lv_iconst hx hb dX9_sweets_117 k_iconst_0 ?_
                have hF := wJ_l hq21 hF
                exact hJ118 (0 : Int32) u19 H locs ls hF hH (lv_sub hl [0, 1, 3] rfl)
              have hF := wx_f h hF
              refine lv_iconst hx hb dX9_sweets_111 k_iconst_1 ?_
              refine lv_iload_n hx hb dX9_sweets_112 rfl (lv_at hl 3 rfl) ?_
              refine lv_ishl hx hb dX9_sweets_113 ?_
              refine lv_goto hx hb dX9_sweets_114 (tgt := 118) rfl ?_
              have hF := wJ_l hq21 hF
              exact hJ118 ((1 : Int32) <<< (i17 &&& 31)) u19 H locs ls hF hH (lv_sub hl [0, 1, 3] rfl)
          exact hL95 wFu (0 : Int32) (0 : Int32) u10 H locs ls hF hH (lv_sub hl [2, 3, 1, 0] rfl)
        have hL45 : ∀ (k26_ : Nat) (i27 : Int32) (u28 : wSt) (H : Heap) (locs : List Loc) (ls : Array Slot), wL (S := Int32 × wSt) (fun x => F_X9_sweets_b45 o1 x.1 x.2) k26_ (i27, u28) = some q9_ → wHp D κ ρ 1 A s.heap H locs u28 → lv_has ls 4 [(0, .ref (ρ o1)), (1, .int i2), (2, .int i27)] → W p l e (wRm 8 192) s m args below meth c H locs 0 0 (wQI below args s A D κ ρ 1 z) (F0 m 45 ls []) := by
          intro k26_
          induction k26_ with
          | zero => intro i27 u28 H locs ls hF; exact wL_zero hF
          | succ k26_ ih26 =>
            intro i27 u28 H locs ls hF hH hl
            obtain ⟨q26_, hF, hq26⟩ := wL_some hF
            have hF : F_X9_sweets_b45 o1 i27 u28 = some q26_ := hF
            unfold F_X9_sweets_b45 at hF
            refine lv_iload_n hx hb dX9_sweets_45 rfl (lv_at hl 2 rfl) ?_
            refine lv_if_lt hx hb dX9_sweets_46 (tgt := 91) rfl (fun h => ?_) (fun h => ?_)
            · have hF := wx_t h hF
              have hF := wJ_r hq26 hF
              have hF := wJ_l hq9 hF
              exact hJ91 u28 H locs ls hF hH (lv_sub hl [0, 1] rfl)
            have hF := wx_f h hF
            refine lv_aload_n hx hb dX9_sweets_49 rfl (lv_at hl 0 rfl) ?_
            refine wx_getR hC hH h_o1 rfl f_X9_124 dX9_sweets_50 hF (fun o29 h_o29 hF => ?_)
            refine lv_iload_n hx hb dX9_sweets_53 rfl (lv_at hl 2 rfl) ?_
            refine wx_zald hC hH h_o29 ⟨rfl, rfl⟩ dX9_sweets_54 hF (fun j30 hF => ?_)
            obtain ⟨q31_, hF, hq31⟩ := wJ_some hF
            have hJ85 : ∀ (u32 : wSt) (H : Heap) (locs : List Loc) (ls : Array Slot), F_X9_sweets_j85 i27 u32 = some q26_ → wHp D κ ρ 1 A s.heap H locs u32 → lv_has ls 4 [(0, .ref (ρ o1)), (1, .int i2), (2, .int i27)] → W p l e (wRm 8 192) s m args below meth c H locs 0 0 (wQI below args s A D κ ρ 1 z) (F0 m 85 ls []) := by
              intro u32 H locs ls hF hH hl
              unfold F_X9_sweets_j85 at hF
              refine wx_iinc hx hb dX9_sweets_85 k_iconst_m1 hl (k := 2) rfl (by decide) hF (fun i33 ls hF hl => ?_)
              have hl : lv_has ls 4 [(2, .int i33), (0, .ref (ρ o1)), (1, .int i2)] := hl
              refine lv_goto hx hb dX9_sweets_88 (tgt := 45) rfl ?_
              have hF := wJ_l hq26 hF
              exact ih26 i33 u32 H locs ls hF hH (lv_sub hl [1, 2, 0] rfl)
            refine lv_if_eq hx hb dX9_sweets_55 (tgt := 85) rfl (fun h => ?_) (fun h => ?_)
            · have hF := wx_t h hF
              have hF := wJ_l hq31 hF
              exact hJ85 u28 H locs ls hF hH (lv_sub hl [0, 1, 2] rfl)
            have hF := wx_f h hF
            refine lv_aload_n hx hb dX9_sweets_58 rfl (lv_at hl 0 rfl) ?_
            refine wx_getR hC hH h_o1 rfl f_X9_121 dX9_sweets_59 hF (fun o34 h_o34 hF => ?_)
            refine lv_iconst hx hb dX9_sweets_62 k_iconst_4 ?_
            refine lv_iload_n hx hb dX9_sweets_63 rfl (lv_at hl 2 rfl) ?_
            refine lv_imul hx hb dX9_sweets_64 ?_
            refine wx_iald hC hH h_o34 ⟨rfl, rfl⟩ dX9_sweets_65 hF (fun j35 hF => ?_)
            refine lv_if_ge hx hb dX9_sweets_66 (tgt := 85) rfl (fun h => ?_) (fun h => ?_)
            · have hF := wx_t h hF
              have hF := wJ_l hq31 hF
              exact hJ85 u28 H locs ls hF hH (lv_sub hl [0, 1, 2] rfl)
            have hF := wx_f h hF
            refine lv_aload_n hx hb dX9_sweets_69 rfl (lv_at hl 0 rfl) ?_
            refine wx_getR hC hH h_o1 rfl f_X9_124 dX9_sweets_70 hF (fun o36 h_o36 hF => ?_)
            refine lv_aload_n hx hb dX9_sweets_73 rfl (lv_at hl 0 rfl) ?_
            refine wx_getR hC hH h_o1 rfl f_X9_121 dX9_sweets_74 hF (fun o37 h_o37 hF => ?_)
            refine lv_iconst hx hb dX9_sweets_77 k_iconst_4 ?_
            refine lv_iload_n hx hb dX9_sweets_78 rfl (lv_at hl 2 rfl) ?_
            refine lv_imul hx hb dX9_sweets_79 ?_
            refine lv_iconst hx hb dX9_sweets_80 k_iconst_1 ?_
            refine lv_iadd hx hb dX9_sweets_81 ?_
            refine wx_iald hC hH h_o37 ⟨rfl, rfl⟩ dX9_sweets_82 hF (fun j38 hF => ?_)
            refine lv_iconst hx hb dX9_sweets_83 k_iconst_0 ?_
            refine wx_zast hC hH h_o36 ⟨rfl, rfl⟩ dX9_sweets_84 hF (fun u39 H locs hF hH => ?_)
            have hF := wJ_l hq31 hF
            exact hJ85 u39 H locs ls hF hH (lv_sub hl [0, 1, 2] rfl)
        exact hL45 wFu i8 u6 H locs ls hF hH (lv_sub hl [1, 2, 0] rfl)
      have hL17 : ∀ (k40_ : Nat) (i41 : Int32) (u42 : wSt) (H : Heap) (locs : List Loc) (ls : Array Slot), wL (S := Int32 × wSt) (fun x => F_X9_sweets_b17 o1 x.1 x.2) k40_ (i41, u42) = some q5_ → wHp D κ ρ 1 A s.heap H locs u42 → lv_has ls 4 [(0, .ref (ρ o1)), (1, .int i2), (2, .int i41)] → W p l e (wRm 8 192) s m args below meth c H locs 0 0 (wQI below args s A D κ ρ 1 z) (F0 m 17 ls []) := by
        intro k40_
        induction k40_ with
        | zero => intro i41 u42 H locs ls hF; exact wL_zero hF
        | succ k40_ ih40 =>
          intro i41 u42 H locs ls hF hH hl
          obtain ⟨q40_, hF, hq40⟩ := wL_some hF
          have hF : F_X9_sweets_b17 o1 i41 u42 = some q40_ := hF
          unfold F_X9_sweets_b17 at hF
          refine lv_iload_n hx hb dX9_sweets_17 rfl (lv_at hl 2 rfl) ?_
          refine lv_aload_n hx hb dX9_sweets_18 rfl (lv_at hl 0 rfl) ?_
          refine wx_pvi hC hH hl (c_X9_knownBy o1 h_o1) y_X9_knownBy v_X9_knownBy h_o1 rfl m_X9_528 rfl ⟨Nat.le_of_ble_eq_true rfl, Nat.le_of_ble_eq_true rfl⟩ ⟨Nat.le_refl _, Nat.le_refl _⟩ rfl (Nat.le_of_ble_eq_true rfl) dX9_sweets_19 hF (fun i43 H locs hF hH => ?_)
          refine lv_icmp_ge hx hb dX9_sweets_22 (tgt := 38) rfl (fun h => ?_) (fun h => ?_)
          · have hF := wx_t h hF
            have hF := wJ_r hq40 hF
            have hF := wJ_l hq5 hF
            exact hJ38 u42 H locs ls hF hH (lv_sub hl [0, 1] rfl)
          have hF := wx_f h hF
          refine lv_aload_n hx hb dX9_sweets_25 rfl (lv_at hl 0 rfl) ?_
          refine wx_getR hC hH h_o1 rfl f_X9_124 dX9_sweets_26 hF (fun o44 h_o44 hF => ?_)
          refine lv_iload_n hx hb dX9_sweets_29 rfl (lv_at hl 2 rfl) ?_
          refine lv_iconst hx hb dX9_sweets_30 k_iconst_1 ?_
          refine wx_zast hC hH h_o44 ⟨rfl, rfl⟩ dX9_sweets_31 hF (fun u45 H locs hF hH => ?_)
          refine wx_iinc hx hb dX9_sweets_32 k_iconst_1 hl (k := 2) rfl (by decide) hF (fun i46 ls hF hl => ?_)
          have hl : lv_has ls 4 [(2, .int i46), (0, .ref (ρ o1)), (1, .int i2)] := hl
          refine lv_goto hx hb dX9_sweets_35 (tgt := 17) rfl ?_
          have hF := wJ_l hq40 hF
          exact ih40 i46 u45 H locs ls hF hH (lv_sub hl [1, 2, 0] rfl)
      exact hL17 wFu (0 : Int32) u3 H locs ls hF hH (lv_sub hl [1, 2, 0] rfl)
    have hF := wx_t h hF
    refine lv_iconst hx hb dX9_sweets_13 k_iconst_m1 ?_
    exact wx_iret hC hH hr hlk dX9_sweets_14 hF
  exact key _ _ hH
def F_X9_chance_j96 (o1 : Nat) (q8 : Int64) (i11 : Int32) (u12 : wSt) : Option (Int32 × wSt) :=
  wB (w_sI u12 o1 60 (0 : Int32)) (fun (u13 : wSt) => wB (w_sL u13 o1 58 q8) (fun (u14 : wSt) => some (i11, u14)))
def F_X9_chance_j87 (i16 : Int32) (i17 : Int32) (i25 : Int32) (u26 : wSt) : Option ((Int32 × Int32 × wSt) ⊕ ((Int32 × wSt) ⊕ (Int32 × wSt))) :=
  wB (i16 + i25) (fun (i27 : Int32) => wB (i17 + (1 : Int32)) (fun (i28 : Int32) => some (.inl (i27, i28, u26))))
def F_X9_chance_b47 (o1 : Nat) (i3 : Int32) (i4 : Int32) (i16 : Int32) (i17 : Int32) (u18 : wSt) : Option ((Int32 × Int32 × wSt) ⊕ ((Int32 × wSt) ⊕ (Int32 × wSt))) :=
  if (10 : Int32) ≤ i17 then (some (.inr (.inl (i16, u18)))) else (wC (F_X9_layTried o1 u18) (fun _ (u19 : wSt) => wB (w_sI u19 o1 60 (1 : Int32)) (fun (u20 : wSt) => wC (F_X9_goMany o1 i3 u20) (fun _ (u21 : wSt) => wR (u21.2.2 o1 52) 15 (fun o22 => wN ((6 : Int32) + i4) o22 (fun j23 => wJ (X := Int32 × wSt) (if (u21.1 o22 j23) = 0 then (some (.inl ((1 : Int32), u21))) else (some (.inl ((0 : Int32), u21)))) (fun x => F_X9_chance_j87 i16 i17 x.1 x.2)))))))
def F_X9_chance (o1 : Nat) (i2 : Int32) (i3 : Int32) (i4 : Int32) (u0 : wSt) : Option (Int32 × wSt) :=
  wB (w_sI u0 o1 2 (0 : Int32)) (fun (u5 : wSt) => if i2 < 0 then (some ((-1 : Int32), u5)) else (wP (F_X9_isIn i3 (1 : Int32) (99 : Int32) u5) (fun (i6 : Int32) => if i6 = 0 then (some ((-1 : Int32), u5)) else (wP (F_X9_isGuest o1 i4 u5) (fun (i7 : Int32) => if i7 = 0 then (some ((-1 : Int32), u5)) else (wB (u5.2.1 o1 58) (fun (q8 : Int64) => wB (w_sL u5 o1 58 (i2.toInt64)) (fun (u9 : wSt) => wJ (X := Int32 × wSt) (wL (S := Int32 × Int32 × wSt) (fun x => F_X9_chance_b47 o1 i3 i4 x.1 x.2.1 x.2.2) wFu ((0 : Int32), (0 : Int32), u9)) (fun x => F_X9_chance_j96 o1 q8 x.1 x.2)))))))))
set_option maxRecDepth 100000 in
set_option maxHeartbeats 4000000 in
theorem c_X9_chance {l : Launch} {D : va_G} {κ : Nat → ClassId} {ρ : Nat → Nat} (o1 : Nat) (i2 : Int32) (i3 : Int32) (i4 : Int32) (h_o1 : (w_sh o1).1 = 9) : wMI l yX9_chance cX9_chance 8 .int (wRm 8 191) [.ref (ρ o1), .int i2, .int i3, .int i4] D κ ρ 1 (fun u => F_X9_chance o1 i2 i3 i4 u) := by
  refine wMI_of (F := fun u => F_X9_chance o1 i2 i3 i4 u) rfl (Nat.le_of_ble_eq_true rfl) (fun u0 z p e s m args below meth c ls A hF hC hr hlk hH hl => ?_)
  have hl : lv_has ls 8 [(0, .ref (ρ o1)), (1, .int i2), (2, .int i3), (3, .int i4)] := hl
  have hx := hC.1.1
  have hb := hC.1.2.1
  have hF : F_X9_chance o1 i2 i3 i4 u0 = some z := hF
  unfold F_X9_chance at hF
  change W p l e (wRm 8 191) s m args below meth c s.heap [] 0 0 (wQI below args s A D κ ρ 1 z) (F0 m 0 ls [])
  have key : ∀ (H : Heap) (locs : List Loc), wHp D κ ρ 1 A s.heap H locs u0 → W p l e (wRm 8 191) s m args below meth c H locs 0 0 (wQI below args s A D κ ρ 1 z) (F0 m 0 ls []) := by
    intro H locs hH
    refine lv_aload_n hx hb dX9_chance_0 rfl (lv_at hl 0 rfl) ?_
    refine lv_iconst hx hb dX9_chance_1 k_iconst_0 ?_
    refine wx_putI hC hH h_o1 rfl f_X9_142 g_9_2 dX9_chance_2 hF (fun u5 H locs hF hH => ?_)
    refine lv_iload_n hx hb dX9_chance_5 rfl (lv_at hl 1 rfl) ?_
    refine lv_if_lt hx hb dX9_chance_6 (tgt := 27) rfl (fun h => ?_) (fun h => ?_)
    · have hF := wx_t h hF
      refine lv_iconst hx hb dX9_chance_27 k_iconst_m1 ?_
      exact wx_iret hC hH hr hlk dX9_chance_28 hF
    have hF := wx_f h hF
    refine lv_iload_n hx hb dX9_chance_9 rfl (lv_at hl 2 rfl) ?_
    refine lv_iconst hx hb dX9_chance_10 k_iconst_1 ?_
    refine lv_bipush hx hb dX9_chance_11 k_bipush_99 ?_
    refine wx_psi hC hH hl (c_X9_isIn i3 (1 : Int32) (99 : Int32)) y_X9_isIn v_X9_isIn m_X9_187 rfl ⟨Nat.le_of_ble_eq_true rfl, Nat.le_of_ble_eq_true rfl⟩ ⟨Nat.le_refl _, Nat.le_refl _⟩ rfl (Nat.le_of_ble_eq_true rfl) dX9_chance_13 hF (fun i6 H locs hF hH => ?_)
    refine lv_if_eq hx hb dX9_chance_16 (tgt := 27) rfl (fun h => ?_) (fun h => ?_)
    · have hF := wx_t h hF
      refine lv_iconst hx hb dX9_chance_27 k_iconst_m1 ?_
      exact wx_iret hC hH hr hlk dX9_chance_28 hF
    have hF := wx_f h hF
    refine lv_aload_n hx hb dX9_chance_19 rfl (lv_at hl 0 rfl) ?_
    refine lv_iload_n hx hb dX9_chance_20 rfl (lv_at hl 3 rfl) ?_
    refine wx_pvi hC hH hl (c_X9_isGuest o1 i4 h_o1) y_X9_isGuest v_X9_isGuest h_o1 rfl m_X9_380 rfl ⟨Nat.le_of_ble_eq_true rfl, Nat.le_of_ble_eq_true rfl⟩ ⟨Nat.le_refl _, Nat.le_refl _⟩ rfl (Nat.le_of_ble_eq_true rfl) dX9_chance_21 hF (fun i7 H locs hF hH => ?_)
    refine lv_if_ne hx hb dX9_chance_24 (tgt := 29) rfl (fun h => ?_) (fun h => ?_)
    · have hF := wx_f h hF
      refine lv_aload_n hx hb dX9_chance_29 rfl (lv_at hl 0 rfl) ?_
      refine wx_getL hC hH h_o1 rfl f_X9_337 dX9_chance_30 ?_
      refine wx_letl hF (fun q8 hF => ?_)
      refine wx_lstore hx hb dX9_chance_33 hl (by decide) (fun ls hl => ?_)
      have hl : lv_has ls 8 [(4, .long q8), (0, .ref (ρ o1)), (1, .int i2), (2, .int i3), (3, .int i4)] := hl
      refine lv_aload_n hx hb dX9_chance_35 rfl (lv_at hl 1 rfl) ?_
      refine lv_iload_n hx hb dX9_chance_36 rfl (lv_at hl 2 rfl) ?_
      refine lv_i2l hx hb dX9_chance_37 rfl ?_
      refine wx_putL hC hH h_o1 rfl f_X9_337 g_9_58 dX9_chance_38 hF (fun u9 H locs hF hH => ?_)
      refine lv_iconst hx hb dX9_chance_41 k_iconst_0 ?_
      refine wx_istore hx hb dX9_chance_42 hl (by decide) (fun ls hl => ?_)
      have hl : lv_has ls 8 [(6, .int (0 : Int32)), (4, .long q8), (0, .ref (ρ o1)), (1, .int i2), (2, .int i3), (3, .int i4)] := hl
      refine lv_iconst hx hb dX9_chance_44 k_iconst_0 ?_
      refine wx_istore hx hb dX9_chance_45 hl (by decide) (fun ls hl => ?_)
      have hl : lv_has ls 8 [(7, .int (0 : Int32)), (6, .int (0 : Int32)), (4, .long q8), (0, .ref (ρ o1)), (1, .int i2), (2, .int i3), (3, .int i4)] := hl
      obtain ⟨q10_, hF, hq10⟩ := wJ_some hF
      have hJ96 : ∀ (i11 : Int32) (u12 : wSt) (H : Heap) (locs : List Loc) (ls : Array Slot), F_X9_chance_j96 o1 q8 i11 u12 = some z → wHp D κ ρ 1 A s.heap H locs u12 → lv_has ls 8 [(0, .ref (ρ o1)), (4, .long q8), (6, .int i11)] → W p l e (wRm 8 191) s m args below meth c H locs 0 0 (wQI below args s A D κ ρ 1 z) (F0 m 96 ls []) := by
        intro i11 u12 H locs ls hF hH hl
        unfold F_X9_chance_j96 at hF
        refine lv_aload_n hx hb dX9_chance_96 rfl (lv_at hl 0 rfl) ?_
        refine lv_iconst hx hb dX9_chance_97 k_iconst_0 ?_
        refine wx_putZ hC hH h_o1 rfl f_X9_353 g_9_60 dX9_chance_98 (Or.inl rfl) hF (fun u13 H locs hF hH => ?_)
        refine lv_aload_n hx hb dX9_chance_101 rfl (lv_at hl 0 rfl) ?_
        refine lv_lload hx hb dX9_chance_102 (lv_at hl 1 rfl) ?_
        refine wx_putL hC hH h_o1 rfl f_X9_337 g_9_58 dX9_chance_104 hF (fun u14 H locs hF hH => ?_)
        refine lv_iload hx hb dX9_chance_107 (lv_at hl 2 rfl) ?_
        exact wx_iret hC hH hr hlk dX9_chance_109 hF
      have hL47 : ∀ (k15_ : Nat) (i16 : Int32) (i17 : Int32) (u18 : wSt) (H : Heap) (locs : List Loc) (ls : Array Slot), wL (S := Int32 × Int32 × wSt) (fun x => F_X9_chance_b47 o1 i3 i4 x.1 x.2.1 x.2.2) k15_ (i16, i17, u18) = some q10_ → wHp D κ ρ 1 A s.heap H locs u18 → lv_has ls 8 [(0, .ref (ρ o1)), (2, .int i3), (3, .int i4), (4, .long q8), (6, .int i16), (7, .int i17)] → W p l e (wRm 8 191) s m args below meth c H locs 0 0 (wQI below args s A D κ ρ 1 z) (F0 m 47 ls []) := by
        intro k15_
        induction k15_ with
        | zero => intro i16 i17 u18 H locs ls hF; exact wL_zero hF
        | succ k15_ ih15 =>
          intro i16 i17 u18 H locs ls hF hH hl
          obtain ⟨q15_, hF, hq15⟩ := wL_some hF
          have hF : F_X9_chance_b47 o1 i3 i4 i16 i17 u18 = some q15_ := hF
          unfold F_X9_chance_b47 at hF
          refine lv_iload hx hb dX9_chance_47 (lv_at hl 5 rfl) ?_
          refine lv_bipush hx hb dX9_chance_49 k_bipush_10 ?_
          refine lv_icmp_ge hx hb dX9_chance_51 (tgt := 96) rfl (fun h => ?_) (fun h => ?_)
          · have hF := wx_t h hF
            have hF := wJ_r hq15 hF
            have hF := wJ_l hq10 hF
            exact hJ96 i16 u18 H locs ls hF hH (lv_sub hl [0, 3, 4] rfl)
          have hF := wx_f h hF
          refine lv_aload_n hx hb dX9_chance_54 rfl (lv_at hl 0 rfl) ?_
          refine wx_evv hC hH hl (c_X9_layTried o1 h_o1) y_X9_layTried v_X9_layTried h_o1 rfl m_X9_475 rfl ⟨Nat.le_of_ble_eq_true rfl, Nat.le_of_ble_eq_true rfl⟩ ⟨Nat.le_refl _, Nat.le_refl _⟩ rfl (Nat.le_of_ble_eq_true rfl) dX9_chance_55 hF (fun _ u19 H locs hF hH => ?_)
          refine lv_aload_n hx hb dX9_chance_58 rfl (lv_at hl 0 rfl) ?_
          refine lv_iconst hx hb dX9_chance_59 k_iconst_1 ?_
          refine wx_putZ hC hH h_o1 rfl f_X9_353 g_9_60 dX9_chance_60 (Or.inr rfl) hF (fun u20 H locs hF hH => ?_)
          refine lv_aload_n hx hb dX9_chance_63 rfl (lv_at hl 0 rfl) ?_
          refine lv_iload_n hx hb dX9_chance_64 rfl (lv_at hl 1 rfl) ?_
          refine wx_evv hC hH hl (c_X9_goMany o1 i3 h_o1) y_X9_goMany v_X9_goMany h_o1 rfl m_X9_478 rfl ⟨Nat.le_of_ble_eq_true rfl, Nat.le_of_ble_eq_true rfl⟩ ⟨Nat.le_refl _, Nat.le_refl _⟩ rfl (Nat.le_of_ble_eq_true rfl) dX9_chance_65 hF (fun _ u21 H locs hF hH => ?_)
          refine lv_iload hx hb dX9_chance_68 (lv_at hl 4 rfl) ?_
          refine lv_aload_n hx hb dX9_chance_70 rfl (lv_at hl 0 rfl) ?_
          refine wx_getR hC hH h_o1 rfl f_X9_97 dX9_chance_71 hF (fun o22 h_o22 hF => ?_)
          refine lv_bipush hx hb dX9_chance_74 k_bipush_6 ?_
          refine lv_iload_n hx hb dX9_chance_76 rfl (lv_at hl 2 rfl) ?_
          refine lv_iadd hx hb dX9_chance_77 ?_
          refine wx_zald hC hH h_o22 ⟨rfl, rfl⟩ dX9_chance_78 hF (fun j23 hF => ?_)
          obtain ⟨q24_, hF, hq24⟩ := wJ_some hF
          have hJ87 : ∀ (i25 : Int32) (u26 : wSt) (H : Heap) (locs : List Loc) (ls : Array Slot), F_X9_chance_j87 i16 i17 i25 u26 = some q15_ → wHp D κ ρ 1 A s.heap H locs u26 → lv_has ls 8 [(0, .ref (ρ o1)), (2, .int i3), (3, .int i4), (4, .long q8), (7, .int i17)] → W p l e (wRm 8 191) s m args below meth c H locs 0 0 (wQI below args s A D κ ρ 1 z) (F0 m 87 ls [.int i25, .int i16]) := by
            intro i25 u26 H locs ls hF hH hl
            unfold F_X9_chance_j87 at hF
            refine lv_iadd hx hb dX9_chance_87 ?_
            refine wx_leti hF (fun i27 hF => ?_)
            refine wx_istore hx hb dX9_chance_88 hl (by decide) (fun ls hl => ?_)
            have hl : lv_has ls 8 [(6, .int i27), (0, .ref (ρ o1)), (2, .int i3), (3, .int i4), (4, .long q8), (7, .int i17)] := hl
            refine wx_iinc hx hb dX9_chance_90 k_iconst_1 hl (k := 5) rfl (by decide) hF (fun i28 ls hF hl => ?_)
            have hl : lv_has ls 8 [(7, .int i28), (6, .int i27), (0, .ref (ρ o1)), (2, .int i3), (3, .int i4), (4, .long q8)] := hl
            refine lv_goto hx hb dX9_chance_93 (tgt := 47) rfl ?_
            have hF := wJ_l hq15 hF
            exact ih15 i27 i28 u26 H locs ls hF hH (lv_sub hl [2, 3, 4, 5, 1, 0] rfl)
          refine lv_if_eq hx hb dX9_chance_79 (tgt := 86) rfl (fun h => ?_) (fun h => ?_)
          · have hF := wx_t h hF
            refine lv_iconst hx hb dX9_chance_86 k_iconst_1 ?_
            have hF := wJ_l hq24 hF
            exact hJ87 (1 : Int32) u21 H locs ls hF hH (lv_sub hl [0, 1, 2, 3, 5] rfl)
          have hF := wx_f h hF
          refine lv_iconst hx hb dX9_chance_82 k_iconst_0 ?_
          refine lv_goto hx hb dX9_chance_83 (tgt := 87) rfl ?_
          have hF := wJ_l hq24 hF
          exact hJ87 (0 : Int32) u21 H locs ls hF hH (lv_sub hl [0, 1, 2, 3, 5] rfl)
      exact hL47 wFu (0 : Int32) (0 : Int32) u9 H locs ls hF hH (lv_sub hl [3, 5, 6, 2, 1, 0] rfl)
    have hF := wx_t h hF
    refine lv_iconst hx hb dX9_chance_27 k_iconst_m1 ?_
    exact wx_iret hC hH hr hlk dX9_chance_28 hF
  exact key _ _ hH
def F_X9_tried_j117 (o1 : Nat) (i4 : Int32) (i27 : Int32) (u28 : wSt) : Option (Int32 × wSt) :=
  wG (i27 = 0 ∨ i27 = 1) (wB (w_sI u28 o1 64 i27) (fun (u29 : wSt) => wC (F_X9_goMany o1 i4 u29) (fun _ (u30 : wSt) => wC (F_X9_plainTried o1 u30) (fun _ (u31 : wSt) => wP (F_X9_fainted o1 (1 : Int32) u31) (fun (i32 : Int32) => wP (F_X9_fainted o1 (0 : Int32) u31) (fun (i33 : Int32) => some ((i32 - i33), u31)))))))
def F_X9_tried_j103 (o1 : Nat) (i2 : Int32) (i4 : Int32) (i23 : Int32) (u24 : wSt) : Option (Int32 × wSt) :=
  wG (i23 = 0 ∨ i23 = 1) (wB (w_sI u24 o1 63 i23) (fun (u25 : wSt) => wJ (X := Int32 × wSt) (if i2 = (4 : Int32) then (some (.inl ((1 : Int32), u25))) else (some (.inl ((0 : Int32), u25)))) (fun x => F_X9_tried_j117 o1 i4 x.1 x.2)))
def F_X9_tried_j89 (o1 : Nat) (i2 : Int32) (i4 : Int32) (i19 : Int32) (u20 : wSt) : Option (Int32 × wSt) :=
  wB (w_sI u20 o1 65 i19) (fun (u21 : wSt) => wJ (X := Int32 × wSt) (if i2 = (3 : Int32) then (some (.inl ((1 : Int32), u21))) else (some (.inl ((0 : Int32), u21)))) (fun x => F_X9_tried_j103 o1 i2 i4 x.1 x.2))
def F_X9_tried_j75 (o1 : Nat) (i2 : Int32) (i3 : Int32) (i4 : Int32) (i15 : Int32) (u16 : wSt) : Option (Int32 × wSt) :=
  wG (i15 = 0 ∨ i15 = 1) (wB (w_sI u16 o1 62 i15) (fun (u17 : wSt) => wJ (X := Int32 × wSt) (if i2 = (2 : Int32) then (some (.inl (i3, u17))) else (some (.inl ((-1 : Int32), u17)))) (fun x => F_X9_tried_j89 o1 i2 i4 x.1 x.2)))
def F_X9_tried_j61 (o1 : Nat) (i2 : Int32) (i3 : Int32) (i4 : Int32) (i11 : Int32) (u12 : wSt) : Option (Int32 × wSt) :=
  wG (i11 = 0 ∨ i11 = 1) (wB (w_sI u12 o1 61 i11) (fun (u13 : wSt) => wJ (X := Int32 × wSt) (if i2 = (1 : Int32) then (some (.inl ((1 : Int32), u13))) else (some (.inl ((0 : Int32), u13)))) (fun x => F_X9_tried_j75 o1 i2 i3 i4 x.1 x.2)))
def F_X9_tried_j47 (o1 : Nat) (u5 : wSt) (i2 : Int32) (i3 : Int32) (i4 : Int32) : Option (Int32 × wSt) :=
  wC (F_X9_layTried o1 u5) (fun _ (u9 : wSt) => wJ (X := Int32 × wSt) (if i2 = 0 then (some (.inl ((1 : Int32), u9))) else (some (.inl ((0 : Int32), u9)))) (fun x => F_X9_tried_j61 o1 i2 i3 i4 x.1 x.2))
def F_X9_tried (o1 : Nat) (i2 : Int32) (i3 : Int32) (i4 : Int32) (u0 : wSt) : Option (Int32 × wSt) :=
  wB (w_sI u0 o1 2 (0 : Int32)) (fun (u5 : wSt) => wP (F_X9_isIn i2 (0 : Int32) (4 : Int32) u5) (fun (i6 : Int32) => if i6 = 0 then (some ((-1 : Int32), u5)) else (wP (F_X9_isIn i4 (0 : Int32) (200 : Int32) u5) (fun (i7 : Int32) => if i7 = 0 then (some ((-1 : Int32), u5)) else (wJ (X := Unit) (if i2 = (2 : Int32) then (wP (F_X9_isGuest o1 i3 u5) (fun (i34 : Int32) => if i34 = 0 then (some (.inr ((-1 : Int32), u5))) else (some (.inl ())))) else (if i3 = 0 then (some (.inl ())) else (some (.inr ((-1 : Int32), u5))))) (fun x => F_X9_tried_j47 o1 u5 i2 i3 i4))))))
set_option maxRecDepth 100000 in
set_option maxHeartbeats 4000000 in
theorem c_X9_tried {l : Launch} {D : va_G} {κ : Nat → ClassId} {ρ : Nat → Nat} (o1 : Nat) (i2 : Int32) (i3 : Int32) (i4 : Int32) (h_o1 : (w_sh o1).1 = 9) : wMI l yX9_tried cX9_tried 4 .int (wRm 8 191) [.ref (ρ o1), .int i2, .int i3, .int i4] D κ ρ 1 (fun u => F_X9_tried o1 i2 i3 i4 u) := by
  refine wMI_of (F := fun u => F_X9_tried o1 i2 i3 i4 u) rfl (Nat.le_of_ble_eq_true rfl) (fun u0 z p e s m args below meth c ls A hF hC hr hlk hH hl => ?_)
  have hl : lv_has ls 4 [(0, .ref (ρ o1)), (1, .int i2), (2, .int i3), (3, .int i4)] := hl
  have hx := hC.1.1
  have hb := hC.1.2.1
  have hF : F_X9_tried o1 i2 i3 i4 u0 = some z := hF
  unfold F_X9_tried at hF
  change W p l e (wRm 8 191) s m args below meth c s.heap [] 0 0 (wQI below args s A D κ ρ 1 z) (F0 m 0 ls [])
  have key : ∀ (H : Heap) (locs : List Loc), wHp D κ ρ 1 A s.heap H locs u0 → W p l e (wRm 8 191) s m args below meth c H locs 0 0 (wQI below args s A D κ ρ 1 z) (F0 m 0 ls []) := by
    intro H locs hH
    refine lv_aload_n hx hb dX9_tried_0 rfl (lv_at hl 0 rfl) ?_
    refine lv_iconst hx hb dX9_tried_1 k_iconst_0 ?_
    refine wx_putI hC hH h_o1 rfl f_X9_142 g_9_2 dX9_tried_2 hF (fun u5 H locs hF hH => ?_)
    refine lv_iload_n hx hb dX9_tried_5 rfl (lv_at hl 1 rfl) ?_
    refine lv_iconst hx hb dX9_tried_6 k_iconst_0 ?_
    refine lv_iconst hx hb dX9_tried_7 k_iconst_4 ?_
    refine wx_psi hC hH hl (c_X9_isIn i2 (0 : Int32) (4 : Int32)) y_X9_isIn v_X9_isIn m_X9_187 rfl ⟨Nat.le_of_ble_eq_true rfl, Nat.le_of_ble_eq_true rfl⟩ ⟨Nat.le_refl _, Nat.le_refl _⟩ rfl (Nat.le_of_ble_eq_true rfl) dX9_tried_8 hF (fun i6 H locs hF hH => ?_)
    refine lv_if_eq hx hb dX9_tried_11 (tgt := 45) rfl (fun h => ?_) (fun h => ?_)
    · have hF := wx_t h hF
      refine lv_iconst hx hb dX9_tried_45 k_iconst_m1 ?_
      exact wx_iret hC hH hr hlk dX9_tried_46 hF
    have hF := wx_f h hF
    refine lv_iload_n hx hb dX9_tried_14 rfl (lv_at hl 3 rfl) ?_
    refine lv_iconst hx hb dX9_tried_15 k_iconst_0 ?_
    refine lv_sipush hx hb dX9_tried_16 k_sipush_200 ?_
    refine wx_psi hC hH hl (c_X9_isIn i4 (0 : Int32) (200 : Int32)) y_X9_isIn v_X9_isIn m_X9_187 rfl ⟨Nat.le_of_ble_eq_true rfl, Nat.le_of_ble_eq_true rfl⟩ ⟨Nat.le_refl _, Nat.le_refl _⟩ rfl (Nat.le_of_ble_eq_true rfl) dX9_tried_19 hF (fun i7 H locs hF hH => ?_)
    refine lv_if_eq hx hb dX9_tried_22 (tgt := 45) rfl (fun h => ?_) (fun h => ?_)
    · have hF := wx_t h hF
      refine lv_iconst hx hb dX9_tried_45 k_iconst_m1 ?_
      exact wx_iret hC hH hr hlk dX9_tried_46 hF
    have hF := wx_f h hF
    refine lv_iload_n hx hb dX9_tried_25 rfl (lv_at hl 1 rfl) ?_
    refine lv_iconst hx hb dX9_tried_26 k_iconst_2 ?_
    obtain ⟨q8_, hF, hq8⟩ := wJ_some hF
    have hJ47 : ∀ (H : Heap) (locs : List Loc) (ls : Array Slot), F_X9_tried_j47 o1 u5 i2 i3 i4 = some z → wHp D κ ρ 1 A s.heap H locs u5 → lv_has ls 4 [(0, .ref (ρ o1)), (1, .int i2), (2, .int i3), (3, .int i4)] → W p l e (wRm 8 191) s m args below meth c H locs 0 0 (wQI below args s A D κ ρ 1 z) (F0 m 47 ls []) := by
      intro H locs ls hF hH hl
      unfold F_X9_tried_j47 at hF
      refine lv_aload_n hx hb dX9_tried_47 rfl (lv_at hl 0 rfl) ?_
      refine wx_evv hC hH hl (c_X9_layTried o1 h_o1) y_X9_layTried v_X9_layTried h_o1 rfl m_X9_475 rfl ⟨Nat.le_of_ble_eq_true rfl, Nat.le_of_ble_eq_true rfl⟩ ⟨Nat.le_refl _, Nat.le_refl _⟩ rfl (Nat.le_of_ble_eq_true rfl) dX9_tried_48 hF (fun _ u9 H locs hF hH => ?_)
      refine lv_aload_n hx hb dX9_tried_51 rfl (lv_at hl 0 rfl) ?_
      refine lv_iload_n hx hb dX9_tried_52 rfl (lv_at hl 1 rfl) ?_
      obtain ⟨q10_, hF, hq10⟩ := wJ_some hF
      have hJ61 : ∀ (i11 : Int32) (u12 : wSt) (H : Heap) (locs : List Loc) (ls : Array Slot), F_X9_tried_j61 o1 i2 i3 i4 i11 u12 = some z → wHp D κ ρ 1 A s.heap H locs u12 → lv_has ls 4 [(0, .ref (ρ o1)), (1, .int i2), (2, .int i3), (3, .int i4)] → W p l e (wRm 8 191) s m args below meth c H locs 0 0 (wQI below args s A D κ ρ 1 z) (F0 m 61 ls [.int i11, .ref (ρ o1)]) := by
        intro i11 u12 H locs ls hF hH hl
        unfold F_X9_tried_j61 at hF
        obtain ⟨h01, hF⟩ := wG_some hF
        refine wx_putZ hC hH h_o1 rfl f_X9_356 g_9_61 dX9_tried_61 h01 hF (fun u13 H locs hF hH => ?_)
        refine lv_aload_n hx hb dX9_tried_64 rfl (lv_at hl 0 rfl) ?_
        refine lv_iload_n hx hb dX9_tried_65 rfl (lv_at hl 1 rfl) ?_
        refine lv_iconst hx hb dX9_tried_66 k_iconst_1 ?_
        obtain ⟨q14_, hF, hq14⟩ := wJ_some hF
        have hJ75 : ∀ (i15 : Int32) (u16 : wSt) (H : Heap) (locs : List Loc) (ls : Array Slot), F_X9_tried_j75 o1 i2 i3 i4 i15 u16 = some z → wHp D κ ρ 1 A s.heap H locs u16 → lv_has ls 4 [(0, .ref (ρ o1)), (1, .int i2), (2, .int i3), (3, .int i4)] → W p l e (wRm 8 191) s m args below meth c H locs 0 0 (wQI below args s A D κ ρ 1 z) (F0 m 75 ls [.int i15, .ref (ρ o1)]) := by
          intro i15 u16 H locs ls hF hH hl
          unfold F_X9_tried_j75 at hF
          obtain ⟨h01, hF⟩ := wG_some hF
          refine wx_putZ hC hH h_o1 rfl f_X9_359 g_9_62 dX9_tried_75 h01 hF (fun u17 H locs hF hH => ?_)
          refine lv_aload_n hx hb dX9_tried_78 rfl (lv_at hl 0 rfl) ?_
          refine lv_iload_n hx hb dX9_tried_79 rfl (lv_at hl 1 rfl) ?_
          refine lv_iconst hx hb dX9_tried_80 k_iconst_2 ?_
          obtain ⟨q18_, hF, hq18⟩ := wJ_some hF
          have hJ89 : ∀ (i19 : Int32) (u20 : wSt) (H : Heap) (locs : List Loc) (ls : Array Slot), F_X9_tried_j89 o1 i2 i4 i19 u20 = some z → wHp D κ ρ 1 A s.heap H locs u20 → lv_has ls 4 [(0, .ref (ρ o1)), (1, .int i2), (3, .int i4)] → W p l e (wRm 8 191) s m args below meth c H locs 0 0 (wQI below args s A D κ ρ 1 z) (F0 m 89 ls [.int i19, .ref (ρ o1)]) := by
            intro i19 u20 H locs ls hF hH hl
            unfold F_X9_tried_j89 at hF
            refine wx_putI hC hH h_o1 rfl f_X9_368 g_9_65 dX9_tried_89 hF (fun u21 H locs hF hH => ?_)
            refine lv_aload_n hx hb dX9_tried_92 rfl (lv_at hl 0 rfl) ?_
            refine lv_iload_n hx hb dX9_tried_93 rfl (lv_at hl 1 rfl) ?_
            refine lv_iconst hx hb dX9_tried_94 k_iconst_3 ?_
            obtain ⟨q22_, hF, hq22⟩ := wJ_some hF
            have hJ103 : ∀ (i23 : Int32) (u24 : wSt) (H : Heap) (locs : List Loc) (ls : Array Slot), F_X9_tried_j103 o1 i2 i4 i23 u24 = some z → wHp D κ ρ 1 A s.heap H locs u24 → lv_has ls 4 [(0, .ref (ρ o1)), (1, .int i2), (3, .int i4)] → W p l e (wRm 8 191) s m args below meth c H locs 0 0 (wQI below args s A D κ ρ 1 z) (F0 m 103 ls [.int i23, .ref (ρ o1)]) := by
              intro i23 u24 H locs ls hF hH hl
              unfold F_X9_tried_j103 at hF
              obtain ⟨h01, hF⟩ := wG_some hF
              refine wx_putZ hC hH h_o1 rfl f_X9_362 g_9_63 dX9_tried_103 h01 hF (fun u25 H locs hF hH => ?_)
              refine lv_aload_n hx hb dX9_tried_106 rfl (lv_at hl 0 rfl) ?_
              refine lv_iload_n hx hb dX9_tried_107 rfl (lv_at hl 1 rfl) ?_
              refine lv_iconst hx hb dX9_tried_108 k_iconst_4 ?_
              obtain ⟨q26_, hF, hq26⟩ := wJ_some hF
              have hJ117 : ∀ (i27 : Int32) (u28 : wSt) (H : Heap) (locs : List Loc) (ls : Array Slot), F_X9_tried_j117 o1 i4 i27 u28 = some z → wHp D κ ρ 1 A s.heap H locs u28 → lv_has ls 4 [(0, .ref (ρ o1)), (3, .int i4)] → W p l e (wRm 8 191) s m args below meth c H locs 0 0 (wQI below args s A D κ ρ 1 z) (F0 m 117 ls [.int i27, .ref (ρ o1)]) := by
                intro i27 u28 H locs ls hF hH hl
                unfold F_X9_tried_j117 at hF
                obtain ⟨h01, hF⟩ := wG_some hF
                refine wx_putZ hC hH h_o1 rfl f_X9_365 g_9_64 dX9_tried_117 h01 hF (fun u29 H locs hF hH => ?_)
                refine lv_aload_n hx hb dX9_tried_120 rfl (lv_at hl 0 rfl) ?_
                refine lv_iload_n hx hb dX9_tried_121 rfl (lv_at hl 1 rfl) ?_
                refine wx_evv hC hH hl (c_X9_goMany o1 i4 h_o1) y_X9_goMany v_X9_goMany h_o1 rfl m_X9_478 rfl ⟨Nat.le_of_ble_eq_true rfl, Nat.le_of_ble_eq_true rfl⟩ ⟨Nat.le_refl _, Nat.le_refl _⟩ rfl (Nat.le_of_ble_eq_true rfl) dX9_tried_122 hF (fun _ u30 H locs hF hH => ?_)
                refine lv_aload_n hx hb dX9_tried_125 rfl (lv_at hl 0 rfl) ?_
                refine wx_evv hC hH hl (c_X9_plainTried o1 h_o1) y_X9_plainTried v_X9_plainTried h_o1 rfl m_X9_341 rfl ⟨Nat.le_of_ble_eq_true rfl, Nat.le_of_ble_eq_true rfl⟩ ⟨Nat.le_refl _, Nat.le_refl _⟩ rfl (Nat.le_of_ble_eq_true rfl) dX9_tried_126 hF (fun _ u31 H locs hF hH => ?_)
                refine lv_aload_n hx hb dX9_tried_129 rfl (lv_at hl 0 rfl) ?_
                refine lv_iconst hx hb dX9_tried_130 k_iconst_1 ?_
                refine wx_pvi hC hH hl (c_X9_fainted o1 (1 : Int32) h_o1) y_X9_fainted v_X9_fainted h_o1 rfl m_X9_484 rfl ⟨Nat.le_of_ble_eq_true rfl, Nat.le_of_ble_eq_true rfl⟩ ⟨Nat.le_refl _, Nat.le_refl _⟩ rfl (Nat.le_of_ble_eq_true rfl) dX9_tried_131 hF (fun i32 H locs hF hH => ?_)
                refine lv_aload_n hx hb dX9_tried_134 rfl (lv_at hl 0 rfl) ?_
                refine lv_iconst hx hb dX9_tried_135 k_iconst_0 ?_
                refine wx_pvi hC hH hl (c_X9_fainted o1 (0 : Int32) h_o1) y_X9_fainted v_X9_fainted h_o1 rfl m_X9_484 rfl ⟨Nat.le_of_ble_eq_true rfl, Nat.le_of_ble_eq_true rfl⟩ ⟨Nat.le_refl _, Nat.le_refl _⟩ rfl (Nat.le_of_ble_eq_true rfl) dX9_tried_136 hF (fun i33 H locs hF hH => ?_)
                refine lv_isub hx hb dX9_tried_139 ?_
                exact wx_iret hC hH hr hlk dX9_tried_140 hF
              refine lv_icmp_ne hx hb dX9_tried_109 (tgt := 116) rfl (fun h => ?_) (fun h => ?_)
              · have hF := wx_f h hF
                refine lv_iconst hx hb dX9_tried_116 k_iconst_0 ?_
                have hF := wJ_l hq26 hF
                exact hJ117 (0 : Int32) u25 H locs ls hF hH (lv_sub hl [0, 2] rfl)
              have hF := wx_t h hF
              refine lv_iconst hx hb dX9_tried_112 k_iconst_1 ?_
              refine lv_goto hx hb dX9_tried_113 (tgt := 117) rfl ?_
              have hF := wJ_l hq26 hF
              exact hJ117 (1 : Int32) u25 H locs ls hF hH (lv_sub hl [0, 2] rfl)
            refine lv_icmp_ne hx hb dX9_tried_95 (tgt := 102) rfl (fun h => ?_) (fun h => ?_)
            · have hF := wx_f h hF
              refine lv_iconst hx hb dX9_tried_102 k_iconst_0 ?_
              have hF := wJ_l hq22 hF
              exact hJ103 (0 : Int32) u21 H locs ls hF hH (lv_sub hl [0, 1, 2] rfl)
            have hF := wx_t h hF
            refine lv_iconst hx hb dX9_tried_98 k_iconst_1 ?_
            refine lv_goto hx hb dX9_tried_99 (tgt := 103) rfl ?_
            have hF := wJ_l hq22 hF
            exact hJ103 (1 : Int32) u21 H locs ls hF hH (lv_sub hl [0, 1, 2] rfl)
          refine lv_icmp_ne hx hb dX9_tried_81 (tgt := 88) rfl (fun h => ?_) (fun h => ?_)
          · have hF := wx_f h hF
            refine lv_iconst hx hb dX9_tried_88 k_iconst_m1 ?_
            have hF := wJ_l hq18 hF
            exact hJ89 (-1 : Int32) u17 H locs ls hF hH (lv_sub hl [0, 1, 3] rfl)
          have hF := wx_t h hF
          refine lv_iload_n hx hb dX9_tried_84 rfl (lv_at hl 2 rfl) ?_
          refine lv_goto hx hb dX9_tried_85 (tgt := 89) rfl ?_
          have hF := wJ_l hq18 hF
          exact hJ89 i3 u17 H locs ls hF hH (lv_sub hl [0, 1, 3] rfl)
        refine lv_icmp_ne hx hb dX9_tried_67 (tgt := 74) rfl (fun h => ?_) (fun h => ?_)
        · have hF := wx_f h hF
          refine lv_iconst hx hb dX9_tried_74 k_iconst_0 ?_
          have hF := wJ_l hq14 hF
          exact hJ75 (0 : Int32) u13 H locs ls hF hH (lv_sub hl [0, 1, 2, 3] rfl)
        have hF := wx_t h hF
        refine lv_iconst hx hb dX9_tried_70 k_iconst_1 ?_
        refine lv_goto hx hb dX9_tried_71 (tgt := 75) rfl ?_
        have hF := wJ_l hq14 hF
        exact hJ75 (1 : Int32) u13 H locs ls hF hH (lv_sub hl [0, 1, 2, 3] rfl)
      refine lv_if_ne hx hb dX9_tried_53 (tgt := 60) rfl (fun h => ?_) (fun h => ?_)
      · have hF := wx_f h hF
        refine lv_iconst hx hb dX9_tried_60 k_iconst_0 ?_
        have hF := wJ_l hq10 hF
        exact hJ61 (0 : Int32) u9 H locs ls hF hH (lv_sub hl [0, 1, 2, 3] rfl)
      have hF := wx_t h hF
      refine lv_iconst hx hb dX9_tried_56 k_iconst_1 ?_
      refine lv_goto hx hb dX9_tried_57 (tgt := 61) rfl ?_
      have hF := wJ_l hq10 hF
      exact hJ61 (1 : Int32) u9 H locs ls hF hH (lv_sub hl [0, 1, 2, 3] rfl)
    refine lv_icmp_ne hx hb dX9_tried_27 (tgt := 41) rfl (fun h => ?_) (fun h => ?_)
    · have hF := wx_f h hF
      refine lv_iload_n hx hb dX9_tried_41 rfl (lv_at hl 2 rfl) ?_
      refine lv_if_eq hx hb dX9_tried_42 (tgt := 47) rfl (fun h => ?_) (fun h => ?_)
      · have hF := wx_t h hF
        have hF := wJ_l hq8 hF
        exact hJ47 H locs ls hF hH (lv_sub hl [0, 1, 2, 3] rfl)
      have hF := wx_f h hF
      refine lv_iconst hx hb dX9_tried_45 k_iconst_m1 ?_
      have hF := wJ_r hq8 hF
      exact wx_iret hC hH hr hlk dX9_tried_46 hF
    have hF := wx_t h hF
    refine lv_aload_n hx hb dX9_tried_30 rfl (lv_at hl 0 rfl) ?_
    refine lv_iload_n hx hb dX9_tried_31 rfl (lv_at hl 2 rfl) ?_
    refine wx_pvi hC hH hl (c_X9_isGuest o1 i3 h_o1) y_X9_isGuest v_X9_isGuest h_o1 rfl m_X9_380 rfl ⟨Nat.le_of_ble_eq_true rfl, Nat.le_of_ble_eq_true rfl⟩ ⟨Nat.le_refl _, Nat.le_refl _⟩ rfl (Nat.le_of_ble_eq_true rfl) dX9_tried_32 hF (fun i34 H locs hF hH => ?_)
    refine lv_if_ne hx hb dX9_tried_35 (tgt := 47) rfl (fun h => ?_) (fun h => ?_)
    · have hF := wx_f h hF
      have hF := wJ_l hq8 hF
      exact hJ47 H locs ls hF hH (lv_sub hl [0, 1, 2, 3] rfl)
    have hF := wx_t h hF
    refine lv_goto hx hb dX9_tried_38 (tgt := 45) rfl ?_
    refine lv_iconst hx hb dX9_tried_45 k_iconst_m1 ?_
    have hF := wJ_r hq8 hF
    exact wx_iret hC hH hr hlk dX9_tried_46 hF
  exact key _ _ hH
def F_X9_take_j55 (o13 : Nat) (i5 : Int32) (i16 : Int32) (u17 : wSt) : Option ((Int32 × wSt) ⊕ (Unit × wSt)) :=
  wSZ u17 o13 i5 i16 (fun (u18 : wSt) => wB (i5 + (1 : Int32)) (fun (i19 : Int32) => some (.inl (i19, u18))))
def F_X9_take_b2 (o1 : Nat) (i3 : Int32) (o2 : Nat) (i5 : Int32) (u6 : wSt) : Option ((Int32 × wSt) ⊕ (Unit × wSt)) :=
  if (6 : Int32) ≤ i5 then (some (.inr ((), u6))) else (wR (u6.2.2 o1 51) 14 (fun o7 => wN (i3 + i5) o2 (fun j8 => wSI u6 o7 i5 (u6.1 o2 j8) (fun (u9 : wSt) => wR (u9.2.2 o1 50) 14 (fun o10 => wN ((i3 + (6 : Int32)) + i5) o2 (fun j11 => wSI u9 o10 i5 (u9.1 o2 j11) (fun (u12 : wSt) => wR (u12.2.2 o1 52) 15 (fun o13 => wN ((i3 + (12 : Int32)) + i5) o2 (fun j14 => wJ (X := Int32 × wSt) (if (u12.1 o2 j14) = (1 : Int32) then (some (.inl ((1 : Int32), u12))) else (some (.inl ((0 : Int32), u12)))) (fun x => F_X9_take_j55 o13 i5 x.1 x.2))))))))))
def F_X9_take (o1 : Nat) (o2 : Nat) (i3 : Int32) (u0 : wSt) : Option (Unit × wSt) :=
  wL (S := Int32 × wSt) (fun x => F_X9_take_b2 o1 i3 o2 x.1 x.2) wFu ((0 : Int32), u0)
set_option maxRecDepth 100000 in
set_option maxHeartbeats 4000000 in
theorem c_X9_take {l : Launch} {D : va_G} {κ : Nat → ClassId} {ρ : Nat → Nat} (o1 : Nat) (o2 : Nat) (i3 : Int32) (h_o1 : (w_sh o1).1 = 9) (h_o2 : (w_sh o2).1 = 14) : wMV l yX9_take cX9_take 4 (wRm 0 0) [.ref (ρ o1), .ref (ρ o2), .int i3] D κ ρ 1 (fun u => F_X9_take o1 o2 i3 u) := by
  refine wMV_of (F := fun u => F_X9_take o1 o2 i3 u) rfl (Nat.le_of_ble_eq_true rfl) (fun u0 z p e s m args below meth c ls A hF hC hr hlk hH hl => ?_)
  have hl : lv_has ls 4 [(0, .ref (ρ o1)), (1, .ref (ρ o2)), (2, .int i3)] := hl
  have hx := hC.1.1
  have hb := hC.1.2.1
  have hF : F_X9_take o1 o2 i3 u0 = some z := hF
  unfold F_X9_take at hF
  change W p l e (wRm 0 0) s m args below meth c s.heap [] 0 0 (wQV below args s A D κ ρ 1 z) (F0 m 0 ls [])
  have key : ∀ (H : Heap) (locs : List Loc), wHp D κ ρ 1 A s.heap H locs u0 → W p l e (wRm 0 0) s m args below meth c H locs 0 0 (wQV below args s A D κ ρ 1 z) (F0 m 0 ls []) := by
    intro H locs hH
    refine lv_iconst hx hb dX9_take_0 k_iconst_0 ?_
    refine wx_istore_n hx hb dX9_take_1 rfl hl (by decide) (fun ls hl => ?_)
    have hl : lv_has ls 4 [(3, .int (0 : Int32)), (0, .ref (ρ o1)), (1, .ref (ρ o2)), (2, .int i3)] := hl
    have hL2 : ∀ (k4_ : Nat) (i5 : Int32) (u6 : wSt) (H : Heap) (locs : List Loc) (ls : Array Slot), wL (S := Int32 × wSt) (fun x => F_X9_take_b2 o1 i3 o2 x.1 x.2) k4_ (i5, u6) = some z → wHp D κ ρ 1 A s.heap H locs u6 → lv_has ls 4 [(0, .ref (ρ o1)), (1, .ref (ρ o2)), (2, .int i3), (3, .int i5)] → W p l e (wRm 0 0) s m args below meth c H locs 0 0 (wQV below args s A D κ ρ 1 z) (F0 m 2 ls []) := by
      intro k4_
      induction k4_ with
      | zero => intro i5 u6 H locs ls hF; exact wL_zero hF
      | succ k4_ ih4 =>
        intro i5 u6 H locs ls hF hH hl
        obtain ⟨q4_, hF, hq4⟩ := wL_some hF
        have hF : F_X9_take_b2 o1 i3 o2 i5 u6 = some q4_ := hF
        unfold F_X9_take_b2 at hF
        refine lv_iload_n hx hb dX9_take_2 rfl (lv_at hl 3 rfl) ?_
        refine lv_bipush hx hb dX9_take_3 k_bipush_6 ?_
        refine lv_icmp_ge hx hb dX9_take_5 (tgt := 62) rfl (fun h => ?_) (fun h => ?_)
        · have hF := wx_t h hF
          have hF := wJ_r hq4 hF
          exact wx_vret hC hH hr hlk dX9_take_62 hF
        have hF := wx_f h hF
        refine lv_aload_n hx hb dX9_take_8 rfl (lv_at hl 0 rfl) ?_
        refine wx_getR hC hH h_o1 rfl f_X9_94 dX9_take_9 hF (fun o7 h_o7 hF => ?_)
        refine lv_iload_n hx hb dX9_take_12 rfl (lv_at hl 3 rfl) ?_
        refine lv_aload_n hx hb dX9_take_13 rfl (lv_at hl 1 rfl) ?_
        refine lv_iload_n hx hb dX9_take_14 rfl (lv_at hl 2 rfl) ?_
        refine lv_iload_n hx hb dX9_take_15 rfl (lv_at hl 3 rfl) ?_
        refine lv_iadd hx hb dX9_take_16 ?_
        refine wx_iald hC hH h_o2 ⟨rfl, rfl⟩ dX9_take_17 hF (fun j8 hF => ?_)
        refine wx_iast hC hH h_o7 ⟨rfl, rfl⟩ dX9_take_18 hF (fun u9 H locs hF hH => ?_)
        refine lv_aload_n hx hb dX9_take_19 rfl (lv_at hl 0 rfl) ?_
        refine wx_getR hC hH h_o1 rfl f_X9_91 dX9_take_20 hF (fun o10 h_o10 hF => ?_)
        refine lv_iload_n hx hb dX9_take_23 rfl (lv_at hl 3 rfl) ?_
        refine lv_aload_n hx hb dX9_take_24 rfl (lv_at hl 1 rfl) ?_
        refine lv_iload_n hx hb dX9_take_25 rfl (lv_at hl 2 rfl) ?_
        refine lv_bipush hx hb dX9_take_26 k_bipush_6 ?_
        refine lv_iadd hx hb dX9_take_28 ?_
        refine lv_iload_n hx hb dX9_take_29 rfl (lv_at hl 3 rfl) ?_
        refine lv_iadd hx hb dX9_take_30 ?_
        refine wx_iald hC hH h_o2 ⟨rfl, rfl⟩ dX9_take_31 hF (fun j11 hF => ?_)
        refine wx_iast hC hH h_o10 ⟨rfl, rfl⟩ dX9_take_32 hF (fun u12 H locs hF hH => ?_)
        refine lv_aload_n hx hb dX9_take_33 rfl (lv_at hl 0 rfl) ?_
        refine wx_getR hC hH h_o1 rfl f_X9_97 dX9_take_34 hF (fun o13 h_o13 hF => ?_)
        refine lv_iload_n hx hb dX9_take_37 rfl (lv_at hl 3 rfl) ?_
        refine lv_aload_n hx hb dX9_take_38 rfl (lv_at hl 1 rfl) ?_
        refine lv_iload_n hx hb dX9_take_39 rfl (lv_at hl 2 rfl) ?_
        refine lv_bipush hx hb dX9_take_40 k_bipush_12 ?_
        refine lv_iadd hx hb dX9_take_42 ?_
        refine lv_iload_n hx hb dX9_take_43 rfl (lv_at hl 3 rfl) ?_
        refine lv_iadd hx hb dX9_take_44 ?_
        refine wx_iald hC hH h_o2 ⟨rfl, rfl⟩ dX9_take_45 hF (fun j14 hF => ?_)
        refine lv_iconst hx hb dX9_take_46 k_iconst_1 ?_
        obtain ⟨q15_, hF, hq15⟩ := wJ_some hF
        have hJ55 : ∀ (i16 : Int32) (u17 : wSt) (H : Heap) (locs : List Loc) (ls : Array Slot), F_X9_take_j55 o13 i5 i16 u17 = some q4_ → wHp D κ ρ 1 A s.heap H locs u17 → lv_has ls 4 [(0, .ref (ρ o1)), (1, .ref (ρ o2)), (2, .int i3), (3, .int i5)] → W p l e (wRm 0 0) s m args below meth c H locs 0 0 (wQV below args s A D κ ρ 1 z) (F0 m 55 ls [.int i16, .int i5, .ref (ρ o13)]) := by
          intro i16 u17 H locs ls hF hH hl
          unfold F_X9_take_j55 at hF
          refine wx_zast hC hH h_o13 ⟨rfl, rfl⟩ dX9_take_55 hF (fun u18 H locs hF hH => ?_)
          refine wx_iinc hx hb dX9_take_56 k_iconst_1 hl (k := 3) rfl (by decide) hF (fun i19 ls hF hl => ?_)
          have hl : lv_has ls 4 [(3, .int i19), (0, .ref (ρ o1)), (1, .ref (ρ o2)), (2, .int i3)] := hl
          refine lv_goto hx hb dX9_take_59 (tgt := 2) rfl ?_
          have hF := wJ_l hq4 hF
          exact ih4 i19 u18 H locs ls hF hH (lv_sub hl [1, 2, 3, 0] rfl)
        refine lv_icmp_ne hx hb dX9_take_47 (tgt := 54) rfl (fun h => ?_) (fun h => ?_)
        · have hF := wx_f h hF
          refine lv_iconst hx hb dX9_take_54 k_iconst_0 ?_
          have hF := wJ_l hq15 hF
          exact hJ55 (0 : Int32) u12 H locs ls hF hH (lv_sub hl [0, 1, 2, 3] rfl)
        have hF := wx_t h hF
        refine lv_iconst hx hb dX9_take_50 k_iconst_1 ?_
        refine lv_goto hx hb dX9_take_51 (tgt := 55) rfl ?_
        have hF := wJ_l hq15 hF
        exact hJ55 (1 : Int32) u12 H locs ls hF hH (lv_sub hl [0, 1, 2, 3] rfl)
    exact hL2 wFu (0 : Int32) u0 H locs ls hF hH (lv_sub hl [1, 2, 3, 0] rfl)
  exact key _ _ hH
def F_X9_undo (o1 : Nat) (u0 : wSt) : Option (Int32 × wSt) :=
  wB (w_sI u0 o1 2 (0 : Int32)) (fun (u2 : wSt) => if (u2.1 o1 74) = 0 then (some ((-1 : Int32), u2)) else (wB (w_sI u2 o1 74 ((u2.1 o1 74) - (1 : Int32))) (fun (u3 : wSt) => wR (u3.2.2 o1 75) 14 (fun o4 => wC (F_X9_take o1 o4 ((18 : Int32) * (u3.1 o1 74)) u3) (fun _ (u5 : wSt) => some ((u5.1 o1 74), u5))))))
set_option maxRecDepth 100000 in
set_option maxHeartbeats 4000000 in
theorem c_X9_undo {l : Launch} {D : va_G} {κ : Nat → ClassId} {ρ : Nat → Nat} (o1 : Nat) (h_o1 : (w_sh o1).1 = 9) : wMI l yX9_undo cX9_undo 1 .int (wRm 1 23) [.ref (ρ o1)] D κ ρ 1 (fun u => F_X9_undo o1 u) := by
  refine wMI_of (F := fun u => F_X9_undo o1 u) rfl (Nat.le_of_ble_eq_true rfl) (fun u0 z p e s m args below meth c ls A hF hC hr hlk hH hl => ?_)
  have hl : lv_has ls 1 [(0, .ref (ρ o1))] := hl
  have hx := hC.1.1
  have hb := hC.1.2.1
  have hF : F_X9_undo o1 u0 = some z := hF
  unfold F_X9_undo at hF
  change W p l e (wRm 1 23) s m args below meth c s.heap [] 0 0 (wQI below args s A D κ ρ 1 z) (F0 m 0 ls [])
  have key : ∀ (H : Heap) (locs : List Loc), wHp D κ ρ 1 A s.heap H locs u0 → W p l e (wRm 1 23) s m args below meth c H locs 0 0 (wQI below args s A D κ ρ 1 z) (F0 m 0 ls []) := by
    intro H locs hH
    refine lv_aload_n hx hb dX9_undo_0 rfl (lv_at hl 0 rfl) ?_
    refine lv_iconst hx hb dX9_undo_1 k_iconst_0 ?_
    refine wx_putI hC hH h_o1 rfl f_X9_142 g_9_2 dX9_undo_2 hF (fun u2 H locs hF hH => ?_)
    refine lv_aload_n hx hb dX9_undo_5 rfl (lv_at hl 0 rfl) ?_
    refine wx_getI hC hH h_o1 rfl f_X9_347 dX9_undo_6 ?_
    refine lv_if_ne hx hb dX9_undo_9 (tgt := 14) rfl (fun h => ?_) (fun h => ?_)
    · have hF := wx_f h hF
      refine lv_aload_n hx hb dX9_undo_14 rfl (lv_at hl 0 rfl) ?_
      refine lv_dup hx hb dX9_undo_15 rfl ?_
      refine wx_getI hC hH h_o1 rfl f_X9_347 dX9_undo_16 ?_
      refine lv_iconst hx hb dX9_undo_19 k_iconst_1 ?_
      refine lv_isub hx hb dX9_undo_20 ?_
      refine wx_putI hC hH h_o1 rfl f_X9_347 g_9_74 dX9_undo_21 hF (fun u3 H locs hF hH => ?_)
      refine lv_aload_n hx hb dX9_undo_24 rfl (lv_at hl 0 rfl) ?_
      refine lv_aload_n hx hb dX9_undo_25 rfl (lv_at hl 0 rfl) ?_
      refine wx_getR hC hH h_o1 rfl f_X9_127 dX9_undo_26 hF (fun o4 h_o4 hF => ?_)
      refine lv_bipush hx hb dX9_undo_29 k_bipush_18 ?_
      refine lv_aload_n hx hb dX9_undo_31 rfl (lv_at hl 0 rfl) ?_
      refine wx_getI hC hH h_o1 rfl f_X9_347 dX9_undo_32 ?_
      refine lv_imul hx hb dX9_undo_35 ?_
      refine wx_evv hC hH hl (c_X9_take o1 o4 ((18 : Int32) * (u3.1 o1 74)) h_o1 h_o4) y_X9_take v_X9_take h_o1 rfl m_X9_540 rfl ⟨Nat.le_of_ble_eq_true rfl, Nat.le_of_ble_eq_true rfl⟩ ⟨Nat.le_refl _, Nat.le_refl _⟩ rfl (Nat.le_of_ble_eq_true rfl) dX9_undo_36 hF (fun _ u5 H locs hF hH => ?_)
      refine lv_aload_n hx hb dX9_undo_39 rfl (lv_at hl 0 rfl) ?_
      refine wx_getI hC hH h_o1 rfl f_X9_347 dX9_undo_40 ?_
      exact wx_iret hC hH hr hlk dX9_undo_43 hF
    have hF := wx_t h hF
    refine lv_iconst hx hb dX9_undo_12 k_iconst_m1 ?_
    exact wx_iret hC hH hr hlk dX9_undo_13 hF
  exact key _ _ hH

def F_X9_put_j54 (o2 : Nat) (i3 : Int32) (i5 : Int32) (i16 : Int32) (u17 : wSt) : Option ((Int32 × wSt) ⊕ (Unit × wSt)) :=
  wSI u17 o2 ((i3 + (12 : Int32)) + i5) i16 (fun (u18 : wSt) => wB (i5 + (1 : Int32)) (fun (i19 : Int32) => some (.inl (i19, u18))))
def F_X9_put_b2 (o1 : Nat) (o2 : Nat) (i3 : Int32) (i5 : Int32) (u6 : wSt) : Option ((Int32 × wSt) ⊕ (Unit × wSt)) :=
  if (6 : Int32) ≤ i5 then (some (.inr ((), u6))) else (wR (u6.2.2 o1 51) 14 (fun o7 => wN i5 o7 (fun j8 => wSI u6 o2 (i3 + i5) (u6.1 o7 j8) (fun (u9 : wSt) => wR (u9.2.2 o1 50) 14 (fun o10 => wN i5 o10 (fun j11 => wSI u9 o2 ((i3 + (6 : Int32)) + i5) (u9.1 o10 j11) (fun (u12 : wSt) => wR (u12.2.2 o1 52) 15 (fun o13 => wN i5 o13 (fun j14 => wJ (X := Int32 × wSt) (if (u12.1 o13 j14) = 0 then (some (.inl ((0 : Int32), u12))) else (some (.inl ((1 : Int32), u12)))) (fun x => F_X9_put_j54 o2 i3 i5 x.1 x.2))))))))))
def F_X9_put (o1 : Nat) (o2 : Nat) (i3 : Int32) (u0 : wSt) : Option (Unit × wSt) :=
  wL (S := Int32 × wSt) (fun x => F_X9_put_b2 o1 o2 i3 x.1 x.2) wFu ((0 : Int32), u0)
set_option maxRecDepth 100000 in
set_option maxHeartbeats 4000000 in
theorem c_X9_put {l : Launch} {D : va_G} {κ : Nat → ClassId} {ρ : Nat → Nat} (o1 : Nat) (o2 : Nat) (i3 : Int32) (h_o1 : (w_sh o1).1 = 9) (h_o2 : (w_sh o2).1 = 14) : wMV l yX9_put cX9_put 4 (wRm 0 0) [.ref (ρ o1), .ref (ρ o2), .int i3] D κ ρ 1 (fun u => F_X9_put o1 o2 i3 u) := by
  refine wMV_of (F := fun u => F_X9_put o1 o2 i3 u) rfl (Nat.le_of_ble_eq_true rfl) (fun u0 z p e s m args below meth c ls A hF hC hr hlk hH hl => ?_)
  have hl : lv_has ls 4 [(0, .ref (ρ o1)), (1, .ref (ρ o2)), (2, .int i3)] := hl
  have hx := hC.1.1
  have hb := hC.1.2.1
  have hF : F_X9_put o1 o2 i3 u0 = some z := hF
  unfold F_X9_put at hF
  change W p l e (wRm 0 0) s m args below meth c s.heap [] 0 0 (wQV below args s A D κ ρ 1 z) (F0 m 0 ls [])
  have key : ∀ (H : Heap) (locs : List Loc), wHp D κ ρ 1 A s.heap H locs u0 → W p l e (wRm 0 0) s m args below meth c H locs 0 0 (wQV below args s A D κ ρ 1 z) (F0 m 0 ls []) := by
    intro H locs hH
    refine lv_iconst hx hb dX9_put_0 k_iconst_0 ?_
    refine wx_istore_n hx hb dX9_put_1 rfl hl (by decide) (fun ls hl => ?_)
    have hl : lv_has ls 4 [(3, .int (0 : Int32)), (0, .ref (ρ o1)), (1, .ref (ρ o2)), (2, .int i3)] := hl
    have hL2 : ∀ (k4_ : Nat) (i5 : Int32) (u6 : wSt) (H : Heap) (locs : List Loc) (ls : Array Slot), wL (S := Int32 × wSt) (fun x => F_X9_put_b2 o1 o2 i3 x.1 x.2) k4_ (i5, u6) = some z → wHp D κ ρ 1 A s.heap H locs u6 → lv_has ls 4 [(0, .ref (ρ o1)), (1, .ref (ρ o2)), (2, .int i3), (3, .int i5)] → W p l e (wRm 0 0) s m args below meth c H locs 0 0 (wQV below args s A D κ ρ 1 z) (F0 m 2 ls []) := by
      intro k4_
      induction k4_ with
      | zero => intro i5 u6 H locs ls hF; exact wL_zero hF
      | succ k4_ ih4 =>
        intro i5 u6 H locs ls hF hH hl
        obtain ⟨q4_, hF, hq4⟩ := wL_some hF
        have hF : F_X9_put_b2 o1 o2 i3 i5 u6 = some q4_ := hF
        unfold F_X9_put_b2 at hF
        refine lv_iload_n hx hb dX9_put_2 rfl (lv_at hl 3 rfl) ?_
        refine lv_bipush hx hb dX9_put_3 k_bipush_6 ?_
        refine lv_icmp_ge hx hb dX9_put_5 (tgt := 61) rfl (fun h => ?_) (fun h => ?_)
        · have hF := wx_t h hF
          have hF := wJ_r hq4 hF
          exact wx_vret hC hH hr hlk dX9_put_61 hF
        have hF := wx_f h hF
        refine lv_aload_n hx hb dX9_put_8 rfl (lv_at hl 1 rfl) ?_
        refine lv_iload_n hx hb dX9_put_9 rfl (lv_at hl 2 rfl) ?_
        refine lv_iload_n hx hb dX9_put_10 rfl (lv_at hl 3 rfl) ?_
        refine lv_iadd hx hb dX9_put_11 ?_
        refine lv_aload_n hx hb dX9_put_12 rfl (lv_at hl 0 rfl) ?_
        refine wx_getR hC hH h_o1 rfl f_X9_94 dX9_put_13 hF (fun o7 h_o7 hF => ?_)
        refine lv_iload_n hx hb dX9_put_16 rfl (lv_at hl 3 rfl) ?_
        refine wx_iald hC hH h_o7 ⟨rfl, rfl⟩ dX9_put_17 hF (fun j8 hF => ?_)
        refine wx_iast hC hH h_o2 ⟨rfl, rfl⟩ dX9_put_18 hF (fun u9 H locs hF hH => ?_)
        refine lv_aload_n hx hb dX9_put_19 rfl (lv_at hl 1 rfl) ?_
        refine lv_iload_n hx hb dX9_put_20 rfl (lv_at hl 2 rfl) ?_
        refine lv_bipush hx hb dX9_put_21 k_bipush_6 ?_
        refine lv_iadd hx hb dX9_put_23 ?_
        refine lv_iload_n hx hb dX9_put_24 rfl (lv_at hl 3 rfl) ?_
        refine lv_iadd hx hb dX9_put_25 ?_
        refine lv_aload_n hx hb dX9_put_26 rfl (lv_at hl 0 rfl) ?_
        refine wx_getR hC hH h_o1 rfl f_X9_91 dX9_put_27 hF (fun o10 h_o10 hF => ?_)
        refine lv_iload_n hx hb dX9_put_30 rfl (lv_at hl 3 rfl) ?_
        refine wx_iald hC hH h_o10 ⟨rfl, rfl⟩ dX9_put_31 hF (fun j11 hF => ?_)
        refine wx_iast hC hH h_o2 ⟨rfl, rfl⟩ dX9_put_32 hF (fun u12 H locs hF hH => ?_)
        refine lv_aload_n hx hb dX9_put_33 rfl (lv_at hl 1 rfl) ?_
        refine lv_iload_n hx hb dX9_put_34 rfl (lv_at hl 2 rfl) ?_
        refine lv_bipush hx hb dX9_put_35 k_bipush_12 ?_
        refine lv_iadd hx hb dX9_put_37 ?_
        refine lv_iload_n hx hb dX9_put_38 rfl (lv_at hl 3 rfl) ?_
        refine lv_iadd hx hb dX9_put_39 ?_
        refine lv_aload_n hx hb dX9_put_40 rfl (lv_at hl 0 rfl) ?_
        refine wx_getR hC hH h_o1 rfl f_X9_97 dX9_put_41 hF (fun o13 h_o13 hF => ?_)
        refine lv_iload_n hx hb dX9_put_44 rfl (lv_at hl 3 rfl) ?_
        refine wx_zald hC hH h_o13 ⟨rfl, rfl⟩ dX9_put_45 hF (fun j14 hF => ?_)
        obtain ⟨q15_, hF, hq15⟩ := wJ_some hF
        have hJ54 : ∀ (i16 : Int32) (u17 : wSt) (H : Heap) (locs : List Loc) (ls : Array Slot), F_X9_put_j54 o2 i3 i5 i16 u17 = some q4_ → wHp D κ ρ 1 A s.heap H locs u17 → lv_has ls 4 [(0, .ref (ρ o1)), (1, .ref (ρ o2)), (2, .int i3), (3, .int i5)] → W p l e (wRm 0 0) s m args below meth c H locs 0 0 (wQV below args s A D κ ρ 1 z) (F0 m 54 ls [.int i16, .int ((i3 + (12 : Int32)) + i5), .ref (ρ o2)]) := by
          intro i16 u17 H locs ls hF hH hl
          unfold F_X9_put_j54 at hF
          refine wx_iast hC hH h_o2 ⟨rfl, rfl⟩ dX9_put_54 hF (fun u18 H locs hF hH => ?_)
          refine wx_iinc hx hb dX9_put_55 k_iconst_1 hl (k := 3) rfl (by decide) hF (fun i19 ls hF hl => ?_)
          have hl : lv_has ls 4 [(3, .int i19), (0, .ref (ρ o1)), (1, .ref (ρ o2)), (2, .int i3)] := hl
          refine lv_goto hx hb dX9_put_58 (tgt := 2) rfl ?_
          have hF := wJ_l hq4 hF
          exact ih4 i19 u18 H locs ls hF hH (lv_sub hl [1, 2, 3, 0] rfl)
        refine lv_if_eq hx hb dX9_put_46 (tgt := 53) rfl (fun h => ?_) (fun h => ?_)
        · have hF := wx_t h hF
          refine lv_iconst hx hb dX9_put_53 k_iconst_0 ?_
          have hF := wJ_l hq15 hF
          exact hJ54 (0 : Int32) u12 H locs ls hF hH (lv_sub hl [0, 1, 2, 3] rfl)
        have hF := wx_f h hF
        refine lv_iconst hx hb dX9_put_49 k_iconst_1 ?_
        refine lv_goto hx hb dX9_put_50 (tgt := 54) rfl ?_
        have hF := wJ_l hq15 hF
        exact hJ54 (1 : Int32) u12 H locs ls hF hH (lv_sub hl [0, 1, 2, 3] rfl)
    exact hL2 wFu (0 : Int32) u0 H locs ls hF hH (lv_sub hl [1, 2, 3, 0] rfl)
  exact key _ _ hH
def F_X9_remember_j49 (o1 : Nat) (u3 : wSt) : Option (Unit × wSt) :=
  wR (u3.2.2 o1 75) 14 (fun o4 => wC (F_X9_put o1 o4 ((18 : Int32) * (u3.1 o1 74)) u3) (fun _ (u5 : wSt) => wB (w_sI u5 o1 74 ((u5.1 o1 74) + (1 : Int32))) (fun (u6 : wSt) => some ((), u6))))
def F_X9_remember_j39 (o1 : Nat) (u8 : wSt) : Option ((wSt) ⊕ (Unit × wSt)) :=
  wB (w_sI u8 o1 74 ((u8.1 o1 74) - (1 : Int32))) (fun (u9 : wSt) => some (.inl u9))
def F_X9_remember_b11 (o1 : Nat) (i11 : Int32) (u12 : wSt) : Option ((Int32 × wSt) ⊕ ((wSt) ⊕ ((wSt) ⊕ (Unit × wSt)))) :=
  if (342 : Int32) ≤ i11 then (some (.inr (.inl u12))) else (wR (u12.2.2 o1 75) 14 (fun o13 => wR (u12.2.2 o1 75) 14 (fun o14 => wN (i11 + (18 : Int32)) o14 (fun j15 => wSI u12 o13 i11 (u12.1 o14 j15) (fun (u16 : wSt) => wB (i11 + (1 : Int32)) (fun (i17 : Int32) => some (.inl (i17, u16))))))))
def F_X9_remember (o1 : Nat) (u0 : wSt) : Option (Unit × wSt) :=
  wJ (X := wSt) (if (u0.1 o1 74) = (20 : Int32) then (wJ (X := wSt) (wL (S := Int32 × wSt) (fun x => F_X9_remember_b11 o1 x.1 x.2) wFu ((0 : Int32), u0)) (fun x => F_X9_remember_j39 o1 x)) else (some (.inl u0))) (fun x => F_X9_remember_j49 o1 x)
set_option maxRecDepth 100000 in
set_option maxHeartbeats 4000000 in
theorem c_X9_remember {l : Launch} {D : va_G} {κ : Nat → ClassId} {ρ : Nat → Nat} (o1 : Nat) (h_o1 : (w_sh o1).1 = 9) : wMV l yX9_remember cX9_remember 2 (wRm 1 23) [.ref (ρ o1)] D κ ρ 1 (fun u => F_X9_remember o1 u) := by
  refine wMV_of (F := fun u => F_X9_remember o1 u) rfl (Nat.le_of_ble_eq_true rfl) (fun u0 z p e s m args below meth c ls A hF hC hr hlk hH hl => ?_)
  have hl : lv_has ls 2 [(0, .ref (ρ o1))] := hl
  have hx := hC.1.1
  have hb := hC.1.2.1
  have hF : F_X9_remember o1 u0 = some z := hF
  unfold F_X9_remember at hF
  change W p l e (wRm 1 23) s m args below meth c s.heap [] 0 0 (wQV below args s A D κ ρ 1 z) (F0 m 0 ls [])
  have key : ∀ (H : Heap) (locs : List Loc), wHp D κ ρ 1 A s.heap H locs u0 → W p l e (wRm 1 23) s m args below meth c H locs 0 0 (wQV below args s A D κ ρ 1 z) (F0 m 0 ls []) := by
    intro H locs hH
    refine lv_aload_n hx hb dX9_remember_0 rfl (lv_at hl 0 rfl) ?_
    refine wx_getI hC hH h_o1 rfl f_X9_347 dX9_remember_1 ?_
    refine lv_bipush hx hb dX9_remember_4 k_bipush_20 ?_
    obtain ⟨q2_, hF, hq2⟩ := wJ_some hF
    have hJ49 : ∀ (u3 : wSt) (H : Heap) (locs : List Loc) (ls : Array Slot), F_X9_remember_j49 o1 u3 = some z → wHp D κ ρ 1 A s.heap H locs u3 → lv_has ls 2 [(0, .ref (ρ o1))] → W p l e (wRm 1 23) s m args below meth c H locs 0 0 (wQV below args s A D κ ρ 1 z) (F0 m 49 ls []) := by
      intro u3 H locs ls hF hH hl
      unfold F_X9_remember_j49 at hF
      refine lv_aload_n hx hb dX9_remember_49 rfl (lv_at hl 0 rfl) ?_
      refine lv_aload_n hx hb dX9_remember_50 rfl (lv_at hl 0 rfl) ?_
      refine wx_getR hC hH h_o1 rfl f_X9_127 dX9_remember_51 hF (fun o4 h_o4 hF => ?_)
      refine lv_bipush hx hb dX9_remember_54 k_bipush_18 ?_
      refine lv_aload_n hx hb dX9_remember_56 rfl (lv_at hl 0 rfl) ?_
      refine wx_getI hC hH h_o1 rfl f_X9_347 dX9_remember_57 ?_
      refine lv_imul hx hb dX9_remember_60 ?_
      refine wx_evv hC hH hl (c_X9_put o1 o4 ((18 : Int32) * (u3.1 o1 74)) h_o1 h_o4) y_X9_put v_X9_put h_o1 rfl m_X9_537 rfl ⟨Nat.le_of_ble_eq_true rfl, Nat.le_of_ble_eq_true rfl⟩ ⟨Nat.le_refl _, Nat.le_refl _⟩ rfl (Nat.le_of_ble_eq_true rfl) dX9_remember_61 hF (fun _ u5 H locs hF hH => ?_)
      refine lv_aload_n hx hb dX9_remember_64 rfl (lv_at hl 0 rfl) ?_
      refine lv_dup hx hb dX9_remember_65 rfl ?_
      refine wx_getI hC hH h_o1 rfl f_X9_347 dX9_remember_66 ?_
      refine lv_iconst hx hb dX9_remember_69 k_iconst_1 ?_
      refine lv_iadd hx hb dX9_remember_70 ?_
      refine wx_putI hC hH h_o1 rfl f_X9_347 g_9_74 dX9_remember_71 hF (fun u6 H locs hF hH => ?_)
      exact wx_vret hC hH hr hlk dX9_remember_74 hF
    refine lv_icmp_ne hx hb dX9_remember_6 (tgt := 49) rfl (fun h => ?_) (fun h => ?_)
    · have hF := wx_f h hF
      have hF := wJ_l hq2 hF
      exact hJ49 u0 H locs ls hF hH (lv_sub hl [0] rfl)
    have hF := wx_t h hF
    refine lv_iconst hx hb dX9_remember_9 k_iconst_0 ?_
    refine wx_istore_n hx hb dX9_remember_10 rfl hl (by decide) (fun ls hl => ?_)
    have hl : lv_has ls 2 [(1, .int (0 : Int32)), (0, .ref (ρ o1))] := hl
    obtain ⟨q7_, hF, hq7⟩ := wJ_some hF
    have hJ39 : ∀ (u8 : wSt) (H : Heap) (locs : List Loc) (ls : Array Slot), F_X9_remember_j39 o1 u8 = some q2_ → wHp D κ ρ 1 A s.heap H locs u8 → lv_has ls 2 [(0, .ref (ρ o1))] → W p l e (wRm 1 23) s m args below meth c H locs 0 0 (wQV below args s A D κ ρ 1 z) (F0 m 39 ls []) := by
      intro u8 H locs ls hF hH hl
      unfold F_X9_remember_j39 at hF
      refine lv_aload_n hx hb dX9_remember_39 rfl (lv_at hl 0 rfl) ?_
      refine lv_dup hx hb dX9_remember_40 rfl ?_
      refine wx_getI hC hH h_o1 rfl f_X9_347 dX9_remember_41 ?_
      refine lv_iconst hx hb dX9_remember_44 k_iconst_1 ?_
      refine lv_isub hx hb dX9_remember_45 ?_
      refine wx_putI hC hH h_o1 rfl f_X9_347 g_9_74 dX9_remember_46 hF (fun u9 H locs hF hH => ?_)
      have hF := wJ_l hq2 hF
      exact hJ49 u9 H locs ls hF hH (lv_sub hl [0] rfl)
    have hL11 : ∀ (k10_ : Nat) (i11 : Int32) (u12 : wSt) (H : Heap) (locs : List Loc) (ls : Array Slot), wL (S := Int32 × wSt) (fun x => F_X9_remember_b11 o1 x.1 x.2) k10_ (i11, u12) = some q7_ → wHp D κ ρ 1 A s.heap H locs u12 → lv_has ls 2 [(0, .ref (ρ o1)), (1, .int i11)] → W p l e (wRm 1 23) s m args below meth c H locs 0 0 (wQV below args s A D κ ρ 1 z) (F0 m 11 ls []) := by
      intro k10_
      induction k10_ with
      | zero => intro i11 u12 H locs ls hF; exact wL_zero hF
      | succ k10_ ih10 =>
        intro i11 u12 H locs ls hF hH hl
        obtain ⟨q10_, hF, hq10⟩ := wL_some hF
        have hF : F_X9_remember_b11 o1 i11 u12 = some q10_ := hF
        unfold F_X9_remember_b11 at hF
        refine lv_iload_n hx hb dX9_remember_11 rfl (lv_at hl 1 rfl) ?_
        refine lv_sipush hx hb dX9_remember_12 k_sipush_342 ?_
        refine lv_icmp_ge hx hb dX9_remember_15 (tgt := 39) rfl (fun h => ?_) (fun h => ?_)
        · have hF := wx_t h hF
          have hF := wJ_r hq10 hF
          have hF := wJ_l hq7 hF
          exact hJ39 u12 H locs ls hF hH (lv_sub hl [0] rfl)
        have hF := wx_f h hF
        refine lv_aload_n hx hb dX9_remember_18 rfl (lv_at hl 0 rfl) ?_
        refine wx_getR hC hH h_o1 rfl f_X9_127 dX9_remember_19 hF (fun o13 h_o13 hF => ?_)
        refine lv_iload_n hx hb dX9_remember_22 rfl (lv_at hl 1 rfl) ?_
        refine lv_aload_n hx hb dX9_remember_23 rfl (lv_at hl 0 rfl) ?_
        refine wx_getR hC hH h_o1 rfl f_X9_127 dX9_remember_24 hF (fun o14 h_o14 hF => ?_)
        refine lv_iload_n hx hb dX9_remember_27 rfl (lv_at hl 1 rfl) ?_
        refine lv_bipush hx hb dX9_remember_28 k_bipush_18 ?_
        refine lv_iadd hx hb dX9_remember_30 ?_
        refine wx_iald hC hH h_o14 ⟨rfl, rfl⟩ dX9_remember_31 hF (fun j15 hF => ?_)
        refine wx_iast hC hH h_o13 ⟨rfl, rfl⟩ dX9_remember_32 hF (fun u16 H locs hF hH => ?_)
        refine wx_iinc hx hb dX9_remember_33 k_iconst_1 hl (k := 1) rfl (by decide) hF (fun i17 ls hF hl => ?_)
        have hl : lv_has ls 2 [(1, .int i17), (0, .ref (ρ o1))] := hl
        refine lv_goto hx hb dX9_remember_36 (tgt := 11) rfl ?_
        have hF := wJ_l hq10 hF
        exact ih10 i17 u16 H locs ls hF hH (lv_sub hl [1, 0] rfl)
    exact hL11 wFu (0 : Int32) u0 H locs ls hF hH (lv_sub hl [1, 0] rfl)
  exact key _ _ hH
def F_X9_seat (o1 : Nat) (i2 : Int32) (i3 : Int32) (u0 : wSt) : Option (Int32 × wSt) :=
  wB (w_sI u0 o1 2 (0 : Int32)) (fun (u4 : wSt) => wP (F_X9_areTwo o1 i2 i3 u4) (fun (i5 : Int32) => if i5 = 0 then (some ((0 : Int32), u4)) else (wC (F_X9_remember o1 u4) (fun _ (u6 : wSt) => wR (u6.2.2 o1 51) 14 (fun o7 => wN i2 o7 (fun j8 => wB (u6.1 o7 j8) (fun (i9 : Int32) => wR (u6.2.2 o1 51) 14 (fun o10 => wR (u6.2.2 o1 51) 14 (fun o11 => wN i3 o11 (fun j12 => wSI u6 o10 i2 (u6.1 o11 j12) (fun (u13 : wSt) => wR (u13.2.2 o1 51) 14 (fun o14 => wSI u13 o14 i3 i9 (fun (u15 : wSt) => some ((1 : Int32), u15))))))))))))))
set_option maxRecDepth 100000 in
set_option maxHeartbeats 4000000 in
theorem c_X9_seat {l : Launch} {D : va_G} {κ : Nat → ClassId} {ρ : Nat → Nat} (o1 : Nat) (i2 : Int32) (i3 : Int32) (h_o1 : (w_sh o1).1 = 9) : wMI l yX9_seat cX9_seat 4 .boolean (wRm 2 44) [.ref (ρ o1), .int i2, .int i3] D κ ρ 1 (fun u => F_X9_seat o1 i2 i3 u) := by
  refine wMI_of (F := fun u => F_X9_seat o1 i2 i3 u) rfl (Nat.le_of_ble_eq_true rfl) (fun u0 z p e s m args below meth c ls A hF hC hr hlk hH hl => ?_)
  have hl : lv_has ls 4 [(0, .ref (ρ o1)), (1, .int i2), (2, .int i3)] := hl
  have hx := hC.1.1
  have hb := hC.1.2.1
  have hF : F_X9_seat o1 i2 i3 u0 = some z := hF
  unfold F_X9_seat at hF
  change W p l e (wRm 2 44) s m args below meth c s.heap [] 0 0 (wQI below args s A D κ ρ 1 z) (F0 m 0 ls [])
  have key : ∀ (H : Heap) (locs : List Loc), wHp D κ ρ 1 A s.heap H locs u0 → W p l e (wRm 2 44) s m args below meth c H locs 0 0 (wQI below args s A D κ ρ 1 z) (F0 m 0 ls []) := by
    intro H locs hH
    refine lv_aload_n hx hb dX9_seat_0 rfl (lv_at hl 0 rfl) ?_
    refine lv_iconst hx hb dX9_seat_1 k_iconst_0 ?_
    refine wx_putI hC hH h_o1 rfl f_X9_142 g_9_2 dX9_seat_2 hF (fun u4 H locs hF hH => ?_)
    refine lv_aload_n hx hb dX9_seat_5 rfl (lv_at hl 0 rfl) ?_
    refine lv_iload_n hx hb dX9_seat_6 rfl (lv_at hl 1 rfl) ?_
    refine lv_iload_n hx hb dX9_seat_7 rfl (lv_at hl 2 rfl) ?_
    refine wx_pvi hC hH hl (c_X9_areTwo o1 i2 i3 h_o1) y_X9_areTwo v_X9_areTwo h_o1 rfl m_X9_469 rfl ⟨Nat.le_of_ble_eq_true rfl, Nat.le_of_ble_eq_true rfl⟩ ⟨Nat.le_refl _, Nat.le_refl _⟩ rfl (Nat.le_of_ble_eq_true rfl) dX9_seat_8 hF (fun i5 H locs hF hH => ?_)
    refine lv_if_ne hx hb dX9_seat_11 (tgt := 16) rfl (fun h => ?_) (fun h => ?_)
    · have hF := wx_f h hF
      refine lv_aload_n hx hb dX9_seat_16 rfl (lv_at hl 0 rfl) ?_
      refine wx_evv hC hH hl (c_X9_remember o1 h_o1) y_X9_remember v_X9_remember h_o1 rfl m_X9_472 rfl ⟨Nat.le_of_ble_eq_true rfl, Nat.le_of_ble_eq_true rfl⟩ ⟨Nat.le_refl _, Nat.le_refl _⟩ rfl (Nat.le_of_ble_eq_true rfl) dX9_seat_17 hF (fun _ u6 H locs hF hH => ?_)
      refine lv_aload_n hx hb dX9_seat_20 rfl (lv_at hl 0 rfl) ?_
      refine wx_getR hC hH h_o1 rfl f_X9_94 dX9_seat_21 hF (fun o7 h_o7 hF => ?_)
      refine lv_iload_n hx hb dX9_seat_24 rfl (lv_at hl 1 rfl) ?_
      refine wx_iald hC hH h_o7 ⟨rfl, rfl⟩ dX9_seat_25 hF (fun j8 hF => ?_)
      refine wx_leti hF (fun i9 hF => ?_)
      refine wx_istore_n hx hb dX9_seat_26 rfl hl (by decide) (fun ls hl => ?_)
      have hl : lv_has ls 4 [(3, .int i9), (0, .ref (ρ o1)), (1, .int i2), (2, .int i3)] := hl
      refine lv_aload_n hx hb dX9_seat_27 rfl (lv_at hl 1 rfl) ?_
      refine wx_getR hC hH h_o1 rfl f_X9_94 dX9_seat_28 hF (fun o10 h_o10 hF => ?_)
      refine lv_iload_n hx hb dX9_seat_31 rfl (lv_at hl 2 rfl) ?_
      refine lv_aload_n hx hb dX9_seat_32 rfl (lv_at hl 1 rfl) ?_
      refine wx_getR hC hH h_o1 rfl f_X9_94 dX9_seat_33 hF (fun o11 h_o11 hF => ?_)
      refine lv_iload_n hx hb dX9_seat_36 rfl (lv_at hl 3 rfl) ?_
      refine wx_iald hC hH h_o11 ⟨rfl, rfl⟩ dX9_seat_37 hF (fun j12 hF => ?_)
      refine wx_iast hC hH h_o10 ⟨rfl, rfl⟩ dX9_seat_38 hF (fun u13 H locs hF hH => ?_)
      refine lv_aload_n hx hb dX9_seat_39 rfl (lv_at hl 1 rfl) ?_
      refine wx_getR hC hH h_o1 rfl f_X9_94 dX9_seat_40 hF (fun o14 h_o14 hF => ?_)
      refine lv_iload_n hx hb dX9_seat_43 rfl (lv_at hl 3 rfl) ?_
      refine lv_iload_n hx hb dX9_seat_44 rfl (lv_at hl 0 rfl) ?_
      refine wx_iast hC hH h_o14 ⟨rfl, rfl⟩ dX9_seat_45 hF (fun u15 H locs hF hH => ?_)
      refine lv_iconst hx hb dX9_seat_46 k_iconst_1 ?_
      exact wx_zret hC hH hr hlk dX9_seat_47 (Or.inr rfl) hF
    have hF := wx_t h hF
    refine lv_iconst hx hb dX9_seat_14 k_iconst_0 ?_
    exact wx_zret hC hH hr hlk dX9_seat_15 (Or.inl rfl) hF
  exact key _ _ hH
def F_X9_bread_j65 (o10 : Nat) (i2 : Int32) (o1 : Nat) (i14 : Int32) (u15 : wSt) : Option (Int32 × wSt) :=
  wSI u15 o10 i2 i14 (fun (u16 : wSt) => wR (u16.2.2 o1 50) 14 (fun o17 => wN i2 o17 (fun j18 => some ((u16.1 o17 j18), u16))))
def F_X9_bread (o1 : Nat) (i2 : Int32) (i3 : Int32) (u0 : wSt) : Option (Int32 × wSt) :=
  wB (w_sI u0 o1 2 (0 : Int32)) (fun (u4 : wSt) => wP (F_X9_isGuest o1 i2 u4) (fun (i5 : Int32) => if i5 = 0 then (some ((-1 : Int32), u4)) else (wR (u4.2.2 o1 52) 15 (fun o6 => wN i2 o6 (fun j7 => if (u4.1 o6 j7) = 0 then (some ((-1 : Int32), u4)) else (wP (F_X9_isIn i3 (1 : Int32) (99 : Int32) u4) (fun (i8 : Int32) => if i8 = 0 then (some ((-1 : Int32), u4)) else (wC (F_X9_remember o1 u4) (fun _ (u9 : wSt) => wR (u9.2.2 o1 50) 14 (fun o10 => wR (u9.2.2 o1 50) 14 (fun o11 => wN i2 o11 (fun j12 => wJ (X := Int32 × wSt) (if (u9.1 o11 j12) ≤ i3 then (some (.inl ((0 : Int32), u9))) else (wR (u9.2.2 o1 50) 14 (fun o19 => wN i2 o19 (fun j20 => some (.inl (((u9.1 o19 j20) - i3), u9)))))) (fun x => F_X9_bread_j65 o10 i2 o1 x.1 x.2)))))))))))))
set_option maxRecDepth 100000 in
set_option maxHeartbeats 4000000 in
theorem c_X9_bread {l : Launch} {D : va_G} {κ : Nat → ClassId} {ρ : Nat → Nat} (o1 : Nat) (i2 : Int32) (i3 : Int32) (h_o1 : (w_sh o1).1 = 9) : wMI l yX9_bread cX9_bread 3 .int (wRm 2 44) [.ref (ρ o1), .int i2, .int i3] D κ ρ 1 (fun u => F_X9_bread o1 i2 i3 u) := by
  refine wMI_of (F := fun u => F_X9_bread o1 i2 i3 u) rfl (Nat.le_of_ble_eq_true rfl) (fun u0 z p e s m args below meth c ls A hF hC hr hlk hH hl => ?_)
  have hl : lv_has ls 3 [(0, .ref (ρ o1)), (1, .int i2), (2, .int i3)] := hl
  have hx := hC.1.1
  have hb := hC.1.2.1
  have hF : F_X9_bread o1 i2 i3 u0 = some z := hF
  unfold F_X9_bread at hF
  change W p l e (wRm 2 44) s m args below meth c s.heap [] 0 0 (wQI below args s A D κ ρ 1 z) (F0 m 0 ls [])
  have key : ∀ (H : Heap) (locs : List Loc), wHp D κ ρ 1 A s.heap H locs u0 → W p l e (wRm 2 44) s m args below meth c H locs 0 0 (wQI below args s A D κ ρ 1 z) (F0 m 0 ls []) := by
    intro H locs hH
    refine lv_aload_n hx hb dX9_bread_0 rfl (lv_at hl 0 rfl) ?_
    refine lv_iconst hx hb dX9_bread_1 k_iconst_0 ?_
    refine wx_putI hC hH h_o1 rfl f_X9_142 g_9_2 dX9_bread_2 hF (fun u4 H locs hF hH => ?_)
    refine lv_aload_n hx hb dX9_bread_5 rfl (lv_at hl 0 rfl) ?_
    refine lv_iload_n hx hb dX9_bread_6 rfl (lv_at hl 1 rfl) ?_
    refine wx_pvi hC hH hl (c_X9_isGuest o1 i2 h_o1) y_X9_isGuest v_X9_isGuest h_o1 rfl m_X9_380 rfl ⟨Nat.le_of_ble_eq_true rfl, Nat.le_of_ble_eq_true rfl⟩ ⟨Nat.le_refl _, Nat.le_refl _⟩ rfl (Nat.le_of_ble_eq_true rfl) dX9_bread_7 hF (fun i5 H locs hF hH => ?_)
    refine lv_if_eq hx hb dX9_bread_10 (tgt := 32) rfl (fun h => ?_) (fun h => ?_)
    · have hF := wx_t h hF
      refine lv_iconst hx hb dX9_bread_32 k_iconst_m1 ?_
      exact wx_iret hC hH hr hlk dX9_bread_33 hF
    have hF := wx_f h hF
    refine lv_aload_n hx hb dX9_bread_13 rfl (lv_at hl 0 rfl) ?_
    refine wx_getR hC hH h_o1 rfl f_X9_97 dX9_bread_14 hF (fun o6 h_o6 hF => ?_)
    refine lv_iload_n hx hb dX9_bread_17 rfl (lv_at hl 1 rfl) ?_
    refine wx_zald hC hH h_o6 ⟨rfl, rfl⟩ dX9_bread_18 hF (fun j7 hF => ?_)
    refine lv_if_eq hx hb dX9_bread_19 (tgt := 32) rfl (fun h => ?_) (fun h => ?_)
    · have hF := wx_t h hF
      refine lv_iconst hx hb dX9_bread_32 k_iconst_m1 ?_
      exact wx_iret hC hH hr hlk dX9_bread_33 hF
    have hF := wx_f h hF
    refine lv_iload_n hx hb dX9_bread_22 rfl (lv_at hl 2 rfl) ?_
    refine lv_iconst hx hb dX9_bread_23 k_iconst_1 ?_
    refine lv_bipush hx hb dX9_bread_24 k_bipush_99 ?_
    refine wx_psi hC hH hl (c_X9_isIn i3 (1 : Int32) (99 : Int32)) y_X9_isIn v_X9_isIn m_X9_187 rfl ⟨Nat.le_of_ble_eq_true rfl, Nat.le_of_ble_eq_true rfl⟩ ⟨Nat.le_refl _, Nat.le_refl _⟩ rfl (Nat.le_of_ble_eq_true rfl) dX9_bread_26 hF (fun i8 H locs hF hH => ?_)
    refine lv_if_ne hx hb dX9_bread_29 (tgt := 34) rfl (fun h => ?_) (fun h => ?_)
    · have hF := wx_f h hF
      refine lv_aload_n hx hb dX9_bread_34 rfl (lv_at hl 0 rfl) ?_
      refine wx_evv hC hH hl (c_X9_remember o1 h_o1) y_X9_remember v_X9_remember h_o1 rfl m_X9_472 rfl ⟨Nat.le_of_ble_eq_true rfl, Nat.le_of_ble_eq_true rfl⟩ ⟨Nat.le_refl _, Nat.le_refl _⟩ rfl (Nat.le_of_ble_eq_true rfl) dX9_bread_35 hF (fun _ u9 H locs hF hH => ?_)
      refine lv_aload_n hx hb dX9_bread_38 rfl (lv_at hl 0 rfl) ?_
      refine wx_getR hC hH h_o1 rfl f_X9_91 dX9_bread_39 hF (fun o10 h_o10 hF => ?_)
      refine lv_iload_n hx hb dX9_bread_42 rfl (lv_at hl 1 rfl) ?_
      refine lv_aload_n hx hb dX9_bread_43 rfl (lv_at hl 0 rfl) ?_
      refine wx_getR hC hH h_o1 rfl f_X9_91 dX9_bread_44 hF (fun o11 h_o11 hF => ?_)
      refine lv_iload_n hx hb dX9_bread_47 rfl (lv_at hl 1 rfl) ?_
      refine wx_iald hC hH h_o11 ⟨rfl, rfl⟩ dX9_bread_48 hF (fun j12 hF => ?_)
      refine lv_iload_n hx hb dX9_bread_49 rfl (lv_at hl 2 rfl) ?_
      obtain ⟨q13_, hF, hq13⟩ := wJ_some hF
      have hJ65 : ∀ (i14 : Int32) (u15 : wSt) (H : Heap) (locs : List Loc) (ls : Array Slot), F_X9_bread_j65 o10 i2 o1 i14 u15 = some z → wHp D κ ρ 1 A s.heap H locs u15 → lv_has ls 3 [(0, .ref (ρ o1)), (1, .int i2)] → W p l e (wRm 2 44) s m args below meth c H locs 0 0 (wQI below args s A D κ ρ 1 z) (F0 m 65 ls [.int i14, .int i2, .ref (ρ o10)]) := by
        intro i14 u15 H locs ls hF hH hl
        unfold F_X9_bread_j65 at hF
        refine wx_iast hC hH h_o10 ⟨rfl, rfl⟩ dX9_bread_65 hF (fun u16 H locs hF hH => ?_)
        refine lv_aload_n hx hb dX9_bread_66 rfl (lv_at hl 0 rfl) ?_
        refine wx_getR hC hH h_o1 rfl f_X9_91 dX9_bread_67 hF (fun o17 h_o17 hF => ?_)
        refine lv_iload_n hx hb dX9_bread_70 rfl (lv_at hl 1 rfl) ?_
        refine wx_iald hC hH h_o17 ⟨rfl, rfl⟩ dX9_bread_71 hF (fun j18 hF => ?_)
        exact wx_iret hC hH hr hlk dX9_bread_72 hF
      refine lv_icmp_le hx hb dX9_bread_50 (tgt := 64) rfl (fun h => ?_) (fun h => ?_)
      · have hF := wx_t h hF
        refine lv_iconst hx hb dX9_bread_64 k_iconst_0 ?_
        have hF := wJ_l hq13 hF
        exact hJ65 (0 : Int32) u9 H locs ls hF hH (lv_sub hl [0, 1] rfl)
      have hF := wx_f h hF
      refine lv_aload_n hx hb dX9_bread_53 rfl (lv_at hl 0 rfl) ?_
      refine wx_getR hC hH h_o1 rfl f_X9_91 dX9_bread_54 hF (fun o19 h_o19 hF => ?_)
      refine lv_iload_n hx hb dX9_bread_57 rfl (lv_at hl 1 rfl) ?_
      refine wx_iald hC hH h_o19 ⟨rfl, rfl⟩ dX9_bread_58 hF (fun j20 hF => ?_)
      refine lv_iload_n hx hb dX9_bread_59 rfl (lv_at hl 2 rfl) ?_
      refine lv_isub hx hb dX9_bread_60 ?_
      refine lv_goto hx hb dX9_bread_61 (tgt := 65) rfl ?_
      have hF := wJ_l hq13 hF
      exact hJ65 ((u9.1 o19 j20) - i3) u9 H locs ls hF hH (lv_sub hl [0, 1] rfl)
    have hF := wx_t h hF
    refine lv_iconst hx hb dX9_bread_32 k_iconst_m1 ?_
    exact wx_iret hC hH hr hlk dX9_bread_33 hF
  exact key _ _ hH
def F_X9_wake (o1 : Nat) (i2 : Int32) (u0 : wSt) : Option (Int32 × wSt) :=
  wB (w_sI u0 o1 2 (0 : Int32)) (fun (u3 : wSt) => wP (F_X9_isGuest o1 i2 u3) (fun (i4 : Int32) => if i4 = 0 then (some ((0 : Int32), u3)) else (wR (u3.2.2 o1 52) 15 (fun o5 => wN i2 o5 (fun j6 => if (u3.1 o5 j6) = 0 then (wC (F_X9_remember o1 u3) (fun _ (u7 : wSt) => wR (u7.2.2 o1 52) 15 (fun o8 => wSZ u7 o8 i2 (1 : Int32) (fun (u9 : wSt) => wR (u9.2.2 o1 50) 14 (fun o10 => wSI u9 o10 i2 (50 : Int32) (fun (u11 : wSt) => some ((1 : Int32), u11))))))) else (some ((0 : Int32), u3)))))))
set_option maxRecDepth 100000 in
set_option maxHeartbeats 4000000 in
theorem c_X9_wake {l : Launch} {D : va_G} {κ : Nat → ClassId} {ρ : Nat → Nat} (o1 : Nat) (i2 : Int32) (h_o1 : (w_sh o1).1 = 9) : wMI l yX9_wake cX9_wake 2 .boolean (wRm 2 44) [.ref (ρ o1), .int i2] D κ ρ 1 (fun u => F_X9_wake o1 i2 u) := by
  refine wMI_of (F := fun u => F_X9_wake o1 i2 u) rfl (Nat.le_of_ble_eq_true rfl) (fun u0 z p e s m args below meth c ls A hF hC hr hlk hH hl => ?_)
  have hl : lv_has ls 2 [(0, .ref (ρ o1)), (1, .int i2)] := hl
  have hx := hC.1.1
  have hb := hC.1.2.1
  have hF : F_X9_wake o1 i2 u0 = some z := hF
  unfold F_X9_wake at hF
  change W p l e (wRm 2 44) s m args below meth c s.heap [] 0 0 (wQI below args s A D κ ρ 1 z) (F0 m 0 ls [])
  have key : ∀ (H : Heap) (locs : List Loc), wHp D κ ρ 1 A s.heap H locs u0 → W p l e (wRm 2 44) s m args below meth c H locs 0 0 (wQI below args s A D κ ρ 1 z) (F0 m 0 ls []) := by
    intro H locs hH
    refine lv_aload_n hx hb dX9_wake_0 rfl (lv_at hl 0 rfl) ?_
    refine lv_iconst hx hb dX9_wake_1 k_iconst_0 ?_
    refine wx_putI hC hH h_o1 rfl f_X9_142 g_9_2 dX9_wake_2 hF (fun u3 H locs hF hH => ?_)
    refine lv_aload_n hx hb dX9_wake_5 rfl (lv_at hl 0 rfl) ?_
    refine lv_iload_n hx hb dX9_wake_6 rfl (lv_at hl 1 rfl) ?_
    refine wx_pvi hC hH hl (c_X9_isGuest o1 i2 h_o1) y_X9_isGuest v_X9_isGuest h_o1 rfl m_X9_380 rfl ⟨Nat.le_of_ble_eq_true rfl, Nat.le_of_ble_eq_true rfl⟩ ⟨Nat.le_refl _, Nat.le_refl _⟩ rfl (Nat.le_of_ble_eq_true rfl) dX9_wake_7 hF (fun i4 H locs hF hH => ?_)
    refine lv_if_eq hx hb dX9_wake_10 (tgt := 22) rfl (fun h => ?_) (fun h => ?_)
    · have hF := wx_t h hF
      refine lv_iconst hx hb dX9_wake_22 k_iconst_0 ?_
      exact wx_zret hC hH hr hlk dX9_wake_23 (Or.inl rfl) hF
    have hF := wx_f h hF
    refine lv_aload_n hx hb dX9_wake_13 rfl (lv_at hl 0 rfl) ?_
    refine wx_getR hC hH h_o1 rfl f_X9_97 dX9_wake_14 hF (fun o5 h_o5 hF => ?_)
    refine lv_iload_n hx hb dX9_wake_17 rfl (lv_at hl 1 rfl) ?_
    refine wx_zald hC hH h_o5 ⟨rfl, rfl⟩ dX9_wake_18 hF (fun j6 hF => ?_)
    refine lv_if_eq hx hb dX9_wake_19 (tgt := 24) rfl (fun h => ?_) (fun h => ?_)
    · have hF := wx_t h hF
      refine lv_aload_n hx hb dX9_wake_24 rfl (lv_at hl 0 rfl) ?_
      refine wx_evv hC hH hl (c_X9_remember o1 h_o1) y_X9_remember v_X9_remember h_o1 rfl m_X9_472 rfl ⟨Nat.le_of_ble_eq_true rfl, Nat.le_of_ble_eq_true rfl⟩ ⟨Nat.le_refl _, Nat.le_refl _⟩ rfl (Nat.le_of_ble_eq_true rfl) dX9_wake_25 hF (fun _ u7 H locs hF hH => ?_)
      refine lv_aload_n hx hb dX9_wake_28 rfl (lv_at hl 0 rfl) ?_
      refine wx_getR hC hH h_o1 rfl f_X9_97 dX9_wake_29 hF (fun o8 h_o8 hF => ?_)
      refine lv_iload_n hx hb dX9_wake_32 rfl (lv_at hl 1 rfl) ?_
      refine lv_iconst hx hb dX9_wake_33 k_iconst_1 ?_
      refine wx_zast hC hH h_o8 ⟨rfl, rfl⟩ dX9_wake_34 hF (fun u9 H locs hF hH => ?_)
      refine lv_aload_n hx hb dX9_wake_35 rfl (lv_at hl 0 rfl) ?_
      refine wx_getR hC hH h_o1 rfl f_X9_91 dX9_wake_36 hF (fun o10 h_o10 hF => ?_)
      refine lv_iload_n hx hb dX9_wake_39 rfl (lv_at hl 1 rfl) ?_
      refine lv_bipush hx hb dX9_wake_40 k_bipush_50 ?_
      refine wx_iast hC hH h_o10 ⟨rfl, rfl⟩ dX9_wake_42 hF (fun u11 H locs hF hH => ?_)
      refine lv_iconst hx hb dX9_wake_43 k_iconst_1 ?_
      exact wx_zret hC hH hr hlk dX9_wake_44 (Or.inr rfl) hF
    have hF := wx_f h hF
    refine lv_iconst hx hb dX9_wake_22 k_iconst_0 ?_
    exact wx_zret hC hH hr hlk dX9_wake_23 (Or.inl rfl) hF
  exact key _ _ hH
def F_X9_go_j77 (o1 : Nat) (i13 : Int32) (u14 : wSt) : Option (Int32 × wSt) :=
  wB (w_sI u14 o1 74 i13) (fun (u15 : wSt) => wR (u15.2.2 o1 57) 14 (fun o16 => wN (0 : Int32) o16 (fun j17 => some ((u15.1 o16 j17), u15))))
def F_X9_go_j59 (o1 : Nat) (i2 : Int32) (u10 : wSt) : Option (Int32 × wSt) :=
  wB (w_sI u10 o1 60 (0 : Int32)) (fun (u11 : wSt) => wJ (X := Int32 × wSt) (if i2 ≤ 0 then (some (.inl ((u11.1 o1 74), u11))) else (some (.inl ((0 : Int32), u11)))) (fun x => F_X9_go_j77 o1 x.1 x.2))
def F_X9_go_b43 (i2 : Int32) (o1 : Nat) (i19 : Int32) (u20 : wSt) : Option ((Int32 × wSt) ⊕ ((wSt) ⊕ (Int32 × wSt))) :=
  if i2 ≤ i19 then (some (.inr (.inl u20))) else (wC (F_X9_stepGoes o1 (0 : Int32) u20) (fun _ (u21 : wSt) => wB (i19 + (1 : Int32)) (fun (i22 : Int32) => some (.inl (i22, u21)))))
def F_X9_go (o1 : Nat) (i2 : Int32) (u0 : wSt) : Option (Int32 × wSt) :=
  wB (w_sI u0 o1 2 (0 : Int32)) (fun (u3 : wSt) => wP (F_X9_isIn i2 (0 : Int32) (200 : Int32) u3) (fun (i4 : Int32) => if i4 = 0 then (some ((-1 : Int32), u3)) else (wR (u3.2.2 o1 57) 14 (fun o5 => wN (0 : Int32) o5 (fun j6 => if ((u3.1 o5 j6) + i2) ≤ (9000 : Int32) then (wC (F_X9_plainTried o1 u3) (fun _ (u7 : wSt) => wB (w_sI u7 o1 60 (1 : Int32)) (fun (u8 : wSt) => wJ (X := wSt) (wL (S := Int32 × wSt) (fun x => F_X9_go_b43 i2 o1 x.1 x.2) wFu ((0 : Int32), u8)) (fun x => F_X9_go_j59 o1 i2 x)))) else (some ((-1 : Int32), u3)))))))
set_option maxRecDepth 100000 in
set_option maxHeartbeats 4000000 in
theorem c_X9_go {l : Launch} {D : va_G} {κ : Nat → ClassId} {ρ : Nat → Nat} (o1 : Nat) (i2 : Int32) (h_o1 : (w_sh o1).1 = 9) : wMI l yX9_go cX9_go 3 .int (wRm 7 169) [.ref (ρ o1), .int i2] D κ ρ 1 (fun u => F_X9_go o1 i2 u) := by
  refine wMI_of (F := fun u => F_X9_go o1 i2 u) rfl (Nat.le_of_ble_eq_true rfl) (fun u0 z p e s m args below meth c ls A hF hC hr hlk hH hl => ?_)
  have hl : lv_has ls 3 [(0, .ref (ρ o1)), (1, .int i2)] := hl
  have hx := hC.1.1
  have hb := hC.1.2.1
  have hF : F_X9_go o1 i2 u0 = some z := hF
  unfold F_X9_go at hF
  change W p l e (wRm 7 169) s m args below meth c s.heap [] 0 0 (wQI below args s A D κ ρ 1 z) (F0 m 0 ls [])
  have key : ∀ (H : Heap) (locs : List Loc), wHp D κ ρ 1 A s.heap H locs u0 → W p l e (wRm 7 169) s m args below meth c H locs 0 0 (wQI below args s A D κ ρ 1 z) (F0 m 0 ls []) := by
    intro H locs hH
    refine lv_aload_n hx hb dX9_go_0 rfl (lv_at hl 0 rfl) ?_
    refine lv_iconst hx hb dX9_go_1 k_iconst_0 ?_
    refine wx_putI hC hH h_o1 rfl f_X9_142 g_9_2 dX9_go_2 hF (fun u3 H locs hF hH => ?_)
    refine lv_iload_n hx hb dX9_go_5 rfl (lv_at hl 1 rfl) ?_
    refine lv_iconst hx hb dX9_go_6 k_iconst_0 ?_
    refine lv_sipush hx hb dX9_go_7 k_sipush_200 ?_
    refine wx_psi hC hH hl (c_X9_isIn i2 (0 : Int32) (200 : Int32)) y_X9_isIn v_X9_isIn m_X9_187 rfl ⟨Nat.le_of_ble_eq_true rfl, Nat.le_of_ble_eq_true rfl⟩ ⟨Nat.le_refl _, Nat.le_refl _⟩ rfl (Nat.le_of_ble_eq_true rfl) dX9_go_10 hF (fun i4 H locs hF hH => ?_)
    refine lv_if_eq hx hb dX9_go_13 (tgt := 30) rfl (fun h => ?_) (fun h => ?_)
    · have hF := wx_t h hF
      refine lv_iconst hx hb dX9_go_30 k_iconst_m1 ?_
      exact wx_iret hC hH hr hlk dX9_go_31 hF
    have hF := wx_f h hF
    refine lv_aload_n hx hb dX9_go_16 rfl (lv_at hl 0 rfl) ?_
    refine wx_getR hC hH h_o1 rfl f_X9_112 dX9_go_17 hF (fun o5 h_o5 hF => ?_)
    refine lv_iconst hx hb dX9_go_20 k_iconst_0 ?_
    refine wx_iald hC hH h_o5 ⟨rfl, rfl⟩ dX9_go_21 hF (fun j6 hF => ?_)
    refine lv_iload_n hx hb dX9_go_22 rfl (lv_at hl 1 rfl) ?_
    refine lv_iadd hx hb dX9_go_23 ?_
    refine lv_sipush hx hb dX9_go_24 k_sipush_9000 ?_
    refine lv_icmp_le hx hb dX9_go_27 (tgt := 32) rfl (fun h => ?_) (fun h => ?_)
    · have hF := wx_t h hF
      refine lv_aload_n hx hb dX9_go_32 rfl (lv_at hl 0 rfl) ?_
      refine wx_evv hC hH hl (c_X9_plainTried o1 h_o1) y_X9_plainTried v_X9_plainTried h_o1 rfl m_X9_341 rfl ⟨Nat.le_of_ble_eq_true rfl, Nat.le_of_ble_eq_true rfl⟩ ⟨Nat.le_refl _, Nat.le_refl _⟩ rfl (Nat.le_of_ble_eq_true rfl) dX9_go_33 hF (fun _ u7 H locs hF hH => ?_)
      refine lv_aload_n hx hb dX9_go_36 rfl (lv_at hl 0 rfl) ?_
      refine lv_iconst hx hb dX9_go_37 k_iconst_1 ?_
      refine wx_putZ hC hH h_o1 rfl f_X9_353 g_9_60 dX9_go_38 (Or.inr rfl) hF (fun u8 H locs hF hH => ?_)
      refine lv_iconst hx hb dX9_go_41 k_iconst_0 ?_
      refine wx_istore_n hx hb dX9_go_42 rfl hl (by decide) (fun ls hl => ?_)
      have hl : lv_has ls 3 [(2, .int (0 : Int32)), (0, .ref (ρ o1)), (1, .int i2)] := hl
      obtain ⟨q9_, hF, hq9⟩ := wJ_some hF
      have hJ59 : ∀ (u10 : wSt) (H : Heap) (locs : List Loc) (ls : Array Slot), F_X9_go_j59 o1 i2 u10 = some z → wHp D κ ρ 1 A s.heap H locs u10 → lv_has ls 3 [(0, .ref (ρ o1)), (1, .int i2)] → W p l e (wRm 7 169) s m args below meth c H locs 0 0 (wQI below args s A D κ ρ 1 z) (F0 m 59 ls []) := by
        intro u10 H locs ls hF hH hl
        unfold F_X9_go_j59 at hF
        refine lv_aload_n hx hb dX9_go_59 rfl (lv_at hl 0 rfl) ?_
        refine lv_iconst hx hb dX9_go_60 k_iconst_0 ?_
        refine wx_putZ hC hH h_o1 rfl f_X9_353 g_9_60 dX9_go_61 (Or.inl rfl) hF (fun u11 H locs hF hH => ?_)
        refine lv_aload_n hx hb dX9_go_64 rfl (lv_at hl 0 rfl) ?_
        refine lv_iload_n hx hb dX9_go_65 rfl (lv_at hl 1 rfl) ?_
        obtain ⟨q12_, hF, hq12⟩ := wJ_some hF
        have hJ77 : ∀ (i13 : Int32) (u14 : wSt) (H : Heap) (locs : List Loc) (ls : Array Slot), F_X9_go_j77 o1 i13 u14 = some z → wHp D κ ρ 1 A s.heap H locs u14 → lv_has ls 3 [(0, .ref (ρ o1))] → W p l e (wRm 7 169) s m args below meth c H locs 0 0 (wQI below args s A D κ ρ 1 z) (F0 m 77 ls [.int i13, .ref (ρ o1)]) := by
          intro i13 u14 H locs ls hF hH hl
          unfold F_X9_go_j77 at hF
          refine wx_putI hC hH h_o1 rfl f_X9_347 g_9_74 dX9_go_77 hF (fun u15 H locs hF hH => ?_)
          refine lv_aload_n hx hb dX9_go_80 rfl (lv_at hl 0 rfl) ?_
          refine wx_getR hC hH h_o1 rfl f_X9_112 dX9_go_81 hF (fun o16 h_o16 hF => ?_)
          refine lv_iconst hx hb dX9_go_84 k_iconst_0 ?_
          refine wx_iald hC hH h_o16 ⟨rfl, rfl⟩ dX9_go_85 hF (fun j17 hF => ?_)
          exact wx_iret hC hH hr hlk dX9_go_86 hF
        refine lv_if_le hx hb dX9_go_66 (tgt := 73) rfl (fun h => ?_) (fun h => ?_)
        · have hF := wx_t h hF
          refine lv_aload_n hx hb dX9_go_73 rfl (lv_at hl 0 rfl) ?_
          refine wx_getI hC hH h_o1 rfl f_X9_347 dX9_go_74 ?_
          have hF := wJ_l hq12 hF
          exact hJ77 (u11.1 o1 74) u11 H locs ls hF hH (lv_sub hl [0] rfl)
        have hF := wx_f h hF
        refine lv_iconst hx hb dX9_go_69 k_iconst_0 ?_
        refine lv_goto hx hb dX9_go_70 (tgt := 77) rfl ?_
        have hF := wJ_l hq12 hF
        exact hJ77 (0 : Int32) u11 H locs ls hF hH (lv_sub hl [0] rfl)
      have hL43 : ∀ (k18_ : Nat) (i19 : Int32) (u20 : wSt) (H : Heap) (locs : List Loc) (ls : Array Slot), wL (S := Int32 × wSt) (fun x => F_X9_go_b43 i2 o1 x.1 x.2) k18_ (i19, u20) = some q9_ → wHp D κ ρ 1 A s.heap H locs u20 → lv_has ls 3 [(0, .ref (ρ o1)), (1, .int i2), (2, .int i19)] → W p l e (wRm 7 169) s m args below meth c H locs 0 0 (wQI below args s A D κ ρ 1 z) (F0 m 43 ls []) := by
        intro k18_
        induction k18_ with
        | zero => intro i19 u20 H locs ls hF; exact wL_zero hF
        | succ k18_ ih18 =>
          intro i19 u20 H locs ls hF hH hl
          obtain ⟨q18_, hF, hq18⟩ := wL_some hF
          have hF : F_X9_go_b43 i2 o1 i19 u20 = some q18_ := hF
          unfold F_X9_go_b43 at hF
          refine lv_iload_n hx hb dX9_go_43 rfl (lv_at hl 2 rfl) ?_
          refine lv_iload_n hx hb dX9_go_44 rfl (lv_at hl 1 rfl) ?_
          refine lv_icmp_ge hx hb dX9_go_45 (tgt := 59) rfl (fun h => ?_) (fun h => ?_)
          · have hF := wx_t h hF
            have hF := wJ_r hq18 hF
            have hF := wJ_l hq9 hF
            exact hJ59 u20 H locs ls hF hH (lv_sub hl [0, 1] rfl)
          have hF := wx_f h hF
          refine lv_aload_n hx hb dX9_go_48 rfl (lv_at hl 0 rfl) ?_
          refine lv_iconst hx hb dX9_go_49 k_iconst_0 ?_
          refine wx_evv hC hH hl (c_X9_stepGoes o1 (0 : Int32) h_o1) y_X9_stepGoes v_X9_stepGoes h_o1 rfl m_X9_455 rfl ⟨Nat.le_of_ble_eq_true rfl, Nat.le_of_ble_eq_true rfl⟩ ⟨Nat.le_refl _, Nat.le_refl _⟩ rfl (Nat.le_of_ble_eq_true rfl) dX9_go_50 hF (fun _ u21 H locs hF hH => ?_)
          refine wx_iinc hx hb dX9_go_53 k_iconst_1 hl (k := 2) rfl (by decide) hF (fun i22 ls hF hl => ?_)
          have hl : lv_has ls 3 [(2, .int i22), (0, .ref (ρ o1)), (1, .int i2)] := hl
          refine lv_goto hx hb dX9_go_56 (tgt := 43) rfl ?_
          have hF := wJ_l hq18 hF
          exact ih18 i22 u21 H locs ls hF hH (lv_sub hl [1, 2, 0] rfl)
      exact hL43 wFu (0 : Int32) u8 H locs ls hF hH (lv_sub hl [1, 2, 0] rfl)
    have hF := wx_f h hF
    refine lv_iconst hx hb dX9_go_30 k_iconst_m1 ?_
    exact wx_iret hC hH hr hlk dX9_go_31 hF
  exact key _ _ hH
def F_X9_ahead_j45 (o1 : Nat) (u5 : wSt) (i2 : Int32) (i3 : Int32) (i4 : Int32) : Option (Int32 × wSt) :=
  wC (F_X9_layTried o1 u5) (fun _ (u10 : wSt) => wC (F_X9_goMany o1 i2 u10) (fun _ (u11 : wSt) => if i3 = 0 then (wP (F_X9_bitesAll o1 (1 : Int32) u11) (fun (i12 : Int32) => wP (F_X9_bitesAll o1 (0 : Int32) u11) (fun (i13 : Int32) => some ((i12 - i13), u11)))) else (if i3 = 1 then (wP (F_X9_fainted o1 (1 : Int32) u11) (fun (i14 : Int32) => wP (F_X9_fainted o1 (0 : Int32) u11) (fun (i15 : Int32) => some ((i14 - i15), u11)))) else (if i3 = 2 then (wR (u11.2.2 o1 50) 14 (fun o16 => wN ((6 : Int32) + i4) o16 (fun j17 => some ((u11.1 o16 j17), u11)))) else (if i3 = 3 then (wR (u11.2.2 o1 49) 14 (fun o18 => wN ((6 : Int32) + i4) o18 (fun j19 => some ((u11.1 o18 j19), u11)))) else (wP (F_X9_fedAll o1 (1 : Int32) u11) (fun (i20 : Int32) => wP (F_X9_fedAll o1 (0 : Int32) u11) (fun (i21 : Int32) => some ((i20 - i21), u11)))))))))
def F_X9_ahead_j35 (o1 : Nat) (i4 : Int32) (u5 : wSt) : Option ((Unit) ⊕ (Int32 × wSt)) :=
  wP (F_X9_isGuest o1 i4 u5) (fun (i22 : Int32) => if i22 = 0 then (some (.inr ((-1 : Int32), u5))) else (some (.inl ())))
def F_X9_ahead (o1 : Nat) (i2 : Int32) (i3 : Int32) (i4 : Int32) (u0 : wSt) : Option (Int32 × wSt) :=
  wB (w_sI u0 o1 2 (0 : Int32)) (fun (u5 : wSt) => wP (F_X9_isIn i2 (0 : Int32) (200 : Int32) u5) (fun (i6 : Int32) => if i6 = 0 then (some ((-1 : Int32), u5)) else (wP (F_X9_isIn i3 (0 : Int32) (4 : Int32) u5) (fun (i7 : Int32) => if i7 = 0 then (some ((-1 : Int32), u5)) else (wJ (X := Unit) (wJ (X := Unit) (if i3 = (2 : Int32) then (some (.inl ())) else (if i3 = (3 : Int32) then (some (.inl ())) else (some (.inr (.inl ()))))) (fun x => F_X9_ahead_j35 o1 i4 u5)) (fun x => F_X9_ahead_j45 o1 u5 i2 i3 i4))))))
set_option maxRecDepth 100000 in
set_option maxHeartbeats 4000000 in
theorem c_X9_ahead {l : Launch} {D : va_G} {κ : Nat → ClassId} {ρ : Nat → Nat} (o1 : Nat) (i2 : Int32) (i3 : Int32) (i4 : Int32) (h_o1 : (w_sh o1).1 = 9) : wMI l yX9_ahead cX9_ahead 4 .int (wRm 8 191) [.ref (ρ o1), .int i2, .int i3, .int i4] D κ ρ 1 (fun u => F_X9_ahead o1 i2 i3 i4 u) := by
  refine wMI_of (F := fun u => F_X9_ahead o1 i2 i3 i4 u) rfl (Nat.le_of_ble_eq_true rfl) (fun u0 z p e s m args below meth c ls A hF hC hr hlk hH hl => ?_)
  have hl : lv_has ls 4 [(0, .ref (ρ o1)), (1, .int i2), (2, .int i3), (3, .int i4)] := hl
  have hx := hC.1.1
  have hb := hC.1.2.1
  have hF : F_X9_ahead o1 i2 i3 i4 u0 = some z := hF
  unfold F_X9_ahead at hF
  change W p l e (wRm 8 191) s m args below meth c s.heap [] 0 0 (wQI below args s A D κ ρ 1 z) (F0 m 0 ls [])
  have key : ∀ (H : Heap) (locs : List Loc), wHp D κ ρ 1 A s.heap H locs u0 → W p l e (wRm 8 191) s m args below meth c H locs 0 0 (wQI below args s A D κ ρ 1 z) (F0 m 0 ls []) := by
    intro H locs hH
    refine lv_aload_n hx hb dX9_ahead_0 rfl (lv_at hl 0 rfl) ?_
    refine lv_iconst hx hb dX9_ahead_1 k_iconst_0 ?_
    refine wx_putI hC hH h_o1 rfl f_X9_142 g_9_2 dX9_ahead_2 hF (fun u5 H locs hF hH => ?_)
    refine lv_iload_n hx hb dX9_ahead_5 rfl (lv_at hl 1 rfl) ?_
    refine lv_iconst hx hb dX9_ahead_6 k_iconst_0 ?_
    refine lv_sipush hx hb dX9_ahead_7 k_sipush_200 ?_
    refine wx_psi hC hH hl (c_X9_isIn i2 (0 : Int32) (200 : Int32)) y_X9_isIn v_X9_isIn m_X9_187 rfl ⟨Nat.le_of_ble_eq_true rfl, Nat.le_of_ble_eq_true rfl⟩ ⟨Nat.le_refl _, Nat.le_refl _⟩ rfl (Nat.le_of_ble_eq_true rfl) dX9_ahead_10 hF (fun i6 H locs hF hH => ?_)
    refine lv_if_eq hx hb dX9_ahead_13 (tgt := 43) rfl (fun h => ?_) (fun h => ?_)
    · have hF := wx_t h hF
      refine lv_iconst hx hb dX9_ahead_43 k_iconst_m1 ?_
      exact wx_iret hC hH hr hlk dX9_ahead_44 hF
    have hF := wx_f h hF
    refine lv_iload_n hx hb dX9_ahead_16 rfl (lv_at hl 2 rfl) ?_
    refine lv_iconst hx hb dX9_ahead_17 k_iconst_0 ?_
    refine lv_iconst hx hb dX9_ahead_18 k_iconst_4 ?_
    refine wx_psi hC hH hl (c_X9_isIn i3 (0 : Int32) (4 : Int32)) y_X9_isIn v_X9_isIn m_X9_187 rfl ⟨Nat.le_of_ble_eq_true rfl, Nat.le_of_ble_eq_true rfl⟩ ⟨Nat.le_refl _, Nat.le_refl _⟩ rfl (Nat.le_of_ble_eq_true rfl) dX9_ahead_19 hF (fun i7 H locs hF hH => ?_)
    refine lv_if_eq hx hb dX9_ahead_22 (tgt := 43) rfl (fun h => ?_) (fun h => ?_)
    · have hF := wx_t h hF
      refine lv_iconst hx hb dX9_ahead_43 k_iconst_m1 ?_
      exact wx_iret hC hH hr hlk dX9_ahead_44 hF
    have hF := wx_f h hF
    refine lv_iload_n hx hb dX9_ahead_25 rfl (lv_at hl 2 rfl) ?_
    refine lv_iconst hx hb dX9_ahead_26 k_iconst_2 ?_
    obtain ⟨q8_, hF, hq8⟩ := wJ_some hF
    obtain ⟨q9_, hF, hq9⟩ := wJ_some hF
    have hJ45 : ∀ (H : Heap) (locs : List Loc) (ls : Array Slot), F_X9_ahead_j45 o1 u5 i2 i3 i4 = some z → wHp D κ ρ 1 A s.heap H locs u5 → lv_has ls 4 [(0, .ref (ρ o1)), (1, .int i2), (2, .int i3), (3, .int i4)] → W p l e (wRm 8 191) s m args below meth c H locs 0 0 (wQI below args s A D κ ρ 1 z) (F0 m 45 ls []) := by
      intro H locs ls hF hH hl
      unfold F_X9_ahead_j45 at hF
      refine lv_aload_n hx hb dX9_ahead_45 rfl (lv_at hl 0 rfl) ?_
      refine wx_evv hC hH hl (c_X9_layTried o1 h_o1) y_X9_layTried v_X9_layTried h_o1 rfl m_X9_475 rfl ⟨Nat.le_of_ble_eq_true rfl, Nat.le_of_ble_eq_true rfl⟩ ⟨Nat.le_refl _, Nat.le_refl _⟩ rfl (Nat.le_of_ble_eq_true rfl) dX9_ahead_46 hF (fun _ u10 H locs hF hH => ?_)
      refine lv_aload_n hx hb dX9_ahead_49 rfl (lv_at hl 0 rfl) ?_
      refine lv_iload_n hx hb dX9_ahead_50 rfl (lv_at hl 1 rfl) ?_
      refine wx_evv hC hH hl (c_X9_goMany o1 i2 h_o1) y_X9_goMany v_X9_goMany h_o1 rfl m_X9_478 rfl ⟨Nat.le_of_ble_eq_true rfl, Nat.le_of_ble_eq_true rfl⟩ ⟨Nat.le_refl _, Nat.le_refl _⟩ rfl (Nat.le_of_ble_eq_true rfl) dX9_ahead_51 hF (fun _ u11 H locs hF hH => ?_)
      refine lv_iload_n hx hb dX9_ahead_54 rfl (lv_at hl 2 rfl) ?_
      by_cases hs0 : i3 = 0
      · have hF := wx_t hs0 hF
        refine wx_sw hx hb dX9_ahead_55 (by decide) (tgt := 84) (by rw [hs0]; decide) ?_
        refine lv_aload_n hx hb dX9_ahead_84 rfl (lv_at hl 0 rfl) ?_
        refine lv_iconst hx hb dX9_ahead_85 k_iconst_1 ?_
        refine wx_pvi hC hH hl (c_X9_bitesAll o1 (1 : Int32) h_o1) y_X9_bitesAll v_X9_bitesAll h_o1 rfl m_X9_481 rfl ⟨Nat.le_of_ble_eq_true rfl, Nat.le_of_ble_eq_true rfl⟩ ⟨Nat.le_refl _, Nat.le_refl _⟩ rfl (Nat.le_of_ble_eq_true rfl) dX9_ahead_86 hF (fun i12 H locs hF hH => ?_)
        refine lv_aload_n hx hb dX9_ahead_89 rfl (lv_at hl 0 rfl) ?_
        refine lv_iconst hx hb dX9_ahead_90 k_iconst_0 ?_
        refine wx_pvi hC hH hl (c_X9_bitesAll o1 (0 : Int32) h_o1) y_X9_bitesAll v_X9_bitesAll h_o1 rfl m_X9_481 rfl ⟨Nat.le_of_ble_eq_true rfl, Nat.le_of_ble_eq_true rfl⟩ ⟨Nat.le_refl _, Nat.le_refl _⟩ rfl (Nat.le_of_ble_eq_true rfl) dX9_ahead_91 hF (fun i13 H locs hF hH => ?_)
        refine lv_isub hx hb dX9_ahead_94 ?_
        exact wx_iret hC hH hr hlk dX9_ahead_95 hF
      have hF := wx_f hs0 hF
      by_cases hs1 : i3 = 1
      · have hF := wx_t hs1 hF
        refine wx_sw hx hb dX9_ahead_55 (by decide) (tgt := 96) (by rw [hs1]; decide) ?_
        refine lv_aload_n hx hb dX9_ahead_96 rfl (lv_at hl 0 rfl) ?_
        refine lv_iconst hx hb dX9_ahead_97 k_iconst_1 ?_
        refine wx_pvi hC hH hl (c_X9_fainted o1 (1 : Int32) h_o1) y_X9_fainted v_X9_fainted h_o1 rfl m_X9_484 rfl ⟨Nat.le_of_ble_eq_true rfl, Nat.le_of_ble_eq_true rfl⟩ ⟨Nat.le_refl _, Nat.le_refl _⟩ rfl (Nat.le_of_ble_eq_true rfl) dX9_ahead_98 hF (fun i14 H locs hF hH => ?_)
        refine lv_aload_n hx hb dX9_ahead_101 rfl (lv_at hl 0 rfl) ?_
        refine lv_iconst hx hb dX9_ahead_102 k_iconst_0 ?_
        refine wx_pvi hC hH hl (c_X9_fainted o1 (0 : Int32) h_o1) y_X9_fainted v_X9_fainted h_o1 rfl m_X9_484 rfl ⟨Nat.le_of_ble_eq_true rfl, Nat.le_of_ble_eq_true rfl⟩ ⟨Nat.le_refl _, Nat.le_refl _⟩ rfl (Nat.le_of_ble_eq_true rfl) dX9_ahead_103 hF (fun i15 H locs hF hH => ?_)
        refine lv_isub hx hb dX9_ahead_106 ?_
        exact wx_iret hC hH hr hlk dX9_ahead_107 hF
      have hF := wx_f hs1 hF
      by_cases hs2 : i3 = 2
      · have hF := wx_t hs2 hF
        refine wx_sw hx hb dX9_ahead_55 (by decide) (tgt := 108) (by rw [hs2]; decide) ?_
        refine lv_aload_n hx hb dX9_ahead_108 rfl (lv_at hl 0 rfl) ?_
        refine wx_getR hC hH h_o1 rfl f_X9_91 dX9_ahead_109 hF (fun o16 h_o16 hF => ?_)
        refine lv_bipush hx hb dX9_ahead_112 k_bipush_6 ?_
        refine lv_iload_n hx hb dX9_ahead_114 rfl (lv_at hl 3 rfl) ?_
        refine lv_iadd hx hb dX9_ahead_115 ?_
        refine wx_iald hC hH h_o16 ⟨rfl, rfl⟩ dX9_ahead_116 hF (fun j17 hF => ?_)
        exact wx_iret hC hH hr hlk dX9_ahead_117 hF
      have hF := wx_f hs2 hF
      by_cases hs3 : i3 = 3
      · have hF := wx_t hs3 hF
        refine wx_sw hx hb dX9_ahead_55 (by decide) (tgt := 118) (by rw [hs3]; decide) ?_
        refine lv_aload_n hx hb dX9_ahead_118 rfl (lv_at hl 0 rfl) ?_
        refine wx_getR hC hH h_o1 rfl f_X9_88 dX9_ahead_119 hF (fun o18 h_o18 hF => ?_)
        refine lv_bipush hx hb dX9_ahead_122 k_bipush_6 ?_
        refine lv_iload_n hx hb dX9_ahead_124 rfl (lv_at hl 3 rfl) ?_
        refine lv_iadd hx hb dX9_ahead_125 ?_
        refine wx_iald hC hH h_o18 ⟨rfl, rfl⟩ dX9_ahead_126 hF (fun j19 hF => ?_)
        exact wx_iret hC hH hr hlk dX9_ahead_127 hF
      have hF := wx_f hs3 hF
      have htg : ((55 : Nat) : Int) + wTg (73) (0) (3) #[29, 41, 53, 63] i3 = ((128 : Nat) : Int) := by
        have n0 : ¬ (i3).toInt = 0 := lv_neT (k := 0) (a := 0) (fun q => hs0 (q)) (by decide)
        have n1 : ¬ (i3).toInt = 1 := lv_neT (k := 1) (a := 1) (fun q => hs1 (q)) (by decide)
        have n2 : ¬ (i3).toInt = 2 := lv_neT (k := 2) (a := 2) (fun q => hs2 (q)) (by decide)
        have n3 : ¬ (i3).toInt = 3 := lv_neT (k := 3) (a := 3) (fun q => hs3 (q)) (by decide)
        rw [wTg_lo (by omega)]; rfl
      refine wx_sw hx hb dX9_ahead_55 (by decide) (tgt := 128) htg ?_
      refine lv_aload_n hx hb dX9_ahead_128 rfl (lv_at hl 0 rfl) ?_
      refine lv_iconst hx hb dX9_ahead_129 k_iconst_1 ?_
      refine wx_pvi hC hH hl (c_X9_fedAll o1 (1 : Int32) h_o1) y_X9_fedAll v_X9_fedAll h_o1 rfl m_X9_487 rfl ⟨Nat.le_of_ble_eq_true rfl, Nat.le_of_ble_eq_true rfl⟩ ⟨Nat.le_refl _, Nat.le_refl _⟩ rfl (Nat.le_of_ble_eq_true rfl) dX9_ahead_130 hF (fun i20 H locs hF hH => ?_)
      refine lv_aload_n hx hb dX9_ahead_133 rfl (lv_at hl 0 rfl) ?_
      refine lv_iconst hx hb dX9_ahead_134 k_iconst_0 ?_
      refine wx_pvi hC hH hl (c_X9_fedAll o1 (0 : Int32) h_o1) y_X9_fedAll v_X9_fedAll h_o1 rfl m_X9_487 rfl ⟨Nat.le_of_ble_eq_true rfl, Nat.le_of_ble_eq_true rfl⟩ ⟨Nat.le_refl _, Nat.le_refl _⟩ rfl (Nat.le_of_ble_eq_true rfl) dX9_ahead_135 hF (fun i21 H locs hF hH => ?_)
      refine lv_isub hx hb dX9_ahead_138 ?_
      exact wx_iret hC hH hr hlk dX9_ahead_139 hF
    have hJ35 : ∀ (H : Heap) (locs : List Loc) (ls : Array Slot), F_X9_ahead_j35 o1 i4 u5 = some q8_ → wHp D κ ρ 1 A s.heap H locs u5 → lv_has ls 4 [(0, .ref (ρ o1)), (1, .int i2), (2, .int i3), (3, .int i4)] → W p l e (wRm 8 191) s m args below meth c H locs 0 0 (wQI below args s A D κ ρ 1 z) (F0 m 35 ls []) := by
      intro H locs ls hF hH hl
      unfold F_X9_ahead_j35 at hF
      refine lv_aload_n hx hb dX9_ahead_35 rfl (lv_at hl 0 rfl) ?_
      refine lv_iload_n hx hb dX9_ahead_36 rfl (lv_at hl 3 rfl) ?_
      refine wx_pvi hC hH hl (c_X9_isGuest o1 i4 h_o1) y_X9_isGuest v_X9_isGuest h_o1 rfl m_X9_380 rfl ⟨Nat.le_of_ble_eq_true rfl, Nat.le_of_ble_eq_true rfl⟩ ⟨Nat.le_refl _, Nat.le_refl _⟩ rfl (Nat.le_of_ble_eq_true rfl) dX9_ahead_37 hF (fun i22 H locs hF hH => ?_)
      refine lv_if_ne hx hb dX9_ahead_40 (tgt := 45) rfl (fun h => ?_) (fun h => ?_)
      · have hF := wx_f h hF
        have hF := wJ_l hq8 hF
        exact hJ45 H locs ls hF hH (lv_sub hl [0, 1, 2, 3] rfl)
      have hF := wx_t h hF
      refine lv_iconst hx hb dX9_ahead_43 k_iconst_m1 ?_
      have hF := wJ_r hq8 hF
      exact wx_iret hC hH hr hlk dX9_ahead_44 hF
    refine lv_icmp_eq hx hb dX9_ahead_27 (tgt := 35) rfl (fun h => ?_) (fun h => ?_)
    · have hF := wx_t h hF
      have hF := wJ_l hq9 hF
      exact hJ35 H locs ls hF hH (lv_sub hl [0, 1, 2, 3] rfl)
    have hF := wx_f h hF
    refine lv_iload_n hx hb dX9_ahead_30 rfl (lv_at hl 2 rfl) ?_
    refine lv_iconst hx hb dX9_ahead_31 k_iconst_3 ?_
    refine lv_icmp_ne hx hb dX9_ahead_32 (tgt := 45) rfl (fun h => ?_) (fun h => ?_)
    · have hF := wx_f h hF
      have hF := wJ_r hq9 hF
      have hF := wJ_l hq8 hF
      exact hJ45 H locs ls hF hH (lv_sub hl [0, 1, 2, 3] rfl)
    have hF := wx_t h hF
    have hF := wJ_l hq9 hF
    exact hJ35 H locs ls hF hH (lv_sub hl [0, 1, 2, 3] rfl)
  exact key _ _ hH
def F_X9_swoon_b21 (o1 : Nat) (i2 : Int32) (i7 : Int32) (u8 : wSt) : Option ((Int32 × wSt) ⊕ (Int32 × wSt)) :=
  if (200 : Int32) ≤ i7 then (some (.inr ((-2 : Int32), u8))) else (wR (u8.2.2 o1 52) 15 (fun o9 => wN ((6 : Int32) + i2) o9 (fun j10 => if (u8.1 o9 j10) = 0 then (some (.inr (i7, u8))) else (wC (F_X9_stepGoes o1 (1 : Int32) u8) (fun _ (u11 : wSt) => wB (i7 + (1 : Int32)) (fun (i12 : Int32) => some (.inl (i12, u11))))))))
def F_X9_swoon (o1 : Nat) (i2 : Int32) (u0 : wSt) : Option (Int32 × wSt) :=
  wB (w_sI u0 o1 2 (0 : Int32)) (fun (u3 : wSt) => wP (F_X9_isGuest o1 i2 u3) (fun (i4 : Int32) => if i4 = 0 then (some ((-1 : Int32), u3)) else (wC (F_X9_layTried o1 u3) (fun _ (u5 : wSt) => wL (S := Int32 × wSt) (fun x => F_X9_swoon_b21 o1 i2 x.1 x.2) wFu ((0 : Int32), u5)))))
set_option maxRecDepth 100000 in
set_option maxHeartbeats 4000000 in
theorem c_X9_swoon {l : Launch} {D : va_G} {κ : Nat → ClassId} {ρ : Nat → Nat} (o1 : Nat) (i2 : Int32) (h_o1 : (w_sh o1).1 = 9) : wMI l yX9_swoon cX9_swoon 3 .int (wRm 7 169) [.ref (ρ o1), .int i2] D κ ρ 1 (fun u => F_X9_swoon o1 i2 u) := by
  refine wMI_of (F := fun u => F_X9_swoon o1 i2 u) rfl (Nat.le_of_ble_eq_true rfl) (fun u0 z p e s m args below meth c ls A hF hC hr hlk hH hl => ?_)
  have hl : lv_has ls 3 [(0, .ref (ρ o1)), (1, .int i2)] := hl
  have hx := hC.1.1
  have hb := hC.1.2.1
  have hF : F_X9_swoon o1 i2 u0 = some z := hF
  unfold F_X9_swoon at hF
  change W p l e (wRm 7 169) s m args below meth c s.heap [] 0 0 (wQI below args s A D κ ρ 1 z) (F0 m 0 ls [])
  have key : ∀ (H : Heap) (locs : List Loc), wHp D κ ρ 1 A s.heap H locs u0 → W p l e (wRm 7 169) s m args below meth c H locs 0 0 (wQI below args s A D κ ρ 1 z) (F0 m 0 ls []) := by
    intro H locs hH
    refine lv_aload_n hx hb dX9_swoon_0 rfl (lv_at hl 0 rfl) ?_
    refine lv_iconst hx hb dX9_swoon_1 k_iconst_0 ?_
    refine wx_putI hC hH h_o1 rfl f_X9_142 g_9_2 dX9_swoon_2 hF (fun u3 H locs hF hH => ?_)
    refine lv_aload_n hx hb dX9_swoon_5 rfl (lv_at hl 0 rfl) ?_
    refine lv_iload_n hx hb dX9_swoon_6 rfl (lv_at hl 1 rfl) ?_
    refine wx_pvi hC hH hl (c_X9_isGuest o1 i2 h_o1) y_X9_isGuest v_X9_isGuest h_o1 rfl m_X9_380 rfl ⟨Nat.le_of_ble_eq_true rfl, Nat.le_of_ble_eq_true rfl⟩ ⟨Nat.le_refl _, Nat.le_refl _⟩ rfl (Nat.le_of_ble_eq_true rfl) dX9_swoon_7 hF (fun i4 H locs hF hH => ?_)
    refine lv_if_ne hx hb dX9_swoon_10 (tgt := 15) rfl (fun h => ?_) (fun h => ?_)
    · have hF := wx_f h hF
      refine lv_aload_n hx hb dX9_swoon_15 rfl (lv_at hl 0 rfl) ?_
      refine wx_evv hC hH hl (c_X9_layTried o1 h_o1) y_X9_layTried v_X9_layTried h_o1 rfl m_X9_475 rfl ⟨Nat.le_of_ble_eq_true rfl, Nat.le_of_ble_eq_true rfl⟩ ⟨Nat.le_refl _, Nat.le_refl _⟩ rfl (Nat.le_of_ble_eq_true rfl) dX9_swoon_16 hF (fun _ u5 H locs hF hH => ?_)
      refine lv_iconst hx hb dX9_swoon_19 k_iconst_0 ?_
      refine wx_istore_n hx hb dX9_swoon_20 rfl hl (by decide) (fun ls hl => ?_)
      have hl : lv_has ls 3 [(2, .int (0 : Int32)), (0, .ref (ρ o1)), (1, .int i2)] := hl
      have hL21 : ∀ (k6_ : Nat) (i7 : Int32) (u8 : wSt) (H : Heap) (locs : List Loc) (ls : Array Slot), wL (S := Int32 × wSt) (fun x => F_X9_swoon_b21 o1 i2 x.1 x.2) k6_ (i7, u8) = some z → wHp D κ ρ 1 A s.heap H locs u8 → lv_has ls 3 [(0, .ref (ρ o1)), (1, .int i2), (2, .int i7)] → W p l e (wRm 7 169) s m args below meth c H locs 0 0 (wQI below args s A D κ ρ 1 z) (F0 m 21 ls []) := by
        intro k6_
        induction k6_ with
        | zero => intro i7 u8 H locs ls hF; exact wL_zero hF
        | succ k6_ ih6 =>
          intro i7 u8 H locs ls hF hH hl
          obtain ⟨q6_, hF, hq6⟩ := wL_some hF
          have hF : F_X9_swoon_b21 o1 i2 i7 u8 = some q6_ := hF
          unfold F_X9_swoon_b21 at hF
          refine lv_iload_n hx hb dX9_swoon_21 rfl (lv_at hl 2 rfl) ?_
          refine lv_sipush hx hb dX9_swoon_22 k_sipush_200 ?_
          refine lv_icmp_ge hx hb dX9_swoon_25 (tgt := 53) rfl (fun h => ?_) (fun h => ?_)
          · have hF := wx_t h hF
            refine lv_bipush hx hb dX9_swoon_53 k_bipush_m2 ?_
            have hF := wJ_r hq6 hF
            exact wx_iret hC hH hr hlk dX9_swoon_55 hF
          have hF := wx_f h hF
          refine lv_aload_n hx hb dX9_swoon_28 rfl (lv_at hl 0 rfl) ?_
          refine wx_getR hC hH h_o1 rfl f_X9_97 dX9_swoon_29 hF (fun o9 h_o9 hF => ?_)
          refine lv_bipush hx hb dX9_swoon_32 k_bipush_6 ?_
          refine lv_iload_n hx hb dX9_swoon_34 rfl (lv_at hl 1 rfl) ?_
          refine lv_iadd hx hb dX9_swoon_35 ?_
          refine wx_zald hC hH h_o9 ⟨rfl, rfl⟩ dX9_swoon_36 hF (fun j10 hF => ?_)
          refine lv_if_ne hx hb dX9_swoon_37 (tgt := 42) rfl (fun h => ?_) (fun h => ?_)
          · have hF := wx_f h hF
            refine lv_aload_n hx hb dX9_swoon_42 rfl (lv_at hl 0 rfl) ?_
            refine lv_iconst hx hb dX9_swoon_43 k_iconst_1 ?_
            refine wx_evv hC hH hl (c_X9_stepGoes o1 (1 : Int32) h_o1) y_X9_stepGoes v_X9_stepGoes h_o1 rfl m_X9_455 rfl ⟨Nat.le_of_ble_eq_true rfl, Nat.le_of_ble_eq_true rfl⟩ ⟨Nat.le_refl _, Nat.le_refl _⟩ rfl (Nat.le_of_ble_eq_true rfl) dX9_swoon_44 hF (fun _ u11 H locs hF hH => ?_)
            refine wx_iinc hx hb dX9_swoon_47 k_iconst_1 hl (k := 2) rfl (by decide) hF (fun i12 ls hF hl => ?_)
            have hl : lv_has ls 3 [(2, .int i12), (0, .ref (ρ o1)), (1, .int i2)] := hl
            refine lv_goto hx hb dX9_swoon_50 (tgt := 21) rfl ?_
            have hF := wJ_l hq6 hF
            exact ih6 i12 u11 H locs ls hF hH (lv_sub hl [1, 2, 0] rfl)
          have hF := wx_t h hF
          refine lv_iload_n hx hb dX9_swoon_40 rfl (lv_at hl 2 rfl) ?_
          have hF := wJ_r hq6 hF
          exact wx_iret hC hH hr hlk dX9_swoon_41 hF
      exact hL21 wFu (0 : Int32) u5 H locs ls hF hH (lv_sub hl [1, 2, 0] rfl)
    have hF := wx_t h hF
    refine lv_iconst hx hb dX9_swoon_13 k_iconst_m1 ?_
    exact wx_iret hC hH hr hlk dX9_swoon_14 hF
  exact key _ _ hH
def F_X9_nextBite_j41 (i2 : Int32) (o1 : Nat) (i7 : Int32) (u8 : wSt) : Option (Int32 × wSt) :=
  if i2 = 0 then (some (i7, u8)) else (some ((u8.1 o1 59), u8))
def F_X9_nextBite_b22 (o1 : Nat) (i10 : Int32) (u11 : wSt) : Option ((Int32 × wSt) ⊕ ((Int32 × wSt) ⊕ (Int32 × wSt))) :=
  if (200 : Int32) ≤ i10 then (some (.inr (.inr ((-2 : Int32), u11)))) else (wC (F_X9_stepGoes o1 (1 : Int32) u11) (fun _ (u12 : wSt) => if (u12.1 o1 59) < 0 then (wB (i10 + (1 : Int32)) (fun (i13 : Int32) => some (.inl (i13, u12)))) else (some (.inr (.inl (i10, u12))))))
def F_X9_nextBite (o1 : Nat) (i2 : Int32) (u0 : wSt) : Option (Int32 × wSt) :=
  wB (w_sI u0 o1 2 (0 : Int32)) (fun (u3 : wSt) => wP (F_X9_isIn i2 (0 : Int32) (1 : Int32) u3) (fun (i4 : Int32) => if i4 = 0 then (some ((-1 : Int32), u3)) else (wC (F_X9_layTried o1 u3) (fun _ (u5 : wSt) => wJ (X := Int32 × wSt) (wL (S := Int32 × wSt) (fun x => F_X9_nextBite_b22 o1 x.1 x.2) wFu ((1 : Int32), u5)) (fun x => F_X9_nextBite_j41 i2 o1 x.1 x.2)))))
set_option maxRecDepth 100000 in
set_option maxHeartbeats 4000000 in
theorem c_X9_nextBite {l : Launch} {D : va_G} {κ : Nat → ClassId} {ρ : Nat → Nat} (o1 : Nat) (i2 : Int32) (h_o1 : (w_sh o1).1 = 9) : wMI l yX9_nextBite cX9_nextBite 3 .int (wRm 7 169) [.ref (ρ o1), .int i2] D κ ρ 1 (fun u => F_X9_nextBite o1 i2 u) := by
  refine wMI_of (F := fun u => F_X9_nextBite o1 i2 u) rfl (Nat.le_of_ble_eq_true rfl) (fun u0 z p e s m args below meth c ls A hF hC hr hlk hH hl => ?_)
  have hl : lv_has ls 3 [(0, .ref (ρ o1)), (1, .int i2)] := hl
  have hx := hC.1.1
  have hb := hC.1.2.1
  have hF : F_X9_nextBite o1 i2 u0 = some z := hF
  unfold F_X9_nextBite at hF
  change W p l e (wRm 7 169) s m args below meth c s.heap [] 0 0 (wQI below args s A D κ ρ 1 z) (F0 m 0 ls [])
  have key : ∀ (H : Heap) (locs : List Loc), wHp D κ ρ 1 A s.heap H locs u0 → W p l e (wRm 7 169) s m args below meth c H locs 0 0 (wQI below args s A D κ ρ 1 z) (F0 m 0 ls []) := by
    intro H locs hH
    refine lv_aload_n hx hb dX9_nextBite_0 rfl (lv_at hl 0 rfl) ?_
    refine lv_iconst hx hb dX9_nextBite_1 k_iconst_0 ?_
    refine wx_putI hC hH h_o1 rfl f_X9_142 g_9_2 dX9_nextBite_2 hF (fun u3 H locs hF hH => ?_)
    refine lv_iload_n hx hb dX9_nextBite_5 rfl (lv_at hl 1 rfl) ?_
    refine lv_iconst hx hb dX9_nextBite_6 k_iconst_0 ?_
    refine lv_iconst hx hb dX9_nextBite_7 k_iconst_1 ?_
    refine wx_psi hC hH hl (c_X9_isIn i2 (0 : Int32) (1 : Int32)) y_X9_isIn v_X9_isIn m_X9_187 rfl ⟨Nat.le_of_ble_eq_true rfl, Nat.le_of_ble_eq_true rfl⟩ ⟨Nat.le_refl _, Nat.le_refl _⟩ rfl (Nat.le_of_ble_eq_true rfl) dX9_nextBite_8 hF (fun i4 H locs hF hH => ?_)
    refine lv_if_ne hx hb dX9_nextBite_11 (tgt := 16) rfl (fun h => ?_) (fun h => ?_)
    · have hF := wx_f h hF
      refine lv_aload_n hx hb dX9_nextBite_16 rfl (lv_at hl 0 rfl) ?_
      refine wx_evv hC hH hl (c_X9_layTried o1 h_o1) y_X9_layTried v_X9_layTried h_o1 rfl m_X9_475 rfl ⟨Nat.le_of_ble_eq_true rfl, Nat.le_of_ble_eq_true rfl⟩ ⟨Nat.le_refl _, Nat.le_refl _⟩ rfl (Nat.le_of_ble_eq_true rfl) dX9_nextBite_17 hF (fun _ u5 H locs hF hH => ?_)
      refine lv_iconst hx hb dX9_nextBite_20 k_iconst_1 ?_
      refine wx_istore_n hx hb dX9_nextBite_21 rfl hl (by decide) (fun ls hl => ?_)
      have hl : lv_has ls 3 [(2, .int (1 : Int32)), (0, .ref (ρ o1)), (1, .int i2)] := hl
      obtain ⟨q6_, hF, hq6⟩ := wJ_some hF
      have hJ41 : ∀ (i7 : Int32) (u8 : wSt) (H : Heap) (locs : List Loc) (ls : Array Slot), F_X9_nextBite_j41 i2 o1 i7 u8 = some z → wHp D κ ρ 1 A s.heap H locs u8 → lv_has ls 3 [(0, .ref (ρ o1)), (1, .int i2), (2, .int i7)] → W p l e (wRm 7 169) s m args below meth c H locs 0 0 (wQI below args s A D κ ρ 1 z) (F0 m 41 ls []) := by
        intro i7 u8 H locs ls hF hH hl
        unfold F_X9_nextBite_j41 at hF
        refine lv_iload_n hx hb dX9_nextBite_41 rfl (lv_at hl 1 rfl) ?_
        refine lv_if_ne hx hb dX9_nextBite_42 (tgt := 49) rfl (fun h => ?_) (fun h => ?_)
        · have hF := wx_f h hF
          refine lv_aload_n hx hb dX9_nextBite_49 rfl (lv_at hl 0 rfl) ?_
          refine wx_getI hC hH h_o1 rfl f_X9_425 dX9_nextBite_50 ?_
          exact wx_iret hC hH hr hlk dX9_nextBite_53 hF
        have hF := wx_t h hF
        refine lv_iload_n hx hb dX9_nextBite_45 rfl (lv_at hl 2 rfl) ?_
        refine lv_goto hx hb dX9_nextBite_46 (tgt := 53) rfl ?_
        exact wx_iret hC hH hr hlk dX9_nextBite_53 hF
      have hL22 : ∀ (k9_ : Nat) (i10 : Int32) (u11 : wSt) (H : Heap) (locs : List Loc) (ls : Array Slot), wL (S := Int32 × wSt) (fun x => F_X9_nextBite_b22 o1 x.1 x.2) k9_ (i10, u11) = some q6_ → wHp D κ ρ 1 A s.heap H locs u11 → lv_has ls 3 [(0, .ref (ρ o1)), (1, .int i2), (2, .int i10)] → W p l e (wRm 7 169) s m args below meth c H locs 0 0 (wQI below args s A D κ ρ 1 z) (F0 m 22 ls []) := by
        intro k9_
        induction k9_ with
        | zero => intro i10 u11 H locs ls hF; exact wL_zero hF
        | succ k9_ ih9 =>
          intro i10 u11 H locs ls hF hH hl
          obtain ⟨q9_, hF, hq9⟩ := wL_some hF
          have hF : F_X9_nextBite_b22 o1 i10 u11 = some q9_ := hF
          unfold F_X9_nextBite_b22 at hF
          refine lv_iload_n hx hb dX9_nextBite_22 rfl (lv_at hl 2 rfl) ?_
          refine lv_sipush hx hb dX9_nextBite_23 k_sipush_200 ?_
          refine lv_icmp_ge hx hb dX9_nextBite_26 (tgt := 60) rfl (fun h => ?_) (fun h => ?_)
          · have hF := wx_t h hF
            refine lv_bipush hx hb dX9_nextBite_60 k_bipush_m2 ?_
            have hF := wJ_r hq9 hF
            have hF := wJ_r hq6 hF
            exact wx_iret hC hH hr hlk dX9_nextBite_62 hF
          have hF := wx_f h hF
          refine lv_aload_n hx hb dX9_nextBite_29 rfl (lv_at hl 0 rfl) ?_
          refine lv_iconst hx hb dX9_nextBite_30 k_iconst_1 ?_
          refine wx_evv hC hH hl (c_X9_stepGoes o1 (1 : Int32) h_o1) y_X9_stepGoes v_X9_stepGoes h_o1 rfl m_X9_455 rfl ⟨Nat.le_of_ble_eq_true rfl, Nat.le_of_ble_eq_true rfl⟩ ⟨Nat.le_refl _, Nat.le_refl _⟩ rfl (Nat.le_of_ble_eq_true rfl) dX9_nextBite_31 hF (fun _ u12 H locs hF hH => ?_)
          refine lv_aload_n hx hb dX9_nextBite_34 rfl (lv_at hl 0 rfl) ?_
          refine wx_getI hC hH h_o1 rfl f_X9_425 dX9_nextBite_35 ?_
          refine lv_if_lt hx hb dX9_nextBite_38 (tgt := 54) rfl (fun h => ?_) (fun h => ?_)
          · have hF := wx_t h hF
            refine wx_iinc hx hb dX9_nextBite_54 k_iconst_1 hl (k := 2) rfl (by decide) hF (fun i13 ls hF hl => ?_)
            have hl : lv_has ls 3 [(2, .int i13), (0, .ref (ρ o1)), (1, .int i2)] := hl
            refine lv_goto hx hb dX9_nextBite_57 (tgt := 22) rfl ?_
            have hF := wJ_l hq9 hF
            exact ih9 i13 u12 H locs ls hF hH (lv_sub hl [1, 2, 0] rfl)
          have hF := wx_f h hF
          have hF := wJ_r hq9 hF
          have hF := wJ_l hq6 hF
          exact hJ41 i10 u12 H locs ls hF hH (lv_sub hl [0, 1, 2] rfl)
      exact hL22 wFu (1 : Int32) u5 H locs ls hF hH (lv_sub hl [1, 2, 0] rfl)
    have hF := wx_t h hF
    refine lv_iconst hx hb dX9_nextBite_14 k_iconst_m1 ?_
    exact wx_iret hC hH hr hlk dX9_nextBite_15 hF
  exact key _ _ hH
def F_X9_eatenIn_b21 (o1 : Nat) (i2 : Int32) (i7 : Int32) (u8 : wSt) : Option ((Int32 × wSt) ⊕ (Int32 × wSt)) :=
  if (200 : Int32) ≤ i7 then (some (.inr ((-2 : Int32), u8))) else (wR (u8.2.2 o1 55) 15 (fun o9 => wN ((8 : Int32) + i2) o9 (fun j10 => if (u8.1 o9 j10) = 0 then (wC (F_X9_stepGoes o1 (1 : Int32) u8) (fun _ (u11 : wSt) => wB (i7 + (1 : Int32)) (fun (i12 : Int32) => some (.inl (i12, u11))))) else (some (.inr (i7, u8))))))
def F_X9_eatenIn (o1 : Nat) (i2 : Int32) (u0 : wSt) : Option (Int32 × wSt) :=
  wB (w_sI u0 o1 2 (0 : Int32)) (fun (u3 : wSt) => wP (F_X9_isFruit o1 i2 u3) (fun (i4 : Int32) => if i4 = 0 then (some ((-1 : Int32), u3)) else (wC (F_X9_layTried o1 u3) (fun _ (u5 : wSt) => wL (S := Int32 × wSt) (fun x => F_X9_eatenIn_b21 o1 i2 x.1 x.2) wFu ((0 : Int32), u5)))))
set_option maxRecDepth 100000 in
set_option maxHeartbeats 4000000 in
theorem c_X9_eatenIn {l : Launch} {D : va_G} {κ : Nat → ClassId} {ρ : Nat → Nat} (o1 : Nat) (i2 : Int32) (h_o1 : (w_sh o1).1 = 9) : wMI l yX9_eatenIn cX9_eatenIn 3 .int (wRm 7 169) [.ref (ρ o1), .int i2] D κ ρ 1 (fun u => F_X9_eatenIn o1 i2 u) := by
  refine wMI_of (F := fun u => F_X9_eatenIn o1 i2 u) rfl (Nat.le_of_ble_eq_true rfl) (fun u0 z p e s m args below meth c ls A hF hC hr hlk hH hl => ?_)
  have hl : lv_has ls 3 [(0, .ref (ρ o1)), (1, .int i2)] := hl
  have hx := hC.1.1
  have hb := hC.1.2.1
  have hF : F_X9_eatenIn o1 i2 u0 = some z := hF
  unfold F_X9_eatenIn at hF
  change W p l e (wRm 7 169) s m args below meth c s.heap [] 0 0 (wQI below args s A D κ ρ 1 z) (F0 m 0 ls [])
  have key : ∀ (H : Heap) (locs : List Loc), wHp D κ ρ 1 A s.heap H locs u0 → W p l e (wRm 7 169) s m args below meth c H locs 0 0 (wQI below args s A D κ ρ 1 z) (F0 m 0 ls []) := by
    intro H locs hH
    refine lv_aload_n hx hb dX9_eatenIn_0 rfl (lv_at hl 0 rfl) ?_
    refine lv_iconst hx hb dX9_eatenIn_1 k_iconst_0 ?_
    refine wx_putI hC hH h_o1 rfl f_X9_142 g_9_2 dX9_eatenIn_2 hF (fun u3 H locs hF hH => ?_)
    refine lv_aload_n hx hb dX9_eatenIn_5 rfl (lv_at hl 0 rfl) ?_
    refine lv_iload_n hx hb dX9_eatenIn_6 rfl (lv_at hl 1 rfl) ?_
    refine wx_pvi hC hH hl (c_X9_isFruit o1 i2 h_o1) y_X9_isFruit v_X9_isFruit h_o1 rfl m_X9_464 rfl ⟨Nat.le_of_ble_eq_true rfl, Nat.le_of_ble_eq_true rfl⟩ ⟨Nat.le_refl _, Nat.le_refl _⟩ rfl (Nat.le_of_ble_eq_true rfl) dX9_eatenIn_7 hF (fun i4 H locs hF hH => ?_)
    refine lv_if_ne hx hb dX9_eatenIn_10 (tgt := 15) rfl (fun h => ?_) (fun h => ?_)
    · have hF := wx_f h hF
      refine lv_aload_n hx hb dX9_eatenIn_15 rfl (lv_at hl 0 rfl) ?_
      refine wx_evv hC hH hl (c_X9_layTried o1 h_o1) y_X9_layTried v_X9_layTried h_o1 rfl m_X9_475 rfl ⟨Nat.le_of_ble_eq_true rfl, Nat.le_of_ble_eq_true rfl⟩ ⟨Nat.le_refl _, Nat.le_refl _⟩ rfl (Nat.le_of_ble_eq_true rfl) dX9_eatenIn_16 hF (fun _ u5 H locs hF hH => ?_)
      refine lv_iconst hx hb dX9_eatenIn_19 k_iconst_0 ?_
      refine wx_istore_n hx hb dX9_eatenIn_20 rfl hl (by decide) (fun ls hl => ?_)
      have hl : lv_has ls 3 [(2, .int (0 : Int32)), (0, .ref (ρ o1)), (1, .int i2)] := hl
      have hL21 : ∀ (k6_ : Nat) (i7 : Int32) (u8 : wSt) (H : Heap) (locs : List Loc) (ls : Array Slot), wL (S := Int32 × wSt) (fun x => F_X9_eatenIn_b21 o1 i2 x.1 x.2) k6_ (i7, u8) = some z → wHp D κ ρ 1 A s.heap H locs u8 → lv_has ls 3 [(0, .ref (ρ o1)), (1, .int i2), (2, .int i7)] → W p l e (wRm 7 169) s m args below meth c H locs 0 0 (wQI below args s A D κ ρ 1 z) (F0 m 21 ls []) := by
        intro k6_
        induction k6_ with
        | zero => intro i7 u8 H locs ls hF; exact wL_zero hF
        | succ k6_ ih6 =>
          intro i7 u8 H locs ls hF hH hl
          obtain ⟨q6_, hF, hq6⟩ := wL_some hF
          have hF : F_X9_eatenIn_b21 o1 i2 i7 u8 = some q6_ := hF
          unfold F_X9_eatenIn_b21 at hF
          refine lv_iload_n hx hb dX9_eatenIn_21 rfl (lv_at hl 2 rfl) ?_
          refine lv_sipush hx hb dX9_eatenIn_22 k_sipush_200 ?_
          refine lv_icmp_ge hx hb dX9_eatenIn_25 (tgt := 53) rfl (fun h => ?_) (fun h => ?_)
          · have hF := wx_t h hF
            refine lv_bipush hx hb dX9_eatenIn_53 k_bipush_m2 ?_
            have hF := wJ_r hq6 hF
            exact wx_iret hC hH hr hlk dX9_eatenIn_55 hF
          have hF := wx_f h hF
          refine lv_aload_n hx hb dX9_eatenIn_28 rfl (lv_at hl 0 rfl) ?_
          refine wx_getR hC hH h_o1 rfl f_X9_106 dX9_eatenIn_29 hF (fun o9 h_o9 hF => ?_)
          refine lv_bipush hx hb dX9_eatenIn_32 k_bipush_8 ?_
          refine lv_iload_n hx hb dX9_eatenIn_34 rfl (lv_at hl 1 rfl) ?_
          refine lv_iadd hx hb dX9_eatenIn_35 ?_
          refine wx_zald hC hH h_o9 ⟨rfl, rfl⟩ dX9_eatenIn_36 hF (fun j10 hF => ?_)
          refine lv_if_eq hx hb dX9_eatenIn_37 (tgt := 42) rfl (fun h => ?_) (fun h => ?_)
          · have hF := wx_t h hF
            refine lv_aload_n hx hb dX9_eatenIn_42 rfl (lv_at hl 0 rfl) ?_
            refine lv_iconst hx hb dX9_eatenIn_43 k_iconst_1 ?_
            refine wx_evv hC hH hl (c_X9_stepGoes o1 (1 : Int32) h_o1) y_X9_stepGoes v_X9_stepGoes h_o1 rfl m_X9_455 rfl ⟨Nat.le_of_ble_eq_true rfl, Nat.le_of_ble_eq_true rfl⟩ ⟨Nat.le_refl _, Nat.le_refl _⟩ rfl (Nat.le_of_ble_eq_true rfl) dX9_eatenIn_44 hF (fun _ u11 H locs hF hH => ?_)
            refine wx_iinc hx hb dX9_eatenIn_47 k_iconst_1 hl (k := 2) rfl (by decide) hF (fun i12 ls hF hl => ?_)
            have hl : lv_has ls 3 [(2, .int i12), (0, .ref (ρ o1)), (1, .int i2)] := hl
            refine lv_goto hx hb dX9_eatenIn_50 (tgt := 21) rfl ?_
            have hF := wJ_l hq6 hF
            exact ih6 i12 u11 H locs ls hF hH (lv_sub hl [1, 2, 0] rfl)
          have hF := wx_f h hF
          refine lv_iload_n hx hb dX9_eatenIn_40 rfl (lv_at hl 2 rfl) ?_
          have hF := wJ_r hq6 hF
          exact wx_iret hC hH hr hlk dX9_eatenIn_41 hF
      exact hL21 wFu (0 : Int32) u5 H locs ls hF hH (lv_sub hl [1, 2, 0] rfl)
    have hF := wx_t h hF
    refine lv_iconst hx hb dX9_eatenIn_13 k_iconst_m1 ?_
    exact wx_iret hC hH hr hlk dX9_eatenIn_14 hF
  exact key _ _ hH
def F_X9_hold_b11 (o1 : Nat) (i5 : Int32) (u6 : wSt) : Option ((Int32 × wSt) ⊕ (Int32 × wSt)) :=
  if (999 : Int32) < i5 then (some (.inr ((-2 : Int32), u6))) else (wP (F_X9_thereMany o1 (1 : Int32) u6) (fun (i7 : Int32) => if i7 = 0 then (some (.inr (i5, u6))) else (wC (F_X9_stepGoes o1 (1 : Int32) u6) (fun _ (u8 : wSt) => wB (i5 + (1 : Int32)) (fun (i9 : Int32) => some (.inl (i9, u8)))))))
def F_X9_hold (o1 : Nat) (u0 : wSt) : Option (Int32 × wSt) :=
  wB (w_sI u0 o1 2 (0 : Int32)) (fun (u2 : wSt) => wC (F_X9_layTried o1 u2) (fun _ (u3 : wSt) => wL (S := Int32 × wSt) (fun x => F_X9_hold_b11 o1 x.1 x.2) wFu ((0 : Int32), u3)))
set_option maxRecDepth 100000 in
set_option maxHeartbeats 4000000 in
theorem c_X9_hold {l : Launch} {D : va_G} {κ : Nat → ClassId} {ρ : Nat → Nat} (o1 : Nat) (h_o1 : (w_sh o1).1 = 9) : wMI l yX9_hold cX9_hold 2 .int (wRm 7 169) [.ref (ρ o1)] D κ ρ 1 (fun u => F_X9_hold o1 u) := by
  refine wMI_of (F := fun u => F_X9_hold o1 u) rfl (Nat.le_of_ble_eq_true rfl) (fun u0 z p e s m args below meth c ls A hF hC hr hlk hH hl => ?_)
  have hl : lv_has ls 2 [(0, .ref (ρ o1))] := hl
  have hx := hC.1.1
  have hb := hC.1.2.1
  have hF : F_X9_hold o1 u0 = some z := hF
  unfold F_X9_hold at hF
  change W p l e (wRm 7 169) s m args below meth c s.heap [] 0 0 (wQI below args s A D κ ρ 1 z) (F0 m 0 ls [])
  have key : ∀ (H : Heap) (locs : List Loc), wHp D κ ρ 1 A s.heap H locs u0 → W p l e (wRm 7 169) s m args below meth c H locs 0 0 (wQI below args s A D κ ρ 1 z) (F0 m 0 ls []) := by
    intro H locs hH
    refine lv_aload_n hx hb dX9_hold_0 rfl (lv_at hl 0 rfl) ?_
    refine lv_iconst hx hb dX9_hold_1 k_iconst_0 ?_
    refine wx_putI hC hH h_o1 rfl f_X9_142 g_9_2 dX9_hold_2 hF (fun u2 H locs hF hH => ?_)
    refine lv_aload_n hx hb dX9_hold_5 rfl (lv_at hl 0 rfl) ?_
    refine wx_evv hC hH hl (c_X9_layTried o1 h_o1) y_X9_layTried v_X9_layTried h_o1 rfl m_X9_475 rfl ⟨Nat.le_of_ble_eq_true rfl, Nat.le_of_ble_eq_true rfl⟩ ⟨Nat.le_refl _, Nat.le_refl _⟩ rfl (Nat.le_of_ble_eq_true rfl) dX9_hold_6 hF (fun _ u3 H locs hF hH => ?_)
    refine lv_iconst hx hb dX9_hold_9 k_iconst_0 ?_
    refine wx_istore_n hx hb dX9_hold_10 rfl hl (by decide) (fun ls hl => ?_)
    have hl : lv_has ls 2 [(1, .int (0 : Int32)), (0, .ref (ρ o1))] := hl
    have hL11 : ∀ (k4_ : Nat) (i5 : Int32) (u6 : wSt) (H : Heap) (locs : List Loc) (ls : Array Slot), wL (S := Int32 × wSt) (fun x => F_X9_hold_b11 o1 x.1 x.2) k4_ (i5, u6) = some z → wHp D κ ρ 1 A s.heap H locs u6 → lv_has ls 2 [(0, .ref (ρ o1)), (1, .int i5)] → W p l e (wRm 7 169) s m args below meth c H locs 0 0 (wQI below args s A D κ ρ 1 z) (F0 m 11 ls []) := by
      intro k4_
      induction k4_ with
      | zero => intro i5 u6 H locs ls hF; exact wL_zero hF
      | succ k4_ ih4 =>
        intro i5 u6 H locs ls hF hH hl
        obtain ⟨q4_, hF, hq4⟩ := wL_some hF
        have hF : F_X9_hold_b11 o1 i5 u6 = some q4_ := hF
        unfold F_X9_hold_b11 at hF
        refine lv_iload_n hx hb dX9_hold_11 rfl (lv_at hl 1 rfl) ?_
        refine lv_sipush hx hb dX9_hold_12 k_sipush_999 ?_
        refine lv_icmp_gt hx hb dX9_hold_15 (tgt := 39) rfl (fun h => ?_) (fun h => ?_)
        · have hF := wx_t h hF
          refine lv_bipush hx hb dX9_hold_39 k_bipush_m2 ?_
          have hF := wJ_r hq4 hF
          exact wx_iret hC hH hr hlk dX9_hold_41 hF
        have hF := wx_f h hF
        refine lv_aload_n hx hb dX9_hold_18 rfl (lv_at hl 0 rfl) ?_
        refine lv_iconst hx hb dX9_hold_19 k_iconst_1 ?_
        refine wx_pvi hC hH hl (c_X9_thereMany o1 (1 : Int32) h_o1) y_X9_thereMany v_X9_thereMany h_o1 rfl m_X9_392 rfl ⟨Nat.le_of_ble_eq_true rfl, Nat.le_of_ble_eq_true rfl⟩ ⟨Nat.le_refl _, Nat.le_refl _⟩ rfl (Nat.le_of_ble_eq_true rfl) dX9_hold_20 hF (fun i7 H locs hF hH => ?_)
        refine lv_if_ne hx hb dX9_hold_23 (tgt := 28) rfl (fun h => ?_) (fun h => ?_)
        · have hF := wx_f h hF
          refine lv_aload_n hx hb dX9_hold_28 rfl (lv_at hl 0 rfl) ?_
          refine lv_iconst hx hb dX9_hold_29 k_iconst_1 ?_
          refine wx_evv hC hH hl (c_X9_stepGoes o1 (1 : Int32) h_o1) y_X9_stepGoes v_X9_stepGoes h_o1 rfl m_X9_455 rfl ⟨Nat.le_of_ble_eq_true rfl, Nat.le_of_ble_eq_true rfl⟩ ⟨Nat.le_refl _, Nat.le_refl _⟩ rfl (Nat.le_of_ble_eq_true rfl) dX9_hold_30 hF (fun _ u8 H locs hF hH => ?_)
          refine wx_iinc hx hb dX9_hold_33 k_iconst_1 hl (k := 1) rfl (by decide) hF (fun i9 ls hF hl => ?_)
          have hl : lv_has ls 2 [(1, .int i9), (0, .ref (ρ o1))] := hl
          refine lv_goto hx hb dX9_hold_36 (tgt := 11) rfl ?_
          have hF := wJ_l hq4 hF
          exact ih4 i9 u8 H locs ls hF hH (lv_sub hl [1, 0] rfl)
        have hF := wx_t h hF
        refine lv_iload_n hx hb dX9_hold_26 rfl (lv_at hl 1 rfl) ?_
        have hF := wJ_r hq4 hF
        exact wx_iret hC hH hr hlk dX9_hold_27 hF
    exact hL11 wFu (0 : Int32) u3 H locs ls hF hH (lv_sub hl [1, 0] rfl)
  exact key _ _ hH
def F_X9_rowsOf_b4 (i1 : Int32) (i3 : Int32) (i4 : Int32) : Option ((Int32 × Int32) ⊕ Int32) :=
  if i1 < i4 then (some (.inr (i3))) else (wB (i3 * i4) (fun (i5 : Int32) => wB (i4 + (1 : Int32)) (fun (i6 : Int32) => some (.inl (i5, i6)))))
def F_X9_rowsOf (i1 : Int32) (u0 : wSt) : Option Int32 :=
  wL (S := Int32 × Int32) (fun x => F_X9_rowsOf_b4 i1 x.1 x.2) wFu ((1 : Int32), (2 : Int32))
set_option maxRecDepth 100000 in
set_option maxHeartbeats 4000000 in
theorem c_X9_rowsOf {l : Launch} {D : va_G} {κ : Nat → ClassId} {ρ : Nat → Nat} (i1 : Int32) : wMI l yX9_rowsOf cX9_rowsOf 3 .int (wRm 0 0) [.int i1] D κ ρ 1 (fun u => wPu (F_X9_rowsOf i1 u) u) := by
  refine wMP_of (F := fun u => F_X9_rowsOf i1 u) rfl (Nat.le_of_ble_eq_true rfl) (fun u0 z p e s m args below meth c ls A hF hC hr hlk hH hl => ?_)
  have hl : lv_has ls 3 [(0, .int i1)] := hl
  have hx := hC.1.1
  have hb := hC.1.2.1
  have hF : F_X9_rowsOf i1 u0 = some z := hF
  unfold F_X9_rowsOf at hF
  change W p l e (wRm 0 0) s m args below meth c s.heap [] 0 0 (wQI below args s A D κ ρ 1 (z, u0)) (F0 m 0 ls [])
  have key : ∀ (H : Heap) (locs : List Loc), wHp D κ ρ 1 A s.heap H locs u0 → W p l e (wRm 0 0) s m args below meth c H locs 0 0 (wQI below args s A D κ ρ 1 (z, u0)) (F0 m 0 ls []) := by
    intro H locs hH
    refine lv_iconst hx hb dX9_rowsOf_0 k_iconst_1 ?_
    refine wx_istore_n hx hb dX9_rowsOf_1 rfl hl (by decide) (fun ls hl => ?_)
    have hl : lv_has ls 3 [(1, .int (1 : Int32)), (0, .int i1)] := hl
    refine lv_iconst hx hb dX9_rowsOf_2 k_iconst_2 ?_
    refine wx_istore_n hx hb dX9_rowsOf_3 rfl hl (by decide) (fun ls hl => ?_)
    have hl : lv_has ls 3 [(2, .int (2 : Int32)), (1, .int (1 : Int32)), (0, .int i1)] := hl
    have hL4 : ∀ (k2_ : Nat) (i3 : Int32) (i4 : Int32) (H : Heap) (locs : List Loc) (ls : Array Slot), wL (S := Int32 × Int32) (fun x => F_X9_rowsOf_b4 i1 x.1 x.2) k2_ (i3, i4) = some z → wHp D κ ρ 1 A s.heap H locs u0 → lv_has ls 3 [(0, .int i1), (1, .int i3), (2, .int i4)] → W p l e (wRm 0 0) s m args below meth c H locs 0 0 (wQI below args s A D κ ρ 1 (z, u0)) (F0 m 4 ls []) := by
      intro k2_
      induction k2_ with
      | zero => intro i3 i4 H locs ls hF; exact wL_zero hF
      | succ k2_ ih2 =>
        intro i3 i4 H locs ls hF hH hl
        obtain ⟨q2_, hF, hq2⟩ := wL_some hF
        have hF : F_X9_rowsOf_b4 i1 i3 i4 = some q2_ := hF
        unfold F_X9_rowsOf_b4 at hF
        refine lv_iload_n hx hb dX9_rowsOf_4 rfl (lv_at hl 2 rfl) ?_
        refine lv_iload_n hx hb dX9_rowsOf_5 rfl (lv_at hl 0 rfl) ?_
        refine lv_icmp_gt hx hb dX9_rowsOf_6 (tgt := 19) rfl (fun h => ?_) (fun h => ?_)
        · have hF := wx_t h hF
          refine lv_iload_n hx hb dX9_rowsOf_19 rfl (lv_at hl 1 rfl) ?_
          have hF := wJ_r hq2 hF
          exact wx_iret hC hH hr hlk dX9_rowsOf_20 (wx_pr hF)
        have hF := wx_f h hF
        refine lv_iload_n hx hb dX9_rowsOf_9 rfl (lv_at hl 1 rfl) ?_
        refine lv_iload_n hx hb dX9_rowsOf_10 rfl (lv_at hl 2 rfl) ?_
        refine lv_imul hx hb dX9_rowsOf_11 ?_
        refine wx_leti hF (fun i5 hF => ?_)
        refine wx_istore_n hx hb dX9_rowsOf_12 rfl hl (by decide) (fun ls hl => ?_)
        have hl : lv_has ls 3 [(1, .int i5), (0, .int i1), (2, .int i4)] := hl
        refine wx_iinc hx hb dX9_rowsOf_13 k_iconst_1 hl (k := 2) rfl (by decide) hF (fun i6 ls hF hl => ?_)
        have hl : lv_has ls 3 [(2, .int i6), (1, .int i5), (0, .int i1)] := hl
        refine lv_goto hx hb dX9_rowsOf_16 (tgt := 4) rfl ?_
        have hF := wJ_l hq2 hF
        exact ih2 i5 i6 H locs ls hF hH (lv_sub hl [2, 1, 0] rfl)
    exact hL4 wFu (1 : Int32) (2 : Int32) H locs ls hF hH (lv_sub hl [2, 1, 0] rfl)
  exact key _ _ hH
def F_X9_layRow_j84 (u9 : wSt) (o1 : Nat) (i8 : Int32) (i6 : Int32) (i12 : Int32) (i14 : Int32) : Option ((Int32 × Int32 × Int32 × wSt) ⊕ (Unit × wSt)) :=
  wR (u9.2.2 o1 69) 14 (fun o15 => wSI u9 o15 i8 i14 (fun (u16 : wSt) => wB (i6 ||| ((1 : Int32) <<< (i14 &&& 31))) (fun (i17 : Int32) => wB (i8 + (1 : Int32)) (fun (i18 : Int32) => some (.inl (i17, i12, i18, u16))))))
def F_X9_layRow_j75 (i20 : Int32) (i21 : Int32) (i26 : Int32) : Option ((Int32 × Int32) ⊕ ((Int32) ⊕ ((Int32 × Int32 × Int32 × wSt) ⊕ (Unit × wSt)))) :=
  wB (i20 - i26) (fun (i27 : Int32) => wB (i21 + (1 : Int32)) (fun (i28 : Int32) => some (.inl (i27, i28))))
def F_X9_layRow_j58 (i6 : Int32) (i21 : Int32) (u9 : wSt) (i20 : Int32) : Option ((Int32 × Int32) ⊕ ((Int32) ⊕ ((Int32 × Int32 × Int32 × wSt) ⊕ (Unit × wSt)))) :=
  wP (F_X9_isOf i6 i21 u9) (fun (i24 : Int32) => wJ (X := Int32) (if i24 = 0 then (some (.inl (1 : Int32))) else (some (.inl (0 : Int32)))) (fun x => F_X9_layRow_j75 i20 i21 x))
def F_X9_layRow_b43 (i6 : Int32) (u9 : wSt) (i20 : Int32) (i21 : Int32) : Option ((Int32 × Int32) ⊕ ((Int32) ⊕ ((Int32 × Int32 × Int32 × wSt) ⊕ (Unit × wSt)))) :=
  wP (F_X9_isOf i6 i21 u9) (fun (i22 : Int32) => wJ (X := Unit) (if i22 = 0 then (if i20 ≤ 0 then (some (.inr (.inr (.inl i21)))) else (some (.inl ()))) else (some (.inl ()))) (fun x => F_X9_layRow_j58 i6 i21 u9 i20))
def F_X9_layRow_b9 (i3 : Int32) (o1 : Nat) (i6 : Int32) (i7 : Int32) (i8 : Int32) (u9 : wSt) : Option ((Int32 × Int32 × Int32 × wSt) ⊕ (Unit × wSt)) :=
  if i3 ≤ i8 then (some (.inr ((), u9))) else (wP (F_X9_rowsOf ((i3 - (1 : Int32)) - i8) u9) (fun (i10 : Int32) => wG (¬ i10 = 0) (wB (i7 / i10) (fun (i11 : Int32) => wG (¬ i10 = 0) (wB (w_rem i7 i10) (fun (i12 : Int32) => wJ (X := Int32) (wL (S := Int32 × Int32) (fun x => F_X9_layRow_b43 i6 u9 x.1 x.2) wFu (i11, (0 : Int32))) (fun x => F_X9_layRow_j84 u9 o1 i8 i6 i12 x)))))))
def F_X9_layRow (o1 : Nat) (i2 : Int32) (i3 : Int32) (i4 : Int32) (u0 : wSt) : Option (Unit × wSt) :=
  wL (S := Int32 × Int32 × Int32 × wSt) (fun x => F_X9_layRow_b9 i3 o1 x.1 x.2.1 x.2.2.1 x.2.2.2) wFu (i4, i2, (0 : Int32), u0)
set_option maxRecDepth 100000 in
set_option maxHeartbeats 4000000 in
theorem c_X9_layRow {l : Launch} {D : va_G} {κ : Nat → ClassId} {ρ : Nat → Nat} (o1 : Nat) (i2 : Int32) (i3 : Int32) (i4 : Int32) (h_o1 : (w_sh o1).1 = 9) : wMV l yX9_layRow cX9_layRow 10 (wRm 1 22) [.ref (ρ o1), .int i2, .int i3, .int i4] D κ ρ 1 (fun u => F_X9_layRow o1 i2 i3 i4 u) := by
  refine wMV_of (F := fun u => F_X9_layRow o1 i2 i3 i4 u) rfl (Nat.le_of_ble_eq_true rfl) (fun u0 z p e s m args below meth c ls A hF hC hr hlk hH hl => ?_)
  have hl : lv_has ls 10 [(0, .ref (ρ o1)), (1, .int i2), (2, .int i3), (3, .int i4)] := hl
  have hx := hC.1.1
  have hb := hC.1.2.1
  have hF : F_X9_layRow o1 i2 i3 i4 u0 = some z := hF
  unfold F_X9_layRow at hF
  change W p l e (wRm 1 22) s m args below meth c s.heap [] 0 0 (wQV below args s A D κ ρ 1 z) (F0 m 0 ls [])
  have key : ∀ (H : Heap) (locs : List Loc), wHp D κ ρ 1 A s.heap H locs u0 → W p l e (wRm 1 22) s m args below meth c H locs 0 0 (wQV below args s A D κ ρ 1 z) (F0 m 0 ls []) := by
    intro H locs hH
    refine lv_iload_n hx hb dX9_layRow_0 rfl (lv_at hl 3 rfl) ?_
    refine wx_istore hx hb dX9_layRow_1 hl (by decide) (fun ls hl => ?_)
    have hl : lv_has ls 10 [(4, .int i4), (0, .ref (ρ o1)), (1, .int i2), (2, .int i3), (3, .int i4)] := hl
    refine lv_iload_n hx hb dX9_layRow_3 rfl (lv_at hl 2 rfl) ?_
    refine wx_istore hx hb dX9_layRow_4 hl (by decide) (fun ls hl => ?_)
    have hl : lv_has ls 10 [(5, .int i2), (4, .int i4), (0, .ref (ρ o1)), (1, .int i2), (2, .int i3), (3, .int i4)] := hl
    refine lv_iconst hx hb dX9_layRow_6 k_iconst_0 ?_
    refine wx_istore hx hb dX9_layRow_7 hl (by decide) (fun ls hl => ?_)
    have hl : lv_has ls 10 [(6, .int (0 : Int32)), (5, .int i2), (4, .int i4), (0, .ref (ρ o1)), (1, .int i2), (2, .int i3), (3, .int i4)] := hl
    have hL9 : ∀ (k5_ : Nat) (i6 : Int32) (i7 : Int32) (i8 : Int32) (u9 : wSt) (H : Heap) (locs : List Loc) (ls : Array Slot), wL (S := Int32 × Int32 × Int32 × wSt) (fun x => F_X9_layRow_b9 i3 o1 x.1 x.2.1 x.2.2.1 x.2.2.2) k5_ (i6, i7, i8, u9) = some z → wHp D κ ρ 1 A s.heap H locs u9 → lv_has ls 10 [(0, .ref (ρ o1)), (2, .int i3), (4, .int i6), (5, .int i7), (6, .int i8)] → W p l e (wRm 1 22) s m args below meth c H locs 0 0 (wQV below args s A D κ ρ 1 z) (F0 m 9 ls []) := by
      intro k5_
      induction k5_ with
      | zero => intro i6 i7 i8 u9 H locs ls hF; exact wL_zero hF
      | succ k5_ ih5 =>
        intro i6 i7 i8 u9 H locs ls hF hH hl
        obtain ⟨q5_, hF, hq5⟩ := wL_some hF
        have hF : F_X9_layRow_b9 i3 o1 i6 i7 i8 u9 = some q5_ := hF
        unfold F_X9_layRow_b9 at hF
        refine lv_iload hx hb dX9_layRow_9 (lv_at hl 4 rfl) ?_
        refine lv_iload_n hx hb dX9_layRow_11 rfl (lv_at hl 1 rfl) ?_
        refine lv_icmp_ge hx hb dX9_layRow_12 (tgt := 108) rfl (fun h => ?_) (fun h => ?_)
        · have hF := wx_t h hF
          have hF := wJ_r hq5 hF
          exact wx_vret hC hH hr hlk dX9_layRow_108 hF
        have hF := wx_f h hF
        refine lv_iload_n hx hb dX9_layRow_15 rfl (lv_at hl 1 rfl) ?_
        refine lv_iconst hx hb dX9_layRow_16 k_iconst_1 ?_
        refine lv_isub hx hb dX9_layRow_17 ?_
        refine lv_iload hx hb dX9_layRow_18 (lv_at hl 4 rfl) ?_
        refine lv_isub hx hb dX9_layRow_20 ?_
        refine wx_psi hC hH hl (c_X9_rowsOf ((i3 - (1 : Int32)) - i8)) y_X9_rowsOf v_X9_rowsOf m_X9_490 rfl ⟨Nat.le_of_ble_eq_true rfl, Nat.le_of_ble_eq_true rfl⟩ ⟨Nat.le_refl _, Nat.le_refl _⟩ rfl (Nat.le_of_ble_eq_true rfl) dX9_layRow_21 hF (fun i10 H locs hF hH => ?_)
        refine wx_istore hx hb dX9_layRow_24 hl (by decide) (fun ls hl => ?_)
        have hl : lv_has ls 10 [(7, .int i10), (0, .ref (ρ o1)), (2, .int i3), (4, .int i6), (5, .int i7), (6, .int i8)] := hl
        refine lv_iload hx hb dX9_layRow_26 (lv_at hl 4 rfl) ?_
        refine lv_iload hx hb dX9_layRow_28 (lv_at hl 0 rfl) ?_
        obtain ⟨h0, hF⟩ := wG_some hF
        refine lv_idiv hx hb dX9_layRow_30 h0 ?_
        refine wx_leti hF (fun i11 hF => ?_)
        refine wx_istore hx hb dX9_layRow_31 hl (by decide) (fun ls hl => ?_)
        have hl : lv_has ls 10 [(8, .int i11), (7, .int i10), (0, .ref (ρ o1)), (2, .int i3), (4, .int i6), (5, .int i7), (6, .int i8)] := hl
        refine lv_iload hx hb dX9_layRow_33 (lv_at hl 5 rfl) ?_
        refine lv_iload hx hb dX9_layRow_35 (lv_at hl 1 rfl) ?_
        obtain ⟨h0, hF⟩ := wG_some hF
        refine wx_irem hx hb dX9_layRow_37 h0 ?_
        refine wx_leti hF (fun i12 hF => ?_)
        refine wx_istore hx hb dX9_layRow_38 hl (by decide) (fun ls hl => ?_)
        have hl : lv_has ls 10 [(5, .int i12), (8, .int i11), (7, .int i10), (0, .ref (ρ o1)), (2, .int i3), (4, .int i6), (6, .int i8)] := hl
        refine lv_iconst hx hb dX9_layRow_40 k_iconst_0 ?_
        refine wx_istore hx hb dX9_layRow_41 hl (by decide) (fun ls hl => ?_)
        have hl : lv_has ls 10 [(9, .int (0 : Int32)), (5, .int i12), (8, .int i11), (7, .int i10), (0, .ref (ρ o1)), (2, .int i3), (4, .int i6), (6, .int i8)] := hl
        obtain ⟨q13_, hF, hq13⟩ := wJ_some hF
        have hJ84 : ∀ (i14 : Int32) (H : Heap) (locs : List Loc) (ls : Array Slot), F_X9_layRow_j84 u9 o1 i8 i6 i12 i14 = some q5_ → wHp D κ ρ 1 A s.heap H locs u9 → lv_has ls 10 [(0, .ref (ρ o1)), (2, .int i3), (4, .int i6), (5, .int i12), (6, .int i8), (9, .int i14)] → W p l e (wRm 1 22) s m args below meth c H locs 0 0 (wQV below args s A D κ ρ 1 z) (F0 m 84 ls []) := by
          intro i14 H locs ls hF hH hl
          unfold F_X9_layRow_j84 at hF
          refine lv_aload_n hx hb dX9_layRow_84 rfl (lv_at hl 0 rfl) ?_
          refine wx_getR hC hH h_o1 rfl f_X9_115 dX9_layRow_85 hF (fun o15 h_o15 hF => ?_)
          refine lv_iload hx hb dX9_layRow_88 (lv_at hl 4 rfl) ?_
          refine lv_iload hx hb dX9_layRow_90 (lv_at hl 5 rfl) ?_
          refine wx_iast hC hH h_o15 ⟨rfl, rfl⟩ dX9_layRow_92 hF (fun u16 H locs hF hH => ?_)
          refine lv_iload hx hb dX9_layRow_93 (lv_at hl 2 rfl) ?_
          refine lv_iconst hx hb dX9_layRow_95 k_iconst_1 ?_
          refine lv_iload hx hb dX9_layRow_96 (lv_at hl 5 rfl) ?_
          refine lv_ishl hx hb dX9_layRow_98 ?_
          refine lv_ior hx hb dX9_layRow_99 ?_
          refine wx_leti hF (fun i17 hF => ?_)
          refine wx_istore hx hb dX9_layRow_100 hl (by decide) (fun ls hl => ?_)
          have hl : lv_has ls 10 [(4, .int i17), (0, .ref (ρ o1)), (2, .int i3), (5, .int i12), (6, .int i8), (9, .int i14)] := hl
          refine wx_iinc hx hb dX9_layRow_102 k_iconst_1 hl (k := 4) rfl (by decide) hF (fun i18 ls hF hl => ?_)
          have hl : lv_has ls 10 [(6, .int i18), (4, .int i17), (0, .ref (ρ o1)), (2, .int i3), (5, .int i12), (9, .int i14)] := hl
          refine lv_goto hx hb dX9_layRow_105 (tgt := 9) rfl ?_
          have hF := wJ_l hq5 hF
          exact ih5 i17 i12 i18 u16 H locs ls hF hH (lv_sub hl [2, 3, 1, 4, 0] rfl)
        have hL43 : ∀ (k19_ : Nat) (i20 : Int32) (i21 : Int32) (H : Heap) (locs : List Loc) (ls : Array Slot), wL (S := Int32 × Int32) (fun x => F_X9_layRow_b43 i6 u9 x.1 x.2) k19_ (i20, i21) = some q13_ → wHp D κ ρ 1 A s.heap H locs u9 → lv_has ls 10 [(0, .ref (ρ o1)), (2, .int i3), (4, .int i6), (5, .int i12), (6, .int i8), (8, .int i20), (9, .int i21)] → W p l e (wRm 1 22) s m args below meth c H locs 0 0 (wQV below args s A D κ ρ 1 z) (F0 m 43 ls []) := by
          intro k19_
          induction k19_ with
          | zero => intro i20 i21 H locs ls hF; exact wL_zero hF
          | succ k19_ ih19 =>
            intro i20 i21 H locs ls hF hH hl
            obtain ⟨q19_, hF, hq19⟩ := wL_some hF
            have hF : F_X9_layRow_b43 i6 u9 i20 i21 = some q19_ := hF
            unfold F_X9_layRow_b43 at hF
            refine lv_iload hx hb dX9_layRow_43 (lv_at hl 2 rfl) ?_
            refine lv_iload hx hb dX9_layRow_45 (lv_at hl 6 rfl) ?_
            refine wx_psi hC hH hl (c_X9_isOf i6 i21) y_X9_isOf v_X9_isOf m_X9_383 rfl ⟨Nat.le_of_ble_eq_true rfl, Nat.le_of_ble_eq_true rfl⟩ ⟨Nat.le_refl _, Nat.le_refl _⟩ rfl (Nat.le_of_ble_eq_true rfl) dX9_layRow_47 hF (fun i22 H locs hF hH => ?_)
            obtain ⟨q23_, hF, hq23⟩ := wJ_some hF
            have hJ58 : ∀ (H : Heap) (locs : List Loc) (ls : Array Slot), F_X9_layRow_j58 i6 i21 u9 i20 = some q19_ → wHp D κ ρ 1 A s.heap H locs u9 → lv_has ls 10 [(0, .ref (ρ o1)), (2, .int i3), (4, .int i6), (5, .int i12), (6, .int i8), (8, .int i20), (9, .int i21)] → W p l e (wRm 1 22) s m args below meth c H locs 0 0 (wQV below args s A D κ ρ 1 z) (F0 m 58 ls []) := by
              intro H locs ls hF hH hl
              unfold F_X9_layRow_j58 at hF
              refine lv_iload hx hb dX9_layRow_58 (lv_at hl 5 rfl) ?_
              refine lv_iload hx hb dX9_layRow_60 (lv_at hl 2 rfl) ?_
              refine lv_iload hx hb dX9_layRow_62 (lv_at hl 6 rfl) ?_
              refine wx_psi hC hH hl (c_X9_isOf i6 i21) y_X9_isOf v_X9_isOf m_X9_383 rfl ⟨Nat.le_of_ble_eq_true rfl, Nat.le_of_ble_eq_true rfl⟩ ⟨Nat.le_refl _, Nat.le_refl _⟩ rfl (Nat.le_of_ble_eq_true rfl) dX9_layRow_64 hF (fun i24 H locs hF hH => ?_)
              obtain ⟨q25_, hF, hq25⟩ := wJ_some hF
              have hJ75 : ∀ (i26 : Int32) (H : Heap) (locs : List Loc) (ls : Array Slot), F_X9_layRow_j75 i20 i21 i26 = some q19_ → wHp D κ ρ 1 A s.heap H locs u9 → lv_has ls 10 [(0, .ref (ρ o1)), (2, .int i3), (4, .int i6), (5, .int i12), (6, .int i8), (9, .int i21)] → W p l e (wRm 1 22) s m args below meth c H locs 0 0 (wQV below args s A D κ ρ 1 z) (F0 m 75 ls [.int i26, .int i20]) := by
                intro i26 H locs ls hF hH hl
                unfold F_X9_layRow_j75 at hF
                refine lv_isub hx hb dX9_layRow_75 ?_
                refine wx_leti hF (fun i27 hF => ?_)
                refine wx_istore hx hb dX9_layRow_76 hl (by decide) (fun ls hl => ?_)
                have hl : lv_has ls 10 [(8, .int i27), (0, .ref (ρ o1)), (2, .int i3), (4, .int i6), (5, .int i12), (6, .int i8), (9, .int i21)] := hl
                refine wx_iinc hx hb dX9_layRow_78 k_iconst_1 hl (k := 6) rfl (by decide) hF (fun i28 ls hF hl => ?_)
                have hl : lv_has ls 10 [(9, .int i28), (8, .int i27), (0, .ref (ρ o1)), (2, .int i3), (4, .int i6), (5, .int i12), (6, .int i8)] := hl
                refine lv_goto hx hb dX9_layRow_81 (tgt := 43) rfl ?_
                have hF := wJ_l hq19 hF
                exact ih19 i27 i28 H locs ls hF hH (lv_sub hl [2, 3, 4, 5, 6, 1, 0] rfl)
              refine lv_if_eq hx hb dX9_layRow_67 (tgt := 74) rfl (fun h => ?_) (fun h => ?_)
              · have hF := wx_t h hF
                refine lv_iconst hx hb dX9_layRow_74 k_iconst_1 ?_
                have hF := wJ_l hq25 hF
                exact hJ75 (1 : Int32) H locs ls hF hH (lv_sub hl [0, 1, 2, 3, 4, 6] rfl)
              have hF := wx_f h hF
              refine lv_iconst hx hb dX9_layRow_70 k_iconst_0 ?_
              refine lv_goto hx hb dX9_layRow_71 (tgt := 75) rfl ?_
              have hF := wJ_l hq25 hF
              exact hJ75 (0 : Int32) H locs ls hF hH (lv_sub hl [0, 1, 2, 3, 4, 6] rfl)
            refine lv_if_ne hx hb dX9_layRow_50 (tgt := 58) rfl (fun h => ?_) (fun h => ?_)
            · have hF := wx_f h hF
              have hF := wJ_l hq23 hF
              exact hJ58 H locs ls hF hH (lv_sub hl [0, 1, 2, 3, 4, 5, 6] rfl)
            have hF := wx_t h hF
            refine lv_iload hx hb dX9_layRow_53 (lv_at hl 5 rfl) ?_
            refine lv_if_le hx hb dX9_layRow_55 (tgt := 84) rfl (fun h => ?_) (fun h => ?_)
            · have hF := wx_t h hF
              have hF := wJ_r hq23 hF
              have hF := wJ_r hq19 hF
              have hF := wJ_l hq13 hF
              exact hJ84 i21 H locs ls hF hH (lv_sub hl [0, 1, 2, 3, 4, 6] rfl)
            have hF := wx_f h hF
            have hF := wJ_l hq23 hF
            exact hJ58 H locs ls hF hH (lv_sub hl [0, 1, 2, 3, 4, 5, 6] rfl)
        exact hL43 wFu i11 (0 : Int32) H locs ls hF hH (lv_sub hl [4, 5, 6, 1, 7, 2, 0] rfl)
    exact hL9 wFu i4 i2 (0 : Int32) u0 H locs ls hF hH (lv_sub hl [3, 5, 2, 1, 0] rfl)
  exact key _ _ hH
def F_X9_table_j200 (o1 : Nat) (i7 : Int32) (i2 : Int32) (i9 : Int32) (i10 : Int32) (u11 : wSt) : Option (Int32 × wSt) :=
  wC (F_X9_layRow o1 i9 ((u11.1 o1 12) - (1 : Int32)) ((1 : Int32) <<< (i7 &&& 31)) u11) (fun _ (u12 : wSt) => if i2 = (6 : Int32) then (some (i10, u12)) else (if i2 = 0 then (some (i7, u12)) else (wR (u12.2.2 o1 69) 14 (fun o13 => wN (i2 - (1 : Int32)) o13 (fun j14 => some ((u12.1 o13 j14), u12))))))
def F_X9_table_j194 (i18 : Int32) (i31 : Int32) (i32 : Int32) (u33 : wSt) : Option ((Int32 × Int32 × Int32 × wSt) ⊕ ((Int32 × Int32 × wSt) ⊕ (Int32 × wSt))) :=
  wB (i18 + (1 : Int32)) (fun (i34 : Int32) => some (.inl (i31, i32, i34, u33)))
def F_X9_table_j187 (i18 : Int32) (i35 : Int32) (u36 : wSt) : Option ((Int32 × Int32 × wSt) ⊕ ((Int32 × Int32 × Int32 × wSt) ⊕ ((Int32 × Int32 × wSt) ⊕ (Int32 × wSt)))) :=
  some (.inl (i18, i35, u36))
def F_X9_table_j154 (o1 : Nat) (i16 : Int32) (i17 : Int32) (i18 : Int32) (u24 : wSt) : Option ((Int32 × Int32 × Int32 × wSt) ⊕ ((Int32 × Int32 × wSt) ⊕ (Int32 × wSt))) :=
  wC (F_X9_goMany o1 (40 : Int32) u24) (fun _ (u25 : wSt) => wP (F_X9_fainted o1 (1 : Int32) u25) (fun (i26 : Int32) => wP (F_X9_fainted o1 (0 : Int32) u25) (fun (i27 : Int32) => wB (i26 - i27) (fun (i28 : Int32) => wJ (X := Int32 × Int32 × wSt) (wJ (X := Int32 × wSt) (if i16 < 0 then (some (.inl (i28, u25))) else (if i28 < i17 then (some (.inl (i28, u25))) else (some (.inr (.inl (i16, i17, u25)))))) (fun x => F_X9_table_j187 i18 x.1 x.2)) (fun x => F_X9_table_j194 i18 x.1 x.2.1 x.2.2)))))
def F_X9_table_b120 (o1 : Nat) (i38 : Int32) (u39 : wSt) : Option ((Int32 × wSt) ⊕ ((wSt) ⊕ ((Int32 × Int32 × Int32 × wSt) ⊕ ((Int32 × Int32 × wSt) ⊕ (Int32 × wSt))))) :=
  if (u39.1 o1 12) ≤ i38 then (some (.inr (.inl u39))) else (wR (u39.2.2 o1 51) 14 (fun o40 => wR (u39.2.2 o1 69) 14 (fun o41 => wN (i38 - (1 : Int32)) o41 (fun j42 => wSI u39 o40 ((6 : Int32) + (u39.1 o41 j42)) i38 (fun (u43 : wSt) => wB (i38 + (1 : Int32)) (fun (i44 : Int32) => some (.inl (i44, u43))))))))
def F_X9_table_b84 (o1 : Nat) (i7 : Int32) (i16 : Int32) (i17 : Int32) (i18 : Int32) (u19 : wSt) : Option ((Int32 × Int32 × Int32 × wSt) ⊕ ((Int32 × Int32 × wSt) ⊕ (Int32 × wSt))) :=
  wP (F_X9_rowsOf ((u19.1 o1 12) - (1 : Int32)) u19) (fun (i20 : Int32) => if i20 ≤ i18 then (some (.inr (.inl (i16, i17, u19)))) else (wC (F_X9_layTried o1 u19) (fun _ (u21 : wSt) => wC (F_X9_layRow o1 i18 ((u21.1 o1 12) - (1 : Int32)) ((1 : Int32) <<< (i7 &&& 31)) u21) (fun _ (u22 : wSt) => wJ (X := wSt) (wL (S := Int32 × wSt) (fun x => F_X9_table_b120 o1 x.1 x.2) wFu ((1 : Int32), u22)) (fun x => F_X9_table_j154 o1 i16 i17 i18 x)))))
def F_X9_table_j76 (o1 : Nat) (u3 : wSt) (i2 : Int32) (i7 : Int32) : Option (Int32 × wSt) :=
  wJ (X := Int32 × Int32 × wSt) (wL (S := Int32 × Int32 × Int32 × wSt) (fun x => F_X9_table_b84 o1 i7 x.1 x.2.1 x.2.2.1 x.2.2.2) wFu ((-1 : Int32), (0 : Int32), (0 : Int32), u3)) (fun x => F_X9_table_j200 o1 i7 i2 x.1 x.2.1 x.2.2)
def F_X9_table_j69 (i47 : Int32) (i51 : Int32) : Option ((Int32 × Int32) ⊕ ((Int32) ⊕ (Int32 × wSt))) :=
  wB (i47 + (1 : Int32)) (fun (i52 : Int32) => some (.inl (i51, i52)))
def F_X9_table_b47 (u3 : wSt) (o1 : Nat) (i46 : Int32) (i47 : Int32) : Option ((Int32 × Int32) ⊕ ((Int32) ⊕ (Int32 × wSt))) :=
  if (u3.1 o1 12) ≤ i47 then (some (.inr (.inl i46))) else (wR (u3.2.2 o1 51) 14 (fun o48 => wN i47 o48 (fun j49 => wJ (X := Int32) (if (u3.1 o48 j49) = 0 then (some (.inl i47)) else (some (.inl i46))) (fun x => F_X9_table_j69 i47 x))))
def F_X9_table_j34 (u3 : wSt) (o1 : Nat) (i2 : Int32) : Option (Int32 × wSt) :=
  if (u3.1 o1 12) = 0 then (some ((0 : Int32), u3)) else (wJ (X := Int32) (wL (S := Int32 × Int32) (fun x => F_X9_table_b47 u3 o1 x.1 x.2) wFu ((0 : Int32), (0 : Int32))) (fun x => F_X9_table_j76 o1 u3 i2 x))
def F_X9_table (o1 : Nat) (i2 : Int32) (u0 : wSt) : Option (Int32 × wSt) :=
  wB (w_sI u0 o1 2 (0 : Int32)) (fun (u3 : wSt) => wP (F_X9_isIn i2 (0 : Int32) (6 : Int32) u3) (fun (i4 : Int32) => if i4 = 0 then (some ((-1 : Int32), u3)) else (wJ (X := Unit) (if (6 : Int32) ≤ i2 then (some (.inl ())) else (if i2 < (u3.1 o1 12) then (some (.inl ())) else (some (.inr ((-2 : Int32), u3))))) (fun x => F_X9_table_j34 u3 o1 i2))))
set_option maxRecDepth 100000 in
set_option maxHeartbeats 4000000 in
theorem c_X9_table {l : Launch} {D : va_G} {κ : Nat → ClassId} {ρ : Nat → Nat} (o1 : Nat) (i2 : Int32) (h_o1 : (w_sh o1).1 = 9) : wMI l yX9_table cX9_table 7 .int (wRm 8 191) [.ref (ρ o1), .int i2] D κ ρ 1 (fun u => F_X9_table o1 i2 u) := by
  refine wMI_of (F := fun u => F_X9_table o1 i2 u) rfl (Nat.le_of_ble_eq_true rfl) (fun u0 z p e s m args below meth c ls A hF hC hr hlk hH hl => ?_)
  have hl : lv_has ls 7 [(0, .ref (ρ o1)), (1, .int i2)] := hl
  have hx := hC.1.1
  have hb := hC.1.2.1
  have hF : F_X9_table o1 i2 u0 = some z := hF
  unfold F_X9_table at hF
  change W p l e (wRm 8 191) s m args below meth c s.heap [] 0 0 (wQI below args s A D κ ρ 1 z) (F0 m 0 ls [])
  have key : ∀ (H : Heap) (locs : List Loc), wHp D κ ρ 1 A s.heap H locs u0 → W p l e (wRm 8 191) s m args below meth c H locs 0 0 (wQI below args s A D κ ρ 1 z) (F0 m 0 ls []) := by
    intro H locs hH
    refine lv_aload_n hx hb dX9_table_0 rfl (lv_at hl 0 rfl) ?_
    refine lv_iconst hx hb dX9_table_1 k_iconst_0 ?_
    refine wx_putI hC hH h_o1 rfl f_X9_142 g_9_2 dX9_table_2 hF (fun u3 H locs hF hH => ?_)
    refine lv_iload_n hx hb dX9_table_5 rfl (lv_at hl 1 rfl) ?_
    refine lv_iconst hx hb dX9_table_6 k_iconst_0 ?_
    refine lv_bipush hx hb dX9_table_7 k_bipush_6 ?_
    refine wx_psi hC hH hl (c_X9_isIn i2 (0 : Int32) (6 : Int32)) y_X9_isIn v_X9_isIn m_X9_187 rfl ⟨Nat.le_of_ble_eq_true rfl, Nat.le_of_ble_eq_true rfl⟩ ⟨Nat.le_refl _, Nat.le_refl _⟩ rfl (Nat.le_of_ble_eq_true rfl) dX9_table_9 hF (fun i4 H locs hF hH => ?_)
    refine lv_if_ne hx hb dX9_table_12 (tgt := 17) rfl (fun h => ?_) (fun h => ?_)
    · have hF := wx_f h hF
      refine lv_iload_n hx hb dX9_table_17 rfl (lv_at hl 1 rfl) ?_
      refine lv_bipush hx hb dX9_table_18 k_bipush_6 ?_
      obtain ⟨q5_, hF, hq5⟩ := wJ_some hF
      have hJ34 : ∀ (H : Heap) (locs : List Loc) (ls : Array Slot), F_X9_table_j34 u3 o1 i2 = some z → wHp D κ ρ 1 A s.heap H locs u3 → lv_has ls 7 [(0, .ref (ρ o1)), (1, .int i2)] → W p l e (wRm 8 191) s m args below meth c H locs 0 0 (wQI below args s A D κ ρ 1 z) (F0 m 34 ls []) := by
        intro H locs ls hF hH hl
        unfold F_X9_table_j34 at hF
        refine lv_aload_n hx hb dX9_table_34 rfl (lv_at hl 0 rfl) ?_
        refine wx_getI hC hH h_o1 rfl f_X9_219 dX9_table_35 ?_
        refine lv_if_ne hx hb dX9_table_38 (tgt := 43) rfl (fun h => ?_) (fun h => ?_)
        · have hF := wx_f h hF
          refine lv_iconst hx hb dX9_table_43 k_iconst_0 ?_
          refine wx_istore_n hx hb dX9_table_44 rfl hl (by decide) (fun ls hl => ?_)
          have hl : lv_has ls 7 [(2, .int (0 : Int32)), (0, .ref (ρ o1)), (1, .int i2)] := hl
          refine lv_iconst hx hb dX9_table_45 k_iconst_0 ?_
          refine wx_istore_n hx hb dX9_table_46 rfl hl (by decide) (fun ls hl => ?_)
          have hl : lv_has ls 7 [(3, .int (0 : Int32)), (2, .int (0 : Int32)), (0, .ref (ρ o1)), (1, .int i2)] := hl
          obtain ⟨q6_, hF, hq6⟩ := wJ_some hF
          have hJ76 : ∀ (i7 : Int32) (H : Heap) (locs : List Loc) (ls : Array Slot), F_X9_table_j76 o1 u3 i2 i7 = some z → wHp D κ ρ 1 A s.heap H locs u3 → lv_has ls 7 [(0, .ref (ρ o1)), (1, .int i2), (2, .int i7)] → W p l e (wRm 8 191) s m args below meth c H locs 0 0 (wQI below args s A D κ ρ 1 z) (F0 m 76 ls []) := by
            intro i7 H locs ls hF hH hl
            unfold F_X9_table_j76 at hF
            refine lv_iconst hx hb dX9_table_76 k_iconst_m1 ?_
            refine wx_istore_n hx hb dX9_table_77 rfl hl (by decide) (fun ls hl => ?_)
            have hl : lv_has ls 7 [(3, .int (-1 : Int32)), (0, .ref (ρ o1)), (1, .int i2), (2, .int i7)] := hl
            refine lv_iconst hx hb dX9_table_78 k_iconst_0 ?_
            refine wx_istore hx hb dX9_table_79 hl (by decide) (fun ls hl => ?_)
            have hl : lv_has ls 7 [(4, .int (0 : Int32)), (3, .int (-1 : Int32)), (0, .ref (ρ o1)), (1, .int i2), (2, .int i7)] := hl
            refine lv_iconst hx hb dX9_table_81 k_iconst_0 ?_
            refine wx_istore hx hb dX9_table_82 hl (by decide) (fun ls hl => ?_)
            have hl : lv_has ls 7 [(5, .int (0 : Int32)), (4, .int (0 : Int32)), (3, .int (-1 : Int32)), (0, .ref (ρ o1)), (1, .int i2), (2, .int i7)] := hl
            obtain ⟨q8_, hF, hq8⟩ := wJ_some hF
            have hJ200 : ∀ (i9 : Int32) (i10 : Int32) (u11 : wSt) (H : Heap) (locs : List Loc) (ls : Array Slot), F_X9_table_j200 o1 i7 i2 i9 i10 u11 = some z → wHp D κ ρ 1 A s.heap H locs u11 → lv_has ls 7 [(0, .ref (ρ o1)), (1, .int i2), (2, .int i7), (3, .int i9), (4, .int i10)] → W p l e (wRm 8 191) s m args below meth c H locs 0 0 (wQI below args s A D κ ρ 1 z) (F0 m 200 ls []) := by
              intro i9 i10 u11 H locs ls hF hH hl
              unfold F_X9_table_j200 at hF
              refine lv_aload_n hx hb dX9_table_200 rfl (lv_at hl 0 rfl) ?_
              refine lv_iload_n hx hb dX9_table_201 rfl (lv_at hl 3 rfl) ?_
              refine lv_aload_n hx hb dX9_table_202 rfl (lv_at hl 0 rfl) ?_
              refine wx_getI hC hH h_o1 rfl f_X9_219 dX9_table_203 ?_
              refine lv_iconst hx hb dX9_table_206 k_iconst_1 ?_
              refine lv_isub hx hb dX9_table_207 ?_
              refine lv_iconst hx hb dX9_table_208 k_iconst_1 ?_
              refine lv_iload_n hx hb dX9_table_209 rfl (lv_at hl 2 rfl) ?_
              refine lv_ishl hx hb dX9_table_210 ?_
              refine wx_evv hC hH hl (c_X9_layRow o1 i9 ((u11.1 o1 12) - (1 : Int32)) ((1 : Int32) <<< (i7 &&& 31)) h_o1) y_X9_layRow v_X9_layRow h_o1 rfl m_X9_493 rfl ⟨Nat.le_of_ble_eq_true rfl, Nat.le_of_ble_eq_true rfl⟩ ⟨Nat.le_refl _, Nat.le_refl _⟩ rfl (Nat.le_of_ble_eq_true rfl) dX9_table_211 hF (fun _ u12 H locs hF hH => ?_)
              refine lv_iload_n hx hb dX9_table_214 rfl (lv_at hl 1 rfl) ?_
              refine lv_bipush hx hb dX9_table_215 k_bipush_6 ?_
              refine lv_icmp_ne hx hb dX9_table_217 (tgt := 225) rfl (fun h => ?_) (fun h => ?_)
              · have hF := wx_f h hF
                refine lv_iload_n hx hb dX9_table_225 rfl (lv_at hl 1 rfl) ?_
                refine lv_if_ne hx hb dX9_table_226 (tgt := 233) rfl (fun h => ?_) (fun h => ?_)
                · have hF := wx_f h hF
                  refine lv_aload_n hx hb dX9_table_233 rfl (lv_at hl 0 rfl) ?_
                  refine wx_getR hC hH h_o1 rfl f_X9_115 dX9_table_234 hF (fun o13 h_o13 hF => ?_)
                  refine lv_iload_n hx hb dX9_table_237 rfl (lv_at hl 1 rfl) ?_
                  refine lv_iconst hx hb dX9_table_238 k_iconst_1 ?_
                  refine lv_isub hx hb dX9_table_239 ?_
                  refine wx_iald hC hH h_o13 ⟨rfl, rfl⟩ dX9_table_240 hF (fun j14 hF => ?_)
                  exact wx_iret hC hH hr hlk dX9_table_241 hF
                have hF := wx_t h hF
                refine lv_iload_n hx hb dX9_table_229 rfl (lv_at hl 2 rfl) ?_
                refine lv_goto hx hb dX9_table_230 (tgt := 241) rfl ?_
                exact wx_iret hC hH hr hlk dX9_table_241 hF
              have hF := wx_t h hF
              refine lv_iload hx hb dX9_table_220 (lv_at hl 4 rfl) ?_
              refine lv_goto hx hb dX9_table_222 (tgt := 241) rfl ?_
              exact wx_iret hC hH hr hlk dX9_table_241 hF
            have hL84 : ∀ (k15_ : Nat) (i16 : Int32) (i17 : Int32) (i18 : Int32) (u19 : wSt) (H : Heap) (locs : List Loc) (ls : Array Slot), wL (S := Int32 × Int32 × Int32 × wSt) (fun x => F_X9_table_b84 o1 i7 x.1 x.2.1 x.2.2.1 x.2.2.2) k15_ (i16, i17, i18, u19) = some q8_ → wHp D κ ρ 1 A s.heap H locs u19 → lv_has ls 7 [(0, .ref (ρ o1)), (1, .int i2), (2, .int i7), (3, .int i16), (4, .int i17), (5, .int i18)] → W p l e (wRm 8 191) s m args below meth c H locs 0 0 (wQI below args s A D κ ρ 1 z) (F0 m 84 ls []) := by
              intro k15_
              induction k15_ with
              | zero => intro i16 i17 i18 u19 H locs ls hF; exact wL_zero hF
              | succ k15_ ih15 =>
                intro i16 i17 i18 u19 H locs ls hF hH hl
                obtain ⟨q15_, hF, hq15⟩ := wL_some hF
                have hF : F_X9_table_b84 o1 i7 i16 i17 i18 u19 = some q15_ := hF
                unfold F_X9_table_b84 at hF
                refine lv_iload hx hb dX9_table_84 (lv_at hl 5 rfl) ?_
                refine lv_aload_n hx hb dX9_table_86 rfl (lv_at hl 0 rfl) ?_
                refine wx_getI hC hH h_o1 rfl f_X9_219 dX9_table_87 ?_
                refine lv_iconst hx hb dX9_table_90 k_iconst_1 ?_
                refine lv_isub hx hb dX9_table_91 ?_
                refine wx_psi hC hH hl (c_X9_rowsOf ((u19.1 o1 12) - (1 : Int32))) y_X9_rowsOf v_X9_rowsOf m_X9_490 rfl ⟨Nat.le_of_ble_eq_true rfl, Nat.le_of_ble_eq_true rfl⟩ ⟨Nat.le_refl _, Nat.le_refl _⟩ rfl (Nat.le_of_ble_eq_true rfl) dX9_table_92 hF (fun i20 H locs hF hH => ?_)
                refine lv_icmp_ge hx hb dX9_table_95 (tgt := 200) rfl (fun h => ?_) (fun h => ?_)
                · have hF := wx_t h hF
                  have hF := wJ_r hq15 hF
                  have hF := wJ_l hq8 hF
                  exact hJ200 i16 i17 u19 H locs ls hF hH (lv_sub hl [0, 1, 2, 3, 4] rfl)
                have hF := wx_f h hF
                refine lv_aload_n hx hb dX9_table_98 rfl (lv_at hl 0 rfl) ?_
                refine wx_evv hC hH hl (c_X9_layTried o1 h_o1) y_X9_layTried v_X9_layTried h_o1 rfl m_X9_475 rfl ⟨Nat.le_of_ble_eq_true rfl, Nat.le_of_ble_eq_true rfl⟩ ⟨Nat.le_refl _, Nat.le_refl _⟩ rfl (Nat.le_of_ble_eq_true rfl) dX9_table_99 hF (fun _ u21 H locs hF hH => ?_)
                refine lv_aload_n hx hb dX9_table_102 rfl (lv_at hl 0 rfl) ?_
                refine lv_iload hx hb dX9_table_103 (lv_at hl 5 rfl) ?_
                refine lv_aload_n hx hb dX9_table_105 rfl (lv_at hl 0 rfl) ?_
                refine wx_getI hC hH h_o1 rfl f_X9_219 dX9_table_106 ?_
                refine lv_iconst hx hb dX9_table_109 k_iconst_1 ?_
                refine lv_isub hx hb dX9_table_110 ?_
                refine lv_iconst hx hb dX9_table_111 k_iconst_1 ?_
                refine lv_iload_n hx hb dX9_table_112 rfl (lv_at hl 2 rfl) ?_
                refine lv_ishl hx hb dX9_table_113 ?_
                refine wx_evv hC hH hl (c_X9_layRow o1 i18 ((u21.1 o1 12) - (1 : Int32)) ((1 : Int32) <<< (i7 &&& 31)) h_o1) y_X9_layRow v_X9_layRow h_o1 rfl m_X9_493 rfl ⟨Nat.le_of_ble_eq_true rfl, Nat.le_of_ble_eq_true rfl⟩ ⟨Nat.le_refl _, Nat.le_refl _⟩ rfl (Nat.le_of_ble_eq_true rfl) dX9_table_114 hF (fun _ u22 H locs hF hH => ?_)
                refine lv_iconst hx hb dX9_table_117 k_iconst_1 ?_
                refine wx_istore hx hb dX9_table_118 hl (by decide) (fun ls hl => ?_)
                have hl : lv_has ls 7 [(6, .int (1 : Int32)), (0, .ref (ρ o1)), (1, .int i2), (2, .int i7), (3, .int i16), (4, .int i17), (5, .int i18)] := hl
                obtain ⟨q23_, hF, hq23⟩ := wJ_some hF
                have hJ154 : ∀ (u24 : wSt) (H : Heap) (locs : List Loc) (ls : Array Slot), F_X9_table_j154 o1 i16 i17 i18 u24 = some q15_ → wHp D κ ρ 1 A s.heap H locs u24 → lv_has ls 7 [(0, .ref (ρ o1)), (1, .int i2), (2, .int i7), (3, .int i16), (4, .int i17), (5, .int i18)] → W p l e (wRm 8 191) s m args below meth c H locs 0 0 (wQI below args s A D κ ρ 1 z) (F0 m 154 ls []) := by
                  intro u24 H locs ls hF hH hl
                  unfold F_X9_table_j154 at hF
                  refine lv_aload_n hx hb dX9_table_154 rfl (lv_at hl 0 rfl) ?_
                  refine lv_bipush hx hb dX9_table_155 k_bipush_40 ?_
                  refine wx_evv hC hH hl (c_X9_goMany o1 (40 : Int32) h_o1) y_X9_goMany v_X9_goMany h_o1 rfl m_X9_478 rfl ⟨Nat.le_of_ble_eq_true rfl, Nat.le_of_ble_eq_true rfl⟩ ⟨Nat.le_refl _, Nat.le_refl _⟩ rfl (Nat.le_of_ble_eq_true rfl) dX9_table_157 hF (fun _ u25 H locs hF hH => ?_)
                  refine lv_aload_n hx hb dX9_table_160 rfl (lv_at hl 0 rfl) ?_
                  refine lv_iconst hx hb dX9_table_161 k_iconst_1 ?_
                  refine wx_pvi hC hH hl (c_X9_fainted o1 (1 : Int32) h_o1) y_X9_fainted v_X9_fainted h_o1 rfl m_X9_484 rfl ⟨Nat.le_of_ble_eq_true rfl, Nat.le_of_ble_eq_true rfl⟩ ⟨Nat.le_refl _, Nat.le_refl _⟩ rfl (Nat.le_of_ble_eq_true rfl) dX9_table_162 hF (fun i26 H locs hF hH => ?_)
                  refine lv_aload_n hx hb dX9_table_165 rfl (lv_at hl 0 rfl) ?_
                  refine lv_iconst hx hb dX9_table_166 k_iconst_0 ?_
                  refine wx_pvi hC hH hl (c_X9_fainted o1 (0 : Int32) h_o1) y_X9_fainted v_X9_fainted h_o1 rfl m_X9_484 rfl ⟨Nat.le_of_ble_eq_true rfl, Nat.le_of_ble_eq_true rfl⟩ ⟨Nat.le_refl _, Nat.le_refl _⟩ rfl (Nat.le_of_ble_eq_true rfl) dX9_table_167 hF (fun i27 H locs hF hH => ?_)
                  refine lv_isub hx hb dX9_table_170 ?_
                  refine wx_leti hF (fun i28 hF => ?_)
                  refine wx_istore hx hb dX9_table_171 hl (by decide) (fun ls hl => ?_)
                  have hl : lv_has ls 7 [(6, .int i28), (0, .ref (ρ o1)), (1, .int i2), (2, .int i7), (3, .int i16), (4, .int i17), (5, .int i18)] := hl
                  refine lv_iload_n hx hb dX9_table_173 rfl (lv_at hl 4 rfl) ?_
                  obtain ⟨q29_, hF, hq29⟩ := wJ_some hF
                  obtain ⟨q30_, hF, hq30⟩ := wJ_some hF
                  have hJ194 : ∀ (i31 : Int32) (i32 : Int32) (u33 : wSt) (H : Heap) (locs : List Loc) (ls : Array Slot), F_X9_table_j194 i18 i31 i32 u33 = some q15_ → wHp D κ ρ 1 A s.heap H locs u33 → lv_has ls 7 [(0, .ref (ρ o1)), (1, .int i2), (2, .int i7), (3, .int i31), (4, .int i32), (5, .int i18)] → W p l e (wRm 8 191) s m args below meth c H locs 0 0 (wQI below args s A D κ ρ 1 z) (F0 m 194 ls []) := by
                    intro i31 i32 u33 H locs ls hF hH hl
                    unfold F_X9_table_j194 at hF
                    refine wx_iinc hx hb dX9_table_194 k_iconst_1 hl (k := 5) rfl (by decide) hF (fun i34 ls hF hl => ?_)
                    have hl : lv_has ls 7 [(5, .int i34), (0, .ref (ρ o1)), (1, .int i2), (2, .int i7), (3, .int i31), (4, .int i32)] := hl
                    refine lv_goto hx hb dX9_table_197 (tgt := 84) rfl ?_
                    have hF := wJ_l hq15 hF
                    exact ih15 i31 i32 i34 u33 H locs ls hF hH (lv_sub hl [1, 2, 3, 4, 5, 0] rfl)
                  have hJ187 : ∀ (i35 : Int32) (u36 : wSt) (H : Heap) (locs : List Loc) (ls : Array Slot), F_X9_table_j187 i18 i35 u36 = some q29_ → wHp D κ ρ 1 A s.heap H locs u36 → lv_has ls 7 [(0, .ref (ρ o1)), (1, .int i2), (2, .int i7), (5, .int i18), (6, .int i35)] → W p l e (wRm 8 191) s m args below meth c H locs 0 0 (wQI below args s A D κ ρ 1 z) (F0 m 187 ls []) := by
                    intro i35 u36 H locs ls hF hH hl
                    unfold F_X9_table_j187 at hF
                    refine lv_iload hx hb dX9_table_187 (lv_at hl 3 rfl) ?_
                    refine wx_istore_n hx hb dX9_table_189 rfl hl (by decide) (fun ls hl => ?_)
                    have hl : lv_has ls 7 [(3, .int i18), (0, .ref (ρ o1)), (1, .int i2), (2, .int i7), (5, .int i18), (6, .int i35)] := hl
                    refine lv_iload hx hb dX9_table_190 (lv_at hl 5 rfl) ?_
                    refine wx_istore hx hb dX9_table_192 hl (by decide) (fun ls hl => ?_)
                    have hl : lv_has ls 7 [(4, .int i35), (3, .int i18), (0, .ref (ρ o1)), (1, .int i2), (2, .int i7), (5, .int i18), (6, .int i35)] := hl
                    have hF := wJ_l hq29 hF
                    exact hJ194 i18 i35 u36 H locs ls hF hH (lv_sub hl [2, 3, 4, 1, 0, 5] rfl)
                  refine lv_if_lt hx hb dX9_table_174 (tgt := 187) rfl (fun h => ?_) (fun h => ?_)
                  · have hF := wx_t h hF
                    have hF := wJ_l hq30 hF
                    exact hJ187 i28 u25 H locs ls hF hH (lv_sub hl [1, 2, 3, 6, 0] rfl)
                  have hF := wx_f h hF
                  refine lv_iload hx hb dX9_table_177 (lv_at hl 0 rfl) ?_
                  refine lv_iload hx hb dX9_table_179 (lv_at hl 5 rfl) ?_
                  refine lv_icmp_lt hx hb dX9_table_181 (tgt := 187) rfl (fun h => ?_) (fun h => ?_)
                  · have hF := wx_t h hF
                    have hF := wJ_l hq30 hF
                    exact hJ187 i28 u25 H locs ls hF hH (lv_sub hl [1, 2, 3, 6, 0] rfl)
                  have hF := wx_f h hF
                  refine lv_goto hx hb dX9_table_184 (tgt := 194) rfl ?_
                  have hF := wJ_r hq30 hF
                  have hF := wJ_l hq29 hF
                  exact hJ194 i16 i17 u25 H locs ls hF hH (lv_sub hl [1, 2, 3, 4, 5, 6] rfl)
                have hL120 : ∀ (k37_ : Nat) (i38 : Int32) (u39 : wSt) (H : Heap) (locs : List Loc) (ls : Array Slot), wL (S := Int32 × wSt) (fun x => F_X9_table_b120 o1 x.1 x.2) k37_ (i38, u39) = some q23_ → wHp D κ ρ 1 A s.heap H locs u39 → lv_has ls 7 [(0, .ref (ρ o1)), (1, .int i2), (2, .int i7), (3, .int i16), (4, .int i17), (5, .int i18), (6, .int i38)] → W p l e (wRm 8 191) s m args below meth c H locs 0 0 (wQI below args s A D κ ρ 1 z) (F0 m 120 ls []) := by
                  intro k37_
                  induction k37_ with
                  | zero => intro i38 u39 H locs ls hF; exact wL_zero hF
                  | succ k37_ ih37 =>
                    intro i38 u39 H locs ls hF hH hl
                    obtain ⟨q37_, hF, hq37⟩ := wL_some hF
                    have hF : F_X9_table_b120 o1 i38 u39 = some q37_ := hF
                    unfold F_X9_table_b120 at hF
                    refine lv_iload hx hb dX9_table_120 (lv_at hl 6 rfl) ?_
                    refine lv_aload_n hx hb dX9_table_122 rfl (lv_at hl 0 rfl) ?_
                    refine wx_getI hC hH h_o1 rfl f_X9_219 dX9_table_123 ?_
                    refine lv_icmp_ge hx hb dX9_table_126 (tgt := 154) rfl (fun h => ?_) (fun h => ?_)
                    · have hF := wx_t h hF
                      have hF := wJ_r hq37 hF
                      have hF := wJ_l hq23 hF
                      exact hJ154 u39 H locs ls hF hH (lv_sub hl [0, 1, 2, 3, 4, 5] rfl)
                    have hF := wx_f h hF
                    refine lv_aload_n hx hb dX9_table_129 rfl (lv_at hl 0 rfl) ?_
                    refine wx_getR hC hH h_o1 rfl f_X9_94 dX9_table_130 hF (fun o40 h_o40 hF => ?_)
                    refine lv_bipush hx hb dX9_table_133 k_bipush_6 ?_
                    refine lv_aload_n hx hb dX9_table_135 rfl (lv_at hl 0 rfl) ?_
                    refine wx_getR hC hH h_o1 rfl f_X9_115 dX9_table_136 hF (fun o41 h_o41 hF => ?_)
                    refine lv_iload hx hb dX9_table_139 (lv_at hl 6 rfl) ?_
                    refine lv_iconst hx hb dX9_table_141 k_iconst_1 ?_
                    refine lv_isub hx hb dX9_table_142 ?_
                    refine wx_iald hC hH h_o41 ⟨rfl, rfl⟩ dX9_table_143 hF (fun j42 hF => ?_)
                    refine lv_iadd hx hb dX9_table_144 ?_
                    refine lv_iload hx hb dX9_table_145 (lv_at hl 6 rfl) ?_
                    refine wx_iast hC hH h_o40 ⟨rfl, rfl⟩ dX9_table_147 hF (fun u43 H locs hF hH => ?_)
                    refine wx_iinc hx hb dX9_table_148 k_iconst_1 hl (k := 6) rfl (by decide) hF (fun i44 ls hF hl => ?_)
                    have hl : lv_has ls 7 [(6, .int i44), (0, .ref (ρ o1)), (1, .int i2), (2, .int i7), (3, .int i16), (4, .int i17), (5, .int i18)] := hl
                    refine lv_goto hx hb dX9_table_151 (tgt := 120) rfl ?_
                    have hF := wJ_l hq37 hF
                    exact ih37 i44 u43 H locs ls hF hH (lv_sub hl [1, 2, 3, 4, 5, 6, 0] rfl)
                exact hL120 wFu (1 : Int32) u22 H locs ls hF hH (lv_sub hl [1, 2, 3, 4, 5, 6, 0] rfl)
            exact hL84 wFu (-1 : Int32) (0 : Int32) (0 : Int32) u3 H locs ls hF hH (lv_sub hl [3, 4, 5, 2, 1, 0] rfl)
          have hL47 : ∀ (k45_ : Nat) (i46 : Int32) (i47 : Int32) (H : Heap) (locs : List Loc) (ls : Array Slot), wL (S := Int32 × Int32) (fun x => F_X9_table_b47 u3 o1 x.1 x.2) k45_ (i46, i47) = some q6_ → wHp D κ ρ 1 A s.heap H locs u3 → lv_has ls 7 [(0, .ref (ρ o1)), (1, .int i2), (2, .int i46), (3, .int i47)] → W p l e (wRm 8 191) s m args below meth c H locs 0 0 (wQI below args s A D κ ρ 1 z) (F0 m 47 ls []) := by
            intro k45_
            induction k45_ with
            | zero => intro i46 i47 H locs ls hF; exact wL_zero hF
            | succ k45_ ih45 =>
              intro i46 i47 H locs ls hF hH hl
              obtain ⟨q45_, hF, hq45⟩ := wL_some hF
              have hF : F_X9_table_b47 u3 o1 i46 i47 = some q45_ := hF
              unfold F_X9_table_b47 at hF
              refine lv_iload_n hx hb dX9_table_47 rfl (lv_at hl 3 rfl) ?_
              refine lv_aload_n hx hb dX9_table_48 rfl (lv_at hl 0 rfl) ?_
              refine wx_getI hC hH h_o1 rfl f_X9_219 dX9_table_49 ?_
              refine lv_icmp_ge hx hb dX9_table_52 (tgt := 76) rfl (fun h => ?_) (fun h => ?_)
              · have hF := wx_t h hF
                have hF := wJ_r hq45 hF
                have hF := wJ_l hq6 hF
                exact hJ76 i46 H locs ls hF hH (lv_sub hl [0, 1, 2] rfl)
              have hF := wx_f h hF
              refine lv_aload_n hx hb dX9_table_55 rfl (lv_at hl 0 rfl) ?_
              refine wx_getR hC hH h_o1 rfl f_X9_94 dX9_table_56 hF (fun o48 h_o48 hF => ?_)
              refine lv_iload_n hx hb dX9_table_59 rfl (lv_at hl 3 rfl) ?_
              refine wx_iald hC hH h_o48 ⟨rfl, rfl⟩ dX9_table_60 hF (fun j49 hF => ?_)
              obtain ⟨q50_, hF, hq50⟩ := wJ_some hF
              have hJ69 : ∀ (i51 : Int32) (H : Heap) (locs : List Loc) (ls : Array Slot), F_X9_table_j69 i47 i51 = some q45_ → wHp D κ ρ 1 A s.heap H locs u3 → lv_has ls 7 [(0, .ref (ρ o1)), (1, .int i2), (3, .int i47)] → W p l e (wRm 8 191) s m args below meth c H locs 0 0 (wQI below args s A D κ ρ 1 z) (F0 m 69 ls [.int i51]) := by
                intro i51 H locs ls hF hH hl
                unfold F_X9_table_j69 at hF
                refine wx_istore_n hx hb dX9_table_69 rfl hl (by decide) (fun ls hl => ?_)
                have hl : lv_has ls 7 [(2, .int i51), (0, .ref (ρ o1)), (1, .int i2), (3, .int i47)] := hl
                refine wx_iinc hx hb dX9_table_70 k_iconst_1 hl (k := 3) rfl (by decide) hF (fun i52 ls hF hl => ?_)
                have hl : lv_has ls 7 [(3, .int i52), (2, .int i51), (0, .ref (ρ o1)), (1, .int i2)] := hl
                refine lv_goto hx hb dX9_table_73 (tgt := 47) rfl ?_
                have hF := wJ_l hq45 hF
                exact ih45 i51 i52 H locs ls hF hH (lv_sub hl [2, 3, 1, 0] rfl)
              refine lv_if_ne hx hb dX9_table_61 (tgt := 68) rfl (fun h => ?_) (fun h => ?_)
              · have hF := wx_f h hF
                refine lv_iload_n hx hb dX9_table_68 rfl (lv_at hl 2 rfl) ?_
                have hF := wJ_l hq50 hF
                exact hJ69 i46 H locs ls hF hH (lv_sub hl [0, 1, 3] rfl)
              have hF := wx_t h hF
              refine lv_iload_n hx hb dX9_table_64 rfl (lv_at hl 3 rfl) ?_
              refine lv_goto hx hb dX9_table_65 (tgt := 69) rfl ?_
              have hF := wJ_l hq50 hF
              exact hJ69 i47 H locs ls hF hH (lv_sub hl [0, 1, 3] rfl)
          exact hL47 wFu (0 : Int32) (0 : Int32) H locs ls hF hH (lv_sub hl [2, 3, 1, 0] rfl)
        have hF := wx_t h hF
        refine lv_iconst hx hb dX9_table_41 k_iconst_0 ?_
        exact wx_iret hC hH hr hlk dX9_table_42 hF
      refine lv_icmp_ge hx hb dX9_table_20 (tgt := 34) rfl (fun h => ?_) (fun h => ?_)
      · have hF := wx_t h hF
        have hF := wJ_l hq5 hF
        exact hJ34 H locs ls hF hH (lv_sub hl [0, 1] rfl)
      have hF := wx_f h hF
      refine lv_iload_n hx hb dX9_table_23 rfl (lv_at hl 1 rfl) ?_
      refine lv_aload_n hx hb dX9_table_24 rfl (lv_at hl 0 rfl) ?_
      refine wx_getI hC hH h_o1 rfl f_X9_219 dX9_table_25 ?_
      refine lv_icmp_lt hx hb dX9_table_28 (tgt := 34) rfl (fun h => ?_) (fun h => ?_)
      · have hF := wx_t h hF
        have hF := wJ_l hq5 hF
        exact hJ34 H locs ls hF hH (lv_sub hl [0, 1] rfl)
      have hF := wx_f h hF
      refine lv_bipush hx hb dX9_table_31 k_bipush_m2 ?_
      have hF := wJ_r hq5 hF
      exact wx_iret hC hH hr hlk dX9_table_33 hF
    have hF := wx_t h hF
    refine lv_iconst hx hb dX9_table_15 k_iconst_m1 ?_
    exact wx_iret hC hH hr hlk dX9_table_16 hF
  exact key _ _ hH
def F_X9_manyOf_b4 (i1 : Int32) (i3 : Int32) (i4 : Int32) : Option ((Int32 × Int32) ⊕ Int32) :=
  if (6 : Int32) ≤ i4 then (some (.inr (i3))) else (wB (i3 + ((i1 >>> (i4 &&& 31)) &&& (1 : Int32))) (fun (i5 : Int32) => wB (i4 + (1 : Int32)) (fun (i6 : Int32) => some (.inl (i5, i6)))))
def F_X9_manyOf (i1 : Int32) (u0 : wSt) : Option Int32 :=
  wL (S := Int32 × Int32) (fun x => F_X9_manyOf_b4 i1 x.1 x.2) wFu ((0 : Int32), (0 : Int32))
set_option maxRecDepth 100000 in
set_option maxHeartbeats 4000000 in
theorem c_X9_manyOf {l : Launch} {D : va_G} {κ : Nat → ClassId} {ρ : Nat → Nat} (i1 : Int32) : wMI l yX9_manyOf cX9_manyOf 3 .int (wRm 0 0) [.int i1] D κ ρ 1 (fun u => wPu (F_X9_manyOf i1 u) u) := by
  refine wMP_of (F := fun u => F_X9_manyOf i1 u) rfl (Nat.le_of_ble_eq_true rfl) (fun u0 z p e s m args below meth c ls A hF hC hr hlk hH hl => ?_)
  have hl : lv_has ls 3 [(0, .int i1)] := hl
  have hx := hC.1.1
  have hb := hC.1.2.1
  have hF : F_X9_manyOf i1 u0 = some z := hF
  unfold F_X9_manyOf at hF
  change W p l e (wRm 0 0) s m args below meth c s.heap [] 0 0 (wQI below args s A D κ ρ 1 (z, u0)) (F0 m 0 ls [])
  have key : ∀ (H : Heap) (locs : List Loc), wHp D κ ρ 1 A s.heap H locs u0 → W p l e (wRm 0 0) s m args below meth c H locs 0 0 (wQI below args s A D κ ρ 1 (z, u0)) (F0 m 0 ls []) := by
    intro H locs hH
    refine lv_iconst hx hb dX9_manyOf_0 k_iconst_0 ?_
    refine wx_istore_n hx hb dX9_manyOf_1 rfl hl (by decide) (fun ls hl => ?_)
    have hl : lv_has ls 3 [(1, .int (0 : Int32)), (0, .int i1)] := hl
    refine lv_iconst hx hb dX9_manyOf_2 k_iconst_0 ?_
    refine wx_istore_n hx hb dX9_manyOf_3 rfl hl (by decide) (fun ls hl => ?_)
    have hl : lv_has ls 3 [(2, .int (0 : Int32)), (1, .int (0 : Int32)), (0, .int i1)] := hl
    have hL4 : ∀ (k2_ : Nat) (i3 : Int32) (i4 : Int32) (H : Heap) (locs : List Loc) (ls : Array Slot), wL (S := Int32 × Int32) (fun x => F_X9_manyOf_b4 i1 x.1 x.2) k2_ (i3, i4) = some z → wHp D κ ρ 1 A s.heap H locs u0 → lv_has ls 3 [(0, .int i1), (1, .int i3), (2, .int i4)] → W p l e (wRm 0 0) s m args below meth c H locs 0 0 (wQI below args s A D κ ρ 1 (z, u0)) (F0 m 4 ls []) := by
      intro k2_
      induction k2_ with
      | zero => intro i3 i4 H locs ls hF; exact wL_zero hF
      | succ k2_ ih2 =>
        intro i3 i4 H locs ls hF hH hl
        obtain ⟨q2_, hF, hq2⟩ := wL_some hF
        have hF : F_X9_manyOf_b4 i1 i3 i4 = some q2_ := hF
        unfold F_X9_manyOf_b4 at hF
        refine lv_iload_n hx hb dX9_manyOf_4 rfl (lv_at hl 2 rfl) ?_
        refine lv_bipush hx hb dX9_manyOf_5 k_bipush_6 ?_
        refine lv_icmp_ge hx hb dX9_manyOf_7 (tgt := 24) rfl (fun h => ?_) (fun h => ?_)
        · have hF := wx_t h hF
          refine lv_iload_n hx hb dX9_manyOf_24 rfl (lv_at hl 1 rfl) ?_
          have hF := wJ_r hq2 hF
          exact wx_iret hC hH hr hlk dX9_manyOf_25 (wx_pr hF)
        have hF := wx_f h hF
        refine lv_iload_n hx hb dX9_manyOf_10 rfl (lv_at hl 1 rfl) ?_
        refine lv_iload_n hx hb dX9_manyOf_11 rfl (lv_at hl 0 rfl) ?_
        refine lv_iload_n hx hb dX9_manyOf_12 rfl (lv_at hl 2 rfl) ?_
        refine lv_ishr hx hb dX9_manyOf_13 ?_
        refine lv_iconst hx hb dX9_manyOf_14 k_iconst_1 ?_
        refine lv_iand hx hb dX9_manyOf_15 ?_
        refine lv_iadd hx hb dX9_manyOf_16 ?_
        refine wx_leti hF (fun i5 hF => ?_)
        refine wx_istore_n hx hb dX9_manyOf_17 rfl hl (by decide) (fun ls hl => ?_)
        have hl : lv_has ls 3 [(1, .int i5), (0, .int i1), (2, .int i4)] := hl
        refine wx_iinc hx hb dX9_manyOf_18 k_iconst_1 hl (k := 2) rfl (by decide) hF (fun i6 ls hF hl => ?_)
        have hl : lv_has ls 3 [(2, .int i6), (1, .int i5), (0, .int i1)] := hl
        refine lv_goto hx hb dX9_manyOf_21 (tgt := 4) rfl ?_
        have hF := wJ_l hq2 hF
        exact ih2 i5 i6 H locs ls hF hH (lv_sub hl [2, 1, 0] rfl)
    exact hL4 wFu (0 : Int32) (0 : Int32) H locs ls hF hH (lv_sub hl [2, 1, 0] rfl)
  exact key _ _ hH
def F_X9_thereBits_j29 (i3 : Int32) (i4 : Int32) (i8 : Int32) : Option ((Int32 × Int32) ⊕ Int32) :=
  wB (i3 ||| i8) (fun (i9 : Int32) => wB (i4 + (1 : Int32)) (fun (i10 : Int32) => some (.inl (i9, i10))))
def F_X9_thereBits_b4 (u0 : wSt) (o1 : Nat) (i3 : Int32) (i4 : Int32) : Option ((Int32 × Int32) ⊕ Int32) :=
  if (u0.1 o1 12) ≤ i4 then (some (.inr (i3))) else (wR (u0.2.2 o1 52) 15 (fun o5 => wN i4 o5 (fun j6 => wJ (X := Int32) (if (u0.1 o5 j6) = 0 then (some (.inl (0 : Int32))) else (some (.inl ((1 : Int32) <<< (i4 &&& 31))))) (fun x => F_X9_thereBits_j29 i3 i4 x))))
def F_X9_thereBits (o1 : Nat) (u0 : wSt) : Option Int32 :=
  wL (S := Int32 × Int32) (fun x => F_X9_thereBits_b4 u0 o1 x.1 x.2) wFu ((0 : Int32), (0 : Int32))
set_option maxRecDepth 100000 in
set_option maxHeartbeats 4000000 in
theorem c_X9_thereBits {l : Launch} {D : va_G} {κ : Nat → ClassId} {ρ : Nat → Nat} (o1 : Nat) (h_o1 : (w_sh o1).1 = 9) : wMI l yX9_thereBits cX9_thereBits 3 .int (wRm 0 0) [.ref (ρ o1)] D κ ρ 1 (fun u => wPu (F_X9_thereBits o1 u) u) := by
  refine wMP_of (F := fun u => F_X9_thereBits o1 u) rfl (Nat.le_of_ble_eq_true rfl) (fun u0 z p e s m args below meth c ls A hF hC hr hlk hH hl => ?_)
  have hl : lv_has ls 3 [(0, .ref (ρ o1))] := hl
  have hx := hC.1.1
  have hb := hC.1.2.1
  have hF : F_X9_thereBits o1 u0 = some z := hF
  unfold F_X9_thereBits at hF
  change W p l e (wRm 0 0) s m args below meth c s.heap [] 0 0 (wQI below args s A D κ ρ 1 (z, u0)) (F0 m 0 ls [])
  have key : ∀ (H : Heap) (locs : List Loc), wHp D κ ρ 1 A s.heap H locs u0 → W p l e (wRm 0 0) s m args below meth c H locs 0 0 (wQI below args s A D κ ρ 1 (z, u0)) (F0 m 0 ls []) := by
    intro H locs hH
    refine lv_iconst hx hb dX9_thereBits_0 k_iconst_0 ?_
    refine wx_istore_n hx hb dX9_thereBits_1 rfl hl (by decide) (fun ls hl => ?_)
    have hl : lv_has ls 3 [(1, .int (0 : Int32)), (0, .ref (ρ o1))] := hl
    refine lv_iconst hx hb dX9_thereBits_2 k_iconst_0 ?_
    refine wx_istore_n hx hb dX9_thereBits_3 rfl hl (by decide) (fun ls hl => ?_)
    have hl : lv_has ls 3 [(2, .int (0 : Int32)), (1, .int (0 : Int32)), (0, .ref (ρ o1))] := hl
    have hL4 : ∀ (k2_ : Nat) (i3 : Int32) (i4 : Int32) (H : Heap) (locs : List Loc) (ls : Array Slot), wL (S := Int32 × Int32) (fun x => F_X9_thereBits_b4 u0 o1 x.1 x.2) k2_ (i3, i4) = some z → wHp D κ ρ 1 A s.heap H locs u0 → lv_has ls 3 [(0, .ref (ρ o1)), (1, .int i3), (2, .int i4)] → W p l e (wRm 0 0) s m args below meth c H locs 0 0 (wQI below args s A D κ ρ 1 (z, u0)) (F0 m 4 ls []) := by
      intro k2_
      induction k2_ with
      | zero => intro i3 i4 H locs ls hF; exact wL_zero hF
      | succ k2_ ih2 =>
        intro i3 i4 H locs ls hF hH hl
        obtain ⟨q2_, hF, hq2⟩ := wL_some hF
        have hF : F_X9_thereBits_b4 u0 o1 i3 i4 = some q2_ := hF
        unfold F_X9_thereBits_b4 at hF
        refine lv_iload_n hx hb dX9_thereBits_4 rfl (lv_at hl 2 rfl) ?_
        refine lv_aload_n hx hb dX9_thereBits_5 rfl (lv_at hl 0 rfl) ?_
        refine wx_getI hC hH h_o1 rfl f_X9_219 dX9_thereBits_6 ?_
        refine lv_icmp_ge hx hb dX9_thereBits_9 (tgt := 37) rfl (fun h => ?_) (fun h => ?_)
        · have hF := wx_t h hF
          refine lv_iload_n hx hb dX9_thereBits_37 rfl (lv_at hl 1 rfl) ?_
          have hF := wJ_r hq2 hF
          exact wx_iret hC hH hr hlk dX9_thereBits_38 (wx_pr hF)
        have hF := wx_f h hF
        refine lv_iload_n hx hb dX9_thereBits_12 rfl (lv_at hl 1 rfl) ?_
        refine lv_aload_n hx hb dX9_thereBits_13 rfl (lv_at hl 0 rfl) ?_
        refine wx_getR hC hH h_o1 rfl f_X9_97 dX9_thereBits_14 hF (fun o5 h_o5 hF => ?_)
        refine lv_iload_n hx hb dX9_thereBits_17 rfl (lv_at hl 2 rfl) ?_
        refine wx_zald hC hH h_o5 ⟨rfl, rfl⟩ dX9_thereBits_18 hF (fun j6 hF => ?_)
        obtain ⟨q7_, hF, hq7⟩ := wJ_some hF
        have hJ29 : ∀ (i8 : Int32) (H : Heap) (locs : List Loc) (ls : Array Slot), F_X9_thereBits_j29 i3 i4 i8 = some q2_ → wHp D κ ρ 1 A s.heap H locs u0 → lv_has ls 3 [(0, .ref (ρ o1)), (2, .int i4)] → W p l e (wRm 0 0) s m args below meth c H locs 0 0 (wQI below args s A D κ ρ 1 (z, u0)) (F0 m 29 ls [.int i8, .int i3]) := by
          intro i8 H locs ls hF hH hl
          unfold F_X9_thereBits_j29 at hF
          refine lv_ior hx hb dX9_thereBits_29 ?_
          refine wx_leti hF (fun i9 hF => ?_)
          refine wx_istore_n hx hb dX9_thereBits_30 rfl hl (by decide) (fun ls hl => ?_)
          have hl : lv_has ls 3 [(1, .int i9), (0, .ref (ρ o1)), (2, .int i4)] := hl
          refine wx_iinc hx hb dX9_thereBits_31 k_iconst_1 hl (k := 2) rfl (by decide) hF (fun i10 ls hF hl => ?_)
          have hl : lv_has ls 3 [(2, .int i10), (1, .int i9), (0, .ref (ρ o1))] := hl
          refine lv_goto hx hb dX9_thereBits_34 (tgt := 4) rfl ?_
          have hF := wJ_l hq2 hF
          exact ih2 i9 i10 H locs ls hF hH (lv_sub hl [2, 1, 0] rfl)
        refine lv_if_eq hx hb dX9_thereBits_19 (tgt := 28) rfl (fun h => ?_) (fun h => ?_)
        · have hF := wx_t h hF
          refine lv_iconst hx hb dX9_thereBits_28 k_iconst_0 ?_
          have hF := wJ_l hq7 hF
          exact hJ29 (0 : Int32) H locs ls hF hH (lv_sub hl [0, 2] rfl)
        have hF := wx_f h hF
        refine lv_iconst hx hb dX9_thereBits_22 k_iconst_1 ?_
        refine lv_iload_n hx hb dX9_thereBits_23 rfl (lv_at hl 2 rfl) ?_
        refine lv_ishl hx hb dX9_thereBits_24 ?_
        refine lv_goto hx hb dX9_thereBits_25 (tgt := 29) rfl ?_
        have hF := wJ_l hq7 hF
        exact hJ29 ((1 : Int32) <<< (i4 &&& 31)) H locs ls hF hH (lv_sub hl [0, 2] rfl)
    exact hL4 wFu (0 : Int32) (0 : Int32) H locs ls hF hH (lv_sub hl [2, 1, 0] rfl)
  exact key _ _ hH

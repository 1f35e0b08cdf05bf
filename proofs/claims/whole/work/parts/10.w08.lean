def F_X9_number (o1 : Nat) (i2 : Int32) (i3 : Int32) (u0 : wSt) : Option (Int32 × wSt) :=
  if (u0.1 o1 8) = (3 : Int32) then (wP (F_X9_isIn (u0.1 o1 9) i2 i3 u0) (fun (i4 : Int32) => if i4 = 0 then (wC (F_X9_wrong o1 (2 : Int32) u0) (fun (i8 : Int32) (u7 : wSt) => wG (i8 = 0 ∨ i8 = 1) (some (i8, u7)))) else (wB (w_sI u0 o1 11 (u0.1 o1 9)) (fun (u5 : wSt) => wC (F_X9_token o1 u5) (fun _ (u6 : wSt) => some ((1 : Int32), u6)))))) else (wC (F_X9_wrong o1 (1 : Int32) u0) (fun (i10 : Int32) (u9 : wSt) => wG (i10 = 0 ∨ i10 = 1) (some (i10, u9))))
set_option maxRecDepth 100000 in
set_option maxHeartbeats 4000000 in
theorem c_X9_number {l : Launch} {D : va_G} {κ : Nat → ClassId} {ρ : Nat → Nat} (o1 : Nat) (i2 : Int32) (i3 : Int32) (h_o1 : (w_sh o1).1 = 9) : wMI l yX9_number cX9_number 3 .boolean (wRm 2 47) [.ref (ρ o1), .int i2, .int i3] D κ ρ 1 (fun u => F_X9_number o1 i2 i3 u) := by
  refine wMI_of (F := fun u => F_X9_number o1 i2 i3 u) rfl (Nat.le_of_ble_eq_true rfl) (fun u0 z p e s m args below meth c ls A hF hC hr hlk hH hl => ?_)
  have hl : lv_has ls 3 [(0, .ref (ρ o1)), (1, .int i2), (2, .int i3)] := hl
  have hx := hC.1.1
  have hb := hC.1.2.1
  have hF : F_X9_number o1 i2 i3 u0 = some z := hF
  unfold F_X9_number at hF
  change W p l e (wRm 2 47) s m args below meth c s.heap [] 0 0 (wQI below args s A D κ ρ 1 z) (F0 m 0 ls [])
  have key : ∀ (H : Heap) (locs : List Loc), wHp D κ ρ 1 A s.heap H locs u0 → W p l e (wRm 2 47) s m args below meth c H locs 0 0 (wQI below args s A D κ ρ 1 z) (F0 m 0 ls []) := by
    intro H locs hH
    refine lv_aload_n hx hb dX9_number_0 rfl (lv_at hl 0 rfl) ?_
    refine wx_getI hC hH h_o1 rfl f_X9_160 dX9_number_1 ?_
    refine lv_iconst hx hb dX9_number_4 k_iconst_3 ?_
    refine lv_icmp_eq hx hb dX9_number_5 (tgt := 14) rfl (fun h => ?_) (fun h => ?_)
    · have hF := wx_t h hF
      refine lv_aload_n hx hb dX9_number_14 rfl (lv_at hl 0 rfl) ?_
      refine wx_getI hC hH h_o1 rfl f_X9_171 dX9_number_15 ?_
      refine lv_iload_n hx hb dX9_number_18 rfl (lv_at hl 1 rfl) ?_
      refine lv_iload_n hx hb dX9_number_19 rfl (lv_at hl 2 rfl) ?_
      refine wx_psi hC hH hl (c_X9_isIn (u0.1 o1 9) i2 i3) y_X9_isIn v_X9_isIn m_X9_187 rfl ⟨Nat.le_of_ble_eq_true rfl, Nat.le_of_ble_eq_true rfl⟩ ⟨Nat.le_refl _, Nat.le_refl _⟩ rfl (Nat.le_of_ble_eq_true rfl) dX9_number_20 hF (fun i4 H locs hF hH => ?_)
      refine lv_if_ne hx hb dX9_number_23 (tgt := 32) rfl (fun h => ?_) (fun h => ?_)
      · have hF := wx_f h hF
        refine lv_aload_n hx hb dX9_number_32 rfl (lv_at hl 0 rfl) ?_
        refine lv_aload_n hx hb dX9_number_33 rfl (lv_at hl 0 rfl) ?_
        refine wx_getI hC hH h_o1 rfl f_X9_171 dX9_number_34 ?_
        refine wx_putI hC hH h_o1 rfl f_X9_191 g_9_11 dX9_number_37 hF (fun u5 H locs hF hH => ?_)
        refine lv_aload_n hx hb dX9_number_40 rfl (lv_at hl 0 rfl) ?_
        refine wx_evv hC hH hl (c_X9_token o1 h_o1) y_X9_token v_X9_token h_o1 rfl m_X9_194 rfl ⟨Nat.le_of_ble_eq_true rfl, Nat.le_of_ble_eq_true rfl⟩ ⟨Nat.le_refl _, Nat.le_refl _⟩ rfl (Nat.le_of_ble_eq_true rfl) dX9_number_41 hF (fun _ u6 H locs hF hH => ?_)
        refine lv_iconst hx hb dX9_number_44 k_iconst_1 ?_
        exact wx_zret hC hH hr hlk dX9_number_45 (Or.inr rfl) hF
      have hF := wx_t h hF
      refine lv_aload_n hx hb dX9_number_26 rfl (lv_at hl 0 rfl) ?_
      refine lv_iconst hx hb dX9_number_27 k_iconst_2 ?_
      refine wx_evi hC hH hl (c_X9_wrong o1 (2 : Int32) h_o1) y_X9_wrong v_X9_wrong h_o1 rfl m_X9_184 rfl ⟨Nat.le_of_ble_eq_true rfl, Nat.le_of_ble_eq_true rfl⟩ ⟨Nat.le_refl _, Nat.le_refl _⟩ rfl (Nat.le_of_ble_eq_true rfl) dX9_number_28 hF (fun i8 u7 H locs hF hH => ?_)
      obtain ⟨h01, hF⟩ := wG_some hF
      exact wx_zret hC hH hr hlk dX9_number_31 h01 hF
    have hF := wx_f h hF
    refine lv_aload_n hx hb dX9_number_8 rfl (lv_at hl 0 rfl) ?_
    refine lv_iconst hx hb dX9_number_9 k_iconst_1 ?_
    refine wx_evi hC hH hl (c_X9_wrong o1 (1 : Int32) h_o1) y_X9_wrong v_X9_wrong h_o1 rfl m_X9_184 rfl ⟨Nat.le_of_ble_eq_true rfl, Nat.le_of_ble_eq_true rfl⟩ ⟨Nat.le_refl _, Nat.le_refl _⟩ rfl (Nat.le_of_ble_eq_true rfl) dX9_number_10 hF (fun i10 u9 H locs hF hH => ?_)
    obtain ⟨h01, hF⟩ := wG_some hF
    exact wx_zret hC hH hr hlk dX9_number_13 h01 hF
  exact key _ _ hH
def F_X9_plain_j64 (o14 : Nat) (i8 : Int32) (i16 : Int32) (u17 : wSt) : Option ((Int32 × wSt) ⊕ (Unit × wSt)) :=
  wSI u17 o14 ((3 : Int32) + i8) i16 (fun (u18 : wSt) => wB (i8 + (1 : Int32)) (fun (i19 : Int32) => some (.inl (i19, u18))))
def F_X9_plain_b27 (o1 : Nat) (i8 : Int32) (u9 : wSt) : Option ((Int32 × wSt) ⊕ (Unit × wSt)) :=
  if (3 : Int32) ≤ i8 then (some (.inr ((), u9))) else (wR (u9.2.2 o1 20) 15 (fun o10 => wSZ u9 o10 i8 (0 : Int32) (fun (u11 : wSt) => wR (u11.2.2 o1 31) 15 (fun o12 => wSZ u11 o12 ((3 : Int32) + i8) (0 : Int32) (fun (u13 : wSt) => wR (u13.2.2 o1 21) 14 (fun o14 => wJ (X := Int32 × wSt) (if i8 = 0 then (some (.inl ((1 : Int32), u13))) else (some (.inl ((0 : Int32), u13)))) (fun x => F_X9_plain_j64 o14 i8 x.1 x.2)))))))
def F_X9_plain (o1 : Nat) (u0 : wSt) : Option (Unit × wSt) :=
  wB (w_sI u0 o1 16 (0 : Int32)) (fun (u2 : wSt) => wB (w_sI u2 o1 17 (0 : Int32)) (fun (u3 : wSt) => wB (w_sI u3 o1 18 (0 : Int32)) (fun (u4 : wSt) => wB (w_sI u4 o1 19 (0 : Int32)) (fun (u5 : wSt) => wB (w_sI u5 o1 43 (0 : Int32)) (fun (u6 : wSt) => wL (S := Int32 × wSt) (fun x => F_X9_plain_b27 o1 x.1 x.2) wFu ((0 : Int32), u6))))))
set_option maxRecDepth 100000 in
set_option maxHeartbeats 4000000 in
theorem c_X9_plain {l : Launch} {D : va_G} {κ : Nat → ClassId} {ρ : Nat → Nat} (o1 : Nat) (h_o1 : (w_sh o1).1 = 9) : wMV l yX9_plain cX9_plain 2 (wRm 0 0) [.ref (ρ o1)] D κ ρ 1 (fun u => F_X9_plain o1 u) := by
  refine wMV_of (F := fun u => F_X9_plain o1 u) rfl (Nat.le_of_ble_eq_true rfl) (fun u0 z p e s m args below meth c ls A hF hC hr hlk hH hl => ?_)
  have hl : lv_has ls 2 [(0, .ref (ρ o1))] := hl
  have hx := hC.1.1
  have hb := hC.1.2.1
  have hF : F_X9_plain o1 u0 = some z := hF
  unfold F_X9_plain at hF
  change W p l e (wRm 0 0) s m args below meth c s.heap [] 0 0 (wQV below args s A D κ ρ 1 z) (F0 m 0 ls [])
  have key : ∀ (H : Heap) (locs : List Loc), wHp D κ ρ 1 A s.heap H locs u0 → W p l e (wRm 0 0) s m args below meth c H locs 0 0 (wQV below args s A D κ ρ 1 z) (F0 m 0 ls []) := by
    intro H locs hH
    refine lv_aload_n hx hb dX9_plain_0 rfl (lv_at hl 0 rfl) ?_
    refine lv_iconst hx hb dX9_plain_1 k_iconst_0 ?_
    refine wx_putI hC hH h_o1 rfl f_X9_204 g_9_16 dX9_plain_2 hF (fun u2 H locs hF hH => ?_)
    refine lv_aload_n hx hb dX9_plain_5 rfl (lv_at hl 0 rfl) ?_
    refine lv_iconst hx hb dX9_plain_6 k_iconst_0 ?_
    refine wx_putI hC hH h_o1 rfl f_X9_207 g_9_17 dX9_plain_7 hF (fun u3 H locs hF hH => ?_)
    refine lv_aload_n hx hb dX9_plain_10 rfl (lv_at hl 0 rfl) ?_
    refine lv_iconst hx hb dX9_plain_11 k_iconst_0 ?_
    refine wx_putI hC hH h_o1 rfl f_X9_210 g_9_18 dX9_plain_12 hF (fun u4 H locs hF hH => ?_)
    refine lv_aload_n hx hb dX9_plain_15 rfl (lv_at hl 0 rfl) ?_
    refine lv_iconst hx hb dX9_plain_16 k_iconst_0 ?_
    refine wx_putI hC hH h_o1 rfl f_X9_213 g_9_19 dX9_plain_17 hF (fun u5 H locs hF hH => ?_)
    refine lv_aload_n hx hb dX9_plain_20 rfl (lv_at hl 0 rfl) ?_
    refine lv_iconst hx hb dX9_plain_21 k_iconst_0 ?_
    refine wx_putI hC hH h_o1 rfl f_X9_216 g_9_43 dX9_plain_22 hF (fun u6 H locs hF hH => ?_)
    refine lv_iconst hx hb dX9_plain_25 k_iconst_0 ?_
    refine wx_istore_n hx hb dX9_plain_26 rfl hl (by decide) (fun ls hl => ?_)
    have hl : lv_has ls 2 [(1, .int (0 : Int32)), (0, .ref (ρ o1))] := hl
    have hL27 : ∀ (k7_ : Nat) (i8 : Int32) (u9 : wSt) (H : Heap) (locs : List Loc) (ls : Array Slot), wL (S := Int32 × wSt) (fun x => F_X9_plain_b27 o1 x.1 x.2) k7_ (i8, u9) = some z → wHp D κ ρ 1 A s.heap H locs u9 → lv_has ls 2 [(0, .ref (ρ o1)), (1, .int i8)] → W p l e (wRm 0 0) s m args below meth c H locs 0 0 (wQV below args s A D κ ρ 1 z) (F0 m 27 ls []) := by
      intro k7_
      induction k7_ with
      | zero => intro i8 u9 H locs ls hF; exact wL_zero hF
      | succ k7_ ih7 =>
        intro i8 u9 H locs ls hF hH hl
        obtain ⟨q7_, hF, hq7⟩ := wL_some hF
        have hF : F_X9_plain_b27 o1 i8 u9 = some q7_ := hF
        unfold F_X9_plain_b27 at hF
        refine lv_iload_n hx hb dX9_plain_27 rfl (lv_at hl 1 rfl) ?_
        refine lv_iconst hx hb dX9_plain_28 k_iconst_3 ?_
        refine lv_icmp_ge hx hb dX9_plain_29 (tgt := 71) rfl (fun h => ?_) (fun h => ?_)
        · have hF := wx_t h hF
          have hF := wJ_r hq7 hF
          exact wx_vret hC hH hr hlk dX9_plain_71 hF
        have hF := wx_f h hF
        refine lv_aload_n hx hb dX9_plain_32 rfl (lv_at hl 0 rfl) ?_
        refine wx_getR hC hH h_o1 rfl f_X9_20 dX9_plain_33 hF (fun o10 h_o10 hF => ?_)
        refine lv_iload_n hx hb dX9_plain_36 rfl (lv_at hl 1 rfl) ?_
        refine lv_iconst hx hb dX9_plain_37 k_iconst_0 ?_
        refine wx_zast hC hH h_o10 ⟨rfl, rfl⟩ dX9_plain_38 hF (fun u11 H locs hF hH => ?_)
        refine lv_aload_n hx hb dX9_plain_39 rfl (lv_at hl 0 rfl) ?_
        refine wx_getR hC hH h_o1 rfl f_X9_54 dX9_plain_40 hF (fun o12 h_o12 hF => ?_)
        refine lv_iconst hx hb dX9_plain_43 k_iconst_3 ?_
        refine lv_iload_n hx hb dX9_plain_44 rfl (lv_at hl 1 rfl) ?_
        refine lv_iadd hx hb dX9_plain_45 ?_
        refine lv_iconst hx hb dX9_plain_46 k_iconst_0 ?_
        refine wx_zast hC hH h_o12 ⟨rfl, rfl⟩ dX9_plain_47 hF (fun u13 H locs hF hH => ?_)
        refine lv_aload_n hx hb dX9_plain_48 rfl (lv_at hl 0 rfl) ?_
        refine wx_getR hC hH h_o1 rfl f_X9_24 dX9_plain_49 hF (fun o14 h_o14 hF => ?_)
        refine lv_iconst hx hb dX9_plain_52 k_iconst_3 ?_
        refine lv_iload_n hx hb dX9_plain_53 rfl (lv_at hl 1 rfl) ?_
        refine lv_iadd hx hb dX9_plain_54 ?_
        refine lv_iload_n hx hb dX9_plain_55 rfl (lv_at hl 1 rfl) ?_
        obtain ⟨q15_, hF, hq15⟩ := wJ_some hF
        have hJ64 : ∀ (i16 : Int32) (u17 : wSt) (H : Heap) (locs : List Loc) (ls : Array Slot), F_X9_plain_j64 o14 i8 i16 u17 = some q7_ → wHp D κ ρ 1 A s.heap H locs u17 → lv_has ls 2 [(0, .ref (ρ o1)), (1, .int i8)] → W p l e (wRm 0 0) s m args below meth c H locs 0 0 (wQV below args s A D κ ρ 1 z) (F0 m 64 ls [.int i16, .int ((3 : Int32) + i8), .ref (ρ o14)]) := by
          intro i16 u17 H locs ls hF hH hl
          unfold F_X9_plain_j64 at hF
          refine wx_iast hC hH h_o14 ⟨rfl, rfl⟩ dX9_plain_64 hF (fun u18 H locs hF hH => ?_)
          refine wx_iinc hx hb dX9_plain_65 k_iconst_1 hl (k := 1) rfl (by decide) hF (fun i19 ls hF hl => ?_)
          have hl : lv_has ls 2 [(1, .int i19), (0, .ref (ρ o1))] := hl
          refine lv_goto hx hb dX9_plain_68 (tgt := 27) rfl ?_
          have hF := wJ_l hq7 hF
          exact ih7 i19 u18 H locs ls hF hH (lv_sub hl [1, 0] rfl)
        refine lv_if_ne hx hb dX9_plain_56 (tgt := 63) rfl (fun h => ?_) (fun h => ?_)
        · have hF := wx_f h hF
          refine lv_iconst hx hb dX9_plain_63 k_iconst_0 ?_
          have hF := wJ_l hq15 hF
          exact hJ64 (0 : Int32) u13 H locs ls hF hH (lv_sub hl [0, 1] rfl)
        have hF := wx_t h hF
        refine lv_iconst hx hb dX9_plain_59 k_iconst_1 ?_
        refine lv_goto hx hb dX9_plain_60 (tgt := 64) rfl ?_
        have hF := wJ_l hq15 hF
        exact hJ64 (1 : Int32) u13 H locs ls hF hH (lv_sub hl [0, 1] rfl)
    exact hL27 wFu (0 : Int32) u6 H locs ls hF hH (lv_sub hl [1, 0] rfl)
  exact key _ _ hH
def F_X9_copies_b2 (i2 : Int32) (o1 : Nat) (i4 : Int32) (u5 : wSt) : Option ((Int32 × wSt) ⊕ (Unit × wSt)) :=
  if i2 ≤ i4 then (some (.inr ((), u5))) else (wN (i2 + i4) o1 (fun j6 => wSI u5 o1 i4 (u5.1 o1 j6) (fun (u7 : wSt) => wB (i4 + (1 : Int32)) (fun (i8 : Int32) => some (.inl (i8, u7))))))
def F_X9_copies (o1 : Nat) (i2 : Int32) (u0 : wSt) : Option (Unit × wSt) :=
  wL (S := Int32 × wSt) (fun x => F_X9_copies_b2 i2 o1 x.1 x.2) wFu ((0 : Int32), u0)
set_option maxRecDepth 100000 in
set_option maxHeartbeats 4000000 in
theorem c_X9_copies {l : Launch} {D : va_G} {κ : Nat → ClassId} {ρ : Nat → Nat} (o1 : Nat) (i2 : Int32) (h_o1 : (w_sh o1).1 = 14) : wMV l yX9_copies cX9_copies 3 (wRm 0 0) [.ref (ρ o1), .int i2] D κ ρ 1 (fun u => F_X9_copies o1 i2 u) := by
  refine wMV_of (F := fun u => F_X9_copies o1 i2 u) rfl (Nat.le_of_ble_eq_true rfl) (fun u0 z p e s m args below meth c ls A hF hC hr hlk hH hl => ?_)
  have hl : lv_has ls 3 [(0, .ref (ρ o1)), (1, .int i2)] := hl
  have hx := hC.1.1
  have hb := hC.1.2.1
  have hF : F_X9_copies o1 i2 u0 = some z := hF
  unfold F_X9_copies at hF
  change W p l e (wRm 0 0) s m args below meth c s.heap [] 0 0 (wQV below args s A D κ ρ 1 z) (F0 m 0 ls [])
  have key : ∀ (H : Heap) (locs : List Loc), wHp D κ ρ 1 A s.heap H locs u0 → W p l e (wRm 0 0) s m args below meth c H locs 0 0 (wQV below args s A D κ ρ 1 z) (F0 m 0 ls []) := by
    intro H locs hH
    refine lv_iconst hx hb dX9_copies_0 k_iconst_0 ?_
    refine wx_istore_n hx hb dX9_copies_1 rfl hl (by decide) (fun ls hl => ?_)
    have hl : lv_has ls 3 [(2, .int (0 : Int32)), (0, .ref (ρ o1)), (1, .int i2)] := hl
    have hL2 : ∀ (k3_ : Nat) (i4 : Int32) (u5 : wSt) (H : Heap) (locs : List Loc) (ls : Array Slot), wL (S := Int32 × wSt) (fun x => F_X9_copies_b2 i2 o1 x.1 x.2) k3_ (i4, u5) = some z → wHp D κ ρ 1 A s.heap H locs u5 → lv_has ls 3 [(0, .ref (ρ o1)), (1, .int i2), (2, .int i4)] → W p l e (wRm 0 0) s m args below meth c H locs 0 0 (wQV below args s A D κ ρ 1 z) (F0 m 2 ls []) := by
      intro k3_
      induction k3_ with
      | zero => intro i4 u5 H locs ls hF; exact wL_zero hF
      | succ k3_ ih3 =>
        intro i4 u5 H locs ls hF hH hl
        obtain ⟨q3_, hF, hq3⟩ := wL_some hF
        have hF : F_X9_copies_b2 i2 o1 i4 u5 = some q3_ := hF
        unfold F_X9_copies_b2 at hF
        refine lv_iload_n hx hb dX9_copies_2 rfl (lv_at hl 2 rfl) ?_
        refine lv_iload_n hx hb dX9_copies_3 rfl (lv_at hl 1 rfl) ?_
        refine lv_icmp_ge hx hb dX9_copies_4 (tgt := 21) rfl (fun h => ?_) (fun h => ?_)
        · have hF := wx_t h hF
          have hF := wJ_r hq3 hF
          exact wx_vret hC hH hr hlk dX9_copies_21 hF
        have hF := wx_f h hF
        refine lv_aload_n hx hb dX9_copies_7 rfl (lv_at hl 0 rfl) ?_
        refine lv_iload_n hx hb dX9_copies_8 rfl (lv_at hl 2 rfl) ?_
        refine lv_aload_n hx hb dX9_copies_9 rfl (lv_at hl 0 rfl) ?_
        refine lv_iload_n hx hb dX9_copies_10 rfl (lv_at hl 1 rfl) ?_
        refine lv_iload_n hx hb dX9_copies_11 rfl (lv_at hl 2 rfl) ?_
        refine lv_iadd hx hb dX9_copies_12 ?_
        refine wx_iald hC hH h_o1 ⟨rfl, rfl⟩ dX9_copies_13 hF (fun j6 hF => ?_)
        refine wx_iast hC hH h_o1 ⟨rfl, rfl⟩ dX9_copies_14 hF (fun u7 H locs hF hH => ?_)
        refine wx_iinc hx hb dX9_copies_15 k_iconst_1 hl (k := 2) rfl (by decide) hF (fun i8 ls hF hl => ?_)
        have hl : lv_has ls 3 [(2, .int i8), (0, .ref (ρ o1)), (1, .int i2)] := hl
        refine lv_goto hx hb dX9_copies_18 (tgt := 2) rfl ?_
        have hF := wJ_l hq3 hF
        exact ih3 i8 u7 H locs ls hF hH (lv_sub hl [1, 2, 0] rfl)
    exact hL2 wFu (0 : Int32) u0 H locs ls hF hH (lv_sub hl [1, 2, 0] rfl)
  exact key _ _ hH
def F_X9_atFirst_j134 (o1 : Nat) (i2 : Int32) (u6 : wSt) : Option (Unit × wSt) :=
  wR (u6.2.2 o1 57) 14 (fun o7 => wSI u6 o7 i2 (0 : Int32) (fun (u8 : wSt) => some ((), u8)))
def F_X9_atFirst_b86 (o1 : Nat) (i2 : Int32) (i10 : Int32) (u11 : wSt) : Option ((Int32 × wSt) ⊕ ((wSt) ⊕ (Unit × wSt))) :=
  if (8 : Int32) ≤ i10 then (some (.inr (.inl u11))) else (wR (u11.2.2 o1 54) 14 (fun o12 => wSI u11 o12 (((8 : Int32) * i2) + i10) (0 : Int32) (fun (u13 : wSt) => wR (u13.2.2 o1 55) 15 (fun o14 => wSZ u13 o14 (((8 : Int32) * i2) + i10) (0 : Int32) (fun (u15 : wSt) => wR (u15.2.2 o1 56) 14 (fun o16 => wSI u15 o16 (((8 : Int32) * i2) + i10) (0 : Int32) (fun (u17 : wSt) => wB (i10 + (1 : Int32)) (fun (i18 : Int32) => some (.inl (i18, u17))))))))))
def F_X9_atFirst_j84 (o1 : Nat) (i2 : Int32) (u4 : wSt) : Option (Unit × wSt) :=
  wJ (X := wSt) (wL (S := Int32 × wSt) (fun x => F_X9_atFirst_b86 o1 i2 x.1 x.2) wFu ((0 : Int32), u4)) (fun x => F_X9_atFirst_j134 o1 i2 x)
def F_X9_atFirst_b2 (o1 : Nat) (i2 : Int32) (i20 : Int32) (u21 : wSt) : Option ((Int32 × wSt) ⊕ ((wSt) ⊕ (Unit × wSt))) :=
  if (6 : Int32) ≤ i20 then (some (.inr (.inl u21))) else (wR (u21.2.2 o1 49) 14 (fun o22 => wR (u21.2.2 o1 23) 14 (fun o23 => wN i20 o23 (fun j24 => wSI u21 o22 (((6 : Int32) * i2) + i20) (u21.1 o23 j24) (fun (u25 : wSt) => wR (u25.2.2 o1 50) 14 (fun o26 => wR (u25.2.2 o1 24) 14 (fun o27 => wN i20 o27 (fun j28 => wSI u25 o26 (((6 : Int32) * i2) + i20) (u25.1 o27 j28) (fun (u29 : wSt) => wR (u29.2.2 o1 51) 14 (fun o30 => wSI u29 o30 (((6 : Int32) * i2) + i20) i20 (fun (u31 : wSt) => wR (u31.2.2 o1 52) 15 (fun o32 => wSZ u31 o32 (((6 : Int32) * i2) + i20) (1 : Int32) (fun (u33 : wSt) => wR (u33.2.2 o1 53) 14 (fun o34 => wSI u33 o34 (((6 : Int32) * i2) + i20) (0 : Int32) (fun (u35 : wSt) => wB (i20 + (1 : Int32)) (fun (i36 : Int32) => some (.inl (i36, u35))))))))))))))))))
def F_X9_atFirst (o1 : Nat) (i2 : Int32) (u0 : wSt) : Option (Unit × wSt) :=
  wJ (X := wSt) (wL (S := Int32 × wSt) (fun x => F_X9_atFirst_b2 o1 i2 x.1 x.2) wFu ((0 : Int32), u0)) (fun x => F_X9_atFirst_j84 o1 i2 x)
set_option maxRecDepth 100000 in
set_option maxHeartbeats 4000000 in
theorem c_X9_atFirst {l : Launch} {D : va_G} {κ : Nat → ClassId} {ρ : Nat → Nat} (o1 : Nat) (i2 : Int32) (h_o1 : (w_sh o1).1 = 9) : wMV l yX9_atFirst cX9_atFirst 3 (wRm 0 0) [.ref (ρ o1), .int i2] D κ ρ 1 (fun u => F_X9_atFirst o1 i2 u) := by
  refine wMV_of (F := fun u => F_X9_atFirst o1 i2 u) rfl (Nat.le_of_ble_eq_true rfl) (fun u0 z p e s m args below meth c ls A hF hC hr hlk hH hl => ?_)
  have hl : lv_has ls 3 [(0, .ref (ρ o1)), (1, .int i2)] := hl
  have hx := hC.1.1
  have hb := hC.1.2.1
  have hF : F_X9_atFirst o1 i2 u0 = some z := hF
  unfold F_X9_atFirst at hF
  change W p l e (wRm 0 0) s m args below meth c s.heap [] 0 0 (wQV below args s A D κ ρ 1 z) (F0 m 0 ls [])
  have key : ∀ (H : Heap) (locs : List Loc), wHp D κ ρ 1 A s.heap H locs u0 → W p l e (wRm 0 0) s m args below meth c H locs 0 0 (wQV below args s A D κ ρ 1 z) (F0 m 0 ls []) := by
    intro H locs hH
    refine lv_iconst hx hb dX9_atFirst_0 k_iconst_0 ?_
    refine wx_istore_n hx hb dX9_atFirst_1 rfl hl (by decide) (fun ls hl => ?_)
    have hl : lv_has ls 3 [(2, .int (0 : Int32)), (0, .ref (ρ o1)), (1, .int i2)] := hl
    obtain ⟨q3_, hF, hq3⟩ := wJ_some hF
    have hJ84 : ∀ (u4 : wSt) (H : Heap) (locs : List Loc) (ls : Array Slot), F_X9_atFirst_j84 o1 i2 u4 = some z → wHp D κ ρ 1 A s.heap H locs u4 → lv_has ls 3 [(0, .ref (ρ o1)), (1, .int i2)] → W p l e (wRm 0 0) s m args below meth c H locs 0 0 (wQV below args s A D κ ρ 1 z) (F0 m 84 ls []) := by
      intro u4 H locs ls hF hH hl
      unfold F_X9_atFirst_j84 at hF
      refine lv_iconst hx hb dX9_atFirst_84 k_iconst_0 ?_
      refine wx_istore_n hx hb dX9_atFirst_85 rfl hl (by decide) (fun ls hl => ?_)
      have hl : lv_has ls 3 [(2, .int (0 : Int32)), (0, .ref (ρ o1)), (1, .int i2)] := hl
      obtain ⟨q5_, hF, hq5⟩ := wJ_some hF
      have hJ134 : ∀ (u6 : wSt) (H : Heap) (locs : List Loc) (ls : Array Slot), F_X9_atFirst_j134 o1 i2 u6 = some z → wHp D κ ρ 1 A s.heap H locs u6 → lv_has ls 3 [(0, .ref (ρ o1)), (1, .int i2)] → W p l e (wRm 0 0) s m args below meth c H locs 0 0 (wQV below args s A D κ ρ 1 z) (F0 m 134 ls []) := by
        intro u6 H locs ls hF hH hl
        unfold F_X9_atFirst_j134 at hF
        refine lv_aload_n hx hb dX9_atFirst_134 rfl (lv_at hl 0 rfl) ?_
        refine wx_getR hC hH h_o1 rfl f_X9_112 dX9_atFirst_135 hF (fun o7 h_o7 hF => ?_)
        refine lv_iload_n hx hb dX9_atFirst_138 rfl (lv_at hl 1 rfl) ?_
        refine lv_iconst hx hb dX9_atFirst_139 k_iconst_0 ?_
        refine wx_iast hC hH h_o7 ⟨rfl, rfl⟩ dX9_atFirst_140 hF (fun u8 H locs hF hH => ?_)
        exact wx_vret hC hH hr hlk dX9_atFirst_141 hF
      have hL86 : ∀ (k9_ : Nat) (i10 : Int32) (u11 : wSt) (H : Heap) (locs : List Loc) (ls : Array Slot), wL (S := Int32 × wSt) (fun x => F_X9_atFirst_b86 o1 i2 x.1 x.2) k9_ (i10, u11) = some q5_ → wHp D κ ρ 1 A s.heap H locs u11 → lv_has ls 3 [(0, .ref (ρ o1)), (1, .int i2), (2, .int i10)] → W p l e (wRm 0 0) s m args below meth c H locs 0 0 (wQV below args s A D κ ρ 1 z) (F0 m 86 ls []) := by
        intro k9_
        induction k9_ with
        | zero => intro i10 u11 H locs ls hF; exact wL_zero hF
        | succ k9_ ih9 =>
          intro i10 u11 H locs ls hF hH hl
          obtain ⟨q9_, hF, hq9⟩ := wL_some hF
          have hF : F_X9_atFirst_b86 o1 i2 i10 u11 = some q9_ := hF
          unfold F_X9_atFirst_b86 at hF
          refine lv_iload_n hx hb dX9_atFirst_86 rfl (lv_at hl 2 rfl) ?_
          refine lv_bipush hx hb dX9_atFirst_87 k_bipush_8 ?_
          refine lv_icmp_ge hx hb dX9_atFirst_89 (tgt := 134) rfl (fun h => ?_) (fun h => ?_)
          · have hF := wx_t h hF
            have hF := wJ_r hq9 hF
            have hF := wJ_l hq5 hF
            exact hJ134 u11 H locs ls hF hH (lv_sub hl [0, 1] rfl)
          have hF := wx_f h hF
          refine lv_aload_n hx hb dX9_atFirst_92 rfl (lv_at hl 0 rfl) ?_
          refine wx_getR hC hH h_o1 rfl f_X9_103 dX9_atFirst_93 hF (fun o12 h_o12 hF => ?_)
          refine lv_bipush hx hb dX9_atFirst_96 k_bipush_8 ?_
          refine lv_iload_n hx hb dX9_atFirst_98 rfl (lv_at hl 1 rfl) ?_
          refine lv_imul hx hb dX9_atFirst_99 ?_
          refine lv_iload_n hx hb dX9_atFirst_100 rfl (lv_at hl 2 rfl) ?_
          refine lv_iadd hx hb dX9_atFirst_101 ?_
          refine lv_iconst hx hb dX9_atFirst_102 k_iconst_0 ?_
          refine wx_iast hC hH h_o12 ⟨rfl, rfl⟩ dX9_atFirst_103 hF (fun u13 H locs hF hH => ?_)
          refine lv_aload_n hx hb dX9_atFirst_104 rfl (lv_at hl 0 rfl) ?_
          refine wx_getR hC hH h_o1 rfl f_X9_106 dX9_atFirst_105 hF (fun o14 h_o14 hF => ?_)
          refine lv_bipush hx hb dX9_atFirst_108 k_bipush_8 ?_
          refine lv_iload_n hx hb dX9_atFirst_110 rfl (lv_at hl 1 rfl) ?_
          refine lv_imul hx hb dX9_atFirst_111 ?_
          refine lv_iload_n hx hb dX9_atFirst_112 rfl (lv_at hl 2 rfl) ?_
          refine lv_iadd hx hb dX9_atFirst_113 ?_
          refine lv_iconst hx hb dX9_atFirst_114 k_iconst_0 ?_
          refine wx_zast hC hH h_o14 ⟨rfl, rfl⟩ dX9_atFirst_115 hF (fun u15 H locs hF hH => ?_)
          refine lv_aload_n hx hb dX9_atFirst_116 rfl (lv_at hl 0 rfl) ?_
          refine wx_getR hC hH h_o1 rfl f_X9_109 dX9_atFirst_117 hF (fun o16 h_o16 hF => ?_)
          refine lv_bipush hx hb dX9_atFirst_120 k_bipush_8 ?_
          refine lv_iload_n hx hb dX9_atFirst_122 rfl (lv_at hl 1 rfl) ?_
          refine lv_imul hx hb dX9_atFirst_123 ?_
          refine lv_iload_n hx hb dX9_atFirst_124 rfl (lv_at hl 2 rfl) ?_
          refine lv_iadd hx hb dX9_atFirst_125 ?_
          refine lv_iconst hx hb dX9_atFirst_126 k_iconst_0 ?_
          refine wx_iast hC hH h_o16 ⟨rfl, rfl⟩ dX9_atFirst_127 hF (fun u17 H locs hF hH => ?_)
          refine wx_iinc hx hb dX9_atFirst_128 k_iconst_1 hl (k := 2) rfl (by decide) hF (fun i18 ls hF hl => ?_)
          have hl : lv_has ls 3 [(2, .int i18), (0, .ref (ρ o1)), (1, .int i2)] := hl
          refine lv_goto hx hb dX9_atFirst_131 (tgt := 86) rfl ?_
          have hF := wJ_l hq9 hF
          exact ih9 i18 u17 H locs ls hF hH (lv_sub hl [1, 2, 0] rfl)
      exact hL86 wFu (0 : Int32) u4 H locs ls hF hH (lv_sub hl [1, 2, 0] rfl)
    have hL2 : ∀ (k19_ : Nat) (i20 : Int32) (u21 : wSt) (H : Heap) (locs : List Loc) (ls : Array Slot), wL (S := Int32 × wSt) (fun x => F_X9_atFirst_b2 o1 i2 x.1 x.2) k19_ (i20, u21) = some q3_ → wHp D κ ρ 1 A s.heap H locs u21 → lv_has ls 3 [(0, .ref (ρ o1)), (1, .int i2), (2, .int i20)] → W p l e (wRm 0 0) s m args below meth c H locs 0 0 (wQV below args s A D κ ρ 1 z) (F0 m 2 ls []) := by
      intro k19_
      induction k19_ with
      | zero => intro i20 u21 H locs ls hF; exact wL_zero hF
      | succ k19_ ih19 =>
        intro i20 u21 H locs ls hF hH hl
        obtain ⟨q19_, hF, hq19⟩ := wL_some hF
        have hF : F_X9_atFirst_b2 o1 i2 i20 u21 = some q19_ := hF
        unfold F_X9_atFirst_b2 at hF
        refine lv_iload_n hx hb dX9_atFirst_2 rfl (lv_at hl 2 rfl) ?_
        refine lv_bipush hx hb dX9_atFirst_3 k_bipush_6 ?_
        refine lv_icmp_ge hx hb dX9_atFirst_5 (tgt := 84) rfl (fun h => ?_) (fun h => ?_)
        · have hF := wx_t h hF
          have hF := wJ_r hq19 hF
          have hF := wJ_l hq3 hF
          exact hJ84 u21 H locs ls hF hH (lv_sub hl [0, 1] rfl)
        have hF := wx_f h hF
        refine lv_aload_n hx hb dX9_atFirst_8 rfl (lv_at hl 0 rfl) ?_
        refine wx_getR hC hH h_o1 rfl f_X9_88 dX9_atFirst_9 hF (fun o22 h_o22 hF => ?_)
        refine lv_bipush hx hb dX9_atFirst_12 k_bipush_6 ?_
        refine lv_iload_n hx hb dX9_atFirst_14 rfl (lv_at hl 1 rfl) ?_
        refine lv_imul hx hb dX9_atFirst_15 ?_
        refine lv_iload_n hx hb dX9_atFirst_16 rfl (lv_at hl 2 rfl) ?_
        refine lv_iadd hx hb dX9_atFirst_17 ?_
        refine lv_aload_n hx hb dX9_atFirst_18 rfl (lv_at hl 0 rfl) ?_
        refine wx_getR hC hH h_o1 rfl f_X9_30 dX9_atFirst_19 hF (fun o23 h_o23 hF => ?_)
        refine lv_iload_n hx hb dX9_atFirst_22 rfl (lv_at hl 2 rfl) ?_
        refine wx_iald hC hH h_o23 ⟨rfl, rfl⟩ dX9_atFirst_23 hF (fun j24 hF => ?_)
        refine wx_iast hC hH h_o22 ⟨rfl, rfl⟩ dX9_atFirst_24 hF (fun u25 H locs hF hH => ?_)
        refine lv_aload_n hx hb dX9_atFirst_25 rfl (lv_at hl 0 rfl) ?_
        refine wx_getR hC hH h_o1 rfl f_X9_91 dX9_atFirst_26 hF (fun o26 h_o26 hF => ?_)
        refine lv_bipush hx hb dX9_atFirst_29 k_bipush_6 ?_
        refine lv_iload_n hx hb dX9_atFirst_31 rfl (lv_at hl 1 rfl) ?_
        refine lv_imul hx hb dX9_atFirst_32 ?_
        refine lv_iload_n hx hb dX9_atFirst_33 rfl (lv_at hl 2 rfl) ?_
        refine lv_iadd hx hb dX9_atFirst_34 ?_
        refine lv_aload_n hx hb dX9_atFirst_35 rfl (lv_at hl 0 rfl) ?_
        refine wx_getR hC hH h_o1 rfl f_X9_33 dX9_atFirst_36 hF (fun o27 h_o27 hF => ?_)
        refine lv_iload_n hx hb dX9_atFirst_39 rfl (lv_at hl 2 rfl) ?_
        refine wx_iald hC hH h_o27 ⟨rfl, rfl⟩ dX9_atFirst_40 hF (fun j28 hF => ?_)
        refine wx_iast hC hH h_o26 ⟨rfl, rfl⟩ dX9_atFirst_41 hF (fun u29 H locs hF hH => ?_)
        refine lv_aload_n hx hb dX9_atFirst_42 rfl (lv_at hl 0 rfl) ?_
        refine wx_getR hC hH h_o1 rfl f_X9_94 dX9_atFirst_43 hF (fun o30 h_o30 hF => ?_)
        refine lv_bipush hx hb dX9_atFirst_46 k_bipush_6 ?_
        refine lv_iload_n hx hb dX9_atFirst_48 rfl (lv_at hl 1 rfl) ?_
        refine lv_imul hx hb dX9_atFirst_49 ?_
        refine lv_iload_n hx hb dX9_atFirst_50 rfl (lv_at hl 2 rfl) ?_
        refine lv_iadd hx hb dX9_atFirst_51 ?_
        refine lv_iload_n hx hb dX9_atFirst_52 rfl (lv_at hl 2 rfl) ?_
        refine wx_iast hC hH h_o30 ⟨rfl, rfl⟩ dX9_atFirst_53 hF (fun u31 H locs hF hH => ?_)
        refine lv_aload_n hx hb dX9_atFirst_54 rfl (lv_at hl 0 rfl) ?_
        refine wx_getR hC hH h_o1 rfl f_X9_97 dX9_atFirst_55 hF (fun o32 h_o32 hF => ?_)
        refine lv_bipush hx hb dX9_atFirst_58 k_bipush_6 ?_
        refine lv_iload_n hx hb dX9_atFirst_60 rfl (lv_at hl 1 rfl) ?_
        refine lv_imul hx hb dX9_atFirst_61 ?_
        refine lv_iload_n hx hb dX9_atFirst_62 rfl (lv_at hl 2 rfl) ?_
        refine lv_iadd hx hb dX9_atFirst_63 ?_
        refine lv_iconst hx hb dX9_atFirst_64 k_iconst_1 ?_
        refine wx_zast hC hH h_o32 ⟨rfl, rfl⟩ dX9_atFirst_65 hF (fun u33 H locs hF hH => ?_)
        refine lv_aload_n hx hb dX9_atFirst_66 rfl (lv_at hl 0 rfl) ?_
        refine wx_getR hC hH h_o1 rfl f_X9_100 dX9_atFirst_67 hF (fun o34 h_o34 hF => ?_)
        refine lv_bipush hx hb dX9_atFirst_70 k_bipush_6 ?_
        refine lv_iload_n hx hb dX9_atFirst_72 rfl (lv_at hl 1 rfl) ?_
        refine lv_imul hx hb dX9_atFirst_73 ?_
        refine lv_iload_n hx hb dX9_atFirst_74 rfl (lv_at hl 2 rfl) ?_
        refine lv_iadd hx hb dX9_atFirst_75 ?_
        refine lv_iconst hx hb dX9_atFirst_76 k_iconst_0 ?_
        refine wx_iast hC hH h_o34 ⟨rfl, rfl⟩ dX9_atFirst_77 hF (fun u35 H locs hF hH => ?_)
        refine wx_iinc hx hb dX9_atFirst_78 k_iconst_1 hl (k := 2) rfl (by decide) hF (fun i36 ls hF hl => ?_)
        have hl : lv_has ls 3 [(2, .int i36), (0, .ref (ρ o1)), (1, .int i2)] := hl
        refine lv_goto hx hb dX9_atFirst_81 (tgt := 2) rfl ?_
        have hF := wJ_l hq19 hF
        exact ih19 i36 u35 H locs ls hF hH (lv_sub hl [1, 2, 0] rfl)
    exact hL2 wFu (0 : Int32) u0 H locs ls hF hH (lv_sub hl [1, 2, 0] rfl)
  exact key _ _ hH
def F_X9_plainTried (o1 : Nat) (u0 : wSt) : Option (Unit × wSt) :=
  wB (w_sI u0 o1 60 (0 : Int32)) (fun (u2 : wSt) => wB (w_sI u2 o1 61 (0 : Int32)) (fun (u3 : wSt) => wB (w_sI u3 o1 62 (0 : Int32)) (fun (u4 : wSt) => wB (w_sI u4 o1 63 (0 : Int32)) (fun (u5 : wSt) => wB (w_sI u5 o1 64 (0 : Int32)) (fun (u6 : wSt) => wB (w_sI u6 o1 65 (-1 : Int32)) (fun (u7 : wSt) => wB (w_sI u7 o1 66 (0 : Int32)) (fun (u8 : wSt) => wB (w_sI u8 o1 67 (-1 : Int32)) (fun (u9 : wSt) => wB (w_sI u9 o1 68 (0 : Int32)) (fun (u10 : wSt) => some ((), u10))))))))))
set_option maxRecDepth 100000 in
set_option maxHeartbeats 4000000 in
theorem c_X9_plainTried {l : Launch} {D : va_G} {κ : Nat → ClassId} {ρ : Nat → Nat} (o1 : Nat) (h_o1 : (w_sh o1).1 = 9) : wMV l yX9_plainTried cX9_plainTried 1 (wRm 0 0) [.ref (ρ o1)] D κ ρ 1 (fun u => F_X9_plainTried o1 u) := by
  refine wMV_of (F := fun u => F_X9_plainTried o1 u) rfl (Nat.le_of_ble_eq_true rfl) (fun u0 z p e s m args below meth c ls A hF hC hr hlk hH hl => ?_)
  have hl : lv_has ls 1 [(0, .ref (ρ o1))] := hl
  have hx := hC.1.1
  have hb := hC.1.2.1
  have hF : F_X9_plainTried o1 u0 = some z := hF
  unfold F_X9_plainTried at hF
  change W p l e (wRm 0 0) s m args below meth c s.heap [] 0 0 (wQV below args s A D κ ρ 1 z) (F0 m 0 ls [])
  have key : ∀ (H : Heap) (locs : List Loc), wHp D κ ρ 1 A s.heap H locs u0 → W p l e (wRm 0 0) s m args below meth c H locs 0 0 (wQV below args s A D κ ρ 1 z) (F0 m 0 ls []) := by
    intro H locs hH
    refine lv_aload_n hx hb dX9_plainTried_0 rfl (lv_at hl 0 rfl) ?_
    refine lv_iconst hx hb dX9_plainTried_1 k_iconst_0 ?_
    refine wx_putZ hC hH h_o1 rfl f_X9_353 g_9_60 dX9_plainTried_2 (Or.inl rfl) hF (fun u2 H locs hF hH => ?_)
    refine lv_aload_n hx hb dX9_plainTried_5 rfl (lv_at hl 0 rfl) ?_
    refine lv_iconst hx hb dX9_plainTried_6 k_iconst_0 ?_
    refine wx_putZ hC hH h_o1 rfl f_X9_356 g_9_61 dX9_plainTried_7 (Or.inl rfl) hF (fun u3 H locs hF hH => ?_)
    refine lv_aload_n hx hb dX9_plainTried_10 rfl (lv_at hl 0 rfl) ?_
    refine lv_iconst hx hb dX9_plainTried_11 k_iconst_0 ?_
    refine wx_putZ hC hH h_o1 rfl f_X9_359 g_9_62 dX9_plainTried_12 (Or.inl rfl) hF (fun u4 H locs hF hH => ?_)
    refine lv_aload_n hx hb dX9_plainTried_15 rfl (lv_at hl 0 rfl) ?_
    refine lv_iconst hx hb dX9_plainTried_16 k_iconst_0 ?_
    refine wx_putZ hC hH h_o1 rfl f_X9_362 g_9_63 dX9_plainTried_17 (Or.inl rfl) hF (fun u5 H locs hF hH => ?_)
    refine lv_aload_n hx hb dX9_plainTried_20 rfl (lv_at hl 0 rfl) ?_
    refine lv_iconst hx hb dX9_plainTried_21 k_iconst_0 ?_
    refine wx_putZ hC hH h_o1 rfl f_X9_365 g_9_64 dX9_plainTried_22 (Or.inl rfl) hF (fun u6 H locs hF hH => ?_)
    refine lv_aload_n hx hb dX9_plainTried_25 rfl (lv_at hl 0 rfl) ?_
    refine lv_iconst hx hb dX9_plainTried_26 k_iconst_m1 ?_
    refine wx_putI hC hH h_o1 rfl f_X9_368 g_9_65 dX9_plainTried_27 hF (fun u7 H locs hF hH => ?_)
    refine lv_aload_n hx hb dX9_plainTried_30 rfl (lv_at hl 0 rfl) ?_
    refine lv_iconst hx hb dX9_plainTried_31 k_iconst_0 ?_
    refine wx_putI hC hH h_o1 rfl f_X9_371 g_9_66 dX9_plainTried_32 hF (fun u8 H locs hF hH => ?_)
    refine lv_aload_n hx hb dX9_plainTried_35 rfl (lv_at hl 0 rfl) ?_
    refine lv_iconst hx hb dX9_plainTried_36 k_iconst_m1 ?_
    refine wx_putI hC hH h_o1 rfl f_X9_374 g_9_67 dX9_plainTried_37 hF (fun u9 H locs hF hH => ?_)
    refine lv_aload_n hx hb dX9_plainTried_40 rfl (lv_at hl 0 rfl) ?_
    refine lv_iconst hx hb dX9_plainTried_41 k_iconst_0 ?_
    refine wx_putI hC hH h_o1 rfl f_X9_377 g_9_68 dX9_plainTried_42 hF (fun u10 H locs hF hH => ?_)
    exact wx_vret hC hH hr hlk dX9_plainTried_45 hF
  exact key _ _ hH
def F_X9_begin (o1 : Nat) (u0 : wSt) : Option (Unit × wSt) :=
  wC (F_X9_atFirst o1 (0 : Int32) u0) (fun _ (u2 : wSt) => wR (u2.2.2 o1 21) 14 (fun o3 => wN (2 : Int32) o3 (fun j4 => wB (w_sL u2 o1 58 ((u2.1 o3 j4).toInt64)) (fun (u5 : wSt) => wC (F_X9_plainTried o1 u5) (fun _ (u6 : wSt) => wB (w_sI u6 o1 70 (0 : Int32)) (fun (u7 : wSt) => wB (w_sI u7 o1 71 (-1 : Int32)) (fun (u8 : wSt) => wB (w_sI u8 o1 74 (0 : Int32)) (fun (u9 : wSt) => wB (w_sI u9 o1 76 (0 : Int32)) (fun (u10 : wSt) => some ((), u10))))))))))
set_option maxRecDepth 100000 in
set_option maxHeartbeats 4000000 in
theorem c_X9_begin {l : Launch} {D : va_G} {κ : Nat → ClassId} {ρ : Nat → Nat} (o1 : Nat) (h_o1 : (w_sh o1).1 = 9) : wMV l yX9_begin cX9_begin 1 (wRm 1 22) [.ref (ρ o1)] D κ ρ 1 (fun u => F_X9_begin o1 u) := by
  refine wMV_of (F := fun u => F_X9_begin o1 u) rfl (Nat.le_of_ble_eq_true rfl) (fun u0 z p e s m args below meth c ls A hF hC hr hlk hH hl => ?_)
  have hl : lv_has ls 1 [(0, .ref (ρ o1))] := hl
  have hx := hC.1.1
  have hb := hC.1.2.1
  have hF : F_X9_begin o1 u0 = some z := hF
  unfold F_X9_begin at hF
  change W p l e (wRm 1 22) s m args below meth c s.heap [] 0 0 (wQV below args s A D κ ρ 1 z) (F0 m 0 ls [])
  have key : ∀ (H : Heap) (locs : List Loc), wHp D κ ρ 1 A s.heap H locs u0 → W p l e (wRm 1 22) s m args below meth c H locs 0 0 (wQV below args s A D κ ρ 1 z) (F0 m 0 ls []) := by
    intro H locs hH
    refine lv_aload_n hx hb dX9_begin_0 rfl (lv_at hl 0 rfl) ?_
    refine lv_iconst hx hb dX9_begin_1 k_iconst_0 ?_
    refine wx_evv hC hH hl (c_X9_atFirst o1 (0 : Int32) h_o1) y_X9_atFirst v_X9_atFirst h_o1 rfl m_X9_334 rfl ⟨Nat.le_of_ble_eq_true rfl, Nat.le_of_ble_eq_true rfl⟩ ⟨Nat.le_refl _, Nat.le_refl _⟩ rfl (Nat.le_of_ble_eq_true rfl) dX9_begin_2 hF (fun _ u2 H locs hF hH => ?_)
    refine lv_aload_n hx hb dX9_begin_5 rfl (lv_at hl 0 rfl) ?_
    refine lv_aload_n hx hb dX9_begin_6 rfl (lv_at hl 0 rfl) ?_
    refine wx_getR hC hH h_o1 rfl f_X9_24 dX9_begin_7 hF (fun o3 h_o3 hF => ?_)
    refine lv_iconst hx hb dX9_begin_10 k_iconst_2 ?_
    refine wx_iald hC hH h_o3 ⟨rfl, rfl⟩ dX9_begin_11 hF (fun j4 hF => ?_)
    refine lv_i2l hx hb dX9_begin_12 rfl ?_
    refine wx_putL hC hH h_o1 rfl f_X9_337 g_9_58 dX9_begin_13 hF (fun u5 H locs hF hH => ?_)
    refine lv_aload_n hx hb dX9_begin_16 rfl (lv_at hl 0 rfl) ?_
    refine wx_evv hC hH hl (c_X9_plainTried o1 h_o1) y_X9_plainTried v_X9_plainTried h_o1 rfl m_X9_341 rfl ⟨Nat.le_of_ble_eq_true rfl, Nat.le_of_ble_eq_true rfl⟩ ⟨Nat.le_refl _, Nat.le_refl _⟩ rfl (Nat.le_of_ble_eq_true rfl) dX9_begin_17 hF (fun _ u6 H locs hF hH => ?_)
    refine lv_aload_n hx hb dX9_begin_20 rfl (lv_at hl 0 rfl) ?_
    refine lv_iconst hx hb dX9_begin_21 k_iconst_0 ?_
    refine wx_putI hC hH h_o1 rfl f_X9_344 g_9_70 dX9_begin_22 hF (fun u7 H locs hF hH => ?_)
    refine lv_aload_n hx hb dX9_begin_25 rfl (lv_at hl 0 rfl) ?_
    refine lv_iconst hx hb dX9_begin_26 k_iconst_m1 ?_
    refine wx_putI hC hH h_o1 rfl f_X9_118 g_9_71 dX9_begin_27 hF (fun u8 H locs hF hH => ?_)
    refine lv_aload_n hx hb dX9_begin_30 rfl (lv_at hl 0 rfl) ?_
    refine lv_iconst hx hb dX9_begin_31 k_iconst_0 ?_
    refine wx_putI hC hH h_o1 rfl f_X9_347 g_9_74 dX9_begin_32 hF (fun u9 H locs hF hH => ?_)
    refine lv_aload_n hx hb dX9_begin_35 rfl (lv_at hl 0 rfl) ?_
    refine lv_iconst hx hb dX9_begin_36 k_iconst_0 ?_
    refine wx_putZ hC hH h_o1 rfl f_X9_350 g_9_76 dX9_begin_37 (Or.inl rfl) hF (fun u10 H locs hF hH => ?_)
    exact wx_vret hC hH hr hlk dX9_begin_40 hF
  exact key _ _ hH
def F_X9_keepText_j148 (o1 : Nat) (u27 : wSt) : Option (Unit × wSt) :=
  wR (u27.2.2 o1 32) 14 (fun o28 => wC (F_X9_copies o28 (3 : Int32) u27) (fun _ (u29 : wSt) => wR (u29.2.2 o1 33) 14 (fun o30 => wC (F_X9_copies o30 (3 : Int32) u29) (fun _ (u31 : wSt) => wR (u31.2.2 o1 34) 14 (fun o32 => wC (F_X9_copies o32 (64 : Int32) u31) (fun _ (u33 : wSt) => wR (u33.2.2 o1 36) 14 (fun o34 => wC (F_X9_copies o34 (64 : Int32) u33) (fun _ (u35 : wSt) => wR (u35.2.2 o1 37) 14 (fun o36 => wC (F_X9_copies o36 (64 : Int32) u35) (fun _ (u37 : wSt) => wC (F_X9_begin o1 u37) (fun _ (u38 : wSt) => some ((), u38))))))))))))
def F_X9_keepText_b123 (o1 : Nat) (i40 : Int32) (u41 : wSt) : Option ((Int32 × wSt) ⊕ ((wSt) ⊕ (Unit × wSt))) :=
  if (3 : Int32) ≤ i40 then (some (.inr (.inl u41))) else (wR (u41.2.2 o1 31) 15 (fun o42 => wR (u41.2.2 o1 31) 15 (fun o43 => wN ((3 : Int32) + i40) o43 (fun j44 => wSZ u41 o42 i40 (u41.1 o43 j44) (fun (u45 : wSt) => wB (i40 + (1 : Int32)) (fun (i46 : Int32) => some (.inl (i46, u45))))))))
def F_X9_keepText (o1 : Nat) (u0 : wSt) : Option (Unit × wSt) :=
  wB (w_sI u0 o1 12 (u0.1 o1 16)) (fun (u2 : wSt) => wB (w_sI u2 o1 13 (u2.1 o1 17)) (fun (u3 : wSt) => wB (w_sI u3 o1 14 (u3.1 o1 18)) (fun (u4 : wSt) => wB (w_sI u4 o1 15 (u4.1 o1 19)) (fun (u5 : wSt) => wR (u5.2.2 o1 21) 14 (fun o6 => wC (F_X9_copies o6 (3 : Int32) u5) (fun _ (u7 : wSt) => wR (u7.2.2 o1 22) 14 (fun o8 => wC (F_X9_copies o8 (6 : Int32) u7) (fun _ (u9 : wSt) => wR (u9.2.2 o1 23) 14 (fun o10 => wC (F_X9_copies o10 (6 : Int32) u9) (fun _ (u11 : wSt) => wR (u11.2.2 o1 24) 14 (fun o12 => wC (F_X9_copies o12 (6 : Int32) u11) (fun _ (u13 : wSt) => wR (u13.2.2 o1 25) 14 (fun o14 => wC (F_X9_copies o14 (6 : Int32) u13) (fun _ (u15 : wSt) => wR (u15.2.2 o1 26) 14 (fun o16 => wC (F_X9_copies o16 (8 : Int32) u15) (fun _ (u17 : wSt) => wR (u17.2.2 o1 27) 14 (fun o18 => wC (F_X9_copies o18 (8 : Int32) u17) (fun _ (u19 : wSt) => wR (u19.2.2 o1 28) 14 (fun o20 => wC (F_X9_copies o20 (8 : Int32) u19) (fun _ (u21 : wSt) => wR (u21.2.2 o1 29) 14 (fun o22 => wC (F_X9_copies o22 (8 : Int32) u21) (fun _ (u23 : wSt) => wR (u23.2.2 o1 30) 14 (fun o24 => wC (F_X9_copies o24 (8 : Int32) u23) (fun _ (u25 : wSt) => wJ (X := wSt) (wL (S := Int32 × wSt) (fun x => F_X9_keepText_b123 o1 x.1 x.2) wFu ((0 : Int32), u25)) (fun x => F_X9_keepText_j148 o1 x)))))))))))))))))))))))))
set_option maxRecDepth 100000 in
set_option maxHeartbeats 4000000 in
theorem c_X9_keepText {l : Launch} {D : va_G} {κ : Nat → ClassId} {ρ : Nat → Nat} (o1 : Nat) (h_o1 : (w_sh o1).1 = 9) : wMV l yX9_keepText cX9_keepText 2 (wRm 2 42) [.ref (ρ o1)] D κ ρ 1 (fun u => F_X9_keepText o1 u) := by
  refine wMV_of (F := fun u => F_X9_keepText o1 u) rfl (Nat.le_of_ble_eq_true rfl) (fun u0 z p e s m args below meth c ls A hF hC hr hlk hH hl => ?_)
  have hl : lv_has ls 2 [(0, .ref (ρ o1))] := hl
  have hx := hC.1.1
  have hb := hC.1.2.1
  have hF : F_X9_keepText o1 u0 = some z := hF
  unfold F_X9_keepText at hF
  change W p l e (wRm 2 42) s m args below meth c s.heap [] 0 0 (wQV below args s A D κ ρ 1 z) (F0 m 0 ls [])
  have key : ∀ (H : Heap) (locs : List Loc), wHp D κ ρ 1 A s.heap H locs u0 → W p l e (wRm 2 42) s m args below meth c H locs 0 0 (wQV below args s A D κ ρ 1 z) (F0 m 0 ls []) := by
    intro H locs hH
    refine lv_aload_n hx hb dX9_keepText_0 rfl (lv_at hl 0 rfl) ?_
    refine lv_aload_n hx hb dX9_keepText_1 rfl (lv_at hl 0 rfl) ?_
    refine wx_getI hC hH h_o1 rfl f_X9_204 dX9_keepText_2 ?_
    refine wx_putI hC hH h_o1 rfl f_X9_219 g_9_12 dX9_keepText_5 hF (fun u2 H locs hF hH => ?_)
    refine lv_aload_n hx hb dX9_keepText_8 rfl (lv_at hl 0 rfl) ?_
    refine lv_aload_n hx hb dX9_keepText_9 rfl (lv_at hl 0 rfl) ?_
    refine wx_getI hC hH h_o1 rfl f_X9_207 dX9_keepText_10 ?_
    refine wx_putI hC hH h_o1 rfl f_X9_222 g_9_13 dX9_keepText_13 hF (fun u3 H locs hF hH => ?_)
    refine lv_aload_n hx hb dX9_keepText_16 rfl (lv_at hl 0 rfl) ?_
    refine lv_aload_n hx hb dX9_keepText_17 rfl (lv_at hl 0 rfl) ?_
    refine wx_getI hC hH h_o1 rfl f_X9_210 dX9_keepText_18 ?_
    refine wx_putI hC hH h_o1 rfl f_X9_225 g_9_14 dX9_keepText_21 hF (fun u4 H locs hF hH => ?_)
    refine lv_aload_n hx hb dX9_keepText_24 rfl (lv_at hl 0 rfl) ?_
    refine lv_aload_n hx hb dX9_keepText_25 rfl (lv_at hl 0 rfl) ?_
    refine wx_getI hC hH h_o1 rfl f_X9_213 dX9_keepText_26 ?_
    refine wx_putI hC hH h_o1 rfl f_X9_228 g_9_15 dX9_keepText_29 hF (fun u5 H locs hF hH => ?_)
    refine lv_aload_n hx hb dX9_keepText_32 rfl (lv_at hl 0 rfl) ?_
    refine wx_getR hC hH h_o1 rfl f_X9_24 dX9_keepText_33 hF (fun o6 h_o6 hF => ?_)
    refine lv_iconst hx hb dX9_keepText_36 k_iconst_3 ?_
    refine wx_esv hC hH hl (c_X9_copies o6 (3 : Int32) h_o6) y_X9_copies v_X9_copies m_X9_231 rfl ⟨Nat.le_of_ble_eq_true rfl, Nat.le_of_ble_eq_true rfl⟩ ⟨Nat.le_refl _, Nat.le_refl _⟩ rfl (Nat.le_of_ble_eq_true rfl) dX9_keepText_37 hF (fun _ u7 H locs hF hH => ?_)
    refine lv_aload_n hx hb dX9_keepText_40 rfl (lv_at hl 0 rfl) ?_
    refine wx_getR hC hH h_o1 rfl f_X9_27 dX9_keepText_41 hF (fun o8 h_o8 hF => ?_)
    refine lv_bipush hx hb dX9_keepText_44 k_bipush_6 ?_
    refine wx_esv hC hH hl (c_X9_copies o8 (6 : Int32) h_o8) y_X9_copies v_X9_copies m_X9_231 rfl ⟨Nat.le_of_ble_eq_true rfl, Nat.le_of_ble_eq_true rfl⟩ ⟨Nat.le_refl _, Nat.le_refl _⟩ rfl (Nat.le_of_ble_eq_true rfl) dX9_keepText_46 hF (fun _ u9 H locs hF hH => ?_)
    refine lv_aload_n hx hb dX9_keepText_49 rfl (lv_at hl 0 rfl) ?_
    refine wx_getR hC hH h_o1 rfl f_X9_30 dX9_keepText_50 hF (fun o10 h_o10 hF => ?_)
    refine lv_bipush hx hb dX9_keepText_53 k_bipush_6 ?_
    refine wx_esv hC hH hl (c_X9_copies o10 (6 : Int32) h_o10) y_X9_copies v_X9_copies m_X9_231 rfl ⟨Nat.le_of_ble_eq_true rfl, Nat.le_of_ble_eq_true rfl⟩ ⟨Nat.le_refl _, Nat.le_refl _⟩ rfl (Nat.le_of_ble_eq_true rfl) dX9_keepText_55 hF (fun _ u11 H locs hF hH => ?_)
    refine lv_aload_n hx hb dX9_keepText_58 rfl (lv_at hl 0 rfl) ?_
    refine wx_getR hC hH h_o1 rfl f_X9_33 dX9_keepText_59 hF (fun o12 h_o12 hF => ?_)
    refine lv_bipush hx hb dX9_keepText_62 k_bipush_6 ?_
    refine wx_esv hC hH hl (c_X9_copies o12 (6 : Int32) h_o12) y_X9_copies v_X9_copies m_X9_231 rfl ⟨Nat.le_of_ble_eq_true rfl, Nat.le_of_ble_eq_true rfl⟩ ⟨Nat.le_refl _, Nat.le_refl _⟩ rfl (Nat.le_of_ble_eq_true rfl) dX9_keepText_64 hF (fun _ u13 H locs hF hH => ?_)
    refine lv_aload_n hx hb dX9_keepText_67 rfl (lv_at hl 0 rfl) ?_
    refine wx_getR hC hH h_o1 rfl f_X9_36 dX9_keepText_68 hF (fun o14 h_o14 hF => ?_)
    refine lv_bipush hx hb dX9_keepText_71 k_bipush_6 ?_
    refine wx_esv hC hH hl (c_X9_copies o14 (6 : Int32) h_o14) y_X9_copies v_X9_copies m_X9_231 rfl ⟨Nat.le_of_ble_eq_true rfl, Nat.le_of_ble_eq_true rfl⟩ ⟨Nat.le_refl _, Nat.le_refl _⟩ rfl (Nat.le_of_ble_eq_true rfl) dX9_keepText_73 hF (fun _ u15 H locs hF hH => ?_)
    refine lv_aload_n hx hb dX9_keepText_76 rfl (lv_at hl 0 rfl) ?_
    refine wx_getR hC hH h_o1 rfl f_X9_39 dX9_keepText_77 hF (fun o16 h_o16 hF => ?_)
    refine lv_bipush hx hb dX9_keepText_80 k_bipush_8 ?_
    refine wx_esv hC hH hl (c_X9_copies o16 (8 : Int32) h_o16) y_X9_copies v_X9_copies m_X9_231 rfl ⟨Nat.le_of_ble_eq_true rfl, Nat.le_of_ble_eq_true rfl⟩ ⟨Nat.le_refl _, Nat.le_refl _⟩ rfl (Nat.le_of_ble_eq_true rfl) dX9_keepText_82 hF (fun _ u17 H locs hF hH => ?_)
    refine lv_aload_n hx hb dX9_keepText_85 rfl (lv_at hl 0 rfl) ?_
    refine wx_getR hC hH h_o1 rfl f_X9_42 dX9_keepText_86 hF (fun o18 h_o18 hF => ?_)
    refine lv_bipush hx hb dX9_keepText_89 k_bipush_8 ?_
    refine wx_esv hC hH hl (c_X9_copies o18 (8 : Int32) h_o18) y_X9_copies v_X9_copies m_X9_231 rfl ⟨Nat.le_of_ble_eq_true rfl, Nat.le_of_ble_eq_true rfl⟩ ⟨Nat.le_refl _, Nat.le_refl _⟩ rfl (Nat.le_of_ble_eq_true rfl) dX9_keepText_91 hF (fun _ u19 H locs hF hH => ?_)
    refine lv_aload_n hx hb dX9_keepText_94 rfl (lv_at hl 0 rfl) ?_
    refine wx_getR hC hH h_o1 rfl f_X9_45 dX9_keepText_95 hF (fun o20 h_o20 hF => ?_)
    refine lv_bipush hx hb dX9_keepText_98 k_bipush_8 ?_
    refine wx_esv hC hH hl (c_X9_copies o20 (8 : Int32) h_o20) y_X9_copies v_X9_copies m_X9_231 rfl ⟨Nat.le_of_ble_eq_true rfl, Nat.le_of_ble_eq_true rfl⟩ ⟨Nat.le_refl _, Nat.le_refl _⟩ rfl (Nat.le_of_ble_eq_true rfl) dX9_keepText_100 hF (fun _ u21 H locs hF hH => ?_)
    refine lv_aload_n hx hb dX9_keepText_103 rfl (lv_at hl 0 rfl) ?_
    refine wx_getR hC hH h_o1 rfl f_X9_48 dX9_keepText_104 hF (fun o22 h_o22 hF => ?_)
    refine lv_bipush hx hb dX9_keepText_107 k_bipush_8 ?_
    refine wx_esv hC hH hl (c_X9_copies o22 (8 : Int32) h_o22) y_X9_copies v_X9_copies m_X9_231 rfl ⟨Nat.le_of_ble_eq_true rfl, Nat.le_of_ble_eq_true rfl⟩ ⟨Nat.le_refl _, Nat.le_refl _⟩ rfl (Nat.le_of_ble_eq_true rfl) dX9_keepText_109 hF (fun _ u23 H locs hF hH => ?_)
    refine lv_aload_n hx hb dX9_keepText_112 rfl (lv_at hl 0 rfl) ?_
    refine wx_getR hC hH h_o1 rfl f_X9_51 dX9_keepText_113 hF (fun o24 h_o24 hF => ?_)
    refine lv_bipush hx hb dX9_keepText_116 k_bipush_8 ?_
    refine wx_esv hC hH hl (c_X9_copies o24 (8 : Int32) h_o24) y_X9_copies v_X9_copies m_X9_231 rfl ⟨Nat.le_of_ble_eq_true rfl, Nat.le_of_ble_eq_true rfl⟩ ⟨Nat.le_refl _, Nat.le_refl _⟩ rfl (Nat.le_of_ble_eq_true rfl) dX9_keepText_118 hF (fun _ u25 H locs hF hH => ?_)
    refine lv_iconst hx hb dX9_keepText_121 k_iconst_0 ?_
    refine wx_istore_n hx hb dX9_keepText_122 rfl hl (by decide) (fun ls hl => ?_)
    have hl : lv_has ls 2 [(1, .int (0 : Int32)), (0, .ref (ρ o1))] := hl
    obtain ⟨q26_, hF, hq26⟩ := wJ_some hF
    have hJ148 : ∀ (u27 : wSt) (H : Heap) (locs : List Loc) (ls : Array Slot), F_X9_keepText_j148 o1 u27 = some z → wHp D κ ρ 1 A s.heap H locs u27 → lv_has ls 2 [(0, .ref (ρ o1))] → W p l e (wRm 2 42) s m args below meth c H locs 0 0 (wQV below args s A D κ ρ 1 z) (F0 m 148 ls []) := by
      intro u27 H locs ls hF hH hl
      unfold F_X9_keepText_j148 at hF
      refine lv_aload_n hx hb dX9_keepText_148 rfl (lv_at hl 0 rfl) ?_
      refine wx_getR hC hH h_o1 rfl f_X9_57 dX9_keepText_149 hF (fun o28 h_o28 hF => ?_)
      refine lv_iconst hx hb dX9_keepText_152 k_iconst_3 ?_
      refine wx_esv hC hH hl (c_X9_copies o28 (3 : Int32) h_o28) y_X9_copies v_X9_copies m_X9_231 rfl ⟨Nat.le_of_ble_eq_true rfl, Nat.le_of_ble_eq_true rfl⟩ ⟨Nat.le_refl _, Nat.le_refl _⟩ rfl (Nat.le_of_ble_eq_true rfl) dX9_keepText_153 hF (fun _ u29 H locs hF hH => ?_)
      refine lv_aload_n hx hb dX9_keepText_156 rfl (lv_at hl 0 rfl) ?_
      refine wx_getR hC hH h_o1 rfl f_X9_60 dX9_keepText_157 hF (fun o30 h_o30 hF => ?_)
      refine lv_iconst hx hb dX9_keepText_160 k_iconst_3 ?_
      refine wx_esv hC hH hl (c_X9_copies o30 (3 : Int32) h_o30) y_X9_copies v_X9_copies m_X9_231 rfl ⟨Nat.le_of_ble_eq_true rfl, Nat.le_of_ble_eq_true rfl⟩ ⟨Nat.le_refl _, Nat.le_refl _⟩ rfl (Nat.le_of_ble_eq_true rfl) dX9_keepText_161 hF (fun _ u31 H locs hF hH => ?_)
      refine lv_aload_n hx hb dX9_keepText_164 rfl (lv_at hl 0 rfl) ?_
      refine wx_getR hC hH h_o1 rfl f_X9_63 dX9_keepText_165 hF (fun o32 h_o32 hF => ?_)
      refine lv_bipush hx hb dX9_keepText_168 k_bipush_64 ?_
      refine wx_esv hC hH hl (c_X9_copies o32 (64 : Int32) h_o32) y_X9_copies v_X9_copies m_X9_231 rfl ⟨Nat.le_of_ble_eq_true rfl, Nat.le_of_ble_eq_true rfl⟩ ⟨Nat.le_refl _, Nat.le_refl _⟩ rfl (Nat.le_of_ble_eq_true rfl) dX9_keepText_170 hF (fun _ u33 H locs hF hH => ?_)
      refine lv_aload_n hx hb dX9_keepText_173 rfl (lv_at hl 0 rfl) ?_
      refine wx_getR hC hH h_o1 rfl f_X9_69 dX9_keepText_174 hF (fun o34 h_o34 hF => ?_)
      refine lv_bipush hx hb dX9_keepText_177 k_bipush_64 ?_
      refine wx_esv hC hH hl (c_X9_copies o34 (64 : Int32) h_o34) y_X9_copies v_X9_copies m_X9_231 rfl ⟨Nat.le_of_ble_eq_true rfl, Nat.le_of_ble_eq_true rfl⟩ ⟨Nat.le_refl _, Nat.le_refl _⟩ rfl (Nat.le_of_ble_eq_true rfl) dX9_keepText_179 hF (fun _ u35 H locs hF hH => ?_)
      refine lv_aload_n hx hb dX9_keepText_182 rfl (lv_at hl 0 rfl) ?_
      refine wx_getR hC hH h_o1 rfl f_X9_72 dX9_keepText_183 hF (fun o36 h_o36 hF => ?_)
      refine lv_bipush hx hb dX9_keepText_186 k_bipush_64 ?_
      refine wx_esv hC hH hl (c_X9_copies o36 (64 : Int32) h_o36) y_X9_copies v_X9_copies m_X9_231 rfl ⟨Nat.le_of_ble_eq_true rfl, Nat.le_of_ble_eq_true rfl⟩ ⟨Nat.le_refl _, Nat.le_refl _⟩ rfl (Nat.le_of_ble_eq_true rfl) dX9_keepText_188 hF (fun _ u37 H locs hF hH => ?_)
      refine lv_aload_n hx hb dX9_keepText_191 rfl (lv_at hl 0 rfl) ?_
      refine wx_evv hC hH hl (c_X9_begin o1 h_o1) y_X9_begin v_X9_begin h_o1 rfl m_X9_235 rfl ⟨Nat.le_of_ble_eq_true rfl, Nat.le_of_ble_eq_true rfl⟩ ⟨Nat.le_refl _, Nat.le_refl _⟩ rfl (Nat.le_of_ble_eq_true rfl) dX9_keepText_192 hF (fun _ u38 H locs hF hH => ?_)
      exact wx_vret hC hH hr hlk dX9_keepText_195 hF
    have hL123 : ∀ (k39_ : Nat) (i40 : Int32) (u41 : wSt) (H : Heap) (locs : List Loc) (ls : Array Slot), wL (S := Int32 × wSt) (fun x => F_X9_keepText_b123 o1 x.1 x.2) k39_ (i40, u41) = some q26_ → wHp D κ ρ 1 A s.heap H locs u41 → lv_has ls 2 [(0, .ref (ρ o1)), (1, .int i40)] → W p l e (wRm 2 42) s m args below meth c H locs 0 0 (wQV below args s A D κ ρ 1 z) (F0 m 123 ls []) := by
      intro k39_
      induction k39_ with
      | zero => intro i40 u41 H locs ls hF; exact wL_zero hF
      | succ k39_ ih39 =>
        intro i40 u41 H locs ls hF hH hl
        obtain ⟨q39_, hF, hq39⟩ := wL_some hF
        have hF : F_X9_keepText_b123 o1 i40 u41 = some q39_ := hF
        unfold F_X9_keepText_b123 at hF
        refine lv_iload_n hx hb dX9_keepText_123 rfl (lv_at hl 1 rfl) ?_
        refine lv_iconst hx hb dX9_keepText_124 k_iconst_3 ?_
        refine lv_icmp_ge hx hb dX9_keepText_125 (tgt := 148) rfl (fun h => ?_) (fun h => ?_)
        · have hF := wx_t h hF
          have hF := wJ_r hq39 hF
          have hF := wJ_l hq26 hF
          exact hJ148 u41 H locs ls hF hH (lv_sub hl [0] rfl)
        have hF := wx_f h hF
        refine lv_aload_n hx hb dX9_keepText_128 rfl (lv_at hl 0 rfl) ?_
        refine wx_getR hC hH h_o1 rfl f_X9_54 dX9_keepText_129 hF (fun o42 h_o42 hF => ?_)
        refine lv_iload_n hx hb dX9_keepText_132 rfl (lv_at hl 1 rfl) ?_
        refine lv_aload_n hx hb dX9_keepText_133 rfl (lv_at hl 0 rfl) ?_
        refine wx_getR hC hH h_o1 rfl f_X9_54 dX9_keepText_134 hF (fun o43 h_o43 hF => ?_)
        refine lv_iconst hx hb dX9_keepText_137 k_iconst_3 ?_
        refine lv_iload_n hx hb dX9_keepText_138 rfl (lv_at hl 1 rfl) ?_
        refine lv_iadd hx hb dX9_keepText_139 ?_
        refine wx_zald hC hH h_o43 ⟨rfl, rfl⟩ dX9_keepText_140 hF (fun j44 hF => ?_)
        refine wx_zast hC hH h_o42 ⟨rfl, rfl⟩ dX9_keepText_141 hF (fun u45 H locs hF hH => ?_)
        refine wx_iinc hx hb dX9_keepText_142 k_iconst_1 hl (k := 1) rfl (by decide) hF (fun i46 ls hF hl => ?_)
        have hl : lv_has ls 2 [(1, .int i46), (0, .ref (ρ o1))] := hl
        refine lv_goto hx hb dX9_keepText_145 (tgt := 123) rfl ?_
        have hF := wJ_l hq39 hF
        exact ih39 i46 u45 H locs ls hF hH (lv_sub hl [1, 0] rfl)
    exact hL123 wFu (0 : Int32) u25 H locs ls hF hH (lv_sub hl [1, 0] rfl)
  exact key _ _ hH
def F_X9_find_b3 (i3 : Int32) (i2 : Int32) (o1 : Nat) (u0 : wSt) (i4 : Int32) (i6 : Int32) : Option ((Int32) ⊕ Int32) :=
  if i3 ≤ i6 then (some (.inr ((-1 : Int32)))) else (wN (i2 + i6) o1 (fun j7 => if (u0.1 o1 j7) = i4 then (some (.inr (i6))) else (wB (i6 + (1 : Int32)) (fun (i8 : Int32) => some (.inl i8)))))
def F_X9_find (o1 : Nat) (i2 : Int32) (i3 : Int32) (i4 : Int32) (u0 : wSt) : Option Int32 :=
  wL (S := Int32) (fun x => F_X9_find_b3 i3 i2 o1 u0 i4 x) wFu (0 : Int32)
set_option maxRecDepth 100000 in
set_option maxHeartbeats 4000000 in
theorem c_X9_find {l : Launch} {D : va_G} {κ : Nat → ClassId} {ρ : Nat → Nat} (o1 : Nat) (i2 : Int32) (i3 : Int32) (i4 : Int32) (h_o1 : (w_sh o1).1 = 14) : wMI l yX9_find cX9_find 5 .int (wRm 0 0) [.ref (ρ o1), .int i2, .int i3, .int i4] D κ ρ 1 (fun u => wPu (F_X9_find o1 i2 i3 i4 u) u) := by
  refine wMP_of (F := fun u => F_X9_find o1 i2 i3 i4 u) rfl (Nat.le_of_ble_eq_true rfl) (fun u0 z p e s m args below meth c ls A hF hC hr hlk hH hl => ?_)
  have hl : lv_has ls 5 [(0, .ref (ρ o1)), (1, .int i2), (2, .int i3), (3, .int i4)] := hl
  have hx := hC.1.1
  have hb := hC.1.2.1
  have hF : F_X9_find o1 i2 i3 i4 u0 = some z := hF
  unfold F_X9_find at hF
  change W p l e (wRm 0 0) s m args below meth c s.heap [] 0 0 (wQI below args s A D κ ρ 1 (z, u0)) (F0 m 0 ls [])
  have key : ∀ (H : Heap) (locs : List Loc), wHp D κ ρ 1 A s.heap H locs u0 → W p l e (wRm 0 0) s m args below meth c H locs 0 0 (wQI below args s A D κ ρ 1 (z, u0)) (F0 m 0 ls []) := by
    intro H locs hH
    refine lv_iconst hx hb dX9_find_0 k_iconst_0 ?_
    refine wx_istore hx hb dX9_find_1 hl (by decide) (fun ls hl => ?_)
    have hl : lv_has ls 5 [(4, .int (0 : Int32)), (0, .ref (ρ o1)), (1, .int i2), (2, .int i3), (3, .int i4)] := hl
    have hL3 : ∀ (k5_ : Nat) (i6 : Int32) (H : Heap) (locs : List Loc) (ls : Array Slot), wL (S := Int32) (fun x => F_X9_find_b3 i3 i2 o1 u0 i4 x) k5_ i6 = some z → wHp D κ ρ 1 A s.heap H locs u0 → lv_has ls 5 [(0, .ref (ρ o1)), (1, .int i2), (2, .int i3), (3, .int i4), (4, .int i6)] → W p l e (wRm 0 0) s m args below meth c H locs 0 0 (wQI below args s A D κ ρ 1 (z, u0)) (F0 m 3 ls []) := by
      intro k5_
      induction k5_ with
      | zero => intro i6 H locs ls hF; exact wL_zero hF
      | succ k5_ ih5 =>
        intro i6 H locs ls hF hH hl
        obtain ⟨q5_, hF, hq5⟩ := wL_some hF
        have hF : F_X9_find_b3 i3 i2 o1 u0 i4 i6 = some q5_ := hF
        unfold F_X9_find_b3 at hF
        refine lv_iload hx hb dX9_find_3 (lv_at hl 4 rfl) ?_
        refine lv_iload_n hx hb dX9_find_5 rfl (lv_at hl 2 rfl) ?_
        refine lv_icmp_ge hx hb dX9_find_6 (tgt := 28) rfl (fun h => ?_) (fun h => ?_)
        · have hF := wx_t h hF
          refine lv_iconst hx hb dX9_find_28 k_iconst_m1 ?_
          have hF := wJ_r hq5 hF
          exact wx_iret hC hH hr hlk dX9_find_29 (wx_pr hF)
        have hF := wx_f h hF
        refine lv_aload_n hx hb dX9_find_9 rfl (lv_at hl 0 rfl) ?_
        refine lv_iload_n hx hb dX9_find_10 rfl (lv_at hl 1 rfl) ?_
        refine lv_iload hx hb dX9_find_11 (lv_at hl 4 rfl) ?_
        refine lv_iadd hx hb dX9_find_13 ?_
        refine wx_iald hC hH h_o1 ⟨rfl, rfl⟩ dX9_find_14 hF (fun j7 hF => ?_)
        refine lv_iload_n hx hb dX9_find_15 rfl (lv_at hl 3 rfl) ?_
        refine lv_icmp_ne hx hb dX9_find_16 (tgt := 22) rfl (fun h => ?_) (fun h => ?_)
        · have hF := wx_f h hF
          refine wx_iinc hx hb dX9_find_22 k_iconst_1 hl (k := 4) rfl (by decide) hF (fun i8 ls hF hl => ?_)
          have hl : lv_has ls 5 [(4, .int i8), (0, .ref (ρ o1)), (1, .int i2), (2, .int i3), (3, .int i4)] := hl
          refine lv_goto hx hb dX9_find_25 (tgt := 3) rfl ?_
          have hF := wJ_l hq5 hF
          exact ih5 i8 H locs ls hF hH (lv_sub hl [1, 2, 3, 4, 0] rfl)
        have hF := wx_t h hF
        refine lv_iload hx hb dX9_find_19 (lv_at hl 4 rfl) ?_
        have hF := wJ_r hq5 hF
        exact wx_iret hC hH hr hlk dX9_find_21 (wx_pr hF)
    exact hL3 wFu (0 : Int32) H locs ls hF hH (lv_sub hl [1, 2, 3, 4, 0] rfl)
  exact key _ _ hH
def F_X9_newName (o1 : Nat) (o2 : Nat) (i3 : Int32) (i4 : Int32) (u0 : wSt) : Option (Int32 × wSt) :=
  if (u0.1 o1 8) = (2 : Int32) then (wP (F_X9_find o2 i3 i4 (u0.1 o1 9) u0) (fun (i5 : Int32) => if i5 < 0 then (wSI u0 o2 (i3 + i4) (u0.1 o1 9) (fun (u6 : wSt) => wC (F_X9_token o1 u6) (fun _ (u7 : wSt) => some ((1 : Int32), u7)))) else (wC (F_X9_wrong o1 (3 : Int32) u0) (fun (i9 : Int32) (u8 : wSt) => wG (i9 = 0 ∨ i9 = 1) (some (i9, u8)))))) else (wC (F_X9_wrong o1 (1 : Int32) u0) (fun (i11 : Int32) (u10 : wSt) => wG (i11 = 0 ∨ i11 = 1) (some (i11, u10))))
set_option maxRecDepth 100000 in
set_option maxHeartbeats 4000000 in
theorem c_X9_newName {l : Launch} {D : va_G} {κ : Nat → ClassId} {ρ : Nat → Nat} (o1 : Nat) (o2 : Nat) (i3 : Int32) (i4 : Int32) (h_o1 : (w_sh o1).1 = 9) (h_o2 : (w_sh o2).1 = 14) : wMI l yX9_newName cX9_newName 4 .boolean (wRm 2 47) [.ref (ρ o1), .ref (ρ o2), .int i3, .int i4] D κ ρ 1 (fun u => F_X9_newName o1 o2 i3 i4 u) := by
  refine wMI_of (F := fun u => F_X9_newName o1 o2 i3 i4 u) rfl (Nat.le_of_ble_eq_true rfl) (fun u0 z p e s m args below meth c ls A hF hC hr hlk hH hl => ?_)
  have hl : lv_has ls 4 [(0, .ref (ρ o1)), (1, .ref (ρ o2)), (2, .int i3), (3, .int i4)] := hl
  have hx := hC.1.1
  have hb := hC.1.2.1
  have hF : F_X9_newName o1 o2 i3 i4 u0 = some z := hF
  unfold F_X9_newName at hF
  change W p l e (wRm 2 47) s m args below meth c s.heap [] 0 0 (wQI below args s A D κ ρ 1 z) (F0 m 0 ls [])
  have key : ∀ (H : Heap) (locs : List Loc), wHp D κ ρ 1 A s.heap H locs u0 → W p l e (wRm 2 47) s m args below meth c H locs 0 0 (wQI below args s A D κ ρ 1 z) (F0 m 0 ls []) := by
    intro H locs hH
    refine lv_aload_n hx hb dX9_newName_0 rfl (lv_at hl 0 rfl) ?_
    refine wx_getI hC hH h_o1 rfl f_X9_160 dX9_newName_1 ?_
    refine lv_iconst hx hb dX9_newName_4 k_iconst_2 ?_
    refine lv_icmp_eq hx hb dX9_newName_5 (tgt := 14) rfl (fun h => ?_) (fun h => ?_)
    · have hF := wx_t h hF
      refine lv_aload_n hx hb dX9_newName_14 rfl (lv_at hl 1 rfl) ?_
      refine lv_iload_n hx hb dX9_newName_15 rfl (lv_at hl 2 rfl) ?_
      refine lv_iload_n hx hb dX9_newName_16 rfl (lv_at hl 3 rfl) ?_
      refine lv_aload_n hx hb dX9_newName_17 rfl (lv_at hl 0 rfl) ?_
      refine wx_getI hC hH h_o1 rfl f_X9_171 dX9_newName_18 ?_
      refine wx_psi hC hH hl (c_X9_find o2 i3 i4 (u0.1 o1 9) h_o2) y_X9_find v_X9_find m_X9_238 rfl ⟨Nat.le_of_ble_eq_true rfl, Nat.le_of_ble_eq_true rfl⟩ ⟨Nat.le_refl _, Nat.le_refl _⟩ rfl (Nat.le_of_ble_eq_true rfl) dX9_newName_21 hF (fun i5 H locs hF hH => ?_)
      refine lv_if_lt hx hb dX9_newName_24 (tgt := 33) rfl (fun h => ?_) (fun h => ?_)
      · have hF := wx_t h hF
        refine lv_aload_n hx hb dX9_newName_33 rfl (lv_at hl 1 rfl) ?_
        refine lv_iload_n hx hb dX9_newName_34 rfl (lv_at hl 2 rfl) ?_
        refine lv_iload_n hx hb dX9_newName_35 rfl (lv_at hl 3 rfl) ?_
        refine lv_iadd hx hb dX9_newName_36 ?_
        refine lv_aload_n hx hb dX9_newName_37 rfl (lv_at hl 0 rfl) ?_
        refine wx_getI hC hH h_o1 rfl f_X9_171 dX9_newName_38 ?_
        refine wx_iast hC hH h_o2 ⟨rfl, rfl⟩ dX9_newName_41 hF (fun u6 H locs hF hH => ?_)
        refine lv_aload_n hx hb dX9_newName_42 rfl (lv_at hl 0 rfl) ?_
        refine wx_evv hC hH hl (c_X9_token o1 h_o1) y_X9_token v_X9_token h_o1 rfl m_X9_194 rfl ⟨Nat.le_of_ble_eq_true rfl, Nat.le_of_ble_eq_true rfl⟩ ⟨Nat.le_refl _, Nat.le_refl _⟩ rfl (Nat.le_of_ble_eq_true rfl) dX9_newName_43 hF (fun _ u7 H locs hF hH => ?_)
        refine lv_iconst hx hb dX9_newName_46 k_iconst_1 ?_
        exact wx_zret hC hH hr hlk dX9_newName_47 (Or.inr rfl) hF
      have hF := wx_f h hF
      refine lv_aload_n hx hb dX9_newName_27 rfl (lv_at hl 0 rfl) ?_
      refine lv_iconst hx hb dX9_newName_28 k_iconst_3 ?_
      refine wx_evi hC hH hl (c_X9_wrong o1 (3 : Int32) h_o1) y_X9_wrong v_X9_wrong h_o1 rfl m_X9_184 rfl ⟨Nat.le_of_ble_eq_true rfl, Nat.le_of_ble_eq_true rfl⟩ ⟨Nat.le_refl _, Nat.le_refl _⟩ rfl (Nat.le_of_ble_eq_true rfl) dX9_newName_29 hF (fun i9 u8 H locs hF hH => ?_)
      obtain ⟨h01, hF⟩ := wG_some hF
      exact wx_zret hC hH hr hlk dX9_newName_32 h01 hF
    have hF := wx_f h hF
    refine lv_aload_n hx hb dX9_newName_8 rfl (lv_at hl 0 rfl) ?_
    refine lv_iconst hx hb dX9_newName_9 k_iconst_1 ?_
    refine wx_evi hC hH hl (c_X9_wrong o1 (1 : Int32) h_o1) y_X9_wrong v_X9_wrong h_o1 rfl m_X9_184 rfl ⟨Nat.le_of_ble_eq_true rfl, Nat.le_of_ble_eq_true rfl⟩ ⟨Nat.le_refl _, Nat.le_refl _⟩ rfl (Nat.le_of_ble_eq_true rfl) dX9_newName_10 hF (fun i11 u10 H locs hF hH => ?_)
    obtain ⟨h01, hF⟩ := wG_some hF
    exact wx_zret hC hH hr hlk dX9_newName_13 h01 hF
  exact key _ _ hH
def F_X9_guestLine (o1 : Nat) (u0 : wSt) : Option (Int32 × wSt) :=
  if (u0.1 o1 16) = (6 : Int32) then (wC (F_X9_wrong o1 (2 : Int32) u0) (fun (i21 : Int32) (u20 : wSt) => wG (i21 = 0 ∨ i21 = 1) (some (i21, u20)))) else (wC (F_X9_token o1 u0) (fun _ (u2 : wSt) => wR (u2.2.2 o1 22) 14 (fun o3 => wC (F_X9_newName o1 o3 (6 : Int32) (u2.1 o1 16) u2) (fun (i5 : Int32) (u4 : wSt) => if i5 = 0 then (some ((0 : Int32), u4)) else (wB ((6 : Int32) + (u4.1 o1 16)) (fun (i6 : Int32) => wC (F_X9_number o1 (0 : Int32) (99 : Int32) u4) (fun (i8 : Int32) (u7 : wSt) => if i8 = 0 then (some ((0 : Int32), u7)) else (wR (u7.2.2 o1 23) 14 (fun o9 => wSI u7 o9 i6 (u7.1 o1 11) (fun (u10 : wSt) => wC (F_X9_number o1 (0 : Int32) (98 : Int32) u10) (fun (i12 : Int32) (u11 : wSt) => if i12 = 0 then (some ((0 : Int32), u11)) else (wR (u11.2.2 o1 24) 14 (fun o13 => wSI u11 o13 i6 (u11.1 o1 11) (fun (u14 : wSt) => wC (F_X9_number o1 (0 : Int32) (9 : Int32) u14) (fun (i16 : Int32) (u15 : wSt) => if i16 = 0 then (some ((0 : Int32), u15)) else (wR (u15.2.2 o1 25) 14 (fun o17 => wSI u15 o17 i6 (u15.1 o1 11) (fun (u18 : wSt) => wB (w_sI u18 o1 16 ((u18.1 o1 16) + (1 : Int32))) (fun (u19 : wSt) => some ((1 : Int32), u19))))))))))))))))))))
set_option maxRecDepth 100000 in
set_option maxHeartbeats 4000000 in
theorem c_X9_guestLine {l : Launch} {D : va_G} {κ : Nat → ClassId} {ρ : Nat → Nat} (o1 : Nat) (h_o1 : (w_sh o1).1 = 9) : wMI l yX9_guestLine cX9_guestLine 2 .boolean (wRm 3 70) [.ref (ρ o1)] D κ ρ 1 (fun u => F_X9_guestLine o1 u) := by
  refine wMI_of (F := fun u => F_X9_guestLine o1 u) rfl (Nat.le_of_ble_eq_true rfl) (fun u0 z p e s m args below meth c ls A hF hC hr hlk hH hl => ?_)
  have hl : lv_has ls 2 [(0, .ref (ρ o1))] := hl
  have hx := hC.1.1
  have hb := hC.1.2.1
  have hF : F_X9_guestLine o1 u0 = some z := hF
  unfold F_X9_guestLine at hF
  change W p l e (wRm 3 70) s m args below meth c s.heap [] 0 0 (wQI below args s A D κ ρ 1 z) (F0 m 0 ls [])
  have key : ∀ (H : Heap) (locs : List Loc), wHp D κ ρ 1 A s.heap H locs u0 → W p l e (wRm 3 70) s m args below meth c H locs 0 0 (wQI below args s A D κ ρ 1 z) (F0 m 0 ls []) := by
    intro H locs hH
    refine lv_aload_n hx hb dX9_guestLine_0 rfl (lv_at hl 0 rfl) ?_
    refine wx_getI hC hH h_o1 rfl f_X9_204 dX9_guestLine_1 ?_
    refine lv_bipush hx hb dX9_guestLine_4 k_bipush_6 ?_
    refine lv_icmp_ne hx hb dX9_guestLine_6 (tgt := 15) rfl (fun h => ?_) (fun h => ?_)
    · have hF := wx_f h hF
      refine lv_aload_n hx hb dX9_guestLine_15 rfl (lv_at hl 0 rfl) ?_
      refine wx_evv hC hH hl (c_X9_token o1 h_o1) y_X9_token v_X9_token h_o1 rfl m_X9_194 rfl ⟨Nat.le_of_ble_eq_true rfl, Nat.le_of_ble_eq_true rfl⟩ ⟨Nat.le_refl _, Nat.le_refl _⟩ rfl (Nat.le_of_ble_eq_true rfl) dX9_guestLine_16 hF (fun _ u2 H locs hF hH => ?_)
      refine lv_aload_n hx hb dX9_guestLine_19 rfl (lv_at hl 0 rfl) ?_
      refine lv_aload_n hx hb dX9_guestLine_20 rfl (lv_at hl 0 rfl) ?_
      refine wx_getR hC hH h_o1 rfl f_X9_27 dX9_guestLine_21 hF (fun o3 h_o3 hF => ?_)
      refine lv_bipush hx hb dX9_guestLine_24 k_bipush_6 ?_
      refine lv_aload_n hx hb dX9_guestLine_26 rfl (lv_at hl 0 rfl) ?_
      refine wx_getI hC hH h_o1 rfl f_X9_204 dX9_guestLine_27 ?_
      refine wx_evi hC hH hl (c_X9_newName o1 o3 (6 : Int32) (u2.1 o1 16) h_o1 h_o3) y_X9_newName v_X9_newName h_o1 rfl m_X9_242 rfl ⟨Nat.le_of_ble_eq_true rfl, Nat.le_of_ble_eq_true rfl⟩ ⟨Nat.le_refl _, Nat.le_refl _⟩ rfl (Nat.le_of_ble_eq_true rfl) dX9_guestLine_30 hF (fun i5 u4 H locs hF hH => ?_)
      refine lv_if_ne hx hb dX9_guestLine_33 (tgt := 38) rfl (fun h => ?_) (fun h => ?_)
      · have hF := wx_f h hF
        refine lv_bipush hx hb dX9_guestLine_38 k_bipush_6 ?_
        refine lv_aload_n hx hb dX9_guestLine_40 rfl (lv_at hl 0 rfl) ?_
        refine wx_getI hC hH h_o1 rfl f_X9_204 dX9_guestLine_41 ?_
        refine lv_iadd hx hb dX9_guestLine_44 ?_
        refine wx_leti hF (fun i6 hF => ?_)
        refine wx_istore_n hx hb dX9_guestLine_45 rfl hl (by decide) (fun ls hl => ?_)
        have hl : lv_has ls 2 [(1, .int i6), (0, .ref (ρ o1))] := hl
        refine lv_aload_n hx hb dX9_guestLine_46 rfl (lv_at hl 1 rfl) ?_
        refine lv_iconst hx hb dX9_guestLine_47 k_iconst_0 ?_
        refine lv_bipush hx hb dX9_guestLine_48 k_bipush_99 ?_
        refine wx_evi hC hH hl (c_X9_number o1 (0 : Int32) (99 : Int32) h_o1) y_X9_number v_X9_number h_o1 rfl m_X9_200 rfl ⟨Nat.le_of_ble_eq_true rfl, Nat.le_of_ble_eq_true rfl⟩ ⟨Nat.le_refl _, Nat.le_refl _⟩ rfl (Nat.le_of_ble_eq_true rfl) dX9_guestLine_50 hF (fun i8 u7 H locs hF hH => ?_)
        refine lv_if_ne hx hb dX9_guestLine_53 (tgt := 58) rfl (fun h => ?_) (fun h => ?_)
        · have hF := wx_f h hF
          refine lv_aload_n hx hb dX9_guestLine_58 rfl (lv_at hl 1 rfl) ?_
          refine wx_getR hC hH h_o1 rfl f_X9_30 dX9_guestLine_59 hF (fun o9 h_o9 hF => ?_)
          refine lv_iload_n hx hb dX9_guestLine_62 rfl (lv_at hl 0 rfl) ?_
          refine lv_aload_n hx hb dX9_guestLine_63 rfl (lv_at hl 1 rfl) ?_
          refine wx_getI hC hH h_o1 rfl f_X9_191 dX9_guestLine_64 ?_
          refine wx_iast hC hH h_o9 ⟨rfl, rfl⟩ dX9_guestLine_67 hF (fun u10 H locs hF hH => ?_)
          refine lv_aload_n hx hb dX9_guestLine_68 rfl (lv_at hl 1 rfl) ?_
          refine lv_iconst hx hb dX9_guestLine_69 k_iconst_0 ?_
          refine lv_bipush hx hb dX9_guestLine_70 k_bipush_98 ?_
          refine wx_evi hC hH hl (c_X9_number o1 (0 : Int32) (98 : Int32) h_o1) y_X9_number v_X9_number h_o1 rfl m_X9_200 rfl ⟨Nat.le_of_ble_eq_true rfl, Nat.le_of_ble_eq_true rfl⟩ ⟨Nat.le_refl _, Nat.le_refl _⟩ rfl (Nat.le_of_ble_eq_true rfl) dX9_guestLine_72 hF (fun i12 u11 H locs hF hH => ?_)
          refine lv_if_ne hx hb dX9_guestLine_75 (tgt := 80) rfl (fun h => ?_) (fun h => ?_)
          · have hF := wx_f h hF
            refine lv_aload_n hx hb dX9_guestLine_80 rfl (lv_at hl 1 rfl) ?_
            refine wx_getR hC hH h_o1 rfl f_X9_33 dX9_guestLine_81 hF (fun o13 h_o13 hF => ?_)
            refine lv_iload_n hx hb dX9_guestLine_84 rfl (lv_at hl 0 rfl) ?_
            refine lv_aload_n hx hb dX9_guestLine_85 rfl (lv_at hl 1 rfl) ?_
            refine wx_getI hC hH h_o1 rfl f_X9_191 dX9_guestLine_86 ?_
            refine wx_iast hC hH h_o13 ⟨rfl, rfl⟩ dX9_guestLine_89 hF (fun u14 H locs hF hH => ?_)
            refine lv_aload_n hx hb dX9_guestLine_90 rfl (lv_at hl 1 rfl) ?_
            refine lv_iconst hx hb dX9_guestLine_91 k_iconst_0 ?_
            refine lv_bipush hx hb dX9_guestLine_92 k_bipush_9 ?_
            refine wx_evi hC hH hl (c_X9_number o1 (0 : Int32) (9 : Int32) h_o1) y_X9_number v_X9_number h_o1 rfl m_X9_200 rfl ⟨Nat.le_of_ble_eq_true rfl, Nat.le_of_ble_eq_true rfl⟩ ⟨Nat.le_refl _, Nat.le_refl _⟩ rfl (Nat.le_of_ble_eq_true rfl) dX9_guestLine_94 hF (fun i16 u15 H locs hF hH => ?_)
            refine lv_if_ne hx hb dX9_guestLine_97 (tgt := 102) rfl (fun h => ?_) (fun h => ?_)
            · have hF := wx_f h hF
              refine lv_aload_n hx hb dX9_guestLine_102 rfl (lv_at hl 1 rfl) ?_
              refine wx_getR hC hH h_o1 rfl f_X9_36 dX9_guestLine_103 hF (fun o17 h_o17 hF => ?_)
              refine lv_iload_n hx hb dX9_guestLine_106 rfl (lv_at hl 0 rfl) ?_
              refine lv_aload_n hx hb dX9_guestLine_107 rfl (lv_at hl 1 rfl) ?_
              refine wx_getI hC hH h_o1 rfl f_X9_191 dX9_guestLine_108 ?_
              refine wx_iast hC hH h_o17 ⟨rfl, rfl⟩ dX9_guestLine_111 hF (fun u18 H locs hF hH => ?_)
              refine lv_aload_n hx hb dX9_guestLine_112 rfl (lv_at hl 1 rfl) ?_
              refine lv_dup hx hb dX9_guestLine_113 rfl ?_
              refine wx_getI hC hH h_o1 rfl f_X9_204 dX9_guestLine_114 ?_
              refine lv_iconst hx hb dX9_guestLine_117 k_iconst_1 ?_
              refine lv_iadd hx hb dX9_guestLine_118 ?_
              refine wx_putI hC hH h_o1 rfl f_X9_204 g_9_16 dX9_guestLine_119 hF (fun u19 H locs hF hH => ?_)
              refine lv_iconst hx hb dX9_guestLine_122 k_iconst_1 ?_
              exact wx_zret hC hH hr hlk dX9_guestLine_123 (Or.inr rfl) hF
            have hF := wx_t h hF
            refine lv_iconst hx hb dX9_guestLine_100 k_iconst_0 ?_
            exact wx_zret hC hH hr hlk dX9_guestLine_101 (Or.inl rfl) hF
          have hF := wx_t h hF
          refine lv_iconst hx hb dX9_guestLine_78 k_iconst_0 ?_
          exact wx_zret hC hH hr hlk dX9_guestLine_79 (Or.inl rfl) hF
        have hF := wx_t h hF
        refine lv_iconst hx hb dX9_guestLine_56 k_iconst_0 ?_
        exact wx_zret hC hH hr hlk dX9_guestLine_57 (Or.inl rfl) hF
      have hF := wx_t h hF
      refine lv_iconst hx hb dX9_guestLine_36 k_iconst_0 ?_
      exact wx_zret hC hH hr hlk dX9_guestLine_37 (Or.inl rfl) hF
    have hF := wx_t h hF
    refine lv_aload_n hx hb dX9_guestLine_9 rfl (lv_at hl 0 rfl) ?_
    refine lv_iconst hx hb dX9_guestLine_10 k_iconst_2 ?_
    refine wx_evi hC hH hl (c_X9_wrong o1 (2 : Int32) h_o1) y_X9_wrong v_X9_wrong h_o1 rfl m_X9_184 rfl ⟨Nat.le_of_ble_eq_true rfl, Nat.le_of_ble_eq_true rfl⟩ ⟨Nat.le_refl _, Nat.le_refl _⟩ rfl (Nat.le_of_ble_eq_true rfl) dX9_guestLine_11 hF (fun i21 u20 H locs hF hH => ?_)
    obtain ⟨h01, hF⟩ := wG_some hF
    exact wx_zret hC hH hr hlk dX9_guestLine_14 h01 hF
  exact key _ _ hH
def F_X9_fruitLine (o1 : Nat) (u0 : wSt) : Option (Int32 × wSt) :=
  if (u0.1 o1 17) = (8 : Int32) then (wC (F_X9_wrong o1 (2 : Int32) u0) (fun (i16 : Int32) (u15 : wSt) => wG (i16 = 0 ∨ i16 = 1) (some (i16, u15)))) else (wC (F_X9_token o1 u0) (fun _ (u2 : wSt) => wR (u2.2.2 o1 26) 14 (fun o3 => wC (F_X9_newName o1 o3 (8 : Int32) (u2.1 o1 17) u2) (fun (i5 : Int32) (u4 : wSt) => if i5 = 0 then (some ((0 : Int32), u4)) else (wC (F_X9_number o1 (0 : Int32) (9 : Int32) u4) (fun (i7 : Int32) (u6 : wSt) => if i7 = 0 then (some ((0 : Int32), u6)) else (wR (u6.2.2 o1 27) 14 (fun o8 => wSI u6 o8 ((8 : Int32) + (u6.1 o1 17)) (u6.1 o1 11) (fun (u9 : wSt) => wC (F_X9_number o1 (0 : Int32) (1 : Int32) u9) (fun (i11 : Int32) (u10 : wSt) => if i11 = 0 then (some ((0 : Int32), u10)) else (wR (u10.2.2 o1 28) 14 (fun o12 => wSI u10 o12 ((8 : Int32) + (u10.1 o1 17)) (u10.1 o1 11) (fun (u13 : wSt) => wB (w_sI u13 o1 17 ((u13.1 o1 17) + (1 : Int32))) (fun (u14 : wSt) => some ((1 : Int32), u14)))))))))))))))
set_option maxRecDepth 100000 in
set_option maxHeartbeats 4000000 in
theorem c_X9_fruitLine {l : Launch} {D : va_G} {κ : Nat → ClassId} {ρ : Nat → Nat} (o1 : Nat) (h_o1 : (w_sh o1).1 = 9) : wMI l yX9_fruitLine cX9_fruitLine 1 .boolean (wRm 3 70) [.ref (ρ o1)] D κ ρ 1 (fun u => F_X9_fruitLine o1 u) := by
  refine wMI_of (F := fun u => F_X9_fruitLine o1 u) rfl (Nat.le_of_ble_eq_true rfl) (fun u0 z p e s m args below meth c ls A hF hC hr hlk hH hl => ?_)
  have hl : lv_has ls 1 [(0, .ref (ρ o1))] := hl
  have hx := hC.1.1
  have hb := hC.1.2.1
  have hF : F_X9_fruitLine o1 u0 = some z := hF
  unfold F_X9_fruitLine at hF
  change W p l e (wRm 3 70) s m args below meth c s.heap [] 0 0 (wQI below args s A D κ ρ 1 z) (F0 m 0 ls [])
  have key : ∀ (H : Heap) (locs : List Loc), wHp D κ ρ 1 A s.heap H locs u0 → W p l e (wRm 3 70) s m args below meth c H locs 0 0 (wQI below args s A D κ ρ 1 z) (F0 m 0 ls []) := by
    intro H locs hH
    refine lv_aload_n hx hb dX9_fruitLine_0 rfl (lv_at hl 0 rfl) ?_
    refine wx_getI hC hH h_o1 rfl f_X9_207 dX9_fruitLine_1 ?_
    refine lv_bipush hx hb dX9_fruitLine_4 k_bipush_8 ?_
    refine lv_icmp_ne hx hb dX9_fruitLine_6 (tgt := 15) rfl (fun h => ?_) (fun h => ?_)
    · have hF := wx_f h hF
      refine lv_aload_n hx hb dX9_fruitLine_15 rfl (lv_at hl 0 rfl) ?_
      refine wx_evv hC hH hl (c_X9_token o1 h_o1) y_X9_token v_X9_token h_o1 rfl m_X9_194 rfl ⟨Nat.le_of_ble_eq_true rfl, Nat.le_of_ble_eq_true rfl⟩ ⟨Nat.le_refl _, Nat.le_refl _⟩ rfl (Nat.le_of_ble_eq_true rfl) dX9_fruitLine_16 hF (fun _ u2 H locs hF hH => ?_)
      refine lv_aload_n hx hb dX9_fruitLine_19 rfl (lv_at hl 0 rfl) ?_
      refine lv_aload_n hx hb dX9_fruitLine_20 rfl (lv_at hl 0 rfl) ?_
      refine wx_getR hC hH h_o1 rfl f_X9_39 dX9_fruitLine_21 hF (fun o3 h_o3 hF => ?_)
      refine lv_bipush hx hb dX9_fruitLine_24 k_bipush_8 ?_
      refine lv_aload_n hx hb dX9_fruitLine_26 rfl (lv_at hl 0 rfl) ?_
      refine wx_getI hC hH h_o1 rfl f_X9_207 dX9_fruitLine_27 ?_
      refine wx_evi hC hH hl (c_X9_newName o1 o3 (8 : Int32) (u2.1 o1 17) h_o1 h_o3) y_X9_newName v_X9_newName h_o1 rfl m_X9_242 rfl ⟨Nat.le_of_ble_eq_true rfl, Nat.le_of_ble_eq_true rfl⟩ ⟨Nat.le_refl _, Nat.le_refl _⟩ rfl (Nat.le_of_ble_eq_true rfl) dX9_fruitLine_30 hF (fun i5 u4 H locs hF hH => ?_)
      refine lv_if_ne hx hb dX9_fruitLine_33 (tgt := 38) rfl (fun h => ?_) (fun h => ?_)
      · have hF := wx_f h hF
        refine lv_aload_n hx hb dX9_fruitLine_38 rfl (lv_at hl 0 rfl) ?_
        refine lv_iconst hx hb dX9_fruitLine_39 k_iconst_0 ?_
        refine lv_bipush hx hb dX9_fruitLine_40 k_bipush_9 ?_
        refine wx_evi hC hH hl (c_X9_number o1 (0 : Int32) (9 : Int32) h_o1) y_X9_number v_X9_number h_o1 rfl m_X9_200 rfl ⟨Nat.le_of_ble_eq_true rfl, Nat.le_of_ble_eq_true rfl⟩ ⟨Nat.le_refl _, Nat.le_refl _⟩ rfl (Nat.le_of_ble_eq_true rfl) dX9_fruitLine_42 hF (fun i7 u6 H locs hF hH => ?_)
        refine lv_if_ne hx hb dX9_fruitLine_45 (tgt := 50) rfl (fun h => ?_) (fun h => ?_)
        · have hF := wx_f h hF
          refine lv_aload_n hx hb dX9_fruitLine_50 rfl (lv_at hl 0 rfl) ?_
          refine wx_getR hC hH h_o1 rfl f_X9_42 dX9_fruitLine_51 hF (fun o8 h_o8 hF => ?_)
          refine lv_bipush hx hb dX9_fruitLine_54 k_bipush_8 ?_
          refine lv_aload_n hx hb dX9_fruitLine_56 rfl (lv_at hl 0 rfl) ?_
          refine wx_getI hC hH h_o1 rfl f_X9_207 dX9_fruitLine_57 ?_
          refine lv_iadd hx hb dX9_fruitLine_60 ?_
          refine lv_aload_n hx hb dX9_fruitLine_61 rfl (lv_at hl 0 rfl) ?_
          refine wx_getI hC hH h_o1 rfl f_X9_191 dX9_fruitLine_62 ?_
          refine wx_iast hC hH h_o8 ⟨rfl, rfl⟩ dX9_fruitLine_65 hF (fun u9 H locs hF hH => ?_)
          refine lv_aload_n hx hb dX9_fruitLine_66 rfl (lv_at hl 0 rfl) ?_
          refine lv_iconst hx hb dX9_fruitLine_67 k_iconst_0 ?_
          refine lv_iconst hx hb dX9_fruitLine_68 k_iconst_1 ?_
          refine wx_evi hC hH hl (c_X9_number o1 (0 : Int32) (1 : Int32) h_o1) y_X9_number v_X9_number h_o1 rfl m_X9_200 rfl ⟨Nat.le_of_ble_eq_true rfl, Nat.le_of_ble_eq_true rfl⟩ ⟨Nat.le_refl _, Nat.le_refl _⟩ rfl (Nat.le_of_ble_eq_true rfl) dX9_fruitLine_69 hF (fun i11 u10 H locs hF hH => ?_)
          refine lv_if_ne hx hb dX9_fruitLine_72 (tgt := 77) rfl (fun h => ?_) (fun h => ?_)
          · have hF := wx_f h hF
            refine lv_aload_n hx hb dX9_fruitLine_77 rfl (lv_at hl 0 rfl) ?_
            refine wx_getR hC hH h_o1 rfl f_X9_45 dX9_fruitLine_78 hF (fun o12 h_o12 hF => ?_)
            refine lv_bipush hx hb dX9_fruitLine_81 k_bipush_8 ?_
            refine lv_aload_n hx hb dX9_fruitLine_83 rfl (lv_at hl 0 rfl) ?_
            refine wx_getI hC hH h_o1 rfl f_X9_207 dX9_fruitLine_84 ?_
            refine lv_iadd hx hb dX9_fruitLine_87 ?_
            refine lv_aload_n hx hb dX9_fruitLine_88 rfl (lv_at hl 0 rfl) ?_
            refine wx_getI hC hH h_o1 rfl f_X9_191 dX9_fruitLine_89 ?_
            refine wx_iast hC hH h_o12 ⟨rfl, rfl⟩ dX9_fruitLine_92 hF (fun u13 H locs hF hH => ?_)
            refine lv_aload_n hx hb dX9_fruitLine_93 rfl (lv_at hl 0 rfl) ?_
            refine lv_dup hx hb dX9_fruitLine_94 rfl ?_
            refine wx_getI hC hH h_o1 rfl f_X9_207 dX9_fruitLine_95 ?_
            refine lv_iconst hx hb dX9_fruitLine_98 k_iconst_1 ?_
            refine lv_iadd hx hb dX9_fruitLine_99 ?_
            refine wx_putI hC hH h_o1 rfl f_X9_207 g_9_17 dX9_fruitLine_100 hF (fun u14 H locs hF hH => ?_)
            refine lv_iconst hx hb dX9_fruitLine_103 k_iconst_1 ?_
            exact wx_zret hC hH hr hlk dX9_fruitLine_104 (Or.inr rfl) hF
          have hF := wx_t h hF
          refine lv_iconst hx hb dX9_fruitLine_75 k_iconst_0 ?_
          exact wx_zret hC hH hr hlk dX9_fruitLine_76 (Or.inl rfl) hF
        have hF := wx_t h hF
        refine lv_iconst hx hb dX9_fruitLine_48 k_iconst_0 ?_
        exact wx_zret hC hH hr hlk dX9_fruitLine_49 (Or.inl rfl) hF
      have hF := wx_t h hF
      refine lv_iconst hx hb dX9_fruitLine_36 k_iconst_0 ?_
      exact wx_zret hC hH hr hlk dX9_fruitLine_37 (Or.inl rfl) hF
    have hF := wx_t h hF
    refine lv_aload_n hx hb dX9_fruitLine_9 rfl (lv_at hl 0 rfl) ?_
    refine lv_iconst hx hb dX9_fruitLine_10 k_iconst_2 ?_
    refine wx_evi hC hH hl (c_X9_wrong o1 (2 : Int32) h_o1) y_X9_wrong v_X9_wrong h_o1 rfl m_X9_184 rfl ⟨Nat.le_of_ble_eq_true rfl, Nat.le_of_ble_eq_true rfl⟩ ⟨Nat.le_refl _, Nat.le_refl _⟩ rfl (Nat.le_of_ble_eq_true rfl) dX9_fruitLine_11 hF (fun i16 u15 H locs hF hH => ?_)
    obtain ⟨h01, hF⟩ := wG_some hF
    exact wx_zret hC hH hr hlk dX9_fruitLine_14 h01 hF
  exact key _ _ hH
def F_X9_biteLine (o1 : Nat) (u0 : wSt) : Option (Int32 × wSt) :=
  if (u0.1 o1 18) = (8 : Int32) then (wC (F_X9_wrong o1 (2 : Int32) u0) (fun (i18 : Int32) (u17 : wSt) => wG (i18 = 0 ∨ i18 = 1) (some (i18, u17)))) else (wC (F_X9_token o1 u0) (fun _ (u2 : wSt) => if (u2.1 o1 8) = (2 : Int32) then (wR (u2.2.2 o1 22) 14 (fun o3 => wP (F_X9_find o3 (6 : Int32) (u2.1 o1 16) (u2.1 o1 9) u2) (fun (i4 : Int32) => if 0 ≤ i4 then (wR (u2.2.2 o1 29) 14 (fun o5 => wSI u2 o5 ((8 : Int32) + (u2.1 o1 18)) i4 (fun (u6 : wSt) => wC (F_X9_token o1 u6) (fun _ (u7 : wSt) => wC (F_X9_number o1 (0 : Int32) (99 : Int32) u7) (fun (i9 : Int32) (u8 : wSt) => if i9 = 0 then (some ((0 : Int32), u8)) else (wR (u8.2.2 o1 30) 14 (fun o10 => wSI u8 o10 ((8 : Int32) + (u8.1 o1 18)) (u8.1 o1 11) (fun (u11 : wSt) => wB (w_sI u11 o1 18 ((u11.1 o1 18) + (1 : Int32))) (fun (u12 : wSt) => some ((1 : Int32), u12)))))))))) else (wC (F_X9_wrong o1 (4 : Int32) u2) (fun (i14 : Int32) (u13 : wSt) => wG (i14 = 0 ∨ i14 = 1) (some (i14, u13))))))) else (wC (F_X9_wrong o1 (1 : Int32) u2) (fun (i16 : Int32) (u15 : wSt) => wG (i16 = 0 ∨ i16 = 1) (some (i16, u15))))))
set_option maxRecDepth 100000 in
set_option maxHeartbeats 4000000 in
theorem c_X9_biteLine {l : Launch} {D : va_G} {κ : Nat → ClassId} {ρ : Nat → Nat} (o1 : Nat) (h_o1 : (w_sh o1).1 = 9) : wMI l yX9_biteLine cX9_biteLine 2 .boolean (wRm 3 69) [.ref (ρ o1)] D κ ρ 1 (fun u => F_X9_biteLine o1 u) := by
  refine wMI_of (F := fun u => F_X9_biteLine o1 u) rfl (Nat.le_of_ble_eq_true rfl) (fun u0 z p e s m args below meth c ls A hF hC hr hlk hH hl => ?_)
  have hl : lv_has ls 2 [(0, .ref (ρ o1))] := hl
  have hx := hC.1.1
  have hb := hC.1.2.1
  have hF : F_X9_biteLine o1 u0 = some z := hF
  unfold F_X9_biteLine at hF
  change W p l e (wRm 3 69) s m args below meth c s.heap [] 0 0 (wQI below args s A D κ ρ 1 z) (F0 m 0 ls [])
  have key : ∀ (H : Heap) (locs : List Loc), wHp D κ ρ 1 A s.heap H locs u0 → W p l e (wRm 3 69) s m args below meth c H locs 0 0 (wQI below args s A D κ ρ 1 z) (F0 m 0 ls []) := by
    intro H locs hH
    refine lv_aload_n hx hb dX9_biteLine_0 rfl (lv_at hl 0 rfl) ?_
    refine wx_getI hC hH h_o1 rfl f_X9_210 dX9_biteLine_1 ?_
    refine lv_bipush hx hb dX9_biteLine_4 k_bipush_8 ?_
    refine lv_icmp_ne hx hb dX9_biteLine_6 (tgt := 15) rfl (fun h => ?_) (fun h => ?_)
    · have hF := wx_f h hF
      refine lv_aload_n hx hb dX9_biteLine_15 rfl (lv_at hl 0 rfl) ?_
      refine wx_evv hC hH hl (c_X9_token o1 h_o1) y_X9_token v_X9_token h_o1 rfl m_X9_194 rfl ⟨Nat.le_of_ble_eq_true rfl, Nat.le_of_ble_eq_true rfl⟩ ⟨Nat.le_refl _, Nat.le_refl _⟩ rfl (Nat.le_of_ble_eq_true rfl) dX9_biteLine_16 hF (fun _ u2 H locs hF hH => ?_)
      refine lv_aload_n hx hb dX9_biteLine_19 rfl (lv_at hl 0 rfl) ?_
      refine wx_getI hC hH h_o1 rfl f_X9_160 dX9_biteLine_20 ?_
      refine lv_iconst hx hb dX9_biteLine_23 k_iconst_2 ?_
      refine lv_icmp_eq hx hb dX9_biteLine_24 (tgt := 33) rfl (fun h => ?_) (fun h => ?_)
      · have hF := wx_t h hF
        refine lv_aload_n hx hb dX9_biteLine_33 rfl (lv_at hl 0 rfl) ?_
        refine wx_getR hC hH h_o1 rfl f_X9_27 dX9_biteLine_34 hF (fun o3 h_o3 hF => ?_)
        refine lv_bipush hx hb dX9_biteLine_37 k_bipush_6 ?_
        refine lv_aload_n hx hb dX9_biteLine_39 rfl (lv_at hl 0 rfl) ?_
        refine wx_getI hC hH h_o1 rfl f_X9_204 dX9_biteLine_40 ?_
        refine lv_aload_n hx hb dX9_biteLine_43 rfl (lv_at hl 0 rfl) ?_
        refine wx_getI hC hH h_o1 rfl f_X9_171 dX9_biteLine_44 ?_
        refine wx_psi hC hH hl (c_X9_find o3 (6 : Int32) (u2.1 o1 16) (u2.1 o1 9) h_o3) y_X9_find v_X9_find m_X9_238 rfl ⟨Nat.le_of_ble_eq_true rfl, Nat.le_of_ble_eq_true rfl⟩ ⟨Nat.le_refl _, Nat.le_refl _⟩ rfl (Nat.le_of_ble_eq_true rfl) dX9_biteLine_47 hF (fun i4 H locs hF hH => ?_)
        refine wx_istore_n hx hb dX9_biteLine_50 rfl hl (by decide) (fun ls hl => ?_)
        have hl : lv_has ls 2 [(1, .int i4), (0, .ref (ρ o1))] := hl
        refine lv_iload_n hx hb dX9_biteLine_51 rfl (lv_at hl 0 rfl) ?_
        refine lv_if_ge hx hb dX9_biteLine_52 (tgt := 61) rfl (fun h => ?_) (fun h => ?_)
        · have hF := wx_t h hF
          refine lv_aload_n hx hb dX9_biteLine_61 rfl (lv_at hl 1 rfl) ?_
          refine wx_getR hC hH h_o1 rfl f_X9_48 dX9_biteLine_62 hF (fun o5 h_o5 hF => ?_)
          refine lv_bipush hx hb dX9_biteLine_65 k_bipush_8 ?_
          refine lv_aload_n hx hb dX9_biteLine_67 rfl (lv_at hl 1 rfl) ?_
          refine wx_getI hC hH h_o1 rfl f_X9_210 dX9_biteLine_68 ?_
          refine lv_iadd hx hb dX9_biteLine_71 ?_
          refine lv_iload_n hx hb dX9_biteLine_72 rfl (lv_at hl 0 rfl) ?_
          refine wx_iast hC hH h_o5 ⟨rfl, rfl⟩ dX9_biteLine_73 hF (fun u6 H locs hF hH => ?_)
          refine lv_aload_n hx hb dX9_biteLine_74 rfl (lv_at hl 1 rfl) ?_
          refine wx_evv hC hH hl (c_X9_token o1 h_o1) y_X9_token v_X9_token h_o1 rfl m_X9_194 rfl ⟨Nat.le_of_ble_eq_true rfl, Nat.le_of_ble_eq_true rfl⟩ ⟨Nat.le_refl _, Nat.le_refl _⟩ rfl (Nat.le_of_ble_eq_true rfl) dX9_biteLine_75 hF (fun _ u7 H locs hF hH => ?_)
          refine lv_aload_n hx hb dX9_biteLine_78 rfl (lv_at hl 1 rfl) ?_
          refine lv_iconst hx hb dX9_biteLine_79 k_iconst_0 ?_
          refine lv_bipush hx hb dX9_biteLine_80 k_bipush_99 ?_
          refine wx_evi hC hH hl (c_X9_number o1 (0 : Int32) (99 : Int32) h_o1) y_X9_number v_X9_number h_o1 rfl m_X9_200 rfl ⟨Nat.le_of_ble_eq_true rfl, Nat.le_of_ble_eq_true rfl⟩ ⟨Nat.le_refl _, Nat.le_refl _⟩ rfl (Nat.le_of_ble_eq_true rfl) dX9_biteLine_82 hF (fun i9 u8 H locs hF hH => ?_)
          refine lv_if_ne hx hb dX9_biteLine_85 (tgt := 90) rfl (fun h => ?_) (fun h => ?_)
          · have hF := wx_f h hF
            refine lv_aload_n hx hb dX9_biteLine_90 rfl (lv_at hl 1 rfl) ?_
            refine wx_getR hC hH h_o1 rfl f_X9_51 dX9_biteLine_91 hF (fun o10 h_o10 hF => ?_)
            refine lv_bipush hx hb dX9_biteLine_94 k_bipush_8 ?_
            refine lv_aload_n hx hb dX9_biteLine_96 rfl (lv_at hl 1 rfl) ?_
            refine wx_getI hC hH h_o1 rfl f_X9_210 dX9_biteLine_97 ?_
            refine lv_iadd hx hb dX9_biteLine_100 ?_
            refine lv_aload_n hx hb dX9_biteLine_101 rfl (lv_at hl 1 rfl) ?_
            refine wx_getI hC hH h_o1 rfl f_X9_191 dX9_biteLine_102 ?_
            refine wx_iast hC hH h_o10 ⟨rfl, rfl⟩ dX9_biteLine_105 hF (fun u11 H locs hF hH => ?_)
            refine lv_aload_n hx hb dX9_biteLine_106 rfl (lv_at hl 1 rfl) ?_
            refine lv_dup hx hb dX9_biteLine_107 rfl ?_
            refine wx_getI hC hH h_o1 rfl f_X9_210 dX9_biteLine_108 ?_
            refine lv_iconst hx hb dX9_biteLine_111 k_iconst_1 ?_
            refine lv_iadd hx hb dX9_biteLine_112 ?_
            refine wx_putI hC hH h_o1 rfl f_X9_210 g_9_18 dX9_biteLine_113 hF (fun u12 H locs hF hH => ?_)
            refine lv_iconst hx hb dX9_biteLine_116 k_iconst_1 ?_
            exact wx_zret hC hH hr hlk dX9_biteLine_117 (Or.inr rfl) hF
          have hF := wx_t h hF
          refine lv_iconst hx hb dX9_biteLine_88 k_iconst_0 ?_
          exact wx_zret hC hH hr hlk dX9_biteLine_89 (Or.inl rfl) hF
        have hF := wx_f h hF
        refine lv_aload_n hx hb dX9_biteLine_55 rfl (lv_at hl 1 rfl) ?_
        refine lv_iconst hx hb dX9_biteLine_56 k_iconst_4 ?_
        refine wx_evi hC hH hl (c_X9_wrong o1 (4 : Int32) h_o1) y_X9_wrong v_X9_wrong h_o1 rfl m_X9_184 rfl ⟨Nat.le_of_ble_eq_true rfl, Nat.le_of_ble_eq_true rfl⟩ ⟨Nat.le_refl _, Nat.le_refl _⟩ rfl (Nat.le_of_ble_eq_true rfl) dX9_biteLine_57 hF (fun i14 u13 H locs hF hH => ?_)
        obtain ⟨h01, hF⟩ := wG_some hF
        exact wx_zret hC hH hr hlk dX9_biteLine_60 h01 hF
      have hF := wx_f h hF
      refine lv_aload_n hx hb dX9_biteLine_27 rfl (lv_at hl 0 rfl) ?_
      refine lv_iconst hx hb dX9_biteLine_28 k_iconst_1 ?_
      refine wx_evi hC hH hl (c_X9_wrong o1 (1 : Int32) h_o1) y_X9_wrong v_X9_wrong h_o1 rfl m_X9_184 rfl ⟨Nat.le_of_ble_eq_true rfl, Nat.le_of_ble_eq_true rfl⟩ ⟨Nat.le_refl _, Nat.le_refl _⟩ rfl (Nat.le_of_ble_eq_true rfl) dX9_biteLine_29 hF (fun i16 u15 H locs hF hH => ?_)
      obtain ⟨h01, hF⟩ := wG_some hF
      exact wx_zret hC hH hr hlk dX9_biteLine_32 h01 hF
    have hF := wx_t h hF
    refine lv_aload_n hx hb dX9_biteLine_9 rfl (lv_at hl 0 rfl) ?_
    refine lv_iconst hx hb dX9_biteLine_10 k_iconst_2 ?_
    refine wx_evi hC hH hl (c_X9_wrong o1 (2 : Int32) h_o1) y_X9_wrong v_X9_wrong h_o1 rfl m_X9_184 rfl ⟨Nat.le_of_ble_eq_true rfl, Nat.le_of_ble_eq_true rfl⟩ ⟨Nat.le_refl _, Nat.le_refl _⟩ rfl (Nat.le_of_ble_eq_true rfl) dX9_biteLine_11 hF (fun i18 u17 H locs hF hH => ?_)
    obtain ⟨h01, hF⟩ := wG_some hF
    exact wx_zret hC hH hr hlk dX9_biteLine_14 h01 hF
  exact key _ _ hH
def F_X9_onceLine (o1 : Nat) (i2 : Int32) (i3 : Int32) (i4 : Int32) (u0 : wSt) : Option (Int32 × wSt) :=
  wR (u0.2.2 o1 20) 15 (fun o5 => wN i2 o5 (fun j6 => if (u0.1 o5 j6) = 0 then (wR (u0.2.2 o1 20) 15 (fun o7 => wSZ u0 o7 i2 (1 : Int32) (fun (u8 : wSt) => wC (F_X9_token o1 u8) (fun _ (u9 : wSt) => wC (F_X9_number o1 i3 i4 u9) (fun (i11 : Int32) (u10 : wSt) => if i11 = 0 then (some ((0 : Int32), u10)) else (wR (u10.2.2 o1 21) 14 (fun o12 => wSI u10 o12 ((3 : Int32) + i2) (u10.1 o1 11) (fun (u13 : wSt) => some ((1 : Int32), u13))))))))) else (wC (F_X9_wrong o1 (3 : Int32) u0) (fun (i15 : Int32) (u14 : wSt) => wG (i15 = 0 ∨ i15 = 1) (some (i15, u14))))))
set_option maxRecDepth 100000 in
set_option maxHeartbeats 4000000 in
theorem c_X9_onceLine {l : Launch} {D : va_G} {κ : Nat → ClassId} {ρ : Nat → Nat} (o1 : Nat) (i2 : Int32) (i3 : Int32) (i4 : Int32) (h_o1 : (w_sh o1).1 = 9) : wMI l yX9_onceLine cX9_onceLine 4 .boolean (wRm 3 69) [.ref (ρ o1), .int i2, .int i3, .int i4] D κ ρ 1 (fun u => F_X9_onceLine o1 i2 i3 i4 u) := by
  refine wMI_of (F := fun u => F_X9_onceLine o1 i2 i3 i4 u) rfl (Nat.le_of_ble_eq_true rfl) (fun u0 z p e s m args below meth c ls A hF hC hr hlk hH hl => ?_)
  have hl : lv_has ls 4 [(0, .ref (ρ o1)), (1, .int i2), (2, .int i3), (3, .int i4)] := hl
  have hx := hC.1.1
  have hb := hC.1.2.1
  have hF : F_X9_onceLine o1 i2 i3 i4 u0 = some z := hF
  unfold F_X9_onceLine at hF
  change W p l e (wRm 3 69) s m args below meth c s.heap [] 0 0 (wQI below args s A D κ ρ 1 z) (F0 m 0 ls [])
  have key : ∀ (H : Heap) (locs : List Loc), wHp D κ ρ 1 A s.heap H locs u0 → W p l e (wRm 3 69) s m args below meth c H locs 0 0 (wQI below args s A D κ ρ 1 z) (F0 m 0 ls []) := by
    intro H locs hH
    refine lv_aload_n hx hb dX9_onceLine_0 rfl (lv_at hl 0 rfl) ?_
    refine wx_getR hC hH h_o1 rfl f_X9_20 dX9_onceLine_1 hF (fun o5 h_o5 hF => ?_)
    refine lv_iload_n hx hb dX9_onceLine_4 rfl (lv_at hl 1 rfl) ?_
    refine wx_zald hC hH h_o5 ⟨rfl, rfl⟩ dX9_onceLine_5 hF (fun j6 hF => ?_)
    refine lv_if_eq hx hb dX9_onceLine_6 (tgt := 15) rfl (fun h => ?_) (fun h => ?_)
    · have hF := wx_t h hF
      refine lv_aload_n hx hb dX9_onceLine_15 rfl (lv_at hl 0 rfl) ?_
      refine wx_getR hC hH h_o1 rfl f_X9_20 dX9_onceLine_16 hF (fun o7 h_o7 hF => ?_)
      refine lv_iload_n hx hb dX9_onceLine_19 rfl (lv_at hl 1 rfl) ?_
      refine lv_iconst hx hb dX9_onceLine_20 k_iconst_1 ?_
      refine wx_zast hC hH h_o7 ⟨rfl, rfl⟩ dX9_onceLine_21 hF (fun u8 H locs hF hH => ?_)
      refine lv_aload_n hx hb dX9_onceLine_22 rfl (lv_at hl 0 rfl) ?_
      refine wx_evv hC hH hl (c_X9_token o1 h_o1) y_X9_token v_X9_token h_o1 rfl m_X9_194 rfl ⟨Nat.le_of_ble_eq_true rfl, Nat.le_of_ble_eq_true rfl⟩ ⟨Nat.le_refl _, Nat.le_refl _⟩ rfl (Nat.le_of_ble_eq_true rfl) dX9_onceLine_23 hF (fun _ u9 H locs hF hH => ?_)
      refine lv_aload_n hx hb dX9_onceLine_26 rfl (lv_at hl 0 rfl) ?_
      refine lv_iload_n hx hb dX9_onceLine_27 rfl (lv_at hl 2 rfl) ?_
      refine lv_iload_n hx hb dX9_onceLine_28 rfl (lv_at hl 3 rfl) ?_
      refine wx_evi hC hH hl (c_X9_number o1 i3 i4 h_o1) y_X9_number v_X9_number h_o1 rfl m_X9_200 rfl ⟨Nat.le_of_ble_eq_true rfl, Nat.le_of_ble_eq_true rfl⟩ ⟨Nat.le_refl _, Nat.le_refl _⟩ rfl (Nat.le_of_ble_eq_true rfl) dX9_onceLine_29 hF (fun i11 u10 H locs hF hH => ?_)
      refine lv_if_ne hx hb dX9_onceLine_32 (tgt := 37) rfl (fun h => ?_) (fun h => ?_)
      · have hF := wx_f h hF
        refine lv_aload_n hx hb dX9_onceLine_37 rfl (lv_at hl 0 rfl) ?_
        refine wx_getR hC hH h_o1 rfl f_X9_24 dX9_onceLine_38 hF (fun o12 h_o12 hF => ?_)
        refine lv_iconst hx hb dX9_onceLine_41 k_iconst_3 ?_
        refine lv_iload_n hx hb dX9_onceLine_42 rfl (lv_at hl 1 rfl) ?_
        refine lv_iadd hx hb dX9_onceLine_43 ?_
        refine lv_aload_n hx hb dX9_onceLine_44 rfl (lv_at hl 0 rfl) ?_
        refine wx_getI hC hH h_o1 rfl f_X9_191 dX9_onceLine_45 ?_
        refine wx_iast hC hH h_o12 ⟨rfl, rfl⟩ dX9_onceLine_48 hF (fun u13 H locs hF hH => ?_)
        refine lv_iconst hx hb dX9_onceLine_49 k_iconst_1 ?_
        exact wx_zret hC hH hr hlk dX9_onceLine_50 (Or.inr rfl) hF
      have hF := wx_t h hF
      refine lv_iconst hx hb dX9_onceLine_35 k_iconst_0 ?_
      exact wx_zret hC hH hr hlk dX9_onceLine_36 (Or.inl rfl) hF
    have hF := wx_f h hF
    refine lv_aload_n hx hb dX9_onceLine_9 rfl (lv_at hl 0 rfl) ?_
    refine lv_iconst hx hb dX9_onceLine_10 k_iconst_3 ?_
    refine wx_evi hC hH hl (c_X9_wrong o1 (3 : Int32) h_o1) y_X9_wrong v_X9_wrong h_o1 rfl m_X9_184 rfl ⟨Nat.le_of_ble_eq_true rfl, Nat.le_of_ble_eq_true rfl⟩ ⟨Nat.le_refl _, Nat.le_refl _⟩ rfl (Nat.le_of_ble_eq_true rfl) dX9_onceLine_11 hF (fun i15 u14 H locs hF hH => ?_)
    obtain ⟨h01, hF⟩ := wG_some hF
    exact wx_zret hC hH hr hlk dX9_onceLine_14 h01 hF
  exact key _ _ hH
def F_X9_waitsFor (o1 : Nat) (i2 : Int32) (u0 : wSt) : Option (Unit × wSt) :=
  wR (u0.2.2 o1 38) 14 (fun o3 => wSI u0 o3 (u0.1 o1 40) i2 (fun (u4 : wSt) => wB (w_sI u4 o1 40 ((u4.1 o1 40) + (1 : Int32))) (fun (u5 : wSt) => some ((), u5))))
set_option maxRecDepth 100000 in
set_option maxHeartbeats 4000000 in
theorem c_X9_waitsFor {l : Launch} {D : va_G} {κ : Nat → ClassId} {ρ : Nat → Nat} (o1 : Nat) (i2 : Int32) (h_o1 : (w_sh o1).1 = 9) : wMV l yX9_waitsFor cX9_waitsFor 2 (wRm 0 0) [.ref (ρ o1), .int i2] D κ ρ 1 (fun u => F_X9_waitsFor o1 i2 u) := by
  refine wMV_of (F := fun u => F_X9_waitsFor o1 i2 u) rfl (Nat.le_of_ble_eq_true rfl) (fun u0 z p e s m args below meth c ls A hF hC hr hlk hH hl => ?_)
  have hl : lv_has ls 2 [(0, .ref (ρ o1)), (1, .int i2)] := hl
  have hx := hC.1.1
  have hb := hC.1.2.1
  have hF : F_X9_waitsFor o1 i2 u0 = some z := hF
  unfold F_X9_waitsFor at hF
  change W p l e (wRm 0 0) s m args below meth c s.heap [] 0 0 (wQV below args s A D κ ρ 1 z) (F0 m 0 ls [])
  have key : ∀ (H : Heap) (locs : List Loc), wHp D κ ρ 1 A s.heap H locs u0 → W p l e (wRm 0 0) s m args below meth c H locs 0 0 (wQV below args s A D κ ρ 1 z) (F0 m 0 ls []) := by
    intro H locs hH
    refine lv_aload_n hx hb dX9_waitsFor_0 rfl (lv_at hl 0 rfl) ?_
    refine wx_getR hC hH h_o1 rfl f_X9_75 dX9_waitsFor_1 hF (fun o3 h_o3 hF => ?_)
    refine lv_aload_n hx hb dX9_waitsFor_4 rfl (lv_at hl 0 rfl) ?_
    refine wx_getI hC hH h_o1 rfl f_X9_268 dX9_waitsFor_5 ?_
    refine lv_iload_n hx hb dX9_waitsFor_8 rfl (lv_at hl 1 rfl) ?_
    refine wx_iast hC hH h_o3 ⟨rfl, rfl⟩ dX9_waitsFor_9 hF (fun u4 H locs hF hH => ?_)
    refine lv_aload_n hx hb dX9_waitsFor_10 rfl (lv_at hl 0 rfl) ?_
    refine lv_dup hx hb dX9_waitsFor_11 rfl ?_
    refine wx_getI hC hH h_o1 rfl f_X9_268 dX9_waitsFor_12 ?_
    refine lv_iconst hx hb dX9_waitsFor_15 k_iconst_1 ?_
    refine lv_iadd hx hb dX9_waitsFor_16 ?_
    refine wx_putI hC hH h_o1 rfl f_X9_268 g_9_40 dX9_waitsFor_17 hF (fun u5 H locs hF hH => ?_)
    exact wx_vret hC hH hr hlk dX9_waitsFor_20 hF
  exact key _ _ hH
def F_X9_isCounted (o1 : Nat) (u0 : wSt) : Option (Int32 × wSt) :=
  if (u0.1 o1 43) = (64 : Int32) then (wC (F_X9_wrong o1 (2 : Int32) u0) (fun (i4 : Int32) (u3 : wSt) => wG (i4 = 0 ∨ i4 = 1) (some (i4, u3)))) else (wB (w_sI u0 o1 43 ((u0.1 o1 43) + (1 : Int32))) (fun (u2 : wSt) => some ((1 : Int32), u2)))
set_option maxRecDepth 100000 in
set_option maxHeartbeats 4000000 in
theorem c_X9_isCounted {l : Launch} {D : va_G} {κ : Nat → ClassId} {ρ : Nat → Nat} (o1 : Nat) (h_o1 : (w_sh o1).1 = 9) : wMI l yX9_isCounted cX9_isCounted 1 .boolean (wRm 1 21) [.ref (ρ o1)] D κ ρ 1 (fun u => F_X9_isCounted o1 u) := by
  refine wMI_of (F := fun u => F_X9_isCounted o1 u) rfl (Nat.le_of_ble_eq_true rfl) (fun u0 z p e s m args below meth c ls A hF hC hr hlk hH hl => ?_)
  have hl : lv_has ls 1 [(0, .ref (ρ o1))] := hl
  have hx := hC.1.1
  have hb := hC.1.2.1
  have hF : F_X9_isCounted o1 u0 = some z := hF
  unfold F_X9_isCounted at hF
  change W p l e (wRm 1 21) s m args below meth c s.heap [] 0 0 (wQI below args s A D κ ρ 1 z) (F0 m 0 ls [])
  have key : ∀ (H : Heap) (locs : List Loc), wHp D κ ρ 1 A s.heap H locs u0 → W p l e (wRm 1 21) s m args below meth c H locs 0 0 (wQI below args s A D κ ρ 1 z) (F0 m 0 ls []) := by
    intro H locs hH
    refine lv_aload_n hx hb dX9_isCounted_0 rfl (lv_at hl 0 rfl) ?_
    refine wx_getI hC hH h_o1 rfl f_X9_216 dX9_isCounted_1 ?_
    refine lv_bipush hx hb dX9_isCounted_4 k_bipush_64 ?_
    refine lv_icmp_ne hx hb dX9_isCounted_6 (tgt := 15) rfl (fun h => ?_) (fun h => ?_)
    · have hF := wx_f h hF
      refine lv_aload_n hx hb dX9_isCounted_15 rfl (lv_at hl 0 rfl) ?_
      refine lv_dup hx hb dX9_isCounted_16 rfl ?_
      refine wx_getI hC hH h_o1 rfl f_X9_216 dX9_isCounted_17 ?_
      refine lv_iconst hx hb dX9_isCounted_20 k_iconst_1 ?_
      refine lv_iadd hx hb dX9_isCounted_21 ?_
      refine wx_putI hC hH h_o1 rfl f_X9_216 g_9_43 dX9_isCounted_22 hF (fun u2 H locs hF hH => ?_)
      refine lv_iconst hx hb dX9_isCounted_25 k_iconst_1 ?_
      exact wx_zret hC hH hr hlk dX9_isCounted_26 (Or.inr rfl) hF
    have hF := wx_t h hF
    refine lv_aload_n hx hb dX9_isCounted_9 rfl (lv_at hl 0 rfl) ?_
    refine lv_iconst hx hb dX9_isCounted_10 k_iconst_2 ?_
    refine wx_evi hC hH hl (c_X9_wrong o1 (2 : Int32) h_o1) y_X9_wrong v_X9_wrong h_o1 rfl m_X9_184 rfl ⟨Nat.le_of_ble_eq_true rfl, Nat.le_of_ble_eq_true rfl⟩ ⟨Nat.le_refl _, Nat.le_refl _⟩ rfl (Nat.le_of_ble_eq_true rfl) dX9_isCounted_11 hF (fun i4 u3 H locs hF hH => ?_)
    obtain ⟨h01, hF⟩ := wG_some hF
    exact wx_zret hC hH hr hlk dX9_isCounted_14 h01 hF
  exact key _ _ hH
def F_X9_nameMet (o1 : Nat) (u0 : wSt) : Option Int32 :=
  if (u0.1 o1 8) = (1 : Int32) then (if (u0.1 o1 9) < (13 : Int32) then (some ((-1 : Int32))) else (some (((u0.1 o1 9) - (13 : Int32))))) else (some ((-1 : Int32)))
set_option maxRecDepth 100000 in
set_option maxHeartbeats 4000000 in
theorem c_X9_nameMet {l : Launch} {D : va_G} {κ : Nat → ClassId} {ρ : Nat → Nat} (o1 : Nat) (h_o1 : (w_sh o1).1 = 9) : wMI l yX9_nameMet cX9_nameMet 1 .int (wRm 0 0) [.ref (ρ o1)] D κ ρ 1 (fun u => wPu (F_X9_nameMet o1 u) u) := by
  refine wMP_of (F := fun u => F_X9_nameMet o1 u) rfl (Nat.le_of_ble_eq_true rfl) (fun u0 z p e s m args below meth c ls A hF hC hr hlk hH hl => ?_)
  have hl : lv_has ls 1 [(0, .ref (ρ o1))] := hl
  have hx := hC.1.1
  have hb := hC.1.2.1
  have hF : F_X9_nameMet o1 u0 = some z := hF
  unfold F_X9_nameMet at hF
  change W p l e (wRm 0 0) s m args below meth c s.heap [] 0 0 (wQI below args s A D κ ρ 1 (z, u0)) (F0 m 0 ls [])
  have key : ∀ (H : Heap) (locs : List Loc), wHp D κ ρ 1 A s.heap H locs u0 → W p l e (wRm 0 0) s m args below meth c H locs 0 0 (wQI below args s A D κ ρ 1 (z, u0)) (F0 m 0 ls []) := by
    intro H locs hH
    refine lv_aload_n hx hb dX9_nameMet_0 rfl (lv_at hl 0 rfl) ?_
    refine wx_getI hC hH h_o1 rfl f_X9_160 dX9_nameMet_1 ?_
    refine lv_iconst hx hb dX9_nameMet_4 k_iconst_1 ?_
    refine lv_icmp_ne hx hb dX9_nameMet_5 (tgt := 27) rfl (fun h => ?_) (fun h => ?_)
    · have hF := wx_f h hF
      refine lv_iconst hx hb dX9_nameMet_27 k_iconst_m1 ?_
      exact wx_iret hC hH hr hlk dX9_nameMet_28 (wx_pr hF)
    have hF := wx_t h hF
    refine lv_aload_n hx hb dX9_nameMet_8 rfl (lv_at hl 0 rfl) ?_
    refine wx_getI hC hH h_o1 rfl f_X9_171 dX9_nameMet_9 ?_
    refine lv_bipush hx hb dX9_nameMet_12 k_bipush_13 ?_
    refine lv_icmp_lt hx hb dX9_nameMet_14 (tgt := 27) rfl (fun h => ?_) (fun h => ?_)
    · have hF := wx_t h hF
      refine lv_iconst hx hb dX9_nameMet_27 k_iconst_m1 ?_
      exact wx_iret hC hH hr hlk dX9_nameMet_28 (wx_pr hF)
    have hF := wx_f h hF
    refine lv_aload_n hx hb dX9_nameMet_17 rfl (lv_at hl 0 rfl) ?_
    refine wx_getI hC hH h_o1 rfl f_X9_171 dX9_nameMet_18 ?_
    refine lv_bipush hx hb dX9_nameMet_21 k_bipush_13 ?_
    refine lv_isub hx hb dX9_nameMet_23 ?_
    refine lv_goto hx hb dX9_nameMet_24 (tgt := 28) rfl ?_
    exact wx_iret hC hH hr hlk dX9_nameMet_28 (wx_pr hF)
  exact key _ _ hH

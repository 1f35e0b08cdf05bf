def F_X0_begin (o1 : Nat) (o2 : Nat) (i3 : Int32) (u0 : wSt) : Option (Unit × wSt) :=
  wB (w_sR u0 o1 8 (o2 + 1)) (fun (u4 : wSt) => wB (w_sI u4 o1 0 i3) (fun (u5 : wSt) => wB (w_sI u5 o1 1 (0 : Int32)) (fun (u6 : wSt) => wB (w_sI u6 o1 2 (0 : Int32)) (fun (u7 : wSt) => wB (w_sI u7 o1 3 (0 : Int32)) (fun (u8 : wSt) => wB (w_sI u8 o1 4 (-1 : Int32)) (fun (u9 : wSt) => wB (w_sI u9 o1 5 (0 : Int32)) (fun (u10 : wSt) => wB (w_sI u10 o1 6 (-1 : Int32)) (fun (u11 : wSt) => some ((), u11)))))))))
set_option maxRecDepth 100000 in
set_option maxHeartbeats 4000000 in
theorem c_X0_begin {l : Launch} {D : va_G} {κ : Nat → ClassId} {ρ : Nat → Nat} (o1 : Nat) (o2 : Nat) (i3 : Int32) (h_o1 : (w_sh o1).1 = 0) (h_o2 : (w_sh o2).1 = 6) : wMV l yX0_begin cX0_begin 3 (wRm 0 0) [.ref (ρ o1), .ref (ρ o2), .int i3] D κ ρ 0 (fun u => F_X0_begin o1 o2 i3 u) := by
  refine wMV_of (F := fun u => F_X0_begin o1 o2 i3 u) rfl (Nat.le_of_ble_eq_true rfl) (fun u0 z p e s m args below meth c ls A hF hC hr hlk hH hl => ?_)
  have hl : lv_has ls 3 [(0, .ref (ρ o1)), (1, .ref (ρ o2)), (2, .int i3)] := hl
  have hx := hC.1.1
  have hb := hC.1.2.1
  have hF : F_X0_begin o1 o2 i3 u0 = some z := hF
  unfold F_X0_begin at hF
  change W p l e (wRm 0 0) s m args below meth c s.heap [] 0 0 (wQV below args s A D κ ρ 0 z) (F0 m 0 ls [])
  have key : ∀ (H : Heap) (locs : List Loc), wHp D κ ρ 0 A s.heap H locs u0 → W p l e (wRm 0 0) s m args below meth c H locs 0 0 (wQV below args s A D κ ρ 0 z) (F0 m 0 ls []) := by
    intro H locs hH
    refine lv_aload_n hx hb dX0_begin_0 rfl (lv_at hl 0 rfl) ?_
    refine lv_aload_n hx hb dX0_begin_1 rfl (lv_at hl 1 rfl) ?_
    refine wx_putR hC hH h_o1 rfl f_X0_41 g_0_8 dX0_begin_2 hF (fun u4 H locs hF hH => ?_)
    refine lv_aload_n hx hb dX0_begin_5 rfl (lv_at hl 0 rfl) ?_
    refine lv_iload_n hx hb dX0_begin_6 rfl (lv_at hl 2 rfl) ?_
    refine wx_putI hC hH h_o1 rfl f_X0_9 g_0_0 dX0_begin_7 hF (fun u5 H locs hF hH => ?_)
    refine lv_aload_n hx hb dX0_begin_10 rfl (lv_at hl 0 rfl) ?_
    refine lv_iconst hx hb dX0_begin_11 k_iconst_0 ?_
    refine wx_putZ hC hH h_o1 rfl f_X0_15 g_0_1 dX0_begin_12 (Or.inl rfl) hF (fun u6 H locs hF hH => ?_)
    refine lv_aload_n hx hb dX0_begin_15 rfl (lv_at hl 0 rfl) ?_
    refine lv_iconst hx hb dX0_begin_16 k_iconst_0 ?_
    refine wx_putZ hC hH h_o1 rfl f_X0_19 g_0_2 dX0_begin_17 (Or.inl rfl) hF (fun u7 H locs hF hH => ?_)
    refine lv_aload_n hx hb dX0_begin_20 rfl (lv_at hl 0 rfl) ?_
    refine lv_iconst hx hb dX0_begin_21 k_iconst_0 ?_
    refine wx_putZ hC hH h_o1 rfl f_X0_22 g_0_3 dX0_begin_22 (Or.inl rfl) hF (fun u8 H locs hF hH => ?_)
    refine lv_aload_n hx hb dX0_begin_25 rfl (lv_at hl 0 rfl) ?_
    refine lv_iconst hx hb dX0_begin_26 k_iconst_m1 ?_
    refine wx_putI hC hH h_o1 rfl f_X0_25 g_0_4 dX0_begin_27 hF (fun u9 H locs hF hH => ?_)
    refine lv_aload_n hx hb dX0_begin_30 rfl (lv_at hl 0 rfl) ?_
    refine lv_iconst hx hb dX0_begin_31 k_iconst_0 ?_
    refine wx_putI hC hH h_o1 rfl f_X0_28 g_0_5 dX0_begin_32 hF (fun u10 H locs hF hH => ?_)
    refine lv_aload_n hx hb dX0_begin_35 rfl (lv_at hl 0 rfl) ?_
    refine lv_iconst hx hb dX0_begin_36 k_iconst_m1 ?_
    refine wx_putI hC hH h_o1 rfl f_X0_31 g_0_6 dX0_begin_37 hF (fun u11 H locs hF hH => ?_)
    exact wx_vret hC hH hr hlk dX0_begin_40 hF
  exact key _ _ hH
def F_X0_sits (o1 : Nat) (o2 : Nat) (i3 : Int32) (u0 : wSt) : Option Int32 :=
  if ((((u0.1 o2 2) ||| (u0.1 o1 5)) >>> (i3 &&& 31)) &&& (1 : Int32)) = 0 then (some ((1 : Int32))) else (some ((0 : Int32)))
set_option maxRecDepth 100000 in
set_option maxHeartbeats 4000000 in
theorem c_X0_sits {l : Launch} {D : va_G} {κ : Nat → ClassId} {ρ : Nat → Nat} (o1 : Nat) (o2 : Nat) (i3 : Int32) (h_o1 : (w_sh o1).1 = 0) (h_o2 : (w_sh o2).1 = 3) : wMI l yX0_sits cX0_sits 3 .boolean (wRm 0 0) [.ref (ρ o1), .ref (ρ o2), .int i3] D κ ρ 0 (fun u => wPu (F_X0_sits o1 o2 i3 u) u) := by
  refine wMP_of (F := fun u => F_X0_sits o1 o2 i3 u) rfl (Nat.le_of_ble_eq_true rfl) (fun u0 z p e s m args below meth c ls A hF hC hr hlk hH hl => ?_)
  have hl : lv_has ls 3 [(0, .ref (ρ o1)), (1, .ref (ρ o2)), (2, .int i3)] := hl
  have hx := hC.1.1
  have hb := hC.1.2.1
  have hF : F_X0_sits o1 o2 i3 u0 = some z := hF
  unfold F_X0_sits at hF
  change W p l e (wRm 0 0) s m args below meth c s.heap [] 0 0 (wQI below args s A D κ ρ 0 (z, u0)) (F0 m 0 ls [])
  have key : ∀ (H : Heap) (locs : List Loc), wHp D κ ρ 0 A s.heap H locs u0 → W p l e (wRm 0 0) s m args below meth c H locs 0 0 (wQI below args s A D κ ρ 0 (z, u0)) (F0 m 0 ls []) := by
    intro H locs hH
    refine lv_aload_n hx hb dX0_sits_0 rfl (lv_at hl 1 rfl) ?_
    refine wx_getI hC hH h_o2 rfl f_X0_93 dX0_sits_1 ?_
    refine lv_aload_n hx hb dX0_sits_4 rfl (lv_at hl 0 rfl) ?_
    refine wx_getI hC hH h_o1 rfl f_X0_28 dX0_sits_5 ?_
    refine lv_ior hx hb dX0_sits_8 ?_
    refine lv_iload_n hx hb dX0_sits_9 rfl (lv_at hl 2 rfl) ?_
    refine lv_ishr hx hb dX0_sits_10 ?_
    refine lv_iconst hx hb dX0_sits_11 k_iconst_1 ?_
    refine lv_iand hx hb dX0_sits_12 ?_
    refine lv_if_ne hx hb dX0_sits_13 (tgt := 20) rfl (fun h => ?_) (fun h => ?_)
    · have hF := wx_f h hF
      refine lv_iconst hx hb dX0_sits_20 k_iconst_0 ?_
      exact wx_zret hC hH hr hlk dX0_sits_21 (Or.inl rfl) (wx_pr hF)
    have hF := wx_t h hF
    refine lv_iconst hx hb dX0_sits_16 k_iconst_1 ?_
    refine lv_goto hx hb dX0_sits_17 (tgt := 21) rfl ?_
    exact wx_zret hC hH hr hlk dX0_sits_21 (Or.inr rfl) (wx_pr hF)
  exact key _ _ hH
def F_X0_guestAtBowl_j61 (i7 : Int32) : Option ((Int32) ⊕ Int32) :=
  wB (i7 + (1 : Int32)) (fun (i12 : Int32) => some (.inl i12))
def F_X0_guestAtBowl_b29 (u0 : wSt) (o1 : Nat) (o2 : Nat) (i5 : Int32) (i7 : Int32) : Option ((Int32) ⊕ Int32) :=
  wR (u0.2.2 o1 8) 6 (fun o8 => if (u0.1 o8 1) ≤ i7 then (some (.inr ((-1 : Int32)))) else (wR (u0.2.2 o2 4) 10 (fun o9 => wN i7 o9 (fun j10 => wJ (X := Unit) (if (u0.1 o9 j10) = i5 then (wP (F_X0_sits o1 o2 i7 u0) (fun (i13 : Int32) => if i13 = 0 then (some (.inl ())) else (some (.inr (.inr (i7)))))) else (some (.inl ()))) (fun x => F_X0_guestAtBowl_j61 i7)))))
def F_X0_guestAtBowl_j26 (u0 : wSt) (o1 : Nat) (o2 : Nat) (i5 : Int32) : Option Int32 :=
  wL (S := Int32) (fun x => F_X0_guestAtBowl_b29 u0 o1 o2 i5 x) wFu (0 : Int32)
def F_X0_guestAtBowl (o1 : Nat) (o2 : Nat) (u0 : wSt) : Option Int32 :=
  wR (u0.2.2 o1 8) 6 (fun o3 => wJ (X := Int32) (if (u0.1 o3 1) ≤ 0 then (some (.inl (-1 : Int32))) else (wR (u0.2.2 o1 8) 6 (fun o14 => wG (¬ (u0.1 o14 1) = 0) (some (.inl (w_rem (u0.1 o2 0) (u0.1 o14 1))))))) (fun x => F_X0_guestAtBowl_j26 u0 o1 o2 x))
set_option maxRecDepth 100000 in
set_option maxHeartbeats 4000000 in
theorem c_X0_guestAtBowl {l : Launch} {D : va_G} {κ : Nat → ClassId} {ρ : Nat → Nat} (o1 : Nat) (o2 : Nat) (h_o1 : (w_sh o1).1 = 0) (h_o2 : (w_sh o2).1 = 3) : wMI l yX0_guestAtBowl cX0_guestAtBowl 4 .int (wRm 1 22) [.ref (ρ o1), .ref (ρ o2)] D κ ρ 0 (fun u => wPu (F_X0_guestAtBowl o1 o2 u) u) := by
  refine wMP_of (F := fun u => F_X0_guestAtBowl o1 o2 u) rfl (Nat.le_of_ble_eq_true rfl) (fun u0 z p e s m args below meth c ls A hF hC hr hlk hH hl => ?_)
  have hl : lv_has ls 4 [(0, .ref (ρ o1)), (1, .ref (ρ o2))] := hl
  have hx := hC.1.1
  have hb := hC.1.2.1
  have hF : F_X0_guestAtBowl o1 o2 u0 = some z := hF
  unfold F_X0_guestAtBowl at hF
  change W p l e (wRm 1 22) s m args below meth c s.heap [] 0 0 (wQI below args s A D κ ρ 0 (z, u0)) (F0 m 0 ls [])
  have key : ∀ (H : Heap) (locs : List Loc), wHp D κ ρ 0 A s.heap H locs u0 → W p l e (wRm 1 22) s m args below meth c H locs 0 0 (wQI below args s A D κ ρ 0 (z, u0)) (F0 m 0 ls []) := by
    intro H locs hH
    refine lv_aload_n hx hb dX0_guestAtBowl_0 rfl (lv_at hl 0 rfl) ?_
    refine wx_getR hC hH h_o1 rfl f_X0_41 dX0_guestAtBowl_1 hF (fun o3 h_o3 hF => ?_)
    refine wx_getI hC hH h_o3 rfl f_X0_78 dX0_guestAtBowl_4 ?_
    obtain ⟨q4_, hF, hq4⟩ := wJ_some hF
    have hJ26 : ∀ (i5 : Int32) (H : Heap) (locs : List Loc) (ls : Array Slot), F_X0_guestAtBowl_j26 u0 o1 o2 i5 = some z → wHp D κ ρ 0 A s.heap H locs u0 → lv_has ls 4 [(0, .ref (ρ o1)), (1, .ref (ρ o2))] → W p l e (wRm 1 22) s m args below meth c H locs 0 0 (wQI below args s A D κ ρ 0 (z, u0)) (F0 m 26 ls [.int i5]) := by
      intro i5 H locs ls hF hH hl
      unfold F_X0_guestAtBowl_j26 at hF
      refine wx_istore_n hx hb dX0_guestAtBowl_26 rfl hl (by decide) (fun ls hl => ?_)
      have hl : lv_has ls 4 [(2, .int i5), (0, .ref (ρ o1)), (1, .ref (ρ o2))] := hl
      refine lv_iconst hx hb dX0_guestAtBowl_27 k_iconst_0 ?_
      refine wx_istore_n hx hb dX0_guestAtBowl_28 rfl hl (by decide) (fun ls hl => ?_)
      have hl : lv_has ls 4 [(3, .int (0 : Int32)), (2, .int i5), (0, .ref (ρ o1)), (1, .ref (ρ o2))] := hl
      have hL29 : ∀ (k6_ : Nat) (i7 : Int32) (H : Heap) (locs : List Loc) (ls : Array Slot), wL (S := Int32) (fun x => F_X0_guestAtBowl_b29 u0 o1 o2 i5 x) k6_ i7 = some z → wHp D κ ρ 0 A s.heap H locs u0 → lv_has ls 4 [(0, .ref (ρ o1)), (1, .ref (ρ o2)), (2, .int i5), (3, .int i7)] → W p l e (wRm 1 22) s m args below meth c H locs 0 0 (wQI below args s A D κ ρ 0 (z, u0)) (F0 m 29 ls []) := by
        intro k6_
        induction k6_ with
        | zero => intro i7 H locs ls hF; exact wL_zero hF
        | succ k6_ ih6 =>
          intro i7 H locs ls hF hH hl
          obtain ⟨q6_, hF, hq6⟩ := wL_some hF
          have hF : F_X0_guestAtBowl_b29 u0 o1 o2 i5 i7 = some q6_ := hF
          unfold F_X0_guestAtBowl_b29 at hF
          refine lv_iload_n hx hb dX0_guestAtBowl_29 rfl (lv_at hl 3 rfl) ?_
          refine lv_aload_n hx hb dX0_guestAtBowl_30 rfl (lv_at hl 0 rfl) ?_
          refine wx_getR hC hH h_o1 rfl f_X0_41 dX0_guestAtBowl_31 hF (fun o8 h_o8 hF => ?_)
          refine wx_getI hC hH h_o8 rfl f_X0_78 dX0_guestAtBowl_34 ?_
          refine lv_icmp_ge hx hb dX0_guestAtBowl_37 (tgt := 67) rfl (fun h => ?_) (fun h => ?_)
          · have hF := wx_t h hF
            refine lv_iconst hx hb dX0_guestAtBowl_67 k_iconst_m1 ?_
            have hF := wJ_r hq6 hF
            exact wx_iret hC hH hr hlk dX0_guestAtBowl_68 (wx_pr hF)
          have hF := wx_f h hF
          refine lv_aload_n hx hb dX0_guestAtBowl_40 rfl (lv_at hl 1 rfl) ?_
          refine wx_getR hC hH h_o2 rfl f_X0_83 dX0_guestAtBowl_41 hF (fun o9 h_o9 hF => ?_)
          refine lv_iload_n hx hb dX0_guestAtBowl_44 rfl (lv_at hl 3 rfl) ?_
          refine wx_iald hC hH h_o9 ⟨rfl, rfl⟩ dX0_guestAtBowl_45 hF (fun j10 hF => ?_)
          refine lv_iload_n hx hb dX0_guestAtBowl_46 rfl (lv_at hl 2 rfl) ?_
          obtain ⟨q11_, hF, hq11⟩ := wJ_some hF
          have hJ61 : ∀ (H : Heap) (locs : List Loc) (ls : Array Slot), F_X0_guestAtBowl_j61 i7 = some q6_ → wHp D κ ρ 0 A s.heap H locs u0 → lv_has ls 4 [(0, .ref (ρ o1)), (1, .ref (ρ o2)), (2, .int i5), (3, .int i7)] → W p l e (wRm 1 22) s m args below meth c H locs 0 0 (wQI below args s A D κ ρ 0 (z, u0)) (F0 m 61 ls []) := by
            intro H locs ls hF hH hl
            unfold F_X0_guestAtBowl_j61 at hF
            refine wx_iinc hx hb dX0_guestAtBowl_61 k_iconst_1 hl (k := 3) rfl (by decide) hF (fun i12 ls hF hl => ?_)
            have hl : lv_has ls 4 [(3, .int i12), (0, .ref (ρ o1)), (1, .ref (ρ o2)), (2, .int i5)] := hl
            refine lv_goto hx hb dX0_guestAtBowl_64 (tgt := 29) rfl ?_
            have hF := wJ_l hq6 hF
            exact ih6 i12 H locs ls hF hH (lv_sub hl [1, 2, 3, 0] rfl)
          refine lv_icmp_ne hx hb dX0_guestAtBowl_47 (tgt := 61) rfl (fun h => ?_) (fun h => ?_)
          · have hF := wx_f h hF
            have hF := wJ_l hq11 hF
            exact hJ61 H locs ls hF hH (lv_sub hl [0, 1, 2, 3] rfl)
          have hF := wx_t h hF
          refine lv_aload_n hx hb dX0_guestAtBowl_50 rfl (lv_at hl 0 rfl) ?_
          refine lv_aload_n hx hb dX0_guestAtBowl_51 rfl (lv_at hl 1 rfl) ?_
          refine lv_iload_n hx hb dX0_guestAtBowl_52 rfl (lv_at hl 3 rfl) ?_
          refine wx_pvi hC hH hl (c_X0_sits o1 o2 i7 h_o1 h_o2) y_X0_sits v_X0_sits h_o1 rfl m_X0_86 rfl ⟨Nat.le_of_ble_eq_true rfl, Nat.le_of_ble_eq_true rfl⟩ ⟨Nat.le_refl _, Nat.le_refl _⟩ rfl (Nat.le_of_ble_eq_true rfl) dX0_guestAtBowl_53 hF (fun i13 H locs hF hH => ?_)
          refine lv_if_eq hx hb dX0_guestAtBowl_56 (tgt := 61) rfl (fun h => ?_) (fun h => ?_)
          · have hF := wx_t h hF
            have hF := wJ_l hq11 hF
            exact hJ61 H locs ls hF hH (lv_sub hl [0, 1, 2, 3] rfl)
          have hF := wx_f h hF
          refine lv_iload_n hx hb dX0_guestAtBowl_59 rfl (lv_at hl 3 rfl) ?_
          have hF := wJ_r hq11 hF
          have hF := wJ_r hq6 hF
          exact wx_iret hC hH hr hlk dX0_guestAtBowl_60 (wx_pr hF)
      exact hL29 wFu (0 : Int32) H locs ls hF hH (lv_sub hl [2, 3, 1, 0] rfl)
    refine lv_if_le hx hb dX0_guestAtBowl_7 (tgt := 25) rfl (fun h => ?_) (fun h => ?_)
    · have hF := wx_t h hF
      refine lv_iconst hx hb dX0_guestAtBowl_25 k_iconst_m1 ?_
      have hF := wJ_l hq4 hF
      exact hJ26 (-1 : Int32) H locs ls hF hH (lv_sub hl [0, 1] rfl)
    have hF := wx_f h hF
    refine lv_aload_n hx hb dX0_guestAtBowl_10 rfl (lv_at hl 1 rfl) ?_
    refine wx_getI hC hH h_o2 rfl f_X0_73 dX0_guestAtBowl_11 ?_
    refine lv_aload_n hx hb dX0_guestAtBowl_14 rfl (lv_at hl 0 rfl) ?_
    refine wx_getR hC hH h_o1 rfl f_X0_41 dX0_guestAtBowl_15 hF (fun o14 h_o14 hF => ?_)
    refine wx_getI hC hH h_o14 rfl f_X0_78 dX0_guestAtBowl_18 ?_
    obtain ⟨h0, hF⟩ := wG_some hF
    refine wx_irem hx hb dX0_guestAtBowl_21 h0 ?_
    refine lv_goto hx hb dX0_guestAtBowl_22 (tgt := 26) rfl ?_
    have hF := wJ_l hq4 hF
    exact hJ26 (w_rem (u0.1 o2 0) (u0.1 o14 1)) H locs ls hF hH (lv_sub hl [0, 1] rfl)
  exact key _ _ hH
def F_X0_fruitOnTop (o1 : Nat) (o2 : Nat) (u0 : wSt) : Option Int32 :=
  wR (u0.2.2 o1 8) 6 (fun o3 => if (u0.1 o3 2) ≤ 0 then (some ((-1 : Int32))) else (wR (u0.2.2 o1 8) 6 (fun o4 => wG (¬ (u0.1 o4 2) = 0) (some ((w_rem (u0.1 o2 0) (u0.1 o4 2)))))))
set_option maxRecDepth 100000 in
set_option maxHeartbeats 4000000 in
theorem c_X0_fruitOnTop {l : Launch} {D : va_G} {κ : Nat → ClassId} {ρ : Nat → Nat} (o1 : Nat) (o2 : Nat) (h_o1 : (w_sh o1).1 = 0) (h_o2 : (w_sh o2).1 = 3) : wMI l yX0_fruitOnTop cX0_fruitOnTop 2 .int (wRm 0 0) [.ref (ρ o1), .ref (ρ o2)] D κ ρ 0 (fun u => wPu (F_X0_fruitOnTop o1 o2 u) u) := by
  refine wMP_of (F := fun u => F_X0_fruitOnTop o1 o2 u) rfl (Nat.le_of_ble_eq_true rfl) (fun u0 z p e s m args below meth c ls A hF hC hr hlk hH hl => ?_)
  have hl : lv_has ls 2 [(0, .ref (ρ o1)), (1, .ref (ρ o2))] := hl
  have hx := hC.1.1
  have hb := hC.1.2.1
  have hF : F_X0_fruitOnTop o1 o2 u0 = some z := hF
  unfold F_X0_fruitOnTop at hF
  change W p l e (wRm 0 0) s m args below meth c s.heap [] 0 0 (wQI below args s A D κ ρ 0 (z, u0)) (F0 m 0 ls [])
  have key : ∀ (H : Heap) (locs : List Loc), wHp D κ ρ 0 A s.heap H locs u0 → W p l e (wRm 0 0) s m args below meth c H locs 0 0 (wQI below args s A D κ ρ 0 (z, u0)) (F0 m 0 ls []) := by
    intro H locs hH
    refine lv_aload_n hx hb dX0_fruitOnTop_0 rfl (lv_at hl 0 rfl) ?_
    refine wx_getR hC hH h_o1 rfl f_X0_41 dX0_fruitOnTop_1 hF (fun o3 h_o3 hF => ?_)
    refine wx_getI hC hH h_o3 rfl f_X0_90 dX0_fruitOnTop_4 ?_
    refine lv_if_le hx hb dX0_fruitOnTop_7 (tgt := 25) rfl (fun h => ?_) (fun h => ?_)
    · have hF := wx_t h hF
      refine lv_iconst hx hb dX0_fruitOnTop_25 k_iconst_m1 ?_
      exact wx_iret hC hH hr hlk dX0_fruitOnTop_26 (wx_pr hF)
    have hF := wx_f h hF
    refine lv_aload_n hx hb dX0_fruitOnTop_10 rfl (lv_at hl 1 rfl) ?_
    refine wx_getI hC hH h_o2 rfl f_X0_73 dX0_fruitOnTop_11 ?_
    refine lv_aload_n hx hb dX0_fruitOnTop_14 rfl (lv_at hl 0 rfl) ?_
    refine wx_getR hC hH h_o1 rfl f_X0_41 dX0_fruitOnTop_15 hF (fun o4 h_o4 hF => ?_)
    refine wx_getI hC hH h_o4 rfl f_X0_90 dX0_fruitOnTop_18 ?_
    obtain ⟨h0, hF⟩ := wG_some hF
    refine wx_irem hx hb dX0_fruitOnTop_21 h0 ?_
    refine lv_goto hx hb dX0_fruitOnTop_22 (tgt := 26) rfl ?_
    exact wx_iret hC hH hr hlk dX0_fruitOnTop_26 (wx_pr hF)
  exact key _ _ hH
def F_X6_tellsBite_j32 (i5 : Int32) : Option ((Int32) ⊕ Int32) :=
  wB (i5 + (1 : Int32)) (fun (i9 : Int32) => some (.inl i9))
def F_X6_tellsBite_b2 (u0 : wSt) (o1 : Nat) (i2 : Int32) (i3 : Int32) (i5 : Int32) : Option ((Int32) ⊕ Int32) :=
  if (u0.1 o1 3) ≤ i5 then (some (.inr ((0 : Int32)))) else (wR (u0.2.2 o1 14) 10 (fun o6 => wN i5 o6 (fun j7 => wJ (X := Unit) (if (u0.1 o6 j7) = i2 then (wR (u0.2.2 o1 15) 10 (fun o10 => wN i5 o10 (fun j11 => if (u0.1 o10 j11) = i3 then (some (.inr (.inr ((1 : Int32))))) else (some (.inl ()))))) else (some (.inl ()))) (fun x => F_X6_tellsBite_j32 i5))))
def F_X6_tellsBite (o1 : Nat) (i2 : Int32) (i3 : Int32) (u0 : wSt) : Option Int32 :=
  wL (S := Int32) (fun x => F_X6_tellsBite_b2 u0 o1 i2 i3 x) wFu (0 : Int32)
set_option maxRecDepth 100000 in
set_option maxHeartbeats 4000000 in
theorem c_X6_tellsBite {l : Launch} {D : va_G} {κ : Nat → ClassId} {ρ : Nat → Nat} (o1 : Nat) (i2 : Int32) (i3 : Int32) (h_o1 : (w_sh o1).1 = 6) : wMI l yX6_tellsBite cX6_tellsBite 4 .boolean (wRm 0 0) [.ref (ρ o1), .int i2, .int i3] D κ ρ 0 (fun u => wPu (F_X6_tellsBite o1 i2 i3 u) u) := by
  refine wMP_of (F := fun u => F_X6_tellsBite o1 i2 i3 u) rfl (Nat.le_of_ble_eq_true rfl) (fun u0 z p e s m args below meth c ls A hF hC hr hlk hH hl => ?_)
  have hl : lv_has ls 4 [(0, .ref (ρ o1)), (1, .int i2), (2, .int i3)] := hl
  have hx := hC.1.1
  have hb := hC.1.2.1
  have hF : F_X6_tellsBite o1 i2 i3 u0 = some z := hF
  unfold F_X6_tellsBite at hF
  change W p l e (wRm 0 0) s m args below meth c s.heap [] 0 0 (wQI below args s A D κ ρ 0 (z, u0)) (F0 m 0 ls [])
  have key : ∀ (H : Heap) (locs : List Loc), wHp D κ ρ 0 A s.heap H locs u0 → W p l e (wRm 0 0) s m args below meth c H locs 0 0 (wQI below args s A D κ ρ 0 (z, u0)) (F0 m 0 ls []) := by
    intro H locs hH
    refine lv_iconst hx hb dX6_tellsBite_0 k_iconst_0 ?_
    refine wx_istore_n hx hb dX6_tellsBite_1 rfl hl (by decide) (fun ls hl => ?_)
    have hl : lv_has ls 4 [(3, .int (0 : Int32)), (0, .ref (ρ o1)), (1, .int i2), (2, .int i3)] := hl
    have hL2 : ∀ (k4_ : Nat) (i5 : Int32) (H : Heap) (locs : List Loc) (ls : Array Slot), wL (S := Int32) (fun x => F_X6_tellsBite_b2 u0 o1 i2 i3 x) k4_ i5 = some z → wHp D κ ρ 0 A s.heap H locs u0 → lv_has ls 4 [(0, .ref (ρ o1)), (1, .int i2), (2, .int i3), (3, .int i5)] → W p l e (wRm 0 0) s m args below meth c H locs 0 0 (wQI below args s A D κ ρ 0 (z, u0)) (F0 m 2 ls []) := by
      intro k4_
      induction k4_ with
      | zero => intro i5 H locs ls hF; exact wL_zero hF
      | succ k4_ ih4 =>
        intro i5 H locs ls hF hH hl
        obtain ⟨q4_, hF, hq4⟩ := wL_some hF
        have hF : F_X6_tellsBite_b2 u0 o1 i2 i3 i5 = some q4_ := hF
        unfold F_X6_tellsBite_b2 at hF
        refine lv_iload_n hx hb dX6_tellsBite_2 rfl (lv_at hl 3 rfl) ?_
        refine lv_aload_n hx hb dX6_tellsBite_3 rfl (lv_at hl 0 rfl) ?_
        refine wx_getI hC hH h_o1 rfl f_X6_21 dX6_tellsBite_4 ?_
        refine lv_icmp_ge hx hb dX6_tellsBite_7 (tgt := 38) rfl (fun h => ?_) (fun h => ?_)
        · have hF := wx_t h hF
          refine lv_iconst hx hb dX6_tellsBite_38 k_iconst_0 ?_
          have hF := wJ_r hq4 hF
          exact wx_zret hC hH hr hlk dX6_tellsBite_39 (Or.inl rfl) (wx_pr hF)
        have hF := wx_f h hF
        refine lv_aload_n hx hb dX6_tellsBite_10 rfl (lv_at hl 0 rfl) ?_
        refine wx_getR hC hH h_o1 rfl f_X6_55 dX6_tellsBite_11 hF (fun o6 h_o6 hF => ?_)
        refine lv_iload_n hx hb dX6_tellsBite_14 rfl (lv_at hl 3 rfl) ?_
        refine wx_iald hC hH h_o6 ⟨rfl, rfl⟩ dX6_tellsBite_15 hF (fun j7 hF => ?_)
        refine lv_iload_n hx hb dX6_tellsBite_16 rfl (lv_at hl 1 rfl) ?_
        obtain ⟨q8_, hF, hq8⟩ := wJ_some hF
        have hJ32 : ∀ (H : Heap) (locs : List Loc) (ls : Array Slot), F_X6_tellsBite_j32 i5 = some q4_ → wHp D κ ρ 0 A s.heap H locs u0 → lv_has ls 4 [(0, .ref (ρ o1)), (1, .int i2), (2, .int i3), (3, .int i5)] → W p l e (wRm 0 0) s m args below meth c H locs 0 0 (wQI below args s A D κ ρ 0 (z, u0)) (F0 m 32 ls []) := by
          intro H locs ls hF hH hl
          unfold F_X6_tellsBite_j32 at hF
          refine wx_iinc hx hb dX6_tellsBite_32 k_iconst_1 hl (k := 3) rfl (by decide) hF (fun i9 ls hF hl => ?_)
          have hl : lv_has ls 4 [(3, .int i9), (0, .ref (ρ o1)), (1, .int i2), (2, .int i3)] := hl
          refine lv_goto hx hb dX6_tellsBite_35 (tgt := 2) rfl ?_
          have hF := wJ_l hq4 hF
          exact ih4 i9 H locs ls hF hH (lv_sub hl [1, 2, 3, 0] rfl)
        refine lv_icmp_ne hx hb dX6_tellsBite_17 (tgt := 32) rfl (fun h => ?_) (fun h => ?_)
        · have hF := wx_f h hF
          have hF := wJ_l hq8 hF
          exact hJ32 H locs ls hF hH (lv_sub hl [0, 1, 2, 3] rfl)
        have hF := wx_t h hF
        refine lv_aload_n hx hb dX6_tellsBite_20 rfl (lv_at hl 0 rfl) ?_
        refine wx_getR hC hH h_o1 rfl f_X6_58 dX6_tellsBite_21 hF (fun o10 h_o10 hF => ?_)
        refine lv_iload_n hx hb dX6_tellsBite_24 rfl (lv_at hl 3 rfl) ?_
        refine wx_iald hC hH h_o10 ⟨rfl, rfl⟩ dX6_tellsBite_25 hF (fun j11 hF => ?_)
        refine lv_iload_n hx hb dX6_tellsBite_26 rfl (lv_at hl 2 rfl) ?_
        refine lv_icmp_ne hx hb dX6_tellsBite_27 (tgt := 32) rfl (fun h => ?_) (fun h => ?_)
        · have hF := wx_f h hF
          have hF := wJ_l hq8 hF
          exact hJ32 H locs ls hF hH (lv_sub hl [0, 1, 2, 3] rfl)
        have hF := wx_t h hF
        refine lv_iconst hx hb dX6_tellsBite_30 k_iconst_1 ?_
        have hF := wJ_r hq8 hF
        have hF := wJ_r hq4 hF
        exact wx_zret hC hH hr hlk dX6_tellsBite_31 (Or.inr rfl) (wx_pr hF)
    exact hL2 wFu (0 : Int32) H locs ls hF hH (lv_sub hl [1, 2, 3, 0] rfl)
  exact key _ _ hH
def F_X1_has (o1 : Nat) (i2 : Int32) (u0 : wSt) : Option Int32 :=
  wR (u0.2.2 o1 1) 12 (fun o3 => wN i2 o3 (fun j4 => wG ((u0.1 o3 j4) = 0 ∨ (u0.1 o3 j4) = 1) (some ((u0.1 o3 j4)))))
set_option maxRecDepth 100000 in
set_option maxHeartbeats 4000000 in
theorem c_X1_has {l : Launch} {D : va_G} {κ : Nat → ClassId} {ρ : Nat → Nat} (o1 : Nat) (i2 : Int32) (h_o1 : (w_sh o1).1 = 1) : wMI l yX1_has cX1_has 2 .boolean (wRm 0 0) [.ref (ρ o1), .int i2] D κ ρ 0 (fun u => wPu (F_X1_has o1 i2 u) u) := by
  refine wMP_of (F := fun u => F_X1_has o1 i2 u) rfl (Nat.le_of_ble_eq_true rfl) (fun u0 z p e s m args below meth c ls A hF hC hr hlk hH hl => ?_)
  have hl : lv_has ls 2 [(0, .ref (ρ o1)), (1, .int i2)] := hl
  have hx := hC.1.1
  have hb := hC.1.2.1
  have hF : F_X1_has o1 i2 u0 = some z := hF
  unfold F_X1_has at hF
  change W p l e (wRm 0 0) s m args below meth c s.heap [] 0 0 (wQI below args s A D κ ρ 0 (z, u0)) (F0 m 0 ls [])
  have key : ∀ (H : Heap) (locs : List Loc), wHp D κ ρ 0 A s.heap H locs u0 → W p l e (wRm 0 0) s m args below meth c H locs 0 0 (wQI below args s A D κ ρ 0 (z, u0)) (F0 m 0 ls []) := by
    intro H locs hH
    refine lv_aload_n hx hb dX1_has_0 rfl (lv_at hl 0 rfl) ?_
    refine wx_getR hC hH h_o1 rfl f_X1_15 dX1_has_1 hF (fun o3 h_o3 hF => ?_)
    refine lv_iload_n hx hb dX1_has_4 rfl (lv_at hl 1 rfl) ?_
    refine wx_zald hC hH h_o3 ⟨rfl, rfl⟩ dX1_has_5 hF (fun j4 hF => ?_)
    obtain ⟨h01, hF⟩ := wG_some hF
    exact wx_zret hC hH hr hlk dX1_has_6 h01 (wx_pr hF)
  exact key _ _ hH
def F_X0_sweetOf (o1 : Nat) (i2 : Int32) (u0 : wSt) : Option Int32 :=
  if i2 = (u0.1 o1 6) then (some ((u0.1 o1 7))) else (wR (u0.2.2 o1 8) 6 (fun o3 => wR (u0.2.2 o3 12) 10 (fun o4 => wN i2 o4 (fun j5 => some ((u0.1 o4 j5))))))
set_option maxRecDepth 100000 in
set_option maxHeartbeats 4000000 in
theorem c_X0_sweetOf {l : Launch} {D : va_G} {κ : Nat → ClassId} {ρ : Nat → Nat} (o1 : Nat) (i2 : Int32) (h_o1 : (w_sh o1).1 = 0) : wMI l yX0_sweetOf cX0_sweetOf 2 .int (wRm 0 0) [.ref (ρ o1), .int i2] D κ ρ 0 (fun u => wPu (F_X0_sweetOf o1 i2 u) u) := by
  refine wMP_of (F := fun u => F_X0_sweetOf o1 i2 u) rfl (Nat.le_of_ble_eq_true rfl) (fun u0 z p e s m args below meth c ls A hF hC hr hlk hH hl => ?_)
  have hl : lv_has ls 2 [(0, .ref (ρ o1)), (1, .int i2)] := hl
  have hx := hC.1.1
  have hb := hC.1.2.1
  have hF : F_X0_sweetOf o1 i2 u0 = some z := hF
  unfold F_X0_sweetOf at hF
  change W p l e (wRm 0 0) s m args below meth c s.heap [] 0 0 (wQI below args s A D κ ρ 0 (z, u0)) (F0 m 0 ls [])
  have key : ∀ (H : Heap) (locs : List Loc), wHp D κ ρ 0 A s.heap H locs u0 → W p l e (wRm 0 0) s m args below meth c H locs 0 0 (wQI below args s A D κ ρ 0 (z, u0)) (F0 m 0 ls []) := by
    intro H locs hH
    refine lv_iload_n hx hb dX0_sweetOf_0 rfl (lv_at hl 1 rfl) ?_
    refine lv_aload_n hx hb dX0_sweetOf_1 rfl (lv_at hl 0 rfl) ?_
    refine wx_getI hC hH h_o1 rfl f_X0_31 dX0_sweetOf_2 ?_
    refine lv_icmp_ne hx hb dX0_sweetOf_5 (tgt := 15) rfl (fun h => ?_) (fun h => ?_)
    · have hF := wx_f h hF
      refine lv_aload_n hx hb dX0_sweetOf_15 rfl (lv_at hl 0 rfl) ?_
      refine wx_getR hC hH h_o1 rfl f_X0_41 dX0_sweetOf_16 hF (fun o3 h_o3 hF => ?_)
      refine wx_getR hC hH h_o3 rfl f_X0_155 dX0_sweetOf_19 hF (fun o4 h_o4 hF => ?_)
      refine lv_iload_n hx hb dX0_sweetOf_22 rfl (lv_at hl 1 rfl) ?_
      refine wx_iald hC hH h_o4 ⟨rfl, rfl⟩ dX0_sweetOf_23 hF (fun j5 hF => ?_)
      exact wx_iret hC hH hr hlk dX0_sweetOf_24 (wx_pr hF)
    have hF := wx_t h hF
    refine lv_aload_n hx hb dX0_sweetOf_8 rfl (lv_at hl 0 rfl) ?_
    refine wx_getI hC hH h_o1 rfl f_X0_34 dX0_sweetOf_9 ?_
    refine lv_goto hx hb dX0_sweetOf_12 (tgt := 24) rfl ?_
    exact wx_iret hC hH hr hlk dX0_sweetOf_24 (wx_pr hF)
  exact key _ _ hH
def F_X0_sitting (o1 : Nat) (o2 : Nat) (u0 : wSt) : Option Int32 :=
  wR (u0.2.2 o1 8) 6 (fun o3 => some (((((1 : Int32) <<< ((u0.1 o3 1) &&& 31)) - (1 : Int32)) &&& (((u0.1 o2 2) ||| (u0.1 o1 5)) ^^^ (-1 : Int32)))))
set_option maxRecDepth 100000 in
set_option maxHeartbeats 4000000 in
theorem c_X0_sitting {l : Launch} {D : va_G} {κ : Nat → ClassId} {ρ : Nat → Nat} (o1 : Nat) (o2 : Nat) (h_o1 : (w_sh o1).1 = 0) (h_o2 : (w_sh o2).1 = 3) : wMI l yX0_sitting cX0_sitting 2 .int (wRm 0 0) [.ref (ρ o1), .ref (ρ o2)] D κ ρ 0 (fun u => wPu (F_X0_sitting o1 o2 u) u) := by
  refine wMP_of (F := fun u => F_X0_sitting o1 o2 u) rfl (Nat.le_of_ble_eq_true rfl) (fun u0 z p e s m args below meth c ls A hF hC hr hlk hH hl => ?_)
  have hl : lv_has ls 2 [(0, .ref (ρ o1)), (1, .ref (ρ o2))] := hl
  have hx := hC.1.1
  have hb := hC.1.2.1
  have hF : F_X0_sitting o1 o2 u0 = some z := hF
  unfold F_X0_sitting at hF
  change W p l e (wRm 0 0) s m args below meth c s.heap [] 0 0 (wQI below args s A D κ ρ 0 (z, u0)) (F0 m 0 ls [])
  have key : ∀ (H : Heap) (locs : List Loc), wHp D κ ρ 0 A s.heap H locs u0 → W p l e (wRm 0 0) s m args below meth c H locs 0 0 (wQI below args s A D κ ρ 0 (z, u0)) (F0 m 0 ls []) := by
    intro H locs hH
    refine lv_iconst hx hb dX0_sitting_0 k_iconst_1 ?_
    refine lv_aload_n hx hb dX0_sitting_1 rfl (lv_at hl 0 rfl) ?_
    refine wx_getR hC hH h_o1 rfl f_X0_41 dX0_sitting_2 hF (fun o3 h_o3 hF => ?_)
    refine wx_getI hC hH h_o3 rfl f_X0_78 dX0_sitting_5 ?_
    refine lv_ishl hx hb dX0_sitting_8 ?_
    refine lv_iconst hx hb dX0_sitting_9 k_iconst_1 ?_
    refine lv_isub hx hb dX0_sitting_10 ?_
    refine lv_aload_n hx hb dX0_sitting_11 rfl (lv_at hl 1 rfl) ?_
    refine wx_getI hC hH h_o2 rfl f_X0_93 dX0_sitting_12 ?_
    refine lv_aload_n hx hb dX0_sitting_15 rfl (lv_at hl 0 rfl) ?_
    refine wx_getI hC hH h_o1 rfl f_X0_28 dX0_sitting_16 ?_
    refine lv_ior hx hb dX0_sitting_19 ?_
    refine lv_iconst hx hb dX0_sitting_20 k_iconst_m1 ?_
    refine lv_ixor hx hb dX0_sitting_21 ?_
    refine lv_iand hx hb dX0_sitting_22 ?_
    exact wx_iret hC hH hr hlk dX0_sitting_23 (wx_pr hF)
  exact key _ _ hH
def F_J6_bitCount_0f7a4 (i1 : Int32) (u0 : wSt) : Option Int32 :=
  wB (i1 - ((w_ushr i1 (1 : Int32)) &&& (1431655765 : Int32))) (fun (i2 : Int32) => wB ((i2 &&& (858993459 : Int32)) + ((w_ushr i2 (2 : Int32)) &&& (858993459 : Int32))) (fun (i3 : Int32) => wB ((i3 + (w_ushr i3 (4 : Int32))) &&& (252645135 : Int32)) (fun (i4 : Int32) => wB (i4 + (w_ushr i4 (8 : Int32))) (fun (i5 : Int32) => wB (i5 + (w_ushr i5 (16 : Int32))) (fun (i6 : Int32) => some ((i6 &&& (63 : Int32))))))))
set_option maxRecDepth 100000 in
set_option maxHeartbeats 4000000 in
theorem c_J6_bitCount_0f7a4 {l : Launch} {D : va_G} {κ : Nat → ClassId} {ρ : Nat → Nat} (i1 : Int32) : wMI l yJ6_bitCount_0f7a4 cJ6_bitCount_0f7a4 1 .int (wRm 0 0) [.int i1] D κ ρ 0 (fun u => wPu (F_J6_bitCount_0f7a4 i1 u) u) := by
  refine wMP_of (F := fun u => F_J6_bitCount_0f7a4 i1 u) rfl (Nat.le_of_ble_eq_true rfl) (fun u0 z p e s m args below meth c ls A hF hC hr hlk hH hl => ?_)
  have hl : lv_has ls 1 [(0, .int i1)] := hl
  have hx := hC.1.1
  have hb := hC.1.2.1
  have hF : F_J6_bitCount_0f7a4 i1 u0 = some z := hF
  unfold F_J6_bitCount_0f7a4 at hF
  change W p l e (wRm 0 0) s m args below meth c s.heap [] 0 0 (wQI below args s A D κ ρ 0 (z, u0)) (F0 m 0 ls [])
  have key : ∀ (H : Heap) (locs : List Loc), wHp D κ ρ 0 A s.heap H locs u0 → W p l e (wRm 0 0) s m args below meth c H locs 0 0 (wQI below args s A D κ ρ 0 (z, u0)) (F0 m 0 ls []) := by
    intro H locs hH
    refine lv_iload_n hx hb dJ6_bitCount_0f7a4_0 rfl (lv_at hl 0 rfl) ?_
    refine lv_iload_n hx hb dJ6_bitCount_0f7a4_1 rfl (lv_at hl 0 rfl) ?_
    refine lv_iconst hx hb dJ6_bitCount_0f7a4_2 k_iconst_1 ?_
    refine lv_iushr (v := w_ushr i1 (1 : Int32)) hx hb dJ6_bitCount_0f7a4_3 rfl ?_
    refine lv_ldcw hx hb hC.1.2.2.2.1 (hC.1.2.2.2.2 _ l_J6_265) dJ6_bitCount_0f7a4_4 ?_
    refine lv_iand hx hb dJ6_bitCount_0f7a4_7 ?_
    refine lv_isub hx hb dJ6_bitCount_0f7a4_8 ?_
    refine wx_leti hF (fun i2 hF => ?_)
    refine wx_istore_n hx hb dJ6_bitCount_0f7a4_9 rfl hl (by decide) (fun ls hl => ?_)
    have hl : lv_has ls 1 [(0, .int i2)] := hl
    refine lv_iload_n hx hb dJ6_bitCount_0f7a4_10 rfl (lv_at hl 0 rfl) ?_
    refine lv_ldcw hx hb hC.1.2.2.2.1 (hC.1.2.2.2.2 _ l_J6_266) dJ6_bitCount_0f7a4_11 ?_
    refine lv_iand hx hb dJ6_bitCount_0f7a4_14 ?_
    refine lv_iload_n hx hb dJ6_bitCount_0f7a4_15 rfl (lv_at hl 0 rfl) ?_
    refine lv_iconst hx hb dJ6_bitCount_0f7a4_16 k_iconst_2 ?_
    refine lv_iushr (v := w_ushr i2 (2 : Int32)) hx hb dJ6_bitCount_0f7a4_17 rfl ?_
    refine lv_ldcw hx hb hC.1.2.2.2.1 (hC.1.2.2.2.2 _ l_J6_266) dJ6_bitCount_0f7a4_18 ?_
    refine lv_iand hx hb dJ6_bitCount_0f7a4_21 ?_
    refine lv_iadd hx hb dJ6_bitCount_0f7a4_22 ?_
    refine wx_leti hF (fun i3 hF => ?_)
    refine wx_istore_n hx hb dJ6_bitCount_0f7a4_23 rfl hl (by decide) (fun ls hl => ?_)
    have hl : lv_has ls 1 [(0, .int i3)] := hl
    refine lv_iload_n hx hb dJ6_bitCount_0f7a4_24 rfl (lv_at hl 0 rfl) ?_
    refine lv_iload_n hx hb dJ6_bitCount_0f7a4_25 rfl (lv_at hl 0 rfl) ?_
    refine lv_iconst hx hb dJ6_bitCount_0f7a4_26 k_iconst_4 ?_
    refine lv_iushr (v := w_ushr i3 (4 : Int32)) hx hb dJ6_bitCount_0f7a4_27 rfl ?_
    refine lv_iadd hx hb dJ6_bitCount_0f7a4_28 ?_
    refine lv_ldcw hx hb hC.1.2.2.2.1 (hC.1.2.2.2.2 _ l_J6_267) dJ6_bitCount_0f7a4_29 ?_
    refine lv_iand hx hb dJ6_bitCount_0f7a4_32 ?_
    refine wx_leti hF (fun i4 hF => ?_)
    refine wx_istore_n hx hb dJ6_bitCount_0f7a4_33 rfl hl (by decide) (fun ls hl => ?_)
    have hl : lv_has ls 1 [(0, .int i4)] := hl
    refine lv_iload_n hx hb dJ6_bitCount_0f7a4_34 rfl (lv_at hl 0 rfl) ?_
    refine lv_iload_n hx hb dJ6_bitCount_0f7a4_35 rfl (lv_at hl 0 rfl) ?_
    refine lv_bipush hx hb dJ6_bitCount_0f7a4_36 k_bipush_8 ?_
    refine lv_iushr (v := w_ushr i4 (8 : Int32)) hx hb dJ6_bitCount_0f7a4_38 rfl ?_
    refine lv_iadd hx hb dJ6_bitCount_0f7a4_39 ?_
    refine wx_leti hF (fun i5 hF => ?_)
    refine wx_istore_n hx hb dJ6_bitCount_0f7a4_40 rfl hl (by decide) (fun ls hl => ?_)
    have hl : lv_has ls 1 [(0, .int i5)] := hl
    refine lv_iload_n hx hb dJ6_bitCount_0f7a4_41 rfl (lv_at hl 0 rfl) ?_
    refine lv_iload_n hx hb dJ6_bitCount_0f7a4_42 rfl (lv_at hl 0 rfl) ?_
    refine lv_bipush hx hb dJ6_bitCount_0f7a4_43 k_bipush_16 ?_
    refine lv_iushr (v := w_ushr i5 (16 : Int32)) hx hb dJ6_bitCount_0f7a4_45 rfl ?_
    refine lv_iadd hx hb dJ6_bitCount_0f7a4_46 ?_
    refine wx_leti hF (fun i6 hF => ?_)
    refine wx_istore_n hx hb dJ6_bitCount_0f7a4_47 rfl hl (by decide) (fun ls hl => ?_)
    have hl : lv_has ls 1 [(0, .int i6)] := hl
    refine lv_iload_n hx hb dJ6_bitCount_0f7a4_48 rfl (lv_at hl 0 rfl) ?_
    refine lv_bipush hx hb dJ6_bitCount_0f7a4_49 k_bipush_63 ?_
    refine lv_iand hx hb dJ6_bitCount_0f7a4_51 ?_
    exact wx_iret hC hH hr hlk dJ6_bitCount_0f7a4_52 (wx_pr hF)
  exact key _ _ hH
def F_X1_join_j154 : Option Int64 :=
  some ((-9223372036854775808 : Int64))
def F_X1_join_j137 (q3 : Int64) (q2 : Int64) (q7 : Int64) : Option Int64 :=
  wJ (X := Unit) (if 0 < (lg_cmp q3 q7) then (some (.inl ())) else (if 0 ≤ (lg_cmp q3 (-q7)) then (some (.inr ((q2 * q3)))) else (some (.inl ())))) (fun x => F_X1_join_j154)
def F_X1_join_j116 (q3 : Int64) (q2 : Int64) (q5 : Int64) : Option Int64 :=
  wJ (X := Int64) (if (lg_cmp q5 (0 : Int64)) = 0 then (some (.inl (1000000000000 : Int64))) else (wG (¬ q5 = 0) (some (.inl ((1000000000000 : Int64) / q5))))) (fun x => F_X1_join_j137 q3 q2 x)
def F_X1_join (i1 : Int32) (q2 : Int64) (q3 : Int64) (u0 : wSt) : Option Int64 :=
  if i1 = 10 then (if (lg_cmp q2 (0 : Int64)) = 0 then (if (lg_cmp q3 (0 : Int64)) = 0 then (some ((0 : Int64))) else (some ((1 : Int64)))) else (some ((1 : Int64)))) else (if i1 = 11 then (if (lg_cmp q2 (0 : Int64)) = 0 then (some ((0 : Int64))) else (if (lg_cmp q3 (0 : Int64)) = 0 then (some ((0 : Int64))) else (some ((1 : Int64))))) else (if i1 = 20 then (if 0 ≤ (lg_cmp q2 q3) then (some ((0 : Int64))) else (some ((1 : Int64)))) else (if i1 = 21 then (if 0 < (lg_cmp q2 q3) then (some ((0 : Int64))) else (some ((1 : Int64)))) else (if i1 = 22 then (if (lg_cmp q2 q3) = 0 then (some ((1 : Int64))) else (some ((0 : Int64)))) else (if i1 = 23 then (if (lg_cmp q2 q3) = 0 then (some ((0 : Int64))) else (some ((1 : Int64)))) else (if i1 = 24 then (if (lg_cmp q2 q3) < 0 then (some ((0 : Int64))) else (some ((1 : Int64)))) else (if i1 = 26 then (some ((q2 + q3))) else (if i1 = 27 then (some ((q2 - q3))) else (if i1 = 28 then (wJ (X := Int64) (if 0 ≤ (lg_cmp q2 (0 : Int64)) then (some (.inl q2)) else (some (.inl (-q2)))) (fun x => F_X1_join_j116 q3 q2 x)) else (if i1 = 29 then (if (lg_cmp q3 (0 : Int64)) = 0 then (some ((-9223372036854775808 : Int64))) else (wG (¬ q3 = 0) (some ((q2 / q3))))) else (if (lg_cmp q2 q3) ≤ 0 then (some ((0 : Int64))) else (some ((1 : Int64))))))))))))))
set_option maxRecDepth 100000 in
set_option maxHeartbeats 4000000 in
theorem c_X1_join {l : Launch} {D : va_G} {κ : Nat → ClassId} {ρ : Nat → Nat} (i1 : Int32) (q2 : Int64) (q3 : Int64) : wML l yX1_join cX1_join 9 (wRm 0 0) [.int i1, .long q2, .long q3] D κ ρ 0 (fun u => wPu (F_X1_join i1 q2 q3 u) u) := by
  refine wMPL_of (F := fun u => F_X1_join i1 q2 q3 u) rfl (Nat.le_of_ble_eq_true rfl) (fun u0 z p e s m args below meth c ls A hF hC hr hlk hH hl => ?_)
  have hl : lv_has ls 9 [(0, .int i1), (1, .long q2), (3, .long q3)] := hl
  have hx := hC.1.1
  have hb := hC.1.2.1
  have hF : F_X1_join i1 q2 q3 u0 = some z := hF
  unfold F_X1_join at hF
  change W p l e (wRm 0 0) s m args below meth c s.heap [] 0 0 (wQL below args s A D κ ρ 0 (z, u0)) (F0 m 0 ls [])
  have key : ∀ (H : Heap) (locs : List Loc), wHp D κ ρ 0 A s.heap H locs u0 → W p l e (wRm 0 0) s m args below meth c H locs 0 0 (wQL below args s A D κ ρ 0 (z, u0)) (F0 m 0 ls []) := by
    intro H locs hH
    refine lv_iload_n hx hb dX1_join_0 rfl (lv_at hl 0 rfl) ?_
    by_cases hs0 : i1 = 10
    · have hF := wx_t hs0 hF
      refine wx_sw hx hb dX1_join_1 (by decide) (tgt := 180) (by rw [hs0]; decide) ?_
      refine lv_lload_n hx hb dX1_join_180 rfl (lv_at hl 1 rfl) ?_
      refine lv_lconst hx hb dX1_join_181 k_lconst_0 ?_
      refine W.lcmp hx hb dX1_join_182 ?_
      refine lv_if_ne hx hb dX1_join_183 (tgt := 192) rfl (fun h => ?_) (fun h => ?_)
      · have hF := wx_f h hF
        refine lv_lconst hx hb dX1_join_192 k_lconst_1 ?_
        refine lv_goto hx hb dX1_join_193 (tgt := 197) rfl ?_
        exact wx_lret hC hH hr hlk dX1_join_197 (wx_pr hF)
      have hF := wx_t h hF
      refine lv_lload_n hx hb dX1_join_186 rfl (lv_at hl 2 rfl) ?_
      refine lv_lconst hx hb dX1_join_187 k_lconst_0 ?_
      refine W.lcmp hx hb dX1_join_188 ?_
      refine lv_if_eq hx hb dX1_join_189 (tgt := 196) rfl (fun h => ?_) (fun h => ?_)
      · have hF := wx_t h hF
        refine lv_lconst hx hb dX1_join_196 k_lconst_0 ?_
        exact wx_lret hC hH hr hlk dX1_join_197 (wx_pr hF)
      have hF := wx_f h hF
      refine lv_lconst hx hb dX1_join_192 k_lconst_1 ?_
      refine lv_goto hx hb dX1_join_193 (tgt := 197) rfl ?_
      exact wx_lret hC hH hr hlk dX1_join_197 (wx_pr hF)
    have hF := wx_f hs0 hF
    by_cases hs1 : i1 = 11
    · have hF := wx_t hs1 hF
      refine wx_sw hx hb dX1_join_1 (by decide) (tgt := 198) (by rw [hs1]; decide) ?_
      refine lv_lload_n hx hb dX1_join_198 rfl (lv_at hl 1 rfl) ?_
      refine lv_lconst hx hb dX1_join_199 k_lconst_0 ?_
      refine W.lcmp hx hb dX1_join_200 ?_
      refine lv_if_eq hx hb dX1_join_201 (tgt := 214) rfl (fun h => ?_) (fun h => ?_)
      · have hF := wx_t h hF
        refine lv_lconst hx hb dX1_join_214 k_lconst_0 ?_
        exact wx_lret hC hH hr hlk dX1_join_215 (wx_pr hF)
      have hF := wx_f h hF
      refine lv_lload_n hx hb dX1_join_204 rfl (lv_at hl 2 rfl) ?_
      refine lv_lconst hx hb dX1_join_205 k_lconst_0 ?_
      refine W.lcmp hx hb dX1_join_206 ?_
      refine lv_if_eq hx hb dX1_join_207 (tgt := 214) rfl (fun h => ?_) (fun h => ?_)
      · have hF := wx_t h hF
        refine lv_lconst hx hb dX1_join_214 k_lconst_0 ?_
        exact wx_lret hC hH hr hlk dX1_join_215 (wx_pr hF)
      have hF := wx_f h hF
      refine lv_lconst hx hb dX1_join_210 k_lconst_1 ?_
      refine lv_goto hx hb dX1_join_211 (tgt := 215) rfl ?_
      exact wx_lret hC hH hr hlk dX1_join_215 (wx_pr hF)
    have hF := wx_f hs1 hF
    by_cases hs2 : i1 = 20
    · have hF := wx_t hs2 hF
      refine wx_sw hx hb dX1_join_1 (by decide) (tgt := 216) (by rw [hs2]; decide) ?_
      refine lv_lload_n hx hb dX1_join_216 rfl (lv_at hl 1 rfl) ?_
      refine lv_lload_n hx hb dX1_join_217 rfl (lv_at hl 2 rfl) ?_
      refine W.lcmp hx hb dX1_join_218 ?_
      refine lv_if_ge hx hb dX1_join_219 (tgt := 226) rfl (fun h => ?_) (fun h => ?_)
      · have hF := wx_t h hF
        refine lv_lconst hx hb dX1_join_226 k_lconst_0 ?_
        exact wx_lret hC hH hr hlk dX1_join_227 (wx_pr hF)
      have hF := wx_f h hF
      refine lv_lconst hx hb dX1_join_222 k_lconst_1 ?_
      refine lv_goto hx hb dX1_join_223 (tgt := 227) rfl ?_
      exact wx_lret hC hH hr hlk dX1_join_227 (wx_pr hF)
    have hF := wx_f hs2 hF
    by_cases hs3 : i1 = 21
    · have hF := wx_t hs3 hF
      refine wx_sw hx hb dX1_join_1 (by decide) (tgt := 228) (by rw [hs3]; decide) ?_
      refine lv_lload_n hx hb dX1_join_228 rfl (lv_at hl 1 rfl) ?_
      refine lv_lload_n hx hb dX1_join_229 rfl (lv_at hl 2 rfl) ?_
      refine W.lcmp hx hb dX1_join_230 ?_
      refine lv_if_gt hx hb dX1_join_231 (tgt := 238) rfl (fun h => ?_) (fun h => ?_)
      · have hF := wx_t h hF
        refine lv_lconst hx hb dX1_join_238 k_lconst_0 ?_
        exact wx_lret hC hH hr hlk dX1_join_239 (wx_pr hF)
      have hF := wx_f h hF
      refine lv_lconst hx hb dX1_join_234 k_lconst_1 ?_
      refine lv_goto hx hb dX1_join_235 (tgt := 239) rfl ?_
      exact wx_lret hC hH hr hlk dX1_join_239 (wx_pr hF)
    have hF := wx_f hs3 hF
    by_cases hs4 : i1 = 22
    · have hF := wx_t hs4 hF
      refine wx_sw hx hb dX1_join_1 (by decide) (tgt := 240) (by rw [hs4]; decide) ?_
      refine lv_lload_n hx hb dX1_join_240 rfl (lv_at hl 1 rfl) ?_
      refine lv_lload_n hx hb dX1_join_241 rfl (lv_at hl 2 rfl) ?_
      refine W.lcmp hx hb dX1_join_242 ?_
      refine lv_if_ne hx hb dX1_join_243 (tgt := 250) rfl (fun h => ?_) (fun h => ?_)
      · have hF := wx_f h hF
        refine lv_lconst hx hb dX1_join_250 k_lconst_0 ?_
        exact wx_lret hC hH hr hlk dX1_join_251 (wx_pr hF)
      have hF := wx_t h hF
      refine lv_lconst hx hb dX1_join_246 k_lconst_1 ?_
      refine lv_goto hx hb dX1_join_247 (tgt := 251) rfl ?_
      exact wx_lret hC hH hr hlk dX1_join_251 (wx_pr hF)
    have hF := wx_f hs4 hF
    by_cases hs5 : i1 = 23
    · have hF := wx_t hs5 hF
      refine wx_sw hx hb dX1_join_1 (by decide) (tgt := 252) (by rw [hs5]; decide) ?_
      refine lv_lload_n hx hb dX1_join_252 rfl (lv_at hl 1 rfl) ?_
      refine lv_lload_n hx hb dX1_join_253 rfl (lv_at hl 2 rfl) ?_
      refine W.lcmp hx hb dX1_join_254 ?_
      refine lv_if_eq hx hb dX1_join_255 (tgt := 262) rfl (fun h => ?_) (fun h => ?_)
      · have hF := wx_t h hF
        refine lv_lconst hx hb dX1_join_262 k_lconst_0 ?_
        exact wx_lret hC hH hr hlk dX1_join_263 (wx_pr hF)
      have hF := wx_f h hF
      refine lv_lconst hx hb dX1_join_258 k_lconst_1 ?_
      refine lv_goto hx hb dX1_join_259 (tgt := 263) rfl ?_
      exact wx_lret hC hH hr hlk dX1_join_263 (wx_pr hF)
    have hF := wx_f hs5 hF
    by_cases hs6 : i1 = 24
    · have hF := wx_t hs6 hF
      refine wx_sw hx hb dX1_join_1 (by decide) (tgt := 264) (by rw [hs6]; decide) ?_
      refine lv_lload_n hx hb dX1_join_264 rfl (lv_at hl 1 rfl) ?_
      refine lv_lload_n hx hb dX1_join_265 rfl (lv_at hl 2 rfl) ?_
      refine W.lcmp hx hb dX1_join_266 ?_
      refine lv_if_lt hx hb dX1_join_267 (tgt := 274) rfl (fun h => ?_) (fun h => ?_)
      · have hF := wx_t h hF
        refine lv_lconst hx hb dX1_join_274 k_lconst_0 ?_
        exact wx_lret hC hH hr hlk dX1_join_275 (wx_pr hF)
      have hF := wx_f h hF
      refine lv_lconst hx hb dX1_join_270 k_lconst_1 ?_
      refine lv_goto hx hb dX1_join_271 (tgt := 275) rfl ?_
      exact wx_lret hC hH hr hlk dX1_join_275 (wx_pr hF)
    have hF := wx_f hs6 hF
    by_cases hs7 : i1 = 26
    · have hF := wx_t hs7 hF
      refine wx_sw hx hb dX1_join_1 (by decide) (tgt := 96) (by rw [hs7]; decide) ?_
      refine lv_lload_n hx hb dX1_join_96 rfl (lv_at hl 1 rfl) ?_
      refine lv_lload_n hx hb dX1_join_97 rfl (lv_at hl 2 rfl) ?_
      refine lv_ladd hx hb dX1_join_98 ?_
      exact wx_lret hC hH hr hlk dX1_join_99 (wx_pr hF)
    have hF := wx_f hs7 hF
    by_cases hs8 : i1 = 27
    · have hF := wx_t hs8 hF
      refine wx_sw hx hb dX1_join_1 (by decide) (tgt := 100) (by rw [hs8]; decide) ?_
      refine lv_lload_n hx hb dX1_join_100 rfl (lv_at hl 1 rfl) ?_
      refine lv_lload_n hx hb dX1_join_101 rfl (lv_at hl 2 rfl) ?_
      refine lv_lsub hx hb dX1_join_102 ?_
      exact wx_lret hC hH hr hlk dX1_join_103 (wx_pr hF)
    have hF := wx_f hs8 hF
    by_cases hs9 : i1 = 28
    · have hF := wx_t hs9 hF
      refine wx_sw hx hb dX1_join_1 (by decide) (tgt := 104) (by rw [hs9]; decide) ?_
      refine lv_lload_n hx hb dX1_join_104 rfl (lv_at hl 1 rfl) ?_
      refine lv_lconst hx hb dX1_join_105 k_lconst_0 ?_
      refine W.lcmp hx hb dX1_join_106 ?_
      obtain ⟨q4_, hF, hq4⟩ := wJ_some hF
      have hJ116 : ∀ (q5 : Int64) (H : Heap) (locs : List Loc) (ls : Array Slot), F_X1_join_j116 q3 q2 q5 = some z → wHp D κ ρ 0 A s.heap H locs u0 → lv_has ls 9 [(1, .long q2), (3, .long q3)] → W p l e (wRm 0 0) s m args below meth c H locs 0 0 (wQL below args s A D κ ρ 0 (z, u0)) (F0 m 116 ls [.long q5]) := by
        intro q5 H locs ls hF hH hl
        unfold F_X1_join_j116 at hF
        refine wx_lstore hx hb dX1_join_116 hl (by decide) (fun ls hl => ?_)
        have hl : lv_has ls 9 [(5, .long q5), (1, .long q2), (3, .long q3)] := hl
        refine lv_lload hx hb dX1_join_118 (lv_at hl 0 rfl) ?_
        refine lv_lconst hx hb dX1_join_120 k_lconst_0 ?_
        refine W.lcmp hx hb dX1_join_121 ?_
        obtain ⟨q6_, hF, hq6⟩ := wJ_some hF
        have hJ137 : ∀ (q7 : Int64) (H : Heap) (locs : List Loc) (ls : Array Slot), F_X1_join_j137 q3 q2 q7 = some z → wHp D κ ρ 0 A s.heap H locs u0 → lv_has ls 9 [(1, .long q2), (3, .long q3)] → W p l e (wRm 0 0) s m args below meth c H locs 0 0 (wQL below args s A D κ ρ 0 (z, u0)) (F0 m 137 ls [.long q7]) := by
          intro q7 H locs ls hF hH hl
          unfold F_X1_join_j137 at hF
          refine wx_lstore hx hb dX1_join_137 hl (by decide) (fun ls hl => ?_)
          have hl : lv_has ls 9 [(7, .long q7), (1, .long q2), (3, .long q3)] := hl
          refine lv_lload_n hx hb dX1_join_139 rfl (lv_at hl 2 rfl) ?_
          refine lv_lload hx hb dX1_join_140 (lv_at hl 0 rfl) ?_
          refine W.lcmp hx hb dX1_join_142 ?_
          obtain ⟨q8_, hF, hq8⟩ := wJ_some hF
          have hJ154 : ∀ (H : Heap) (locs : List Loc) (ls : Array Slot), F_X1_join_j154 = some z → wHp D κ ρ 0 A s.heap H locs u0 → lv_has ls 9 [] → W p l e (wRm 0 0) s m args below meth c H locs 0 0 (wQL below args s A D κ ρ 0 (z, u0)) (F0 m 154 ls []) := by
            intro H locs ls hF hH hl
            unfold F_X1_join_j154 at hF
            refine lv_ldc2 hx hb hC.1.2.2.2.1 (hC.1.2.2.2.2 _ l_X1_36) dX1_join_154 ?_
            refine lv_goto hx hb dX1_join_157 (tgt := 163) rfl ?_
            exact wx_lret hC hH hr hlk dX1_join_163 (wx_pr hF)
          refine lv_if_gt hx hb dX1_join_143 (tgt := 154) rfl (fun h => ?_) (fun h => ?_)
          · have hF := wx_t h hF
            have hF := wJ_l hq8 hF
            exact hJ154 H locs ls hF hH (lv_sub hl [] rfl)
          have hF := wx_f h hF
          refine lv_lload_n hx hb dX1_join_146 rfl (lv_at hl 2 rfl) ?_
          refine lv_lload hx hb dX1_join_147 (lv_at hl 0 rfl) ?_
          refine lv_lneg hx hb dX1_join_149 ?_
          refine W.lcmp hx hb dX1_join_150 ?_
          refine lv_if_ge hx hb dX1_join_151 (tgt := 160) rfl (fun h => ?_) (fun h => ?_)
          · have hF := wx_t h hF
            refine lv_lload_n hx hb dX1_join_160 rfl (lv_at hl 1 rfl) ?_
            refine lv_lload_n hx hb dX1_join_161 rfl (lv_at hl 2 rfl) ?_
            refine lv_lmul hx hb dX1_join_162 ?_
            have hF := wJ_r hq8 hF
            exact wx_lret hC hH hr hlk dX1_join_163 (wx_pr hF)
          have hF := wx_f h hF
          have hF := wJ_l hq8 hF
          exact hJ154 H locs ls hF hH (lv_sub hl [] rfl)
        refine lv_if_ne hx hb dX1_join_122 (tgt := 131) rfl (fun h => ?_) (fun h => ?_)
        · have hF := wx_f h hF
          refine lv_ldc2 hx hb hC.1.2.2.2.1 (hC.1.2.2.2.2 _ l_X1_42) dX1_join_131 ?_
          refine lv_lload hx hb dX1_join_134 (lv_at hl 0 rfl) ?_
          obtain ⟨h0, hF⟩ := wG_some hF
          refine lv_ldiv hx hb dX1_join_136 h0 ?_
          have hF := wJ_l hq6 hF
          exact hJ137 ((1000000000000 : Int64) / q5) H locs ls hF hH (lv_sub hl [1, 2] rfl)
        have hF := wx_t h hF
        refine lv_ldc2 hx hb hC.1.2.2.2.1 (hC.1.2.2.2.2 _ l_X1_42) dX1_join_125 ?_
        refine lv_goto hx hb dX1_join_128 (tgt := 137) rfl ?_
        have hF := wJ_l hq6 hF
        exact hJ137 (1000000000000 : Int64) H locs ls hF hH (lv_sub hl [1, 2] rfl)
      refine lv_if_ge hx hb dX1_join_107 (tgt := 115) rfl (fun h => ?_) (fun h => ?_)
      · have hF := wx_t h hF
        refine lv_lload_n hx hb dX1_join_115 rfl (lv_at hl 1 rfl) ?_
        have hF := wJ_l hq4 hF
        exact hJ116 q2 H locs ls hF hH (lv_sub hl [1, 2] rfl)
      have hF := wx_f h hF
      refine lv_lload_n hx hb dX1_join_110 rfl (lv_at hl 1 rfl) ?_
      refine lv_lneg hx hb dX1_join_111 ?_
      refine lv_goto hx hb dX1_join_112 (tgt := 116) rfl ?_
      have hF := wJ_l hq4 hF
      exact hJ116 (-q2) H locs ls hF hH (lv_sub hl [1, 2] rfl)
    have hF := wx_f hs9 hF
    by_cases hs10 : i1 = 29
    · have hF := wx_t hs10 hF
      refine wx_sw hx hb dX1_join_1 (by decide) (tgt := 164) (by rw [hs10]; decide) ?_
      refine lv_lload_n hx hb dX1_join_164 rfl (lv_at hl 2 rfl) ?_
      refine lv_lconst hx hb dX1_join_165 k_lconst_0 ?_
      refine W.lcmp hx hb dX1_join_166 ?_
      refine lv_if_ne hx hb dX1_join_167 (tgt := 176) rfl (fun h => ?_) (fun h => ?_)
      · have hF := wx_f h hF
        refine lv_lload_n hx hb dX1_join_176 rfl (lv_at hl 1 rfl) ?_
        refine lv_lload_n hx hb dX1_join_177 rfl (lv_at hl 2 rfl) ?_
        obtain ⟨h0, hF⟩ := wG_some hF
        refine lv_ldiv hx hb dX1_join_178 h0 ?_
        exact wx_lret hC hH hr hlk dX1_join_179 (wx_pr hF)
      have hF := wx_t h hF
      refine lv_ldc2 hx hb hC.1.2.2.2.1 (hC.1.2.2.2.2 _ l_X1_36) dX1_join_170 ?_
      refine lv_goto hx hb dX1_join_173 (tgt := 179) rfl ?_
      exact wx_lret hC hH hr hlk dX1_join_179 (wx_pr hF)
    have hF := wx_f hs10 hF
    have htg : ((1 : Nat) : Int) + wTg (275) (10) (29) #[179, 197, 275, 275, 275, 275, 275, 275, 275, 275, 215, 227, 239, 251, 263, 275, 95, 99, 103, 163] i1 = ((276 : Nat) : Int) := by
      by_cases e0 : i1 = 12
      · rw [e0]; decide
      by_cases e1 : i1 = 13
      · rw [e1]; decide
      by_cases e2 : i1 = 14
      · rw [e2]; decide
      by_cases e3 : i1 = 15
      · rw [e3]; decide
      by_cases e4 : i1 = 16
      · rw [e4]; decide
      by_cases e5 : i1 = 17
      · rw [e5]; decide
      by_cases e6 : i1 = 18
      · rw [e6]; decide
      by_cases e7 : i1 = 19
      · rw [e7]; decide
      by_cases e8 : i1 = 25
      · rw [e8]; decide
      have n0 : ¬ (i1).toInt = 10 := lv_neT (k := 10) (a := 10) (fun q => hs0 (q)) (by decide)
      have n1 : ¬ (i1).toInt = 11 := lv_neT (k := 11) (a := 11) (fun q => hs1 (q)) (by decide)
      have n2 : ¬ (i1).toInt = 20 := lv_neT (k := 20) (a := 20) (fun q => hs2 (q)) (by decide)
      have n3 : ¬ (i1).toInt = 21 := lv_neT (k := 21) (a := 21) (fun q => hs3 (q)) (by decide)
      have n4 : ¬ (i1).toInt = 22 := lv_neT (k := 22) (a := 22) (fun q => hs4 (q)) (by decide)
      have n5 : ¬ (i1).toInt = 23 := lv_neT (k := 23) (a := 23) (fun q => hs5 (q)) (by decide)
      have n6 : ¬ (i1).toInt = 24 := lv_neT (k := 24) (a := 24) (fun q => hs6 (q)) (by decide)
      have n7 : ¬ (i1).toInt = 26 := lv_neT (k := 26) (a := 26) (fun q => hs7 (q)) (by decide)
      have n8 : ¬ (i1).toInt = 27 := lv_neT (k := 27) (a := 27) (fun q => hs8 (q)) (by decide)
      have n9 : ¬ (i1).toInt = 28 := lv_neT (k := 28) (a := 28) (fun q => hs9 (q)) (by decide)
      have n10 : ¬ (i1).toInt = 29 := lv_neT (k := 29) (a := 29) (fun q => hs10 (q)) (by decide)
      have w0 : ¬ (i1).toInt = 12 := lv_neT (k := 12) (a := 12) e0 (by decide)
      have w1 : ¬ (i1).toInt = 13 := lv_neT (k := 13) (a := 13) e1 (by decide)
      have w2 : ¬ (i1).toInt = 14 := lv_neT (k := 14) (a := 14) e2 (by decide)
      have w3 : ¬ (i1).toInt = 15 := lv_neT (k := 15) (a := 15) e3 (by decide)
      have w4 : ¬ (i1).toInt = 16 := lv_neT (k := 16) (a := 16) e4 (by decide)
      have w5 : ¬ (i1).toInt = 17 := lv_neT (k := 17) (a := 17) e5 (by decide)
      have w6 : ¬ (i1).toInt = 18 := lv_neT (k := 18) (a := 18) e6 (by decide)
      have w7 : ¬ (i1).toInt = 19 := lv_neT (k := 19) (a := 19) e7 (by decide)
      have w8 : ¬ (i1).toInt = 25 := lv_neT (k := 25) (a := 25) e8 (by decide)
      rw [wTg_lo (by omega)]; rfl
    refine wx_sw hx hb dX1_join_1 (by decide) (tgt := 276) htg ?_
    refine lv_lload_n hx hb dX1_join_276 rfl (lv_at hl 1 rfl) ?_
    refine lv_lload_n hx hb dX1_join_277 rfl (lv_at hl 2 rfl) ?_
    refine W.lcmp hx hb dX1_join_278 ?_
    refine lv_if_le hx hb dX1_join_279 (tgt := 286) rfl (fun h => ?_) (fun h => ?_)
    · have hF := wx_t h hF
      refine lv_lconst hx hb dX1_join_286 k_lconst_0 ?_
      exact wx_lret hC hH hr hlk dX1_join_287 (wx_pr hF)
    have hF := wx_f h hF
    refine lv_lconst hx hb dX1_join_282 k_lconst_1 ?_
    refine lv_goto hx hb dX1_join_283 (tgt := 287) rfl ?_
    exact wx_lret hC hH hr hlk dX1_join_287 (wx_pr hF)
  exact key _ _ hH
def F_X1_work_j234 (o1 : Nat) (i10 : Int32) (u11 : wSt) : Option (Int64 × wSt) :=
  if i10 = (1 : Int32) then (wR (u11.2.2 o1 6) 13 (fun o12 => wN (0 : Int32) o12 (fun j13 => some ((u11.2.1 o12 j13), u11)))) else (some ((-9223372036854775808 : Int64), u11))
def F_X1_work_j93 (u14 : wSt) : Option ((Int32 × wSt) ⊕ (Int64 × wSt)) :=
  some (.inr ((-9223372036854775808 : Int64), u14))
def F_X1_work_j214 (u15 : wSt) : Option ((wSt) ⊕ ((Int32 × wSt) ⊕ (Int64 × wSt))) :=
  some (.inr (.inr ((-9223372036854775808 : Int64), u15)))
def F_X1_work_j196 (u19 : wSt) (o1 : Nat) (i32 : Int32) (i18 : Int32) (q34 : Int64) : Option ((Int32 × Int32 × wSt) ⊕ ((wSt) ⊕ ((wSt) ⊕ ((Int32 × wSt) ⊕ (Int64 × wSt))))) :=
  if 0 < (lg_cmp q34 (1000000000000 : Int64)) then (some (.inr (.inl u19))) else (if 0 ≤ (lg_cmp q34 (-1000000000000 : Int64)) then (wR (u19.2.2 o1 6) 13 (fun o35 => wSL u19 o35 (i32 - (1 : Int32)) q34 (fun (u36 : wSt) => wB (i18 + (1 : Int32)) (fun (i37 : Int32) => some (.inl (i32, i37, u36)))))) else (some (.inr (.inl u19))))
def F_X1_work_j194 (q39 : Int64) : Option ((Int64) ⊕ ((Int32 × Int32 × wSt) ⊕ ((wSt) ⊕ ((wSt) ⊕ ((Int32 × wSt) ⊕ (Int64 × wSt)))))) :=
  some (.inl q39)
def F_X1_work_j158 (q48 : Int64) : Option ((Int64) ⊕ ((Int32 × Int32 × wSt) ⊕ ((wSt) ⊕ ((wSt) ⊕ ((Int32 × wSt) ⊕ (Int64 × wSt)))))) :=
  some (.inl q48)
def F_X1_work_j128 (q50 : Int64) : Option ((Int64) ⊕ ((Int32 × Int32 × wSt) ⊕ ((wSt) ⊕ ((wSt) ⊕ ((Int32 × wSt) ⊕ (Int64 × wSt)))))) :=
  some (.inl q50)
def F_X1_work_j80 (i17 : Int32) (u19 : wSt) (i27 : Int32) (o1 : Nat) (i18 : Int32) (o3 : Nat) (i30 : Int32) (i31 : Int32) : Option ((Int32 × Int32 × wSt) ⊕ ((wSt) ⊕ ((wSt) ⊕ ((Int32 × wSt) ⊕ (Int64 × wSt))))) :=
  wB (i17 + i31) (fun (i32 : Int32) => if i32 < (1 : Int32) then (some (.inr (.inr (.inl u19)))) else (if i32 ≤ (64 : Int32) then (wJ (X := Int64) (if i30 = 0 then (if i27 = (12 : Int32) then (wR (u19.2.2 o1 6) 13 (fun o45 => wN (i32 - (1 : Int32)) o45 (fun j46 => wJ (X := Int64) (if (lg_cmp (u19.2.1 o45 j46) (0 : Int64)) = 0 then (some (.inl (1 : Int64))) else (some (.inl (0 : Int64)))) (fun x => F_X1_work_j158 x)))) else (wJ (X := Int64) (if (64 : Int32) ≤ i32 then (some (.inl (-9223372036854775808 : Int64))) else (wR (u19.2.2 o1 6) 13 (fun o40 => wN (i32 - (1 : Int32)) o40 (fun j41 => wR (u19.2.2 o1 6) 13 (fun o42 => wN i32 o42 (fun j43 => wP (F_X1_join i27 (u19.2.1 o40 j41) (u19.2.1 o42 j43) u19) (fun (q44 : Int64) => some (.inl q44)))))))) (fun x => F_X1_work_j194 x))) else (wJ (X := Int64) (if i27 = (33 : Int32) then (wR (u19.2.2 o1 5) 10 (fun o52 => wN i18 o52 (fun j53 => some (.inl ((u19.1 o52 j53).toInt64))))) else (wN (i27 - (13 : Int32)) o3 (fun j51 => some (.inl ((u19.1 o3 j51).toInt64))))) (fun x => F_X1_work_j128 x))) (fun x => F_X1_work_j196 u19 o1 i32 i18 x)) else (some (.inr (.inr (.inl u19))))))
def F_X1_work_j56 (i17 : Int32) (u19 : wSt) (o1 : Nat) (i18 : Int32) (o3 : Nat) (i27 : Int32) (i28 : Int32) : Option ((Int32 × Int32 × wSt) ⊕ ((wSt) ⊕ ((wSt) ⊕ ((Int32 × wSt) ⊕ (Int64 × wSt))))) :=
  wJ (X := Int32 × Int32) (if i28 = 0 then (if i27 = (12 : Int32) then (some (.inl (i28, (0 : Int32)))) else (some (.inl (i28, (-1 : Int32))))) else (some (.inl (i28, (1 : Int32))))) (fun x => F_X1_work_j80 i17 u19 i27 o1 i18 o3 x.1 x.2)
def F_X1_work_j51 (i54 : Int32) : Option ((Int32 × Int32) ⊕ ((Int32 × Int32 × wSt) ⊕ ((wSt) ⊕ ((wSt) ⊕ ((Int32 × wSt) ⊕ (Int64 × wSt)))))) :=
  some (.inl (i54, (1 : Int32)))
def F_X1_work_j55 (i24 : Int32) : Option ((Int32) ⊕ ((Int32 × Int32) ⊕ ((Int32 × Int32 × wSt) ⊕ ((wSt) ⊕ ((wSt) ⊕ ((Int32 × wSt) ⊕ (Int64 × wSt))))))) :=
  some (.inr (.inl (i24, (0 : Int32))))
def F_X1_work_b10 (o1 : Nat) (i2 : Int32) (o3 : Nat) (i17 : Int32) (i18 : Int32) (u19 : wSt) : Option ((Int32 × Int32 × wSt) ⊕ ((wSt) ⊕ ((wSt) ⊕ ((Int32 × wSt) ⊕ (Int64 × wSt))))) :=
  wR (u19.2.2 o1 3) 10 (fun o20 => wN i2 o20 (fun j21 => if (u19.1 o20 j21) ≤ i18 then (some (.inr (.inr (.inr (.inl (i17, u19)))))) else (wR (u19.2.2 o1 4) 10 (fun o22 => wN i18 o22 (fun j23 => wB (u19.1 o22 j23) (fun (i24 : Int32) => wJ (X := Int32 × Int32) (wJ (X := Int32) (if i24 = (33 : Int32) then (some (.inl i24)) else (wJ (X := Unit) (if i24 < (13 : Int32) then (some (.inl ())) else (if (19 : Int32) < i24 then (some (.inl ())) else (some (.inr (.inl i24))))) (fun x => F_X1_work_j55 i24))) (fun x => F_X1_work_j51 x)) (fun x => F_X1_work_j56 i17 u19 o1 i18 o3 x.1 x.2)))))))
def F_X1_work (o1 : Nat) (i2 : Int32) (o3 : Nat) (u0 : wSt) : Option (Int64 × wSt) :=
  wR (u0.2.2 o1 2) 10 (fun o4 => wN i2 o4 (fun j5 => wB (u0.1 o4 j5) (fun (i6 : Int32) => wJ (X := Int32 × wSt) (wJ (X := wSt) (wJ (X := wSt) (wL (S := Int32 × Int32 × wSt) (fun x => F_X1_work_b10 o1 i2 o3 x.1 x.2.1 x.2.2) wFu ((0 : Int32), i6, u0)) (fun x => F_X1_work_j214 x)) (fun x => F_X1_work_j93 x)) (fun x => F_X1_work_j234 o1 x.1 x.2))))
set_option maxRecDepth 100000 in
set_option maxHeartbeats 4000000 in
theorem c_X1_work {l : Launch} {D : va_G} {κ : Nat → ClassId} {ρ : Nat → Nat} (o1 : Nat) (i2 : Int32) (o3 : Nat) (h_o1 : (w_sh o1).1 = 1) (h_o3 : (w_sh o3).1 = 10) : wML l yX1_work cX1_work 9 (wRm 1 28) [.ref (ρ o1), .int i2, .ref (ρ o3)] D κ ρ 0 (fun u => F_X1_work o1 i2 o3 u) := by
  refine wML_of (F := fun u => F_X1_work o1 i2 o3 u) rfl (Nat.le_of_ble_eq_true rfl) (fun u0 z p e s m args below meth c ls A hF hC hr hlk hH hl => ?_)
  have hl : lv_has ls 9 [(0, .ref (ρ o1)), (1, .int i2), (2, .ref (ρ o3))] := hl
  have hx := hC.1.1
  have hb := hC.1.2.1
  have hF : F_X1_work o1 i2 o3 u0 = some z := hF
  unfold F_X1_work at hF
  change W p l e (wRm 1 28) s m args below meth c s.heap [] 0 0 (wQL below args s A D κ ρ 0 z) (F0 m 0 ls [])
  have key : ∀ (H : Heap) (locs : List Loc), wHp D κ ρ 0 A s.heap H locs u0 → W p l e (wRm 1 28) s m args below meth c H locs 0 0 (wQL below args s A D κ ρ 0 z) (F0 m 0 ls []) := by
    intro H locs hH
    refine lv_iconst hx hb dX1_work_0 k_iconst_0 ?_
    refine wx_istore_n hx hb dX1_work_1 rfl hl (by decide) (fun ls hl => ?_)
    have hl : lv_has ls 9 [(3, .int (0 : Int32)), (0, .ref (ρ o1)), (1, .int i2), (2, .ref (ρ o3))] := hl
    refine lv_aload_n hx hb dX1_work_2 rfl (lv_at hl 1 rfl) ?_
    refine wx_getR hC hH h_o1 rfl f_X1_19 dX1_work_3 hF (fun o4 h_o4 hF => ?_)
    refine lv_iload_n hx hb dX1_work_6 rfl (lv_at hl 2 rfl) ?_
    refine wx_iald hC hH h_o4 ⟨rfl, rfl⟩ dX1_work_7 hF (fun j5 hF => ?_)
    refine wx_leti hF (fun i6 hF => ?_)
    refine wx_istore hx hb dX1_work_8 hl (by decide) (fun ls hl => ?_)
    have hl : lv_has ls 9 [(4, .int i6), (3, .int (0 : Int32)), (0, .ref (ρ o1)), (1, .int i2), (2, .ref (ρ o3))] := hl
    obtain ⟨q7_, hF, hq7⟩ := wJ_some hF
    obtain ⟨q8_, hF, hq8⟩ := wJ_some hF
    obtain ⟨q9_, hF, hq9⟩ := wJ_some hF
    have hJ234 : ∀ (i10 : Int32) (u11 : wSt) (H : Heap) (locs : List Loc) (ls : Array Slot), F_X1_work_j234 o1 i10 u11 = some z → wHp D κ ρ 0 A s.heap H locs u11 → lv_has ls 9 [(0, .ref (ρ o1)), (3, .int i10)] → W p l e (wRm 1 28) s m args below meth c H locs 0 0 (wQL below args s A D κ ρ 0 z) (F0 m 234 ls []) := by
      intro i10 u11 H locs ls hF hH hl
      unfold F_X1_work_j234 at hF
      refine lv_iload_n hx hb dX1_work_234 rfl (lv_at hl 1 rfl) ?_
      refine lv_iconst hx hb dX1_work_235 k_iconst_1 ?_
      refine lv_icmp_ne hx hb dX1_work_236 (tgt := 248) rfl (fun h => ?_) (fun h => ?_)
      · have hF := wx_f h hF
        refine lv_ldc2 hx hb hC.1.2.2.2.1 (hC.1.2.2.2.2 _ l_X1_36) dX1_work_248 ?_
        exact wx_lret hC hH hr hlk dX1_work_251 hF
      have hF := wx_t h hF
      refine lv_aload_n hx hb dX1_work_239 rfl (lv_at hl 0 rfl) ?_
      refine wx_getR hC hH h_o1 rfl f_X1_32 dX1_work_240 hF (fun o12 h_o12 hF => ?_)
      refine lv_iconst hx hb dX1_work_243 k_iconst_0 ?_
      refine wx_lald hC hH h_o12 ⟨rfl, rfl⟩ dX1_work_244 hF (fun j13 hF => ?_)
      refine lv_goto hx hb dX1_work_245 (tgt := 251) rfl ?_
      exact wx_lret hC hH hr hlk dX1_work_251 hF
    have hJ93 : ∀ (u14 : wSt) (H : Heap) (locs : List Loc) (ls : Array Slot), F_X1_work_j93 u14 = some q7_ → wHp D κ ρ 0 A s.heap H locs u14 → lv_has ls 9 [] → W p l e (wRm 1 28) s m args below meth c H locs 0 0 (wQL below args s A D κ ρ 0 z) (F0 m 93 ls []) := by
      intro u14 H locs ls hF hH hl
      unfold F_X1_work_j93 at hF
      refine lv_ldc2 hx hb hC.1.2.2.2.1 (hC.1.2.2.2.2 _ l_X1_36) dX1_work_93 ?_
      have hF := wJ_r hq7 hF
      exact wx_lret hC hH hr hlk dX1_work_96 hF
    have hJ214 : ∀ (u15 : wSt) (H : Heap) (locs : List Loc) (ls : Array Slot), F_X1_work_j214 u15 = some q8_ → wHp D κ ρ 0 A s.heap H locs u15 → lv_has ls 9 [] → W p l e (wRm 1 28) s m args below meth c H locs 0 0 (wQL below args s A D κ ρ 0 z) (F0 m 214 ls []) := by
      intro u15 H locs ls hF hH hl
      unfold F_X1_work_j214 at hF
      refine lv_ldc2 hx hb hC.1.2.2.2.1 (hC.1.2.2.2.2 _ l_X1_36) dX1_work_214 ?_
      have hF := wJ_r hq8 hF
      have hF := wJ_r hq7 hF
      exact wx_lret hC hH hr hlk dX1_work_217 hF
    have hL10 : ∀ (k16_ : Nat) (i17 : Int32) (i18 : Int32) (u19 : wSt) (H : Heap) (locs : List Loc) (ls : Array Slot), wL (S := Int32 × Int32 × wSt) (fun x => F_X1_work_b10 o1 i2 o3 x.1 x.2.1 x.2.2) k16_ (i17, i18, u19) = some q9_ → wHp D κ ρ 0 A s.heap H locs u19 → lv_has ls 9 [(0, .ref (ρ o1)), (1, .int i2), (2, .ref (ρ o3)), (3, .int i17), (4, .int i18)] → W p l e (wRm 1 28) s m args below meth c H locs 0 0 (wQL below args s A D κ ρ 0 z) (F0 m 10 ls []) := by
      intro k16_
      induction k16_ with
      | zero => intro i17 i18 u19 H locs ls hF; exact wL_zero hF
      | succ k16_ ih16 =>
        intro i17 i18 u19 H locs ls hF hH hl
        obtain ⟨q16_, hF, hq16⟩ := wL_some hF
        have hF : F_X1_work_b10 o1 i2 o3 i17 i18 u19 = some q16_ := hF
        unfold F_X1_work_b10 at hF
        refine lv_iload hx hb dX1_work_10 (lv_at hl 4 rfl) ?_
        refine lv_aload_n hx hb dX1_work_12 rfl (lv_at hl 0 rfl) ?_
        refine wx_getR hC hH h_o1 rfl f_X1_23 dX1_work_13 hF (fun o20 h_o20 hF => ?_)
        refine lv_iload_n hx hb dX1_work_16 rfl (lv_at hl 1 rfl) ?_
        refine wx_iald hC hH h_o20 ⟨rfl, rfl⟩ dX1_work_17 hF (fun j21 hF => ?_)
        refine lv_icmp_ge hx hb dX1_work_18 (tgt := 234) rfl (fun h => ?_) (fun h => ?_)
        · have hF := wx_t h hF
          have hF := wJ_r hq16 hF
          have hF := wJ_r hq9 hF
          have hF := wJ_r hq8 hF
          have hF := wJ_l hq7 hF
          exact hJ234 i17 u19 H locs ls hF hH (lv_sub hl [0, 3] rfl)
        have hF := wx_f h hF
        refine lv_aload_n hx hb dX1_work_21 rfl (lv_at hl 0 rfl) ?_
        refine wx_getR hC hH h_o1 rfl f_X1_26 dX1_work_22 hF (fun o22 h_o22 hF => ?_)
        refine lv_iload hx hb dX1_work_25 (lv_at hl 4 rfl) ?_
        refine wx_iald hC hH h_o22 ⟨rfl, rfl⟩ dX1_work_27 hF (fun j23 hF => ?_)
        refine wx_leti hF (fun i24 hF => ?_)
        refine wx_istore hx hb dX1_work_28 hl (by decide) (fun ls hl => ?_)
        have hl : lv_has ls 9 [(5, .int i24), (0, .ref (ρ o1)), (1, .int i2), (2, .ref (ρ o3)), (3, .int i17), (4, .int i18)] := hl
        refine lv_iload hx hb dX1_work_30 (lv_at hl 0 rfl) ?_
        refine lv_bipush hx hb dX1_work_32 k_bipush_33 ?_
        obtain ⟨q25_, hF, hq25⟩ := wJ_some hF
        obtain ⟨q26_, hF, hq26⟩ := wJ_some hF
        have hJ56 : ∀ (i27 : Int32) (i28 : Int32) (H : Heap) (locs : List Loc) (ls : Array Slot), F_X1_work_j56 i17 u19 o1 i18 o3 i27 i28 = some q16_ → wHp D κ ρ 0 A s.heap H locs u19 → lv_has ls 9 [(0, .ref (ρ o1)), (1, .int i2), (2, .ref (ρ o3)), (3, .int i17), (4, .int i18), (5, .int i27)] → W p l e (wRm 1 28) s m args below meth c H locs 0 0 (wQL below args s A D κ ρ 0 z) (F0 m 56 ls [.int i28]) := by
          intro i27 i28 H locs ls hF hH hl
          unfold F_X1_work_j56 at hF
          refine wx_istore hx hb dX1_work_56 hl (by decide) (fun ls hl => ?_)
          have hl : lv_has ls 9 [(6, .int i28), (0, .ref (ρ o1)), (1, .int i2), (2, .ref (ρ o3)), (3, .int i17), (4, .int i18), (5, .int i27)] := hl
          refine lv_iload_n hx hb dX1_work_58 rfl (lv_at hl 4 rfl) ?_
          refine lv_iload hx hb dX1_work_59 (lv_at hl 0 rfl) ?_
          obtain ⟨q29_, hF, hq29⟩ := wJ_some hF
          have hJ80 : ∀ (i30 : Int32) (i31 : Int32) (H : Heap) (locs : List Loc) (ls : Array Slot), F_X1_work_j80 i17 u19 i27 o1 i18 o3 i30 i31 = some q16_ → wHp D κ ρ 0 A s.heap H locs u19 → lv_has ls 9 [(0, .ref (ρ o1)), (1, .int i2), (2, .ref (ρ o3)), (4, .int i18), (5, .int i27), (6, .int i30)] → W p l e (wRm 1 28) s m args below meth c H locs 0 0 (wQL below args s A D κ ρ 0 z) (F0 m 80 ls [.int i31, .int i17]) := by
            intro i30 i31 H locs ls hF hH hl
            unfold F_X1_work_j80 at hF
            refine lv_iadd hx hb dX1_work_80 ?_
            refine wx_leti hF (fun i32 hF => ?_)
            refine wx_istore_n hx hb dX1_work_81 rfl hl (by decide) (fun ls hl => ?_)
            have hl : lv_has ls 9 [(3, .int i32), (0, .ref (ρ o1)), (1, .int i2), (2, .ref (ρ o3)), (4, .int i18), (5, .int i27), (6, .int i30)] := hl
            refine lv_iload_n hx hb dX1_work_82 rfl (lv_at hl 0 rfl) ?_
            refine lv_iconst hx hb dX1_work_83 k_iconst_1 ?_
            refine lv_icmp_lt hx hb dX1_work_84 (tgt := 93) rfl (fun h => ?_) (fun h => ?_)
            · have hF := wx_t h hF
              have hF := wJ_r hq16 hF
              have hF := wJ_r hq9 hF
              have hF := wJ_l hq8 hF
              exact hJ93 u19 H locs ls hF hH (lv_sub hl [] rfl)
            have hF := wx_f h hF
            refine lv_iload_n hx hb dX1_work_87 rfl (lv_at hl 0 rfl) ?_
            refine lv_bipush hx hb dX1_work_88 k_bipush_64 ?_
            refine lv_icmp_le hx hb dX1_work_90 (tgt := 97) rfl (fun h => ?_) (fun h => ?_)
            · have hF := wx_t h hF
              refine lv_iload hx hb dX1_work_97 (lv_at hl 6 rfl) ?_
              obtain ⟨q33_, hF, hq33⟩ := wJ_some hF
              have hJ196 : ∀ (q34 : Int64) (H : Heap) (locs : List Loc) (ls : Array Slot), F_X1_work_j196 u19 o1 i32 i18 q34 = some q16_ → wHp D κ ρ 0 A s.heap H locs u19 → lv_has ls 9 [(0, .ref (ρ o1)), (1, .int i2), (2, .ref (ρ o3)), (3, .int i32), (4, .int i18), (7, .long q34)] → W p l e (wRm 1 28) s m args below meth c H locs 0 0 (wQL below args s A D κ ρ 0 z) (F0 m 196 ls []) := by
                intro q34 H locs ls hF hH hl
                unfold F_X1_work_j196 at hF
                refine lv_lload hx hb dX1_work_196 (lv_at hl 5 rfl) ?_
                refine lv_ldc2 hx hb hC.1.2.2.2.1 (hC.1.2.2.2.2 _ l_X1_42) dX1_work_198 ?_
                refine W.lcmp hx hb dX1_work_201 ?_
                refine lv_if_gt hx hb dX1_work_202 (tgt := 214) rfl (fun h => ?_) (fun h => ?_)
                · have hF := wx_t h hF
                  have hF := wJ_r hq16 hF
                  have hF := wJ_l hq9 hF
                  exact hJ214 u19 H locs ls hF hH (lv_sub hl [] rfl)
                have hF := wx_f h hF
                refine lv_lload hx hb dX1_work_205 (lv_at hl 5 rfl) ?_
                refine lv_ldc2 hx hb hC.1.2.2.2.1 (hC.1.2.2.2.2 _ l_X1_44) dX1_work_207 ?_
                refine W.lcmp hx hb dX1_work_210 ?_
                refine lv_if_ge hx hb dX1_work_211 (tgt := 218) rfl (fun h => ?_) (fun h => ?_)
                · have hF := wx_t h hF
                  refine lv_aload_n hx hb dX1_work_218 rfl (lv_at hl 0 rfl) ?_
                  refine wx_getR hC hH h_o1 rfl f_X1_32 dX1_work_219 hF (fun o35 h_o35 hF => ?_)
                  refine lv_iload_n hx hb dX1_work_222 rfl (lv_at hl 3 rfl) ?_
                  refine lv_iconst hx hb dX1_work_223 k_iconst_1 ?_
                  refine lv_isub hx hb dX1_work_224 ?_
                  refine lv_lload hx hb dX1_work_225 (lv_at hl 5 rfl) ?_
                  refine wx_last hC hH h_o35 ⟨rfl, rfl⟩ dX1_work_227 hF (fun u36 H locs hF hH => ?_)
                  refine wx_iinc hx hb dX1_work_228 k_iconst_1 hl (k := 4) rfl (by decide) hF (fun i37 ls hF hl => ?_)
                  have hl : lv_has ls 9 [(4, .int i37), (0, .ref (ρ o1)), (1, .int i2), (2, .ref (ρ o3)), (3, .int i32), (7, .long q34)] := hl
                  refine lv_goto hx hb dX1_work_231 (tgt := 10) rfl ?_
                  have hF := wJ_l hq16 hF
                  exact ih16 i32 i37 u36 H locs ls hF hH (lv_sub hl [1, 2, 3, 4, 0] rfl)
                have hF := wx_f h hF
                have hF := wJ_r hq16 hF
                have hF := wJ_l hq9 hF
                exact hJ214 u19 H locs ls hF hH (lv_sub hl [] rfl)
              refine lv_if_eq hx hb dX1_work_99 (tgt := 133) rfl (fun h => ?_) (fun h => ?_)
              · have hF := wx_t h hF
                refine lv_iload hx hb dX1_work_133 (lv_at hl 5 rfl) ?_
                refine lv_bipush hx hb dX1_work_135 k_bipush_12 ?_
                refine lv_icmp_ne hx hb dX1_work_137 (tgt := 163) rfl (fun h => ?_) (fun h => ?_)
                · have hF := wx_f h hF
                  refine lv_iload_n hx hb dX1_work_163 rfl (lv_at hl 0 rfl) ?_
                  refine lv_bipush hx hb dX1_work_164 k_bipush_64 ?_
                  obtain ⟨q38_, hF, hq38⟩ := wJ_some hF
                  have hJ194 : ∀ (q39 : Int64) (H : Heap) (locs : List Loc) (ls : Array Slot), F_X1_work_j194 q39 = some q33_ → wHp D κ ρ 0 A s.heap H locs u19 → lv_has ls 9 [(0, .ref (ρ o1)), (1, .int i2), (2, .ref (ρ o3)), (3, .int i32), (4, .int i18)] → W p l e (wRm 1 28) s m args below meth c H locs 0 0 (wQL below args s A D κ ρ 0 z) (F0 m 194 ls [.long q39]) := by
                    intro q39 H locs ls hF hH hl
                    unfold F_X1_work_j194 at hF
                    refine wx_lstore hx hb dX1_work_194 hl (by decide) (fun ls hl => ?_)
                    have hl : lv_has ls 9 [(7, .long q39), (0, .ref (ρ o1)), (1, .int i2), (2, .ref (ρ o3)), (3, .int i32), (4, .int i18)] := hl
                    have hF := wJ_l hq33 hF
                    exact hJ196 q39 H locs ls hF hH (lv_sub hl [1, 2, 3, 4, 5, 0] rfl)
                  refine lv_icmp_ge hx hb dX1_work_166 (tgt := 191) rfl (fun h => ?_) (fun h => ?_)
                  · have hF := wx_t h hF
                    refine lv_ldc2 hx hb hC.1.2.2.2.1 (hC.1.2.2.2.2 _ l_X1_36) dX1_work_191 ?_
                    have hF := wJ_l hq38 hF
                    exact hJ194 (-9223372036854775808 : Int64) H locs ls hF hH (lv_sub hl [1, 2, 3, 0, 4] rfl)
                  have hF := wx_f h hF
                  refine lv_iload hx hb dX1_work_169 (lv_at hl 5 rfl) ?_
                  refine lv_aload_n hx hb dX1_work_171 rfl (lv_at hl 1 rfl) ?_
                  refine wx_getR hC hH h_o1 rfl f_X1_32 dX1_work_172 hF (fun o40 h_o40 hF => ?_)
                  refine lv_iload_n hx hb dX1_work_175 rfl (lv_at hl 0 rfl) ?_
                  refine lv_iconst hx hb dX1_work_176 k_iconst_1 ?_
                  refine lv_isub hx hb dX1_work_177 ?_
                  refine wx_lald hC hH h_o40 ⟨rfl, rfl⟩ dX1_work_178 hF (fun j41 hF => ?_)
                  refine lv_aload_n hx hb dX1_work_179 rfl (lv_at hl 1 rfl) ?_
                  refine wx_getR hC hH h_o1 rfl f_X1_32 dX1_work_180 hF (fun o42 h_o42 hF => ?_)
                  refine lv_iload_n hx hb dX1_work_183 rfl (lv_at hl 0 rfl) ?_
                  refine wx_lald hC hH h_o42 ⟨rfl, rfl⟩ dX1_work_184 hF (fun j43 hF => ?_)
                  refine wx_psl hC hH hl (c_X1_join i27 (u19.2.1 o40 j41) (u19.2.1 o42 j43)) y_X1_join v_X1_join m_X1_38 rfl ⟨Nat.le_of_ble_eq_true rfl, Nat.le_of_ble_eq_true rfl⟩ ⟨Nat.le_refl _, Nat.le_refl _⟩ rfl (Nat.le_of_ble_eq_true rfl) dX1_work_185 hF (fun q44 H locs hF hH => ?_)
                  refine lv_goto hx hb dX1_work_188 (tgt := 194) rfl ?_
                  have hF := wJ_l hq38 hF
                  exact hJ194 q44 H locs ls hF hH (lv_sub hl [1, 2, 3, 0, 4] rfl)
                have hF := wx_t h hF
                refine lv_aload_n hx hb dX1_work_140 rfl (lv_at hl 1 rfl) ?_
                refine wx_getR hC hH h_o1 rfl f_X1_32 dX1_work_141 hF (fun o45 h_o45 hF => ?_)
                refine lv_iload_n hx hb dX1_work_144 rfl (lv_at hl 0 rfl) ?_
                refine lv_iconst hx hb dX1_work_145 k_iconst_1 ?_
                refine lv_isub hx hb dX1_work_146 ?_
                refine wx_lald hC hH h_o45 ⟨rfl, rfl⟩ dX1_work_147 hF (fun j46 hF => ?_)
                refine lv_lconst hx hb dX1_work_148 k_lconst_0 ?_
                refine W.lcmp hx hb dX1_work_149 ?_
                obtain ⟨q47_, hF, hq47⟩ := wJ_some hF
                have hJ158 : ∀ (q48 : Int64) (H : Heap) (locs : List Loc) (ls : Array Slot), F_X1_work_j158 q48 = some q33_ → wHp D κ ρ 0 A s.heap H locs u19 → lv_has ls 9 [(0, .ref (ρ o1)), (1, .int i2), (2, .ref (ρ o3)), (3, .int i32), (4, .int i18)] → W p l e (wRm 1 28) s m args below meth c H locs 0 0 (wQL below args s A D κ ρ 0 z) (F0 m 158 ls [.long q48]) := by
                  intro q48 H locs ls hF hH hl
                  unfold F_X1_work_j158 at hF
                  refine wx_lstore hx hb dX1_work_158 hl (by decide) (fun ls hl => ?_)
                  have hl : lv_has ls 9 [(7, .long q48), (0, .ref (ρ o1)), (1, .int i2), (2, .ref (ρ o3)), (3, .int i32), (4, .int i18)] := hl
                  refine lv_goto hx hb dX1_work_160 (tgt := 196) rfl ?_
                  have hF := wJ_l hq33 hF
                  exact hJ196 q48 H locs ls hF hH (lv_sub hl [1, 2, 3, 4, 5, 0] rfl)
                refine lv_if_ne hx hb dX1_work_150 (tgt := 157) rfl (fun h => ?_) (fun h => ?_)
                · have hF := wx_f h hF
                  refine lv_lconst hx hb dX1_work_157 k_lconst_0 ?_
                  have hF := wJ_l hq47 hF
                  exact hJ158 (0 : Int64) H locs ls hF hH (lv_sub hl [1, 2, 3, 0, 4] rfl)
                have hF := wx_t h hF
                refine lv_lconst hx hb dX1_work_153 k_lconst_1 ?_
                refine lv_goto hx hb dX1_work_154 (tgt := 158) rfl ?_
                have hF := wJ_l hq47 hF
                exact hJ158 (1 : Int64) H locs ls hF hH (lv_sub hl [1, 2, 3, 0, 4] rfl)
              have hF := wx_f h hF
              refine lv_iload hx hb dX1_work_102 (lv_at hl 5 rfl) ?_
              refine lv_bipush hx hb dX1_work_104 k_bipush_33 ?_
              obtain ⟨q49_, hF, hq49⟩ := wJ_some hF
              have hJ128 : ∀ (q50 : Int64) (H : Heap) (locs : List Loc) (ls : Array Slot), F_X1_work_j128 q50 = some q33_ → wHp D κ ρ 0 A s.heap H locs u19 → lv_has ls 9 [(0, .ref (ρ o1)), (1, .int i2), (2, .ref (ρ o3)), (3, .int i32), (4, .int i18)] → W p l e (wRm 1 28) s m args below meth c H locs 0 0 (wQL below args s A D κ ρ 0 z) (F0 m 128 ls [.long q50]) := by
                intro q50 H locs ls hF hH hl
                unfold F_X1_work_j128 at hF
                refine wx_lstore hx hb dX1_work_128 hl (by decide) (fun ls hl => ?_)
                have hl : lv_has ls 9 [(7, .long q50), (0, .ref (ρ o1)), (1, .int i2), (2, .ref (ρ o3)), (3, .int i32), (4, .int i18)] := hl
                refine lv_goto hx hb dX1_work_130 (tgt := 196) rfl ?_
                have hF := wJ_l hq33 hF
                exact hJ196 q50 H locs ls hF hH (lv_sub hl [1, 2, 3, 4, 5, 0] rfl)
              refine lv_icmp_ne hx hb dX1_work_106 (tgt := 120) rfl (fun h => ?_) (fun h => ?_)
              · have hF := wx_f h hF
                refine lv_aload_n hx hb dX1_work_120 rfl (lv_at hl 3 rfl) ?_
                refine lv_iload hx hb dX1_work_121 (lv_at hl 5 rfl) ?_
                refine lv_bipush hx hb dX1_work_123 k_bipush_13 ?_
                refine lv_isub hx hb dX1_work_125 ?_
                refine wx_iald hC hH h_o3 ⟨rfl, rfl⟩ dX1_work_126 hF (fun j51 hF => ?_)
                refine lv_i2l hx hb dX1_work_127 rfl ?_
                have hF := wJ_l hq49 hF
                exact hJ128 ((u19.1 o3 j51).toInt64) H locs ls hF hH (lv_sub hl [1, 2, 3, 0, 4] rfl)
              have hF := wx_t h hF
              refine lv_aload_n hx hb dX1_work_109 rfl (lv_at hl 1 rfl) ?_
              refine wx_getR hC hH h_o1 rfl f_X1_29 dX1_work_110 hF (fun o52 h_o52 hF => ?_)
              refine lv_iload hx hb dX1_work_113 (lv_at hl 4 rfl) ?_
              refine wx_iald hC hH h_o52 ⟨rfl, rfl⟩ dX1_work_115 hF (fun j53 hF => ?_)
              refine lv_i2l hx hb dX1_work_116 rfl ?_
              refine lv_goto hx hb dX1_work_117 (tgt := 128) rfl ?_
              have hF := wJ_l hq49 hF
              exact hJ128 ((u19.1 o52 j53).toInt64) H locs ls hF hH (lv_sub hl [1, 2, 3, 0, 4] rfl)
            have hF := wx_f h hF
            have hF := wJ_r hq16 hF
            have hF := wJ_r hq9 hF
            have hF := wJ_l hq8 hF
            exact hJ93 u19 H locs ls hF hH (lv_sub hl [] rfl)
          refine lv_if_eq hx hb dX1_work_61 (tgt := 68) rfl (fun h => ?_) (fun h => ?_)
          · have hF := wx_t h hF
            refine lv_iload hx hb dX1_work_68 (lv_at hl 6 rfl) ?_
            refine lv_bipush hx hb dX1_work_70 k_bipush_12 ?_
            refine lv_icmp_ne hx hb dX1_work_72 (tgt := 79) rfl (fun h => ?_) (fun h => ?_)
            · have hF := wx_f h hF
              refine lv_iconst hx hb dX1_work_79 k_iconst_m1 ?_
              have hF := wJ_l hq29 hF
              exact hJ80 i28 (-1 : Int32) H locs ls hF hH (lv_sub hl [1, 2, 3, 5, 6, 0] rfl)
            have hF := wx_t h hF
            refine lv_iconst hx hb dX1_work_75 k_iconst_0 ?_
            refine lv_goto hx hb dX1_work_76 (tgt := 80) rfl ?_
            have hF := wJ_l hq29 hF
            exact hJ80 i28 (0 : Int32) H locs ls hF hH (lv_sub hl [1, 2, 3, 5, 6, 0] rfl)
          have hF := wx_f h hF
          refine lv_iconst hx hb dX1_work_64 k_iconst_1 ?_
          refine lv_goto hx hb dX1_work_65 (tgt := 80) rfl ?_
          have hF := wJ_l hq29 hF
          exact hJ80 i28 (1 : Int32) H locs ls hF hH (lv_sub hl [1, 2, 3, 5, 6, 0] rfl)
        have hJ51 : ∀ (i54 : Int32) (H : Heap) (locs : List Loc) (ls : Array Slot), F_X1_work_j51 i54 = some q25_ → wHp D κ ρ 0 A s.heap H locs u19 → lv_has ls 9 [(0, .ref (ρ o1)), (1, .int i2), (2, .ref (ρ o3)), (3, .int i17), (4, .int i18), (5, .int i54)] → W p l e (wRm 1 28) s m args below meth c H locs 0 0 (wQL below args s A D κ ρ 0 z) (F0 m 51 ls []) := by
          intro i54 H locs ls hF hH hl
          unfold F_X1_work_j51 at hF
          refine lv_iconst hx hb dX1_work_51 k_iconst_1 ?_
          refine lv_goto hx hb dX1_work_52 (tgt := 56) rfl ?_
          have hF := wJ_l hq25 hF
          exact hJ56 i54 (1 : Int32) H locs ls hF hH (lv_sub hl [0, 1, 2, 3, 4, 5] rfl)
        refine lv_icmp_eq hx hb dX1_work_34 (tgt := 51) rfl (fun h => ?_) (fun h => ?_)
        · have hF := wx_t h hF
          have hF := wJ_l hq26 hF
          exact hJ51 i24 H locs ls hF hH (lv_sub hl [1, 2, 3, 4, 5, 0] rfl)
        have hF := wx_f h hF
        refine lv_iload hx hb dX1_work_37 (lv_at hl 0 rfl) ?_
        refine lv_bipush hx hb dX1_work_39 k_bipush_13 ?_
        obtain ⟨q55_, hF, hq55⟩ := wJ_some hF
        have hJ55 : ∀ (H : Heap) (locs : List Loc) (ls : Array Slot), F_X1_work_j55 i24 = some q26_ → wHp D κ ρ 0 A s.heap H locs u19 → lv_has ls 9 [(0, .ref (ρ o1)), (1, .int i2), (2, .ref (ρ o3)), (3, .int i17), (4, .int i18), (5, .int i24)] → W p l e (wRm 1 28) s m args below meth c H locs 0 0 (wQL below args s A D κ ρ 0 z) (F0 m 55 ls []) := by
          intro H locs ls hF hH hl
          unfold F_X1_work_j55 at hF
          refine lv_iconst hx hb dX1_work_55 k_iconst_0 ?_
          have hF := wJ_r hq26 hF
          have hF := wJ_l hq25 hF
          exact hJ56 i24 (0 : Int32) H locs ls hF hH (lv_sub hl [0, 1, 2, 3, 4, 5] rfl)
        refine lv_icmp_lt hx hb dX1_work_41 (tgt := 55) rfl (fun h => ?_) (fun h => ?_)
        · have hF := wx_t h hF
          have hF := wJ_l hq55 hF
          exact hJ55 H locs ls hF hH (lv_sub hl [1, 2, 3, 4, 5, 0] rfl)
        have hF := wx_f h hF
        refine lv_iload hx hb dX1_work_44 (lv_at hl 0 rfl) ?_
        refine lv_bipush hx hb dX1_work_46 k_bipush_19 ?_
        refine lv_icmp_gt hx hb dX1_work_48 (tgt := 55) rfl (fun h => ?_) (fun h => ?_)
        · have hF := wx_t h hF
          have hF := wJ_l hq55 hF
          exact hJ55 H locs ls hF hH (lv_sub hl [1, 2, 3, 4, 5, 0] rfl)
        have hF := wx_f h hF
        have hF := wJ_r hq55 hF
        have hF := wJ_l hq26 hF
        exact hJ51 i24 H locs ls hF hH (lv_sub hl [1, 2, 3, 4, 5, 0] rfl)
    exact hL10 wFu (0 : Int32) i6 u0 H locs ls hF hH (lv_sub hl [2, 3, 4, 1, 0] rfl)
  exact key _ _ hH
def F_X0_workOut (o1 : Nat) (i2 : Int32) (o3 : Nat) (i4 : Int32) (i5 : Int32) (u0 : wSt) : Option (Int64 × wSt) :=
  wR (u0.2.2 o1 8) 6 (fun o6 => wR (u0.2.2 o6 16) 1 (fun o7 => wP (F_X1_has o7 i2 u0) (fun (i8 : Int32) => if i8 = 0 then (some ((-9223372036854775808 : Int64), u0)) else (wR (u0.2.2 o1 9) 10 (fun o9 => wR (u0.2.2 o3 5) 10 (fun o10 => wN i4 o10 (fun j11 => wSI u0 o9 (0 : Int32) (u0.1 o10 j11) (fun (u12 : wSt) => wR (u12.2.2 o1 9) 10 (fun o13 => wR (u12.2.2 o3 6) 10 (fun o14 => wN i4 o14 (fun j15 => wSI u12 o13 (1 : Int32) (u12.1 o14 j15) (fun (u16 : wSt) => wR (u16.2.2 o1 9) 10 (fun o17 => wR (u16.2.2 o1 8) 6 (fun o18 => wR (u16.2.2 o18 10) 10 (fun o19 => wN i4 o19 (fun j20 => wSI u16 o17 (2 : Int32) (u16.1 o19 j20) (fun (u21 : wSt) => wR (u21.2.2 o1 9) 10 (fun o22 => wP (F_X0_sweetOf o1 i5 u21) (fun (i23 : Int32) => wSI u21 o22 (3 : Int32) i23 (fun (u24 : wSt) => wR (u24.2.2 o1 9) 10 (fun o25 => wR (u24.2.2 o3 8) 10 (fun o26 => wN i5 o26 (fun j27 => wSI u24 o25 (4 : Int32) (u24.1 o26 j27) (fun (u28 : wSt) => wR (u28.2.2 o1 9) 10 (fun o29 => wP (F_X0_sitting o1 o3 u28) (fun (i30 : Int32) => wP (F_J6_bitCount_0f7a4 i30 u28) (fun (i31 : Int32) => wSI u28 o29 (5 : Int32) i31 (fun (u32 : wSt) => wR (u32.2.2 o1 9) 10 (fun o33 => wSI u32 o33 (6 : Int32) (u32.1 o3 0) (fun (u34 : wSt) => wR (u34.2.2 o1 8) 6 (fun o35 => wR (u34.2.2 o35 16) 1 (fun o36 => wR (u34.2.2 o1 9) 10 (fun o37 => wC (F_X1_work o36 i2 o37 u34) (fun (q39 : Int64) (u38 : wSt) => some (q39, u38)))))))))))))))))))))))))))))))))))
set_option maxRecDepth 100000 in
set_option maxHeartbeats 4000000 in
theorem c_X0_workOut {l : Launch} {D : va_G} {κ : Nat → ClassId} {ρ : Nat → Nat} (o1 : Nat) (i2 : Int32) (o3 : Nat) (i4 : Int32) (i5 : Int32) (h_o1 : (w_sh o1).1 = 0) (h_o3 : (w_sh o3).1 = 3) : wML l yX0_workOut cX0_workOut 5 (wRm 2 56) [.ref (ρ o1), .int i2, .ref (ρ o3), .int i4, .int i5] D κ ρ 0 (fun u => F_X0_workOut o1 i2 o3 i4 i5 u) := by
  refine wML_of (F := fun u => F_X0_workOut o1 i2 o3 i4 i5 u) rfl (Nat.le_of_ble_eq_true rfl) (fun u0 z p e s m args below meth c ls A hF hC hr hlk hH hl => ?_)
  have hl : lv_has ls 5 [(0, .ref (ρ o1)), (1, .int i2), (2, .ref (ρ o3)), (3, .int i4), (4, .int i5)] := hl
  have hx := hC.1.1
  have hb := hC.1.2.1
  have hF : F_X0_workOut o1 i2 o3 i4 i5 u0 = some z := hF
  unfold F_X0_workOut at hF
  change W p l e (wRm 2 56) s m args below meth c s.heap [] 0 0 (wQL below args s A D κ ρ 0 z) (F0 m 0 ls [])
  have key : ∀ (H : Heap) (locs : List Loc), wHp D κ ρ 0 A s.heap H locs u0 → W p l e (wRm 2 56) s m args below meth c H locs 0 0 (wQL below args s A D κ ρ 0 z) (F0 m 0 ls []) := by
    intro H locs hH
    refine lv_aload_n hx hb dX0_workOut_0 rfl (lv_at hl 0 rfl) ?_
    refine wx_getR hC hH h_o1 rfl f_X0_41 dX0_workOut_1 hF (fun o6 h_o6 hF => ?_)
    refine wx_getR hC hH h_o6 rfl f_X0_116 dX0_workOut_4 hF (fun o7 h_o7 hF => ?_)
    refine lv_iload_n hx hb dX0_workOut_7 rfl (lv_at hl 1 rfl) ?_
    refine wx_pvi hC hH hl (c_X1_has o7 i2 h_o7) y_X1_has v_X1_has h_o7 rfl m_X0_120 rfl ⟨Nat.le_of_ble_eq_true rfl, Nat.le_of_ble_eq_true rfl⟩ ⟨Nat.le_refl _, Nat.le_refl _⟩ rfl (Nat.le_of_ble_eq_true rfl) dX0_workOut_8 hF (fun i8 H locs hF hH => ?_)
    refine lv_if_ne hx hb dX0_workOut_11 (tgt := 18) rfl (fun h => ?_) (fun h => ?_)
    · have hF := wx_f h hF
      refine lv_aload_n hx hb dX0_workOut_18 rfl (lv_at hl 0 rfl) ?_
      refine wx_getR hC hH h_o1 rfl f_X0_37 dX0_workOut_19 hF (fun o9 h_o9 hF => ?_)
      refine lv_iconst hx hb dX0_workOut_22 k_iconst_0 ?_
      refine lv_aload_n hx hb dX0_workOut_23 rfl (lv_at hl 2 rfl) ?_
      refine wx_getR hC hH h_o3 rfl f_X0_128 dX0_workOut_24 hF (fun o10 h_o10 hF => ?_)
      refine lv_iload_n hx hb dX0_workOut_27 rfl (lv_at hl 3 rfl) ?_
      refine wx_iald hC hH h_o10 ⟨rfl, rfl⟩ dX0_workOut_28 hF (fun j11 hF => ?_)
      refine wx_iast hC hH h_o9 ⟨rfl, rfl⟩ dX0_workOut_29 hF (fun u12 H locs hF hH => ?_)
      refine lv_aload_n hx hb dX0_workOut_30 rfl (lv_at hl 0 rfl) ?_
      refine wx_getR hC hH h_o1 rfl f_X0_37 dX0_workOut_31 hF (fun o13 h_o13 hF => ?_)
      refine lv_iconst hx hb dX0_workOut_34 k_iconst_1 ?_
      refine lv_aload_n hx hb dX0_workOut_35 rfl (lv_at hl 2 rfl) ?_
      refine wx_getR hC hH h_o3 rfl f_X0_131 dX0_workOut_36 hF (fun o14 h_o14 hF => ?_)
      refine lv_iload_n hx hb dX0_workOut_39 rfl (lv_at hl 3 rfl) ?_
      refine wx_iald hC hH h_o14 ⟨rfl, rfl⟩ dX0_workOut_40 hF (fun j15 hF => ?_)
      refine wx_iast hC hH h_o13 ⟨rfl, rfl⟩ dX0_workOut_41 hF (fun u16 H locs hF hH => ?_)
      refine lv_aload_n hx hb dX0_workOut_42 rfl (lv_at hl 0 rfl) ?_
      refine wx_getR hC hH h_o1 rfl f_X0_37 dX0_workOut_43 hF (fun o17 h_o17 hF => ?_)
      refine lv_iconst hx hb dX0_workOut_46 k_iconst_2 ?_
      refine lv_aload_n hx hb dX0_workOut_47 rfl (lv_at hl 0 rfl) ?_
      refine wx_getR hC hH h_o1 rfl f_X0_41 dX0_workOut_48 hF (fun o18 h_o18 hF => ?_)
      refine wx_getR hC hH h_o18 rfl f_X0_134 dX0_workOut_51 hF (fun o19 h_o19 hF => ?_)
      refine lv_iload_n hx hb dX0_workOut_54 rfl (lv_at hl 3 rfl) ?_
      refine wx_iald hC hH h_o19 ⟨rfl, rfl⟩ dX0_workOut_55 hF (fun j20 hF => ?_)
      refine wx_iast hC hH h_o17 ⟨rfl, rfl⟩ dX0_workOut_56 hF (fun u21 H locs hF hH => ?_)
      refine lv_aload_n hx hb dX0_workOut_57 rfl (lv_at hl 0 rfl) ?_
      refine wx_getR hC hH h_o1 rfl f_X0_37 dX0_workOut_58 hF (fun o22 h_o22 hF => ?_)
      refine lv_iconst hx hb dX0_workOut_61 k_iconst_3 ?_
      refine lv_aload_n hx hb dX0_workOut_62 rfl (lv_at hl 0 rfl) ?_
      refine lv_iload hx hb dX0_workOut_63 (lv_at hl 4 rfl) ?_
      refine wx_pvi hC hH hl (c_X0_sweetOf o1 i5 h_o1) y_X0_sweetOf v_X0_sweetOf h_o1 rfl m_X0_137 rfl ⟨Nat.le_of_ble_eq_true rfl, Nat.le_of_ble_eq_true rfl⟩ ⟨Nat.le_refl _, Nat.le_refl _⟩ rfl (Nat.le_of_ble_eq_true rfl) dX0_workOut_65 hF (fun i23 H locs hF hH => ?_)
      refine wx_iast hC hH h_o22 ⟨rfl, rfl⟩ dX0_workOut_68 hF (fun u24 H locs hF hH => ?_)
      refine lv_aload_n hx hb dX0_workOut_69 rfl (lv_at hl 0 rfl) ?_
      refine wx_getR hC hH h_o1 rfl f_X0_37 dX0_workOut_70 hF (fun o25 h_o25 hF => ?_)
      refine lv_iconst hx hb dX0_workOut_73 k_iconst_4 ?_
      refine lv_aload_n hx hb dX0_workOut_74 rfl (lv_at hl 2 rfl) ?_
      refine wx_getR hC hH h_o3 rfl f_X0_140 dX0_workOut_75 hF (fun o26 h_o26 hF => ?_)
      refine lv_iload hx hb dX0_workOut_78 (lv_at hl 4 rfl) ?_
      refine wx_iald hC hH h_o26 ⟨rfl, rfl⟩ dX0_workOut_80 hF (fun j27 hF => ?_)
      refine wx_iast hC hH h_o25 ⟨rfl, rfl⟩ dX0_workOut_81 hF (fun u28 H locs hF hH => ?_)
      refine lv_aload_n hx hb dX0_workOut_82 rfl (lv_at hl 0 rfl) ?_
      refine wx_getR hC hH h_o1 rfl f_X0_37 dX0_workOut_83 hF (fun o29 h_o29 hF => ?_)
      refine lv_iconst hx hb dX0_workOut_86 k_iconst_5 ?_
      refine lv_aload_n hx hb dX0_workOut_87 rfl (lv_at hl 0 rfl) ?_
      refine lv_aload_n hx hb dX0_workOut_88 rfl (lv_at hl 2 rfl) ?_
      refine wx_pvi hC hH hl (c_X0_sitting o1 o3 h_o1 h_o3) y_X0_sitting v_X0_sitting h_o1 rfl m_X0_143 rfl ⟨Nat.le_of_ble_eq_true rfl, Nat.le_of_ble_eq_true rfl⟩ ⟨Nat.le_refl _, Nat.le_refl _⟩ rfl (Nat.le_of_ble_eq_true rfl) dX0_workOut_89 hF (fun i30 H locs hF hH => ?_)
      refine wx_psi hC hH hl (c_J6_bitCount_0f7a4 i30) y_J6_bitCount_0f7a4 v_J6_bitCount_0f7a4 m_X0_146 rfl ⟨Nat.le_of_ble_eq_true rfl, Nat.le_of_ble_eq_true rfl⟩ ⟨Nat.le_refl _, Nat.le_refl _⟩ rfl (Nat.le_of_ble_eq_true rfl) dX0_workOut_92 hF (fun i31 H locs hF hH => ?_)
      refine wx_iast hC hH h_o29 ⟨rfl, rfl⟩ dX0_workOut_95 hF (fun u32 H locs hF hH => ?_)
      refine lv_aload_n hx hb dX0_workOut_96 rfl (lv_at hl 0 rfl) ?_
      refine wx_getR hC hH h_o1 rfl f_X0_37 dX0_workOut_97 hF (fun o33 h_o33 hF => ?_)
      refine lv_bipush hx hb dX0_workOut_100 k_bipush_6 ?_
      refine lv_aload_n hx hb dX0_workOut_102 rfl (lv_at hl 2 rfl) ?_
      refine wx_getI hC hH h_o3 rfl f_X0_73 dX0_workOut_103 ?_
      refine wx_iast hC hH h_o33 ⟨rfl, rfl⟩ dX0_workOut_106 hF (fun u34 H locs hF hH => ?_)
      refine lv_aload_n hx hb dX0_workOut_107 rfl (lv_at hl 0 rfl) ?_
      refine wx_getR hC hH h_o1 rfl f_X0_41 dX0_workOut_108 hF (fun o35 h_o35 hF => ?_)
      refine wx_getR hC hH h_o35 rfl f_X0_116 dX0_workOut_111 hF (fun o36 h_o36 hF => ?_)
      refine lv_iload_n hx hb dX0_workOut_114 rfl (lv_at hl 1 rfl) ?_
      refine lv_aload_n hx hb dX0_workOut_115 rfl (lv_at hl 0 rfl) ?_
      refine wx_getR hC hH h_o1 rfl f_X0_37 dX0_workOut_116 hF (fun o37 h_o37 hF => ?_)
      refine wx_evl hC hH hl (c_X1_work o36 i2 o37 h_o36 h_o37) y_X1_work v_X1_work h_o36 rfl m_X0_151 rfl ⟨Nat.le_of_ble_eq_true rfl, Nat.le_of_ble_eq_true rfl⟩ ⟨Nat.le_refl _, Nat.le_refl _⟩ rfl (Nat.le_of_ble_eq_true rfl) dX0_workOut_119 hF (fun q39 u38 H locs hF hH => ?_)
      exact wx_lret hC hH hr hlk dX0_workOut_122 hF
    have hF := wx_t h hF
    refine lv_ldc2 hx hb hC.1.2.2.2.1 (hC.1.2.2.2.2 _ l_X0_126) dX0_workOut_14 ?_
    exact wx_lret hC hH hr hlk dX0_workOut_17 hF
  exact key _ _ hH
def F_X0_bites (o1 : Nat) (o2 : Nat) (i3 : Int32) (i4 : Int32) (u0 : wSt) : Option (Int32 × wSt) :=
  if (u0.1 o1 1) = 0 then (wR (u0.2.2 o1 8) 6 (fun o5 => wP (F_X6_tellsBite o5 i3 (u0.1 o2 0) u0) (fun (i6 : Int32) => if i6 = 0 then (wC (F_X0_workOut o1 (1 : Int32) o2 i3 i4 u0) (fun (q8 : Int64) (u7 : wSt) => if (lg_cmp q8 (-9223372036854775808 : Int64)) = 0 then (wR (u7.2.2 o2 6) 10 (fun o9 => wN i3 o9 (fun j10 => wR (u7.2.2 o2 5) 10 (fun o11 => wN i3 o11 (fun j12 => if (u7.1 o9 j10) ≤ (u7.1 o11 j12) then (some ((0 : Int32), u7)) else (some ((1 : Int32), u7))))))) else (if (lg_cmp q8 (0 : Int64)) = 0 then (some ((0 : Int32), u7)) else (some ((1 : Int32), u7))))) else (some ((1 : Int32), u0))))) else (some ((0 : Int32), u0))
set_option maxRecDepth 100000 in
set_option maxHeartbeats 4000000 in
theorem c_X0_bites {l : Launch} {D : va_G} {κ : Nat → ClassId} {ρ : Nat → Nat} (o1 : Nat) (o2 : Nat) (i3 : Int32) (i4 : Int32) (h_o1 : (w_sh o1).1 = 0) (h_o2 : (w_sh o2).1 = 3) : wMI l yX0_bites cX0_bites 6 .boolean (wRm 3 80) [.ref (ρ o1), .ref (ρ o2), .int i3, .int i4] D κ ρ 0 (fun u => F_X0_bites o1 o2 i3 i4 u) := by
  refine wMI_of (F := fun u => F_X0_bites o1 o2 i3 i4 u) rfl (Nat.le_of_ble_eq_true rfl) (fun u0 z p e s m args below meth c ls A hF hC hr hlk hH hl => ?_)
  have hl : lv_has ls 6 [(0, .ref (ρ o1)), (1, .ref (ρ o2)), (2, .int i3), (3, .int i4)] := hl
  have hx := hC.1.1
  have hb := hC.1.2.1
  have hF : F_X0_bites o1 o2 i3 i4 u0 = some z := hF
  unfold F_X0_bites at hF
  change W p l e (wRm 3 80) s m args below meth c s.heap [] 0 0 (wQI below args s A D κ ρ 0 z) (F0 m 0 ls [])
  have key : ∀ (H : Heap) (locs : List Loc), wHp D κ ρ 0 A s.heap H locs u0 → W p l e (wRm 3 80) s m args below meth c H locs 0 0 (wQI below args s A D κ ρ 0 z) (F0 m 0 ls []) := by
    intro H locs hH
    refine lv_aload_n hx hb dX0_bites_0 rfl (lv_at hl 0 rfl) ?_
    refine wx_getI hC hH h_o1 rfl f_X0_15 dX0_bites_1 ?_
    refine lv_if_eq hx hb dX0_bites_4 (tgt := 9) rfl (fun h => ?_) (fun h => ?_)
    · have hF := wx_t h hF
      refine lv_aload_n hx hb dX0_bites_9 rfl (lv_at hl 0 rfl) ?_
      refine wx_getR hC hH h_o1 rfl f_X0_41 dX0_bites_10 hF (fun o5 h_o5 hF => ?_)
      refine lv_iload_n hx hb dX0_bites_13 rfl (lv_at hl 2 rfl) ?_
      refine lv_aload_n hx hb dX0_bites_14 rfl (lv_at hl 1 rfl) ?_
      refine wx_getI hC hH h_o2 rfl f_X0_73 dX0_bites_15 ?_
      refine wx_pvi hC hH hl (c_X6_tellsBite o5 i3 (u0.1 o2 0) h_o5) y_X6_tellsBite v_X6_tellsBite h_o5 rfl m_X0_158 rfl ⟨Nat.le_of_ble_eq_true rfl, Nat.le_of_ble_eq_true rfl⟩ ⟨Nat.le_refl _, Nat.le_refl _⟩ rfl (Nat.le_of_ble_eq_true rfl) dX0_bites_18 hF (fun i6 H locs hF hH => ?_)
      refine lv_if_eq hx hb dX0_bites_21 (tgt := 26) rfl (fun h => ?_) (fun h => ?_)
      · have hF := wx_t h hF
        refine lv_aload_n hx hb dX0_bites_26 rfl (lv_at hl 0 rfl) ?_
        refine lv_iconst hx hb dX0_bites_27 k_iconst_1 ?_
        refine lv_aload_n hx hb dX0_bites_28 rfl (lv_at hl 1 rfl) ?_
        refine lv_iload_n hx hb dX0_bites_29 rfl (lv_at hl 2 rfl) ?_
        refine lv_iload_n hx hb dX0_bites_30 rfl (lv_at hl 3 rfl) ?_
        refine wx_evl hC hH hl (c_X0_workOut o1 (1 : Int32) o2 i3 i4 h_o1 h_o2) y_X0_workOut v_X0_workOut h_o1 rfl m_X0_162 rfl ⟨Nat.le_of_ble_eq_true rfl, Nat.le_of_ble_eq_true rfl⟩ ⟨Nat.le_refl _, Nat.le_refl _⟩ rfl (Nat.le_of_ble_eq_true rfl) dX0_bites_31 hF (fun q8 u7 H locs hF hH => ?_)
        refine wx_lstore hx hb dX0_bites_34 hl (by decide) (fun ls hl => ?_)
        have hl : lv_has ls 6 [(4, .long q8), (0, .ref (ρ o1)), (1, .ref (ρ o2)), (2, .int i3), (3, .int i4)] := hl
        refine lv_lload hx hb dX0_bites_36 (lv_at hl 0 rfl) ?_
        refine lv_ldc2 hx hb hC.1.2.2.2.1 (hC.1.2.2.2.2 _ l_X0_126) dX0_bites_38 ?_
        refine W.lcmp hx hb dX0_bites_41 ?_
        refine lv_if_ne hx hb dX0_bites_42 (tgt := 68) rfl (fun h => ?_) (fun h => ?_)
        · have hF := wx_f h hF
          refine lv_lload hx hb dX0_bites_68 (lv_at hl 0 rfl) ?_
          refine lv_lconst hx hb dX0_bites_70 k_lconst_0 ?_
          refine W.lcmp hx hb dX0_bites_71 ?_
          refine lv_if_eq hx hb dX0_bites_72 (tgt := 79) rfl (fun h => ?_) (fun h => ?_)
          · have hF := wx_t h hF
            refine lv_iconst hx hb dX0_bites_79 k_iconst_0 ?_
            exact wx_zret hC hH hr hlk dX0_bites_80 (Or.inl rfl) hF
          have hF := wx_f h hF
          refine lv_iconst hx hb dX0_bites_75 k_iconst_1 ?_
          refine lv_goto hx hb dX0_bites_76 (tgt := 80) rfl ?_
          exact wx_zret hC hH hr hlk dX0_bites_80 (Or.inr rfl) hF
        have hF := wx_t h hF
        refine lv_aload_n hx hb dX0_bites_45 rfl (lv_at hl 2 rfl) ?_
        refine wx_getR hC hH h_o2 rfl f_X0_131 dX0_bites_46 hF (fun o9 h_o9 hF => ?_)
        refine lv_iload_n hx hb dX0_bites_49 rfl (lv_at hl 3 rfl) ?_
        refine wx_iald hC hH h_o9 ⟨rfl, rfl⟩ dX0_bites_50 hF (fun j10 hF => ?_)
        refine lv_aload_n hx hb dX0_bites_51 rfl (lv_at hl 2 rfl) ?_
        refine wx_getR hC hH h_o2 rfl f_X0_128 dX0_bites_52 hF (fun o11 h_o11 hF => ?_)
        refine lv_iload_n hx hb dX0_bites_55 rfl (lv_at hl 3 rfl) ?_
        refine wx_iald hC hH h_o11 ⟨rfl, rfl⟩ dX0_bites_56 hF (fun j12 hF => ?_)
        refine lv_icmp_le hx hb dX0_bites_57 (tgt := 64) rfl (fun h => ?_) (fun h => ?_)
        · have hF := wx_t h hF
          refine lv_iconst hx hb dX0_bites_64 k_iconst_0 ?_
          refine lv_goto hx hb dX0_bites_65 (tgt := 80) rfl ?_
          exact wx_zret hC hH hr hlk dX0_bites_80 (Or.inl rfl) hF
        have hF := wx_f h hF
        refine lv_iconst hx hb dX0_bites_60 k_iconst_1 ?_
        refine lv_goto hx hb dX0_bites_61 (tgt := 80) rfl ?_
        exact wx_zret hC hH hr hlk dX0_bites_80 (Or.inr rfl) hF
      have hF := wx_f h hF
      refine lv_iconst hx hb dX0_bites_24 k_iconst_1 ?_
      exact wx_zret hC hH hr hlk dX0_bites_25 (Or.inr rfl) hF
    have hF := wx_f h hF
    refine lv_iconst hx hb dX0_bites_7 k_iconst_0 ?_
    exact wx_zret hC hH hr hlk dX0_bites_8 (Or.inl rfl) hF
  exact key _ _ hH
def F_X3_isEaten (o1 : Nat) (i2 : Int32) (u0 : wSt) : Option Int32 :=
  if (((u0.1 o1 3) >>> (i2 &&& 31)) &&& (1 : Int32)) = 0 then (some ((0 : Int32))) else (some ((1 : Int32)))
set_option maxRecDepth 100000 in
set_option maxHeartbeats 4000000 in
theorem c_X3_isEaten {l : Launch} {D : va_G} {κ : Nat → ClassId} {ρ : Nat → Nat} (o1 : Nat) (i2 : Int32) (h_o1 : (w_sh o1).1 = 3) : wMI l yX3_isEaten cX3_isEaten 2 .boolean (wRm 0 0) [.ref (ρ o1), .int i2] D κ ρ 0 (fun u => wPu (F_X3_isEaten o1 i2 u) u) := by
  refine wMP_of (F := fun u => F_X3_isEaten o1 i2 u) rfl (Nat.le_of_ble_eq_true rfl) (fun u0 z p e s m args below meth c ls A hF hC hr hlk hH hl => ?_)
  have hl : lv_has ls 2 [(0, .ref (ρ o1)), (1, .int i2)] := hl
  have hx := hC.1.1
  have hb := hC.1.2.1
  have hF : F_X3_isEaten o1 i2 u0 = some z := hF
  unfold F_X3_isEaten at hF
  change W p l e (wRm 0 0) s m args below meth c s.heap [] 0 0 (wQI below args s A D κ ρ 0 (z, u0)) (F0 m 0 ls [])
  have key : ∀ (H : Heap) (locs : List Loc), wHp D κ ρ 0 A s.heap H locs u0 → W p l e (wRm 0 0) s m args below meth c H locs 0 0 (wQI below args s A D κ ρ 0 (z, u0)) (F0 m 0 ls []) := by
    intro H locs hH
    refine lv_aload_n hx hb dX3_isEaten_0 rfl (lv_at hl 0 rfl) ?_
    refine wx_getI hC hH h_o1 rfl f_X3_21 dX3_isEaten_1 ?_
    refine lv_iload_n hx hb dX3_isEaten_4 rfl (lv_at hl 1 rfl) ?_
    refine lv_ishr hx hb dX3_isEaten_5 ?_
    refine lv_iconst hx hb dX3_isEaten_6 k_iconst_1 ?_
    refine lv_iand hx hb dX3_isEaten_7 ?_
    refine lv_if_eq hx hb dX3_isEaten_8 (tgt := 15) rfl (fun h => ?_) (fun h => ?_)
    · have hF := wx_t h hF
      refine lv_iconst hx hb dX3_isEaten_15 k_iconst_0 ?_
      exact wx_zret hC hH hr hlk dX3_isEaten_16 (Or.inl rfl) (wx_pr hF)
    have hF := wx_f h hF
    refine lv_iconst hx hb dX3_isEaten_11 k_iconst_1 ?_
    refine lv_goto hx hb dX3_isEaten_12 (tgt := 16) rfl ?_
    exact wx_zret hC hH hr hlk dX3_isEaten_16 (Or.inr rfl) (wx_pr hF)
  exact key _ _ hH
def F_X3_eat (o1 : Nat) (i2 : Int32) (u0 : wSt) : Option (Unit × wSt) :=
  wB (w_sI u0 o1 3 ((u0.1 o1 3) ||| ((1 : Int32) <<< (i2 &&& 31)))) (fun (u3 : wSt) => some ((), u3))
set_option maxRecDepth 100000 in
set_option maxHeartbeats 4000000 in
theorem c_X3_eat {l : Launch} {D : va_G} {κ : Nat → ClassId} {ρ : Nat → Nat} (o1 : Nat) (i2 : Int32) (h_o1 : (w_sh o1).1 = 3) : wMV l yX3_eat cX3_eat 2 (wRm 0 0) [.ref (ρ o1), .int i2] D κ ρ 0 (fun u => F_X3_eat o1 i2 u) := by
  refine wMV_of (F := fun u => F_X3_eat o1 i2 u) rfl (Nat.le_of_ble_eq_true rfl) (fun u0 z p e s m args below meth c ls A hF hC hr hlk hH hl => ?_)
  have hl : lv_has ls 2 [(0, .ref (ρ o1)), (1, .int i2)] := hl
  have hx := hC.1.1
  have hb := hC.1.2.1
  have hF : F_X3_eat o1 i2 u0 = some z := hF
  unfold F_X3_eat at hF
  change W p l e (wRm 0 0) s m args below meth c s.heap [] 0 0 (wQV below args s A D κ ρ 0 z) (F0 m 0 ls [])
  have key : ∀ (H : Heap) (locs : List Loc), wHp D κ ρ 0 A s.heap H locs u0 → W p l e (wRm 0 0) s m args below meth c H locs 0 0 (wQV below args s A D κ ρ 0 z) (F0 m 0 ls []) := by
    intro H locs hH
    refine lv_aload_n hx hb dX3_eat_0 rfl (lv_at hl 0 rfl) ?_
    refine lv_dup hx hb dX3_eat_1 rfl ?_
    refine wx_getI hC hH h_o1 rfl f_X3_21 dX3_eat_2 ?_
    refine lv_iconst hx hb dX3_eat_5 k_iconst_1 ?_
    refine lv_iload_n hx hb dX3_eat_6 rfl (lv_at hl 1 rfl) ?_
    refine lv_ishl hx hb dX3_eat_7 ?_
    refine lv_ior hx hb dX3_eat_8 ?_
    refine wx_putI hC hH h_o1 rfl f_X3_21 g_3_3 dX3_eat_9 hF (fun u3 H locs hF hH => ?_)
    exact wx_vret hC hH hr hlk dX3_eat_12 hF
  exact key _ _ hH
def F_X0_seatsBetween (o1 : Nat) (o2 : Nat) (i3 : Int32) (i4 : Int32) (u0 : wSt) : Option Int32 :=
  wR (u0.2.2 o2 4) 10 (fun o5 => wN i3 o5 (fun j6 => wR (u0.2.2 o2 4) 10 (fun o7 => wN i4 o7 (fun j8 => wB (w_abs ((u0.1 o5 j6) - (u0.1 o7 j8))) (fun (i9 : Int32) => wR (u0.2.2 o1 8) 6 (fun o10 => some ((w_min i9 ((u0.1 o10 1) - i9)))))))))
set_option maxRecDepth 100000 in
set_option maxHeartbeats 4000000 in
theorem c_X0_seatsBetween {l : Launch} {D : va_G} {κ : Nat → ClassId} {ρ : Nat → Nat} (o1 : Nat) (o2 : Nat) (i3 : Int32) (i4 : Int32) (h_o1 : (w_sh o1).1 = 0) (h_o2 : (w_sh o2).1 = 3) : wMI l yX0_seatsBetween cX0_seatsBetween 5 .int (wRm 1 26) [.ref (ρ o1), .ref (ρ o2), .int i3, .int i4] D κ ρ 0 (fun u => wPu (F_X0_seatsBetween o1 o2 i3 i4 u) u) := by
  refine wMP_of (F := fun u => F_X0_seatsBetween o1 o2 i3 i4 u) rfl (Nat.le_of_ble_eq_true rfl) (fun u0 z p e s m args below meth c ls A hF hC hr hlk hH hl => ?_)
  have hl : lv_has ls 5 [(0, .ref (ρ o1)), (1, .ref (ρ o2)), (2, .int i3), (3, .int i4)] := hl
  have hx := hC.1.1
  have hb := hC.1.2.1
  have hF : F_X0_seatsBetween o1 o2 i3 i4 u0 = some z := hF
  unfold F_X0_seatsBetween at hF
  change W p l e (wRm 1 26) s m args below meth c s.heap [] 0 0 (wQI below args s A D κ ρ 0 (z, u0)) (F0 m 0 ls [])
  have key : ∀ (H : Heap) (locs : List Loc), wHp D κ ρ 0 A s.heap H locs u0 → W p l e (wRm 1 26) s m args below meth c H locs 0 0 (wQI below args s A D κ ρ 0 (z, u0)) (F0 m 0 ls []) := by
    intro H locs hH
    refine lv_aload_n hx hb dX0_seatsBetween_0 rfl (lv_at hl 1 rfl) ?_
    refine wx_getR hC hH h_o2 rfl f_X0_83 dX0_seatsBetween_1 hF (fun o5 h_o5 hF => ?_)
    refine lv_iload_n hx hb dX0_seatsBetween_4 rfl (lv_at hl 2 rfl) ?_
    refine wx_iald hC hH h_o5 ⟨rfl, rfl⟩ dX0_seatsBetween_5 hF (fun j6 hF => ?_)
    refine lv_aload_n hx hb dX0_seatsBetween_6 rfl (lv_at hl 1 rfl) ?_
    refine wx_getR hC hH h_o2 rfl f_X0_83 dX0_seatsBetween_7 hF (fun o7 h_o7 hF => ?_)
    refine lv_iload_n hx hb dX0_seatsBetween_10 rfl (lv_at hl 3 rfl) ?_
    refine wx_iald hC hH h_o7 ⟨rfl, rfl⟩ dX0_seatsBetween_11 hF (fun j8 hF => ?_)
    refine lv_isub hx hb dX0_seatsBetween_12 ?_
    refine wx_abs hC hl.1 m_X0_96 ⟨Nat.le_of_ble_eq_true rfl, Nat.le_of_ble_eq_true rfl⟩ ⟨Nat.le_refl _, Nat.le_refl _⟩ dX0_seatsBetween_13 ?_
    refine wx_leti hF (fun i9 hF => ?_)
    refine wx_istore hx hb dX0_seatsBetween_16 hl (by decide) (fun ls hl => ?_)
    have hl : lv_has ls 5 [(4, .int i9), (0, .ref (ρ o1)), (1, .ref (ρ o2)), (2, .int i3), (3, .int i4)] := hl
    refine lv_iload hx hb dX0_seatsBetween_18 (lv_at hl 0 rfl) ?_
    refine lv_aload_n hx hb dX0_seatsBetween_20 rfl (lv_at hl 1 rfl) ?_
    refine wx_getR hC hH h_o1 rfl f_X0_41 dX0_seatsBetween_21 hF (fun o10 h_o10 hF => ?_)
    refine wx_getI hC hH h_o10 rfl f_X0_78 dX0_seatsBetween_24 ?_
    refine lv_iload hx hb dX0_seatsBetween_27 (lv_at hl 0 rfl) ?_
    refine lv_isub hx hb dX0_seatsBetween_29 ?_
    refine wx_min hC hl.1 m_X0_102 ⟨Nat.le_of_ble_eq_true rfl, Nat.le_of_ble_eq_true rfl⟩ ⟨Nat.le_refl _, Nat.le_refl _⟩ dX0_seatsBetween_30 ?_
    exact wx_iret hC hH hr hlk dX0_seatsBetween_33 (wx_pr hF)
  exact key _ _ hH
def F_X0_hears (o1 : Nat) (o2 : Nat) (i3 : Int32) (i4 : Int32) (u0 : wSt) : Option Int32 :=
  if i3 = i4 then (some ((0 : Int32))) else (wP (F_X0_sits o1 o2 i3 u0) (fun (i5 : Int32) => if i5 = 0 then (some ((0 : Int32))) else (wP (F_X0_sits o1 o2 i4 u0) (fun (i6 : Int32) => if i6 = 0 then (some ((0 : Int32))) else (if (u0.1 o1 3) = 0 then (wP (F_X0_seatsBetween o1 o2 i3 i4 u0) (fun (i7 : Int32) => wR (u0.2.2 o1 8) 6 (fun o8 => if (u0.1 o8 4) < i7 then (some ((0 : Int32))) else (some ((1 : Int32)))))) else (some ((1 : Int32))))))))
set_option maxRecDepth 100000 in
set_option maxHeartbeats 4000000 in
theorem c_X0_hears {l : Launch} {D : va_G} {κ : Nat → ClassId} {ρ : Nat → Nat} (o1 : Nat) (o2 : Nat) (i3 : Int32) (i4 : Int32) (h_o1 : (w_sh o1).1 = 0) (h_o2 : (w_sh o2).1 = 3) : wMI l yX0_hears cX0_hears 4 .boolean (wRm 2 50) [.ref (ρ o1), .ref (ρ o2), .int i3, .int i4] D κ ρ 0 (fun u => wPu (F_X0_hears o1 o2 i3 i4 u) u) := by
  refine wMP_of (F := fun u => F_X0_hears o1 o2 i3 i4 u) rfl (Nat.le_of_ble_eq_true rfl) (fun u0 z p e s m args below meth c ls A hF hC hr hlk hH hl => ?_)
  have hl : lv_has ls 4 [(0, .ref (ρ o1)), (1, .ref (ρ o2)), (2, .int i3), (3, .int i4)] := hl
  have hx := hC.1.1
  have hb := hC.1.2.1
  have hF : F_X0_hears o1 o2 i3 i4 u0 = some z := hF
  unfold F_X0_hears at hF
  change W p l e (wRm 2 50) s m args below meth c s.heap [] 0 0 (wQI below args s A D κ ρ 0 (z, u0)) (F0 m 0 ls [])
  have key : ∀ (H : Heap) (locs : List Loc), wHp D κ ρ 0 A s.heap H locs u0 → W p l e (wRm 2 50) s m args below meth c H locs 0 0 (wQI below args s A D κ ρ 0 (z, u0)) (F0 m 0 ls []) := by
    intro H locs hH
    refine lv_iload_n hx hb dX0_hears_0 rfl (lv_at hl 2 rfl) ?_
    refine lv_iload_n hx hb dX0_hears_1 rfl (lv_at hl 3 rfl) ?_
    refine lv_icmp_eq hx hb dX0_hears_2 (tgt := 51) rfl (fun h => ?_) (fun h => ?_)
    · have hF := wx_t h hF
      refine lv_iconst hx hb dX0_hears_51 k_iconst_0 ?_
      exact wx_zret hC hH hr hlk dX0_hears_52 (Or.inl rfl) (wx_pr hF)
    have hF := wx_f h hF
    refine lv_aload_n hx hb dX0_hears_5 rfl (lv_at hl 0 rfl) ?_
    refine lv_aload_n hx hb dX0_hears_6 rfl (lv_at hl 1 rfl) ?_
    refine lv_iload_n hx hb dX0_hears_7 rfl (lv_at hl 2 rfl) ?_
    refine wx_pvi hC hH hl (c_X0_sits o1 o2 i3 h_o1 h_o2) y_X0_sits v_X0_sits h_o1 rfl m_X0_86 rfl ⟨Nat.le_of_ble_eq_true rfl, Nat.le_of_ble_eq_true rfl⟩ ⟨Nat.le_refl _, Nat.le_refl _⟩ rfl (Nat.le_of_ble_eq_true rfl) dX0_hears_8 hF (fun i5 H locs hF hH => ?_)
    refine lv_if_eq hx hb dX0_hears_11 (tgt := 51) rfl (fun h => ?_) (fun h => ?_)
    · have hF := wx_t h hF
      refine lv_iconst hx hb dX0_hears_51 k_iconst_0 ?_
      exact wx_zret hC hH hr hlk dX0_hears_52 (Or.inl rfl) (wx_pr hF)
    have hF := wx_f h hF
    refine lv_aload_n hx hb dX0_hears_14 rfl (lv_at hl 0 rfl) ?_
    refine lv_aload_n hx hb dX0_hears_15 rfl (lv_at hl 1 rfl) ?_
    refine lv_iload_n hx hb dX0_hears_16 rfl (lv_at hl 3 rfl) ?_
    refine wx_pvi hC hH hl (c_X0_sits o1 o2 i4 h_o1 h_o2) y_X0_sits v_X0_sits h_o1 rfl m_X0_86 rfl ⟨Nat.le_of_ble_eq_true rfl, Nat.le_of_ble_eq_true rfl⟩ ⟨Nat.le_refl _, Nat.le_refl _⟩ rfl (Nat.le_of_ble_eq_true rfl) dX0_hears_17 hF (fun i6 H locs hF hH => ?_)
    refine lv_if_eq hx hb dX0_hears_20 (tgt := 51) rfl (fun h => ?_) (fun h => ?_)
    · have hF := wx_t h hF
      refine lv_iconst hx hb dX0_hears_51 k_iconst_0 ?_
      exact wx_zret hC hH hr hlk dX0_hears_52 (Or.inl rfl) (wx_pr hF)
    have hF := wx_f h hF
    refine lv_aload_n hx hb dX0_hears_23 rfl (lv_at hl 0 rfl) ?_
    refine wx_getI hC hH h_o1 rfl f_X0_22 dX0_hears_24 ?_
    refine lv_if_ne hx hb dX0_hears_27 (tgt := 47) rfl (fun h => ?_) (fun h => ?_)
    · have hF := wx_f h hF
      refine lv_iconst hx hb dX0_hears_47 k_iconst_1 ?_
      refine lv_goto hx hb dX0_hears_48 (tgt := 52) rfl ?_
      exact wx_zret hC hH hr hlk dX0_hears_52 (Or.inr rfl) (wx_pr hF)
    have hF := wx_t h hF
    refine lv_aload_n hx hb dX0_hears_30 rfl (lv_at hl 0 rfl) ?_
    refine lv_aload_n hx hb dX0_hears_31 rfl (lv_at hl 1 rfl) ?_
    refine lv_iload_n hx hb dX0_hears_32 rfl (lv_at hl 2 rfl) ?_
    refine lv_iload_n hx hb dX0_hears_33 rfl (lv_at hl 3 rfl) ?_
    refine wx_pvi hC hH hl (c_X0_seatsBetween o1 o2 i3 i4 h_o1 h_o2) y_X0_seatsBetween v_X0_seatsBetween h_o1 rfl m_X0_106 rfl ⟨Nat.le_of_ble_eq_true rfl, Nat.le_of_ble_eq_true rfl⟩ ⟨Nat.le_refl _, Nat.le_refl _⟩ rfl (Nat.le_of_ble_eq_true rfl) dX0_hears_34 hF (fun i7 H locs hF hH => ?_)
    refine lv_aload_n hx hb dX0_hears_37 rfl (lv_at hl 0 rfl) ?_
    refine wx_getR hC hH h_o1 rfl f_X0_41 dX0_hears_38 hF (fun o8 h_o8 hF => ?_)
    refine wx_getI hC hH h_o8 rfl f_X0_110 dX0_hears_41 ?_
    refine lv_icmp_gt hx hb dX0_hears_44 (tgt := 51) rfl (fun h => ?_) (fun h => ?_)
    · have hF := wx_t h hF
      refine lv_iconst hx hb dX0_hears_51 k_iconst_0 ?_
      exact wx_zret hC hH hr hlk dX0_hears_52 (Or.inl rfl) (wx_pr hF)
    have hF := wx_f h hF
    refine lv_iconst hx hb dX0_hears_47 k_iconst_1 ?_
    refine lv_goto hx hb dX0_hears_48 (tgt := 52) rfl ?_
    exact wx_zret hC hH hr hlk dX0_hears_52 (Or.inr rfl) (wx_pr hF)
  exact key _ _ hH
def F_X0_within99 (q1 : Int64) (u0 : wSt) : Option Int32 :=
  some (((w_maxl (0 : Int64) (w_minl (99 : Int64) q1)).toInt32))
set_option maxRecDepth 100000 in
set_option maxHeartbeats 4000000 in
theorem c_X0_within99 {l : Launch} {D : va_G} {κ : Nat → ClassId} {ρ : Nat → Nat} (q1 : Int64) : wMI l yX0_within99 cX0_within99 2 .int (wRm 1 26) [.long q1] D κ ρ 0 (fun u => wPu (F_X0_within99 q1 u) u) := by
  refine wMP_of (F := fun u => F_X0_within99 q1 u) rfl (Nat.le_of_ble_eq_true rfl) (fun u0 z p e s m args below meth c ls A hF hC hr hlk hH hl => ?_)
  have hl : lv_has ls 2 [(0, .long q1)] := hl
  have hx := hC.1.1
  have hb := hC.1.2.1
  have hF : F_X0_within99 q1 u0 = some z := hF
  unfold F_X0_within99 at hF
  change W p l e (wRm 1 26) s m args below meth c s.heap [] 0 0 (wQI below args s A D κ ρ 0 (z, u0)) (F0 m 0 ls [])
  have key : ∀ (H : Heap) (locs : List Loc), wHp D κ ρ 0 A s.heap H locs u0 → W p l e (wRm 1 26) s m args below meth c H locs 0 0 (wQI below args s A D κ ρ 0 (z, u0)) (F0 m 0 ls []) := by
    intro H locs hH
    refine lv_lconst hx hb dX0_within99_0 k_lconst_0 ?_
    refine lv_ldc2 hx hb hC.1.2.2.2.1 (hC.1.2.2.2.2 _ l_X0_189) dX0_within99_1 ?_
    refine lv_lload_n hx hb dX0_within99_4 rfl (lv_at hl 0 rfl) ?_
    refine wx_minl hC hl.1 m_X0_191 ⟨Nat.le_of_ble_eq_true rfl, Nat.le_of_ble_eq_true rfl⟩ ⟨Nat.le_refl _, Nat.le_refl _⟩ dX0_within99_5 ?_
    refine wx_maxl hC hl.1 m_X0_194 ⟨Nat.le_of_ble_eq_true rfl, Nat.le_of_ble_eq_true rfl⟩ ⟨Nat.le_refl _, Nat.le_refl _⟩ dX0_within99_8 ?_
    refine lv_l2i hx hb dX0_within99_11 rfl ?_
    exact wx_iret hC hH hr hlk dX0_within99_12 (wx_pr hF)
  exact key _ _ hH
def F_X0_shockOf (o1 : Nat) (o2 : Nat) (i3 : Int32) (i4 : Int32) (u0 : wSt) : Option (Int32 × wSt) :=
  wC (F_X0_workOut o1 (2 : Int32) o2 i3 i4 u0) (fun (q6 : Int64) (u5 : wSt) => if (lg_cmp q6 (-9223372036854775808 : Int64)) = 0 then (some ((10 : Int32), u5)) else (wP (F_X0_within99 q6 u5) (fun (i7 : Int32) => some (i7, u5))))
set_option maxRecDepth 100000 in
set_option maxHeartbeats 4000000 in
theorem c_X0_shockOf {l : Launch} {D : va_G} {κ : Nat → ClassId} {ρ : Nat → Nat} (o1 : Nat) (o2 : Nat) (i3 : Int32) (i4 : Int32) (h_o1 : (w_sh o1).1 = 0) (h_o2 : (w_sh o2).1 = 3) : wMI l yX0_shockOf cX0_shockOf 6 .int (wRm 3 80) [.ref (ρ o1), .ref (ρ o2), .int i3, .int i4] D κ ρ 0 (fun u => F_X0_shockOf o1 o2 i3 i4 u) := by
  refine wMI_of (F := fun u => F_X0_shockOf o1 o2 i3 i4 u) rfl (Nat.le_of_ble_eq_true rfl) (fun u0 z p e s m args below meth c ls A hF hC hr hlk hH hl => ?_)
  have hl : lv_has ls 6 [(0, .ref (ρ o1)), (1, .ref (ρ o2)), (2, .int i3), (3, .int i4)] := hl
  have hx := hC.1.1
  have hb := hC.1.2.1
  have hF : F_X0_shockOf o1 o2 i3 i4 u0 = some z := hF
  unfold F_X0_shockOf at hF
  change W p l e (wRm 3 80) s m args below meth c s.heap [] 0 0 (wQI below args s A D κ ρ 0 z) (F0 m 0 ls [])
  have key : ∀ (H : Heap) (locs : List Loc), wHp D κ ρ 0 A s.heap H locs u0 → W p l e (wRm 3 80) s m args below meth c H locs 0 0 (wQI below args s A D κ ρ 0 z) (F0 m 0 ls []) := by
    intro H locs hH
    refine lv_aload_n hx hb dX0_shockOf_0 rfl (lv_at hl 0 rfl) ?_
    refine lv_iconst hx hb dX0_shockOf_1 k_iconst_2 ?_
    refine lv_aload_n hx hb dX0_shockOf_2 rfl (lv_at hl 1 rfl) ?_
    refine lv_iload_n hx hb dX0_shockOf_3 rfl (lv_at hl 2 rfl) ?_
    refine lv_iload_n hx hb dX0_shockOf_4 rfl (lv_at hl 3 rfl) ?_
    refine wx_evl hC hH hl (c_X0_workOut o1 (2 : Int32) o2 i3 i4 h_o1 h_o2) y_X0_workOut v_X0_workOut h_o1 rfl m_X0_162 rfl ⟨Nat.le_of_ble_eq_true rfl, Nat.le_of_ble_eq_true rfl⟩ ⟨Nat.le_refl _, Nat.le_refl _⟩ rfl (Nat.le_of_ble_eq_true rfl) dX0_shockOf_5 hF (fun q6 u5 H locs hF hH => ?_)
    refine wx_lstore hx hb dX0_shockOf_8 hl (by decide) (fun ls hl => ?_)
    have hl : lv_has ls 6 [(4, .long q6), (0, .ref (ρ o1)), (1, .ref (ρ o2)), (2, .int i3), (3, .int i4)] := hl
    refine lv_lload hx hb dX0_shockOf_10 (lv_at hl 0 rfl) ?_
    refine lv_ldc2 hx hb hC.1.2.2.2.1 (hC.1.2.2.2.2 _ l_X0_126) dX0_shockOf_12 ?_
    refine W.lcmp hx hb dX0_shockOf_15 ?_
    refine lv_if_ne hx hb dX0_shockOf_16 (tgt := 24) rfl (fun h => ?_) (fun h => ?_)
    · have hF := wx_f h hF
      refine lv_lload hx hb dX0_shockOf_24 (lv_at hl 0 rfl) ?_
      refine wx_psi hC hH hl (c_X0_within99 q6) y_X0_within99 v_X0_within99 m_X0_185 rfl ⟨Nat.le_of_ble_eq_true rfl, Nat.le_of_ble_eq_true rfl⟩ ⟨Nat.le_refl _, Nat.le_refl _⟩ rfl (Nat.le_of_ble_eq_true rfl) dX0_shockOf_26 hF (fun i7 H locs hF hH => ?_)
      exact wx_iret hC hH hr hlk dX0_shockOf_29 hF
    have hF := wx_t h hF
    refine lv_bipush hx hb dX0_shockOf_19 k_bipush_10 ?_
    refine lv_goto hx hb dX0_shockOf_21 (tgt := 29) rfl ?_
    exact wx_iret hC hH hr hlk dX0_shockOf_29 hF
  exact key _ _ hH

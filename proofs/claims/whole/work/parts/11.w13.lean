def F_X9_isCalm_b11 (o1 : Nat) (i6 : Int32) (u7 : wSt) : Option ((Int32 × wSt) ⊕ (Int32 × wSt)) :=
  if (30 : Int32) ≤ i6 then (some (.inr ((1 : Int32), u7))) else (wC (F_X9_stepGoes o1 (1 : Int32) u7) (fun _ (u8 : wSt) => if (u8.1 o1 59) < 0 then (wB (i6 + (1 : Int32)) (fun (i9 : Int32) => some (.inl (i9, u8)))) else (some (.inr ((0 : Int32), u8)))))
def F_X9_isCalm (o1 : Nat) (i2 : Int32) (u0 : wSt) : Option (Int32 × wSt) :=
  wC (F_X9_layTried o1 u0) (fun _ (u3 : wSt) => wB (w_sI u3 o1 66 i2) (fun (u4 : wSt) => wL (S := Int32 × wSt) (fun x => F_X9_isCalm_b11 o1 x.1 x.2) wFu ((0 : Int32), u4)))
set_option maxRecDepth 100000 in
set_option maxHeartbeats 4000000 in
theorem c_X9_isCalm {l : Launch} {D : va_G} {κ : Nat → ClassId} {ρ : Nat → Nat} (o1 : Nat) (i2 : Int32) (h_o1 : (w_sh o1).1 = 9) : wMI l yX9_isCalm cX9_isCalm 3 .boolean (wRm 7 169) [.ref (ρ o1), .int i2] D κ ρ 1 (fun u => F_X9_isCalm o1 i2 u) := by
  refine wMI_of (F := fun u => F_X9_isCalm o1 i2 u) rfl (Nat.le_of_ble_eq_true rfl) (fun u0 z p e s m args below meth c ls A hF hC hr hlk hH hl => ?_)
  have hl : lv_has ls 3 [(0, .ref (ρ o1)), (1, .int i2)] := hl
  have hx := hC.1.1
  have hb := hC.1.2.1
  have hF : F_X9_isCalm o1 i2 u0 = some z := hF
  unfold F_X9_isCalm at hF
  change W p l e (wRm 7 169) s m args below meth c s.heap [] 0 0 (wQI below args s A D κ ρ 1 z) (F0 m 0 ls [])
  have key : ∀ (H : Heap) (locs : List Loc), wHp D κ ρ 1 A s.heap H locs u0 → W p l e (wRm 7 169) s m args below meth c H locs 0 0 (wQI below args s A D κ ρ 1 z) (F0 m 0 ls []) := by
    intro H locs hH
    refine lv_aload_n hx hb dX9_isCalm_0 rfl (lv_at hl 0 rfl) ?_
    refine wx_evv hC hH hl (c_X9_layTried o1 h_o1) y_X9_layTried v_X9_layTried h_o1 rfl m_X9_475 rfl ⟨Nat.le_of_ble_eq_true rfl, Nat.le_of_ble_eq_true rfl⟩ ⟨Nat.le_refl _, Nat.le_refl _⟩ rfl (Nat.le_of_ble_eq_true rfl) dX9_isCalm_1 hF (fun _ u3 H locs hF hH => ?_)
    refine lv_aload_n hx hb dX9_isCalm_4 rfl (lv_at hl 0 rfl) ?_
    refine lv_iload_n hx hb dX9_isCalm_5 rfl (lv_at hl 1 rfl) ?_
    refine wx_putI hC hH h_o1 rfl f_X9_371 g_9_66 dX9_isCalm_6 hF (fun u4 H locs hF hH => ?_)
    refine lv_iconst hx hb dX9_isCalm_9 k_iconst_0 ?_
    refine wx_istore_n hx hb dX9_isCalm_10 rfl hl (by decide) (fun ls hl => ?_)
    have hl : lv_has ls 3 [(2, .int (0 : Int32)), (0, .ref (ρ o1)), (1, .int i2)] := hl
    have hL11 : ∀ (k5_ : Nat) (i6 : Int32) (u7 : wSt) (H : Heap) (locs : List Loc) (ls : Array Slot), wL (S := Int32 × wSt) (fun x => F_X9_isCalm_b11 o1 x.1 x.2) k5_ (i6, u7) = some z → wHp D κ ρ 1 A s.heap H locs u7 → lv_has ls 3 [(0, .ref (ρ o1)), (2, .int i6)] → W p l e (wRm 7 169) s m args below meth c H locs 0 0 (wQI below args s A D κ ρ 1 z) (F0 m 11 ls []) := by
      intro k5_
      induction k5_ with
      | zero => intro i6 u7 H locs ls hF; exact wL_zero hF
      | succ k5_ ih5 =>
        intro i6 u7 H locs ls hF hH hl
        obtain ⟨q5_, hF, hq5⟩ := wL_some hF
        have hF : F_X9_isCalm_b11 o1 i6 u7 = some q5_ := hF
        unfold F_X9_isCalm_b11 at hF
        refine lv_iload_n hx hb dX9_isCalm_11 rfl (lv_at hl 1 rfl) ?_
        refine lv_bipush hx hb dX9_isCalm_12 k_bipush_30 ?_
        refine lv_icmp_ge hx hb dX9_isCalm_14 (tgt := 37) rfl (fun h => ?_) (fun h => ?_)
        · have hF := wx_t h hF
          refine lv_iconst hx hb dX9_isCalm_37 k_iconst_1 ?_
          have hF := wJ_r hq5 hF
          exact wx_zret hC hH hr hlk dX9_isCalm_38 (Or.inr rfl) hF
        have hF := wx_f h hF
        refine lv_aload_n hx hb dX9_isCalm_17 rfl (lv_at hl 0 rfl) ?_
        refine lv_iconst hx hb dX9_isCalm_18 k_iconst_1 ?_
        refine wx_evv hC hH hl (c_X9_stepGoes o1 (1 : Int32) h_o1) y_X9_stepGoes v_X9_stepGoes h_o1 rfl m_X9_455 rfl ⟨Nat.le_of_ble_eq_true rfl, Nat.le_of_ble_eq_true rfl⟩ ⟨Nat.le_refl _, Nat.le_refl _⟩ rfl (Nat.le_of_ble_eq_true rfl) dX9_isCalm_19 hF (fun _ u8 H locs hF hH => ?_)
        refine lv_aload_n hx hb dX9_isCalm_22 rfl (lv_at hl 0 rfl) ?_
        refine wx_getI hC hH h_o1 rfl f_X9_425 dX9_isCalm_23 ?_
        refine lv_if_lt hx hb dX9_isCalm_26 (tgt := 31) rfl (fun h => ?_) (fun h => ?_)
        · have hF := wx_t h hF
          refine wx_iinc hx hb dX9_isCalm_31 k_iconst_1 hl (k := 1) rfl (by decide) hF (fun i9 ls hF hl => ?_)
          have hl : lv_has ls 3 [(2, .int i9), (0, .ref (ρ o1))] := hl
          refine lv_goto hx hb dX9_isCalm_34 (tgt := 11) rfl ?_
          have hF := wJ_l hq5 hF
          exact ih5 i9 u8 H locs ls hF hH (lv_sub hl [1, 0] rfl)
        have hF := wx_f h hF
        refine lv_iconst hx hb dX9_isCalm_29 k_iconst_0 ?_
        have hF := wJ_r hq5 hF
        exact wx_zret hC hH hr hlk dX9_isCalm_30 (Or.inl rfl) hF
    exact hL11 wFu (0 : Int32) u4 H locs ls hF hH (lv_sub hl [1, 0] rfl)
  exact key _ _ hH
def F_X9_calm_j67 (o1 : Nat) (i5 : Int32) (u6 : wSt) : Option (Int32 × wSt) :=
  wC (F_X9_plainTried o1 u6) (fun _ (u7 : wSt) => some (i5, u7))
def F_X9_calm_j61 (i10 : Int32) (i13 : Int32) (u14 : wSt) : Option ((Int32 × Int32 × wSt) ⊕ ((Int32 × wSt) ⊕ (Int32 × wSt))) :=
  wB (i10 + (1 : Int32)) (fun (i15 : Int32) => some (.inl (i13, i15, u14)))
def F_X9_calm_j51 (o1 : Nat) (i10 : Int32) (u11 : wSt) (i9 : Int32) : Option ((Int32 × wSt) ⊕ ((Int32 × Int32 × wSt) ⊕ ((Int32 × wSt) ⊕ (Int32 × wSt)))) :=
  wC (F_X9_isCalm o1 i10 u11) (fun (i18 : Int32) (u17 : wSt) => if i18 = 0 then (some (.inl (i9, u17))) else (some (.inl (i10, u17))))
def F_X9_calm_b15 (o1 : Nat) (i3 : Int32) (i9 : Int32) (i10 : Int32) (u11 : wSt) : Option ((Int32 × Int32 × wSt) ⊕ ((Int32 × wSt) ⊕ (Int32 × wSt))) :=
  if ((1 : Int32) <<< ((u11.1 o1 12) &&& 31)) ≤ i10 then (some (.inr (.inl (i9, u11)))) else (wJ (X := Int32 × wSt) (if (i10 &&& (i3 ^^^ (-1 : Int32))) = 0 then (wJ (X := Unit) (if i9 < 0 then (some (.inl ())) else (wP (F_X9_manyOf i10 u11) (fun (i19 : Int32) => wP (F_X9_manyOf i9 u11) (fun (i20 : Int32) => if i19 < i20 then (some (.inl ())) else (some (.inr (.inl (i9, u11)))))))) (fun x => F_X9_calm_j51 o1 i10 u11 i9)) else (some (.inl (i9, u11)))) (fun x => F_X9_calm_j61 i10 x.1 x.2))
def F_X9_calm (o1 : Nat) (u0 : wSt) : Option (Int32 × wSt) :=
  wB (w_sI u0 o1 2 (0 : Int32)) (fun (u2 : wSt) => wP (F_X9_thereBits o1 u2) (fun (i3 : Int32) => wJ (X := Int32 × wSt) (wL (S := Int32 × Int32 × wSt) (fun x => F_X9_calm_b15 o1 i3 x.1 x.2.1 x.2.2) wFu ((-2 : Int32), (0 : Int32), u2)) (fun x => F_X9_calm_j67 o1 x.1 x.2)))
set_option maxRecDepth 100000 in
set_option maxHeartbeats 4000000 in
theorem c_X9_calm {l : Launch} {D : va_G} {κ : Nat → ClassId} {ρ : Nat → Nat} (o1 : Nat) (h_o1 : (w_sh o1).1 = 9) : wMI l yX9_calm cX9_calm 4 .int (wRm 8 191) [.ref (ρ o1)] D κ ρ 1 (fun u => F_X9_calm o1 u) := by
  refine wMI_of (F := fun u => F_X9_calm o1 u) rfl (Nat.le_of_ble_eq_true rfl) (fun u0 z p e s m args below meth c ls A hF hC hr hlk hH hl => ?_)
  have hl : lv_has ls 4 [(0, .ref (ρ o1))] := hl
  have hx := hC.1.1
  have hb := hC.1.2.1
  have hF : F_X9_calm o1 u0 = some z := hF
  unfold F_X9_calm at hF
  change W p l e (wRm 8 191) s m args below meth c s.heap [] 0 0 (wQI below args s A D κ ρ 1 z) (F0 m 0 ls [])
  have key : ∀ (H : Heap) (locs : List Loc), wHp D κ ρ 1 A s.heap H locs u0 → W p l e (wRm 8 191) s m args below meth c H locs 0 0 (wQI below args s A D κ ρ 1 z) (F0 m 0 ls []) := by
    intro H locs hH
    refine lv_aload_n hx hb dX9_calm_0 rfl (lv_at hl 0 rfl) ?_
    refine lv_iconst hx hb dX9_calm_1 k_iconst_0 ?_
    refine wx_putI hC hH h_o1 rfl f_X9_142 g_9_2 dX9_calm_2 hF (fun u2 H locs hF hH => ?_)
    refine lv_aload_n hx hb dX9_calm_5 rfl (lv_at hl 0 rfl) ?_
    refine wx_pvi hC hH hl (c_X9_thereBits o1 h_o1) y_X9_thereBits v_X9_thereBits h_o1 rfl m_X9_496 rfl ⟨Nat.le_of_ble_eq_true rfl, Nat.le_of_ble_eq_true rfl⟩ ⟨Nat.le_refl _, Nat.le_refl _⟩ rfl (Nat.le_of_ble_eq_true rfl) dX9_calm_6 hF (fun i3 H locs hF hH => ?_)
    refine wx_istore_n hx hb dX9_calm_9 rfl hl (by decide) (fun ls hl => ?_)
    have hl : lv_has ls 4 [(1, .int i3), (0, .ref (ρ o1))] := hl
    refine lv_bipush hx hb dX9_calm_10 k_bipush_m2 ?_
    refine wx_istore_n hx hb dX9_calm_12 rfl hl (by decide) (fun ls hl => ?_)
    have hl : lv_has ls 4 [(2, .int (-2 : Int32)), (1, .int i3), (0, .ref (ρ o1))] := hl
    refine lv_iconst hx hb dX9_calm_13 k_iconst_0 ?_
    refine wx_istore_n hx hb dX9_calm_14 rfl hl (by decide) (fun ls hl => ?_)
    have hl : lv_has ls 4 [(3, .int (0 : Int32)), (2, .int (-2 : Int32)), (1, .int i3), (0, .ref (ρ o1))] := hl
    obtain ⟨q4_, hF, hq4⟩ := wJ_some hF
    have hJ67 : ∀ (i5 : Int32) (u6 : wSt) (H : Heap) (locs : List Loc) (ls : Array Slot), F_X9_calm_j67 o1 i5 u6 = some z → wHp D κ ρ 1 A s.heap H locs u6 → lv_has ls 4 [(0, .ref (ρ o1)), (2, .int i5)] → W p l e (wRm 8 191) s m args below meth c H locs 0 0 (wQI below args s A D κ ρ 1 z) (F0 m 67 ls []) := by
      intro i5 u6 H locs ls hF hH hl
      unfold F_X9_calm_j67 at hF
      refine lv_aload_n hx hb dX9_calm_67 rfl (lv_at hl 0 rfl) ?_
      refine wx_evv hC hH hl (c_X9_plainTried o1 h_o1) y_X9_plainTried v_X9_plainTried h_o1 rfl m_X9_341 rfl ⟨Nat.le_of_ble_eq_true rfl, Nat.le_of_ble_eq_true rfl⟩ ⟨Nat.le_refl _, Nat.le_refl _⟩ rfl (Nat.le_of_ble_eq_true rfl) dX9_calm_68 hF (fun _ u7 H locs hF hH => ?_)
      refine lv_iload_n hx hb dX9_calm_71 rfl (lv_at hl 1 rfl) ?_
      exact wx_iret hC hH hr hlk dX9_calm_72 hF
    have hL15 : ∀ (k8_ : Nat) (i9 : Int32) (i10 : Int32) (u11 : wSt) (H : Heap) (locs : List Loc) (ls : Array Slot), wL (S := Int32 × Int32 × wSt) (fun x => F_X9_calm_b15 o1 i3 x.1 x.2.1 x.2.2) k8_ (i9, i10, u11) = some q4_ → wHp D κ ρ 1 A s.heap H locs u11 → lv_has ls 4 [(0, .ref (ρ o1)), (1, .int i3), (2, .int i9), (3, .int i10)] → W p l e (wRm 8 191) s m args below meth c H locs 0 0 (wQI below args s A D κ ρ 1 z) (F0 m 15 ls []) := by
      intro k8_
      induction k8_ with
      | zero => intro i9 i10 u11 H locs ls hF; exact wL_zero hF
      | succ k8_ ih8 =>
        intro i9 i10 u11 H locs ls hF hH hl
        obtain ⟨q8_, hF, hq8⟩ := wL_some hF
        have hF : F_X9_calm_b15 o1 i3 i9 i10 u11 = some q8_ := hF
        unfold F_X9_calm_b15 at hF
        refine lv_iload_n hx hb dX9_calm_15 rfl (lv_at hl 3 rfl) ?_
        refine lv_iconst hx hb dX9_calm_16 k_iconst_1 ?_
        refine lv_aload_n hx hb dX9_calm_17 rfl (lv_at hl 0 rfl) ?_
        refine wx_getI hC hH h_o1 rfl f_X9_219 dX9_calm_18 ?_
        refine lv_ishl hx hb dX9_calm_21 ?_
        refine lv_icmp_ge hx hb dX9_calm_22 (tgt := 67) rfl (fun h => ?_) (fun h => ?_)
        · have hF := wx_t h hF
          have hF := wJ_r hq8 hF
          have hF := wJ_l hq4 hF
          exact hJ67 i9 u11 H locs ls hF hH (lv_sub hl [0, 2] rfl)
        have hF := wx_f h hF
        refine lv_iload_n hx hb dX9_calm_25 rfl (lv_at hl 3 rfl) ?_
        refine lv_iload_n hx hb dX9_calm_26 rfl (lv_at hl 1 rfl) ?_
        refine lv_iconst hx hb dX9_calm_27 k_iconst_m1 ?_
        refine lv_ixor hx hb dX9_calm_28 ?_
        refine lv_iand hx hb dX9_calm_29 ?_
        obtain ⟨q12_, hF, hq12⟩ := wJ_some hF
        have hJ61 : ∀ (i13 : Int32) (u14 : wSt) (H : Heap) (locs : List Loc) (ls : Array Slot), F_X9_calm_j61 i10 i13 u14 = some q8_ → wHp D κ ρ 1 A s.heap H locs u14 → lv_has ls 4 [(0, .ref (ρ o1)), (1, .int i3), (2, .int i13), (3, .int i10)] → W p l e (wRm 8 191) s m args below meth c H locs 0 0 (wQI below args s A D κ ρ 1 z) (F0 m 61 ls []) := by
          intro i13 u14 H locs ls hF hH hl
          unfold F_X9_calm_j61 at hF
          refine wx_iinc hx hb dX9_calm_61 k_iconst_1 hl (k := 3) rfl (by decide) hF (fun i15 ls hF hl => ?_)
          have hl : lv_has ls 4 [(3, .int i15), (0, .ref (ρ o1)), (1, .int i3), (2, .int i13)] := hl
          refine lv_goto hx hb dX9_calm_64 (tgt := 15) rfl ?_
          have hF := wJ_l hq8 hF
          exact ih8 i13 i15 u14 H locs ls hF hH (lv_sub hl [1, 2, 3, 0] rfl)
        refine lv_if_ne hx hb dX9_calm_30 (tgt := 61) rfl (fun h => ?_) (fun h => ?_)
        · have hF := wx_f h hF
          have hF := wJ_l hq12 hF
          exact hJ61 i9 u11 H locs ls hF hH (lv_sub hl [0, 1, 2, 3] rfl)
        have hF := wx_t h hF
        refine lv_iload_n hx hb dX9_calm_33 rfl (lv_at hl 2 rfl) ?_
        obtain ⟨q16_, hF, hq16⟩ := wJ_some hF
        have hJ51 : ∀ (H : Heap) (locs : List Loc) (ls : Array Slot), F_X9_calm_j51 o1 i10 u11 i9 = some q12_ → wHp D κ ρ 1 A s.heap H locs u11 → lv_has ls 4 [(0, .ref (ρ o1)), (1, .int i3), (2, .int i9), (3, .int i10)] → W p l e (wRm 8 191) s m args below meth c H locs 0 0 (wQI below args s A D κ ρ 1 z) (F0 m 51 ls []) := by
          intro H locs ls hF hH hl
          unfold F_X9_calm_j51 at hF
          refine lv_aload_n hx hb dX9_calm_51 rfl (lv_at hl 0 rfl) ?_
          refine lv_iload_n hx hb dX9_calm_52 rfl (lv_at hl 3 rfl) ?_
          refine wx_evi hC hH hl (c_X9_isCalm o1 i10 h_o1) y_X9_isCalm v_X9_isCalm h_o1 rfl m_X9_502 rfl ⟨Nat.le_of_ble_eq_true rfl, Nat.le_of_ble_eq_true rfl⟩ ⟨Nat.le_refl _, Nat.le_refl _⟩ rfl (Nat.le_of_ble_eq_true rfl) dX9_calm_53 hF (fun i18 u17 H locs hF hH => ?_)
          refine lv_if_eq hx hb dX9_calm_56 (tgt := 61) rfl (fun h => ?_) (fun h => ?_)
          · have hF := wx_t h hF
            have hF := wJ_l hq12 hF
            exact hJ61 i9 u17 H locs ls hF hH (lv_sub hl [0, 1, 2, 3] rfl)
          have hF := wx_f h hF
          refine lv_iload_n hx hb dX9_calm_59 rfl (lv_at hl 3 rfl) ?_
          refine wx_istore_n hx hb dX9_calm_60 rfl hl (by decide) (fun ls hl => ?_)
          have hl : lv_has ls 4 [(2, .int i10), (0, .ref (ρ o1)), (1, .int i3), (3, .int i10)] := hl
          have hF := wJ_l hq12 hF
          exact hJ61 i10 u17 H locs ls hF hH (lv_sub hl [1, 2, 0, 3] rfl)
        refine lv_if_lt hx hb dX9_calm_34 (tgt := 51) rfl (fun h => ?_) (fun h => ?_)
        · have hF := wx_t h hF
          have hF := wJ_l hq16 hF
          exact hJ51 H locs ls hF hH (lv_sub hl [0, 1, 2, 3] rfl)
        have hF := wx_f h hF
        refine lv_iload_n hx hb dX9_calm_37 rfl (lv_at hl 3 rfl) ?_
        refine wx_psi hC hH hl (c_X9_manyOf i10) y_X9_manyOf v_X9_manyOf m_X9_499 rfl ⟨Nat.le_of_ble_eq_true rfl, Nat.le_of_ble_eq_true rfl⟩ ⟨Nat.le_refl _, Nat.le_refl _⟩ rfl (Nat.le_of_ble_eq_true rfl) dX9_calm_38 hF (fun i19 H locs hF hH => ?_)
        refine lv_iload_n hx hb dX9_calm_41 rfl (lv_at hl 2 rfl) ?_
        refine wx_psi hC hH hl (c_X9_manyOf i9) y_X9_manyOf v_X9_manyOf m_X9_499 rfl ⟨Nat.le_of_ble_eq_true rfl, Nat.le_of_ble_eq_true rfl⟩ ⟨Nat.le_refl _, Nat.le_refl _⟩ rfl (Nat.le_of_ble_eq_true rfl) dX9_calm_42 hF (fun i20 H locs hF hH => ?_)
        refine lv_icmp_lt hx hb dX9_calm_45 (tgt := 51) rfl (fun h => ?_) (fun h => ?_)
        · have hF := wx_t h hF
          have hF := wJ_l hq16 hF
          exact hJ51 H locs ls hF hH (lv_sub hl [0, 1, 2, 3] rfl)
        have hF := wx_f h hF
        refine lv_goto hx hb dX9_calm_48 (tgt := 61) rfl ?_
        have hF := wJ_r hq16 hF
        have hF := wJ_l hq12 hF
        exact hJ61 i9 u11 H locs ls hF hH (lv_sub hl [0, 1, 2, 3] rfl)
    exact hL15 wFu (-2 : Int32) (0 : Int32) u2 H locs ls hF hH (lv_sub hl [3, 2, 1, 0] rfl)
  exact key _ _ hH
def F_X9_loaf_j76 (o13 : Nat) (i2 : Int32) (o1 : Nat) (i3 : Int32) (i10 : Int32) (i17 : Int32) (u18 : wSt) : Option ((Int32 × wSt) ⊕ (Int32 × wSt)) :=
  wSI u18 o13 ((6 : Int32) + i2) i17 (fun (u19 : wSt) => wC (F_X9_goMany o1 i3 u19) (fun _ (u20 : wSt) => wR (u20.2.2 o1 52) 15 (fun o21 => wN ((6 : Int32) + i2) o21 (fun j22 => if (u20.1 o21 j22) = 0 then (wB (i10 + (1 : Int32)) (fun (i23 : Int32) => some (.inl (i23, u20)))) else (some (.inr (i10, u20)))))))
def F_X9_loaf_b36 (o1 : Nat) (i2 : Int32) (i3 : Int32) (i10 : Int32) (u11 : wSt) : Option ((Int32 × wSt) ⊕ (Int32 × wSt)) :=
  if (99 : Int32) < i10 then (some (.inr ((-2 : Int32), u11))) else (wC (F_X9_layTried o1 u11) (fun _ (u12 : wSt) => wR (u12.2.2 o1 50) 14 (fun o13 => wR (u12.2.2 o1 50) 14 (fun o14 => wN i2 o14 (fun j15 => wJ (X := Int32 × wSt) (if (u12.1 o14 j15) ≤ i10 then (some (.inl ((0 : Int32), u12))) else (wR (u12.2.2 o1 50) 14 (fun o24 => wN i2 o24 (fun j25 => some (.inl (((u12.1 o24 j25) - i10), u12)))))) (fun x => F_X9_loaf_j76 o13 i2 o1 i3 i10 x.1 x.2))))))
def F_X9_loaf (o1 : Nat) (i2 : Int32) (i3 : Int32) (u0 : wSt) : Option (Int32 × wSt) :=
  wB (w_sI u0 o1 2 (0 : Int32)) (fun (u4 : wSt) => wP (F_X9_isGuest o1 i2 u4) (fun (i5 : Int32) => if i5 = 0 then (some ((-1 : Int32), u4)) else (wR (u4.2.2 o1 52) 15 (fun o6 => wN i2 o6 (fun j7 => if (u4.1 o6 j7) = 0 then (some ((-1 : Int32), u4)) else (wP (F_X9_isIn i3 (1 : Int32) (99 : Int32) u4) (fun (i8 : Int32) => if i8 = 0 then (some ((-1 : Int32), u4)) else (wL (S := Int32 × wSt) (fun x => F_X9_loaf_b36 o1 i2 i3 x.1 x.2) wFu ((0 : Int32), u4)))))))))
set_option maxRecDepth 100000 in
set_option maxHeartbeats 4000000 in
theorem c_X9_loaf {l : Launch} {D : va_G} {κ : Nat → ClassId} {ρ : Nat → Nat} (o1 : Nat) (i2 : Int32) (i3 : Int32) (h_o1 : (w_sh o1).1 = 9) : wMI l yX9_loaf cX9_loaf 4 .int (wRm 8 191) [.ref (ρ o1), .int i2, .int i3] D κ ρ 1 (fun u => F_X9_loaf o1 i2 i3 u) := by
  refine wMI_of (F := fun u => F_X9_loaf o1 i2 i3 u) rfl (Nat.le_of_ble_eq_true rfl) (fun u0 z p e s m args below meth c ls A hF hC hr hlk hH hl => ?_)
  have hl : lv_has ls 4 [(0, .ref (ρ o1)), (1, .int i2), (2, .int i3)] := hl
  have hx := hC.1.1
  have hb := hC.1.2.1
  have hF : F_X9_loaf o1 i2 i3 u0 = some z := hF
  unfold F_X9_loaf at hF
  change W p l e (wRm 8 191) s m args below meth c s.heap [] 0 0 (wQI below args s A D κ ρ 1 z) (F0 m 0 ls [])
  have key : ∀ (H : Heap) (locs : List Loc), wHp D κ ρ 1 A s.heap H locs u0 → W p l e (wRm 8 191) s m args below meth c H locs 0 0 (wQI below args s A D κ ρ 1 z) (F0 m 0 ls []) := by
    intro H locs hH
    refine lv_aload_n hx hb dX9_loaf_0 rfl (lv_at hl 0 rfl) ?_
    refine lv_iconst hx hb dX9_loaf_1 k_iconst_0 ?_
    refine wx_putI hC hH h_o1 rfl f_X9_142 g_9_2 dX9_loaf_2 hF (fun u4 H locs hF hH => ?_)
    refine lv_aload_n hx hb dX9_loaf_5 rfl (lv_at hl 0 rfl) ?_
    refine lv_iload_n hx hb dX9_loaf_6 rfl (lv_at hl 1 rfl) ?_
    refine wx_pvi hC hH hl (c_X9_isGuest o1 i2 h_o1) y_X9_isGuest v_X9_isGuest h_o1 rfl m_X9_380 rfl ⟨Nat.le_of_ble_eq_true rfl, Nat.le_of_ble_eq_true rfl⟩ ⟨Nat.le_refl _, Nat.le_refl _⟩ rfl (Nat.le_of_ble_eq_true rfl) dX9_loaf_7 hF (fun i5 H locs hF hH => ?_)
    refine lv_if_eq hx hb dX9_loaf_10 (tgt := 32) rfl (fun h => ?_) (fun h => ?_)
    · have hF := wx_t h hF
      refine lv_iconst hx hb dX9_loaf_32 k_iconst_m1 ?_
      exact wx_iret hC hH hr hlk dX9_loaf_33 hF
    have hF := wx_f h hF
    refine lv_aload_n hx hb dX9_loaf_13 rfl (lv_at hl 0 rfl) ?_
    refine wx_getR hC hH h_o1 rfl f_X9_97 dX9_loaf_14 hF (fun o6 h_o6 hF => ?_)
    refine lv_iload_n hx hb dX9_loaf_17 rfl (lv_at hl 1 rfl) ?_
    refine wx_zald hC hH h_o6 ⟨rfl, rfl⟩ dX9_loaf_18 hF (fun j7 hF => ?_)
    refine lv_if_eq hx hb dX9_loaf_19 (tgt := 32) rfl (fun h => ?_) (fun h => ?_)
    · have hF := wx_t h hF
      refine lv_iconst hx hb dX9_loaf_32 k_iconst_m1 ?_
      exact wx_iret hC hH hr hlk dX9_loaf_33 hF
    have hF := wx_f h hF
    refine lv_iload_n hx hb dX9_loaf_22 rfl (lv_at hl 2 rfl) ?_
    refine lv_iconst hx hb dX9_loaf_23 k_iconst_1 ?_
    refine lv_bipush hx hb dX9_loaf_24 k_bipush_99 ?_
    refine wx_psi hC hH hl (c_X9_isIn i3 (1 : Int32) (99 : Int32)) y_X9_isIn v_X9_isIn m_X9_187 rfl ⟨Nat.le_of_ble_eq_true rfl, Nat.le_of_ble_eq_true rfl⟩ ⟨Nat.le_refl _, Nat.le_refl _⟩ rfl (Nat.le_of_ble_eq_true rfl) dX9_loaf_26 hF (fun i8 H locs hF hH => ?_)
    refine lv_if_ne hx hb dX9_loaf_29 (tgt := 34) rfl (fun h => ?_) (fun h => ?_)
    · have hF := wx_f h hF
      refine lv_iconst hx hb dX9_loaf_34 k_iconst_0 ?_
      refine wx_istore_n hx hb dX9_loaf_35 rfl hl (by decide) (fun ls hl => ?_)
      have hl : lv_has ls 4 [(3, .int (0 : Int32)), (0, .ref (ρ o1)), (1, .int i2), (2, .int i3)] := hl
      have hL36 : ∀ (k9_ : Nat) (i10 : Int32) (u11 : wSt) (H : Heap) (locs : List Loc) (ls : Array Slot), wL (S := Int32 × wSt) (fun x => F_X9_loaf_b36 o1 i2 i3 x.1 x.2) k9_ (i10, u11) = some z → wHp D κ ρ 1 A s.heap H locs u11 → lv_has ls 4 [(0, .ref (ρ o1)), (1, .int i2), (2, .int i3), (3, .int i10)] → W p l e (wRm 8 191) s m args below meth c H locs 0 0 (wQI below args s A D κ ρ 1 z) (F0 m 36 ls []) := by
        intro k9_
        induction k9_ with
        | zero => intro i10 u11 H locs ls hF; exact wL_zero hF
        | succ k9_ ih9 =>
          intro i10 u11 H locs ls hF hH hl
          obtain ⟨q9_, hF, hq9⟩ := wL_some hF
          have hF : F_X9_loaf_b36 o1 i2 i3 i10 u11 = some q9_ := hF
          unfold F_X9_loaf_b36 at hF
          refine lv_iload_n hx hb dX9_loaf_36 rfl (lv_at hl 3 rfl) ?_
          refine lv_bipush hx hb dX9_loaf_37 k_bipush_99 ?_
          refine lv_icmp_gt hx hb dX9_loaf_39 (tgt := 102) rfl (fun h => ?_) (fun h => ?_)
          · have hF := wx_t h hF
            refine lv_bipush hx hb dX9_loaf_102 k_bipush_m2 ?_
            have hF := wJ_r hq9 hF
            exact wx_iret hC hH hr hlk dX9_loaf_104 hF
          have hF := wx_f h hF
          refine lv_aload_n hx hb dX9_loaf_42 rfl (lv_at hl 0 rfl) ?_
          refine wx_evv hC hH hl (c_X9_layTried o1 h_o1) y_X9_layTried v_X9_layTried h_o1 rfl m_X9_475 rfl ⟨Nat.le_of_ble_eq_true rfl, Nat.le_of_ble_eq_true rfl⟩ ⟨Nat.le_refl _, Nat.le_refl _⟩ rfl (Nat.le_of_ble_eq_true rfl) dX9_loaf_43 hF (fun _ u12 H locs hF hH => ?_)
          refine lv_aload_n hx hb dX9_loaf_46 rfl (lv_at hl 0 rfl) ?_
          refine wx_getR hC hH h_o1 rfl f_X9_91 dX9_loaf_47 hF (fun o13 h_o13 hF => ?_)
          refine lv_bipush hx hb dX9_loaf_50 k_bipush_6 ?_
          refine lv_iload_n hx hb dX9_loaf_52 rfl (lv_at hl 1 rfl) ?_
          refine lv_iadd hx hb dX9_loaf_53 ?_
          refine lv_aload_n hx hb dX9_loaf_54 rfl (lv_at hl 0 rfl) ?_
          refine wx_getR hC hH h_o1 rfl f_X9_91 dX9_loaf_55 hF (fun o14 h_o14 hF => ?_)
          refine lv_iload_n hx hb dX9_loaf_58 rfl (lv_at hl 1 rfl) ?_
          refine wx_iald hC hH h_o14 ⟨rfl, rfl⟩ dX9_loaf_59 hF (fun j15 hF => ?_)
          refine lv_iload_n hx hb dX9_loaf_60 rfl (lv_at hl 3 rfl) ?_
          obtain ⟨q16_, hF, hq16⟩ := wJ_some hF
          have hJ76 : ∀ (i17 : Int32) (u18 : wSt) (H : Heap) (locs : List Loc) (ls : Array Slot), F_X9_loaf_j76 o13 i2 o1 i3 i10 i17 u18 = some q9_ → wHp D κ ρ 1 A s.heap H locs u18 → lv_has ls 4 [(0, .ref (ρ o1)), (1, .int i2), (2, .int i3), (3, .int i10)] → W p l e (wRm 8 191) s m args below meth c H locs 0 0 (wQI below args s A D κ ρ 1 z) (F0 m 76 ls [.int i17, .int ((6 : Int32) + i2), .ref (ρ o13)]) := by
            intro i17 u18 H locs ls hF hH hl
            unfold F_X9_loaf_j76 at hF
            refine wx_iast hC hH h_o13 ⟨rfl, rfl⟩ dX9_loaf_76 hF (fun u19 H locs hF hH => ?_)
            refine lv_aload_n hx hb dX9_loaf_77 rfl (lv_at hl 0 rfl) ?_
            refine lv_iload_n hx hb dX9_loaf_78 rfl (lv_at hl 2 rfl) ?_
            refine wx_evv hC hH hl (c_X9_goMany o1 i3 h_o1) y_X9_goMany v_X9_goMany h_o1 rfl m_X9_478 rfl ⟨Nat.le_of_ble_eq_true rfl, Nat.le_of_ble_eq_true rfl⟩ ⟨Nat.le_refl _, Nat.le_refl _⟩ rfl (Nat.le_of_ble_eq_true rfl) dX9_loaf_79 hF (fun _ u20 H locs hF hH => ?_)
            refine lv_aload_n hx hb dX9_loaf_82 rfl (lv_at hl 0 rfl) ?_
            refine wx_getR hC hH h_o1 rfl f_X9_97 dX9_loaf_83 hF (fun o21 h_o21 hF => ?_)
            refine lv_bipush hx hb dX9_loaf_86 k_bipush_6 ?_
            refine lv_iload_n hx hb dX9_loaf_88 rfl (lv_at hl 1 rfl) ?_
            refine lv_iadd hx hb dX9_loaf_89 ?_
            refine wx_zald hC hH h_o21 ⟨rfl, rfl⟩ dX9_loaf_90 hF (fun j22 hF => ?_)
            refine lv_if_eq hx hb dX9_loaf_91 (tgt := 96) rfl (fun h => ?_) (fun h => ?_)
            · have hF := wx_t h hF
              refine wx_iinc hx hb dX9_loaf_96 k_iconst_1 hl (k := 3) rfl (by decide) hF (fun i23 ls hF hl => ?_)
              have hl : lv_has ls 4 [(3, .int i23), (0, .ref (ρ o1)), (1, .int i2), (2, .int i3)] := hl
              refine lv_goto hx hb dX9_loaf_99 (tgt := 36) rfl ?_
              have hF := wJ_l hq9 hF
              exact ih9 i23 u20 H locs ls hF hH (lv_sub hl [1, 2, 3, 0] rfl)
            have hF := wx_f h hF
            refine lv_iload_n hx hb dX9_loaf_94 rfl (lv_at hl 3 rfl) ?_
            have hF := wJ_r hq9 hF
            exact wx_iret hC hH hr hlk dX9_loaf_95 hF
          refine lv_icmp_le hx hb dX9_loaf_61 (tgt := 75) rfl (fun h => ?_) (fun h => ?_)
          · have hF := wx_t h hF
            refine lv_iconst hx hb dX9_loaf_75 k_iconst_0 ?_
            have hF := wJ_l hq16 hF
            exact hJ76 (0 : Int32) u12 H locs ls hF hH (lv_sub hl [0, 1, 2, 3] rfl)
          have hF := wx_f h hF
          refine lv_aload_n hx hb dX9_loaf_64 rfl (lv_at hl 0 rfl) ?_
          refine wx_getR hC hH h_o1 rfl f_X9_91 dX9_loaf_65 hF (fun o24 h_o24 hF => ?_)
          refine lv_iload_n hx hb dX9_loaf_68 rfl (lv_at hl 1 rfl) ?_
          refine wx_iald hC hH h_o24 ⟨rfl, rfl⟩ dX9_loaf_69 hF (fun j25 hF => ?_)
          refine lv_iload_n hx hb dX9_loaf_70 rfl (lv_at hl 3 rfl) ?_
          refine lv_isub hx hb dX9_loaf_71 ?_
          refine lv_goto hx hb dX9_loaf_72 (tgt := 76) rfl ?_
          have hF := wJ_l hq16 hF
          exact hJ76 ((u12.1 o24 j25) - i10) u12 H locs ls hF hH (lv_sub hl [0, 1, 2, 3] rfl)
      exact hL36 wFu (0 : Int32) u4 H locs ls hF hH (lv_sub hl [1, 2, 3, 0] rfl)
    have hF := wx_t h hF
    refine lv_iconst hx hb dX9_loaf_32 k_iconst_m1 ?_
    exact wx_iret hC hH hr hlk dX9_loaf_33 hF
  exact key _ _ hH
def F_X9_linksOf_j71 (i7 : Int32) (i10 : Int32) : Option ((Int32 × Int32) ⊕ Int32) :=
  wB (i7 + (1 : Int32)) (fun (i11 : Int32) => some (.inl (i10, i11)))
def F_X9_linksOf_j62 (i13 : Int32) (i14 : Int32) (i17 : Int32) : Option ((Int32 × Int32) ⊕ ((Int32) ⊕ ((Int32 × Int32) ⊕ Int32))) :=
  wB (i13 ||| i17) (fun (i18 : Int32) => wB (i14 + (1 : Int32)) (fun (i19 : Int32) => some (.inl (i18, i19))))
def F_X9_linksOf_b31 (u0 : wSt) (o1 : Nat) (i6 : Int32) (i13 : Int32) (i14 : Int32) : Option ((Int32 × Int32) ⊕ ((Int32) ⊕ ((Int32 × Int32) ⊕ Int32))) :=
  if (u0.1 o1 12) ≤ i14 then (some (.inr (.inl i13))) else (wP (F_X9_isOf i6 i14 u0) (fun (i15 : Int32) => wJ (X := Int32) (if i15 = 0 then (some (.inl (0 : Int32))) else (wP (F_X9_hearing o1 (0 : Int32) i14 u0) (fun (i20 : Int32) => some (.inl i20)))) (fun x => F_X9_linksOf_j62 i13 i14 x)))
def F_X9_linksOf_b7 (i3 : Int32) (u0 : wSt) (o1 : Nat) (i6 : Int32) (i7 : Int32) : Option ((Int32 × Int32) ⊕ Int32) :=
  if (6 : Int32) ≤ i7 then (some (.inr ((-2 : Int32)))) else (wP (F_X9_isOf i6 i3 u0) (fun (i8 : Int32) => if i8 = 0 then (wJ (X := Int32) (wL (S := Int32 × Int32) (fun x => F_X9_linksOf_b31 u0 o1 i6 x.1 x.2) wFu (i6, (0 : Int32))) (fun x => F_X9_linksOf_j71 i7 x)) else (some (.inr (i7)))))
def F_X9_linksOf (o1 : Nat) (i2 : Int32) (i3 : Int32) (u0 : wSt) : Option Int32 :=
  wB ((1 : Int32) <<< (i2 &&& 31)) (fun (i4 : Int32) => wL (S := Int32 × Int32) (fun x => F_X9_linksOf_b7 i3 u0 o1 x.1 x.2) wFu (i4, (0 : Int32)))
set_option maxRecDepth 100000 in
set_option maxHeartbeats 4000000 in
theorem c_X9_linksOf {l : Launch} {D : va_G} {κ : Nat → ClassId} {ρ : Nat → Nat} (o1 : Nat) (i2 : Int32) (i3 : Int32) (h_o1 : (w_sh o1).1 = 9) : wMI l yX9_linksOf cX9_linksOf 7 .int (wRm 4 90) [.ref (ρ o1), .int i2, .int i3] D κ ρ 1 (fun u => wPu (F_X9_linksOf o1 i2 i3 u) u) := by
  refine wMP_of (F := fun u => F_X9_linksOf o1 i2 i3 u) rfl (Nat.le_of_ble_eq_true rfl) (fun u0 z p e s m args below meth c ls A hF hC hr hlk hH hl => ?_)
  have hl : lv_has ls 7 [(0, .ref (ρ o1)), (1, .int i2), (2, .int i3)] := hl
  have hx := hC.1.1
  have hb := hC.1.2.1
  have hF : F_X9_linksOf o1 i2 i3 u0 = some z := hF
  unfold F_X9_linksOf at hF
  change W p l e (wRm 4 90) s m args below meth c s.heap [] 0 0 (wQI below args s A D κ ρ 1 (z, u0)) (F0 m 0 ls [])
  have key : ∀ (H : Heap) (locs : List Loc), wHp D κ ρ 1 A s.heap H locs u0 → W p l e (wRm 4 90) s m args below meth c H locs 0 0 (wQI below args s A D κ ρ 1 (z, u0)) (F0 m 0 ls []) := by
    intro H locs hH
    refine lv_iconst hx hb dX9_linksOf_0 k_iconst_1 ?_
    refine lv_iload_n hx hb dX9_linksOf_1 rfl (lv_at hl 1 rfl) ?_
    refine lv_ishl hx hb dX9_linksOf_2 ?_
    refine wx_leti hF (fun i4 hF => ?_)
    refine wx_istore_n hx hb dX9_linksOf_3 rfl hl (by decide) (fun ls hl => ?_)
    have hl : lv_has ls 7 [(3, .int i4), (0, .ref (ρ o1)), (1, .int i2), (2, .int i3)] := hl
    refine lv_iconst hx hb dX9_linksOf_4 k_iconst_0 ?_
    refine wx_istore hx hb dX9_linksOf_5 hl (by decide) (fun ls hl => ?_)
    have hl : lv_has ls 7 [(4, .int (0 : Int32)), (3, .int i4), (0, .ref (ρ o1)), (1, .int i2), (2, .int i3)] := hl
    have hL7 : ∀ (k5_ : Nat) (i6 : Int32) (i7 : Int32) (H : Heap) (locs : List Loc) (ls : Array Slot), wL (S := Int32 × Int32) (fun x => F_X9_linksOf_b7 i3 u0 o1 x.1 x.2) k5_ (i6, i7) = some z → wHp D κ ρ 1 A s.heap H locs u0 → lv_has ls 7 [(0, .ref (ρ o1)), (2, .int i3), (3, .int i6), (4, .int i7)] → W p l e (wRm 4 90) s m args below meth c H locs 0 0 (wQI below args s A D κ ρ 1 (z, u0)) (F0 m 7 ls []) := by
      intro k5_
      induction k5_ with
      | zero => intro i6 i7 H locs ls hF; exact wL_zero hF
      | succ k5_ ih5 =>
        intro i6 i7 H locs ls hF hH hl
        obtain ⟨q5_, hF, hq5⟩ := wL_some hF
        have hF : F_X9_linksOf_b7 i3 u0 o1 i6 i7 = some q5_ := hF
        unfold F_X9_linksOf_b7 at hF
        refine lv_iload hx hb dX9_linksOf_7 (lv_at hl 3 rfl) ?_
        refine lv_bipush hx hb dX9_linksOf_9 k_bipush_6 ?_
        refine lv_icmp_ge hx hb dX9_linksOf_11 (tgt := 80) rfl (fun h => ?_) (fun h => ?_)
        · have hF := wx_t h hF
          refine lv_bipush hx hb dX9_linksOf_80 k_bipush_m2 ?_
          have hF := wJ_r hq5 hF
          exact wx_iret hC hH hr hlk dX9_linksOf_82 (wx_pr hF)
        have hF := wx_f h hF
        refine lv_iload_n hx hb dX9_linksOf_14 rfl (lv_at hl 2 rfl) ?_
        refine lv_iload_n hx hb dX9_linksOf_15 rfl (lv_at hl 1 rfl) ?_
        refine wx_psi hC hH hl (c_X9_isOf i6 i3) y_X9_isOf v_X9_isOf m_X9_383 rfl ⟨Nat.le_of_ble_eq_true rfl, Nat.le_of_ble_eq_true rfl⟩ ⟨Nat.le_refl _, Nat.le_refl _⟩ rfl (Nat.le_of_ble_eq_true rfl) dX9_linksOf_16 hF (fun i8 H locs hF hH => ?_)
        refine lv_if_eq hx hb dX9_linksOf_19 (tgt := 25) rfl (fun h => ?_) (fun h => ?_)
        · have hF := wx_t h hF
          refine lv_iload_n hx hb dX9_linksOf_25 rfl (lv_at hl 2 rfl) ?_
          refine wx_istore hx hb dX9_linksOf_26 hl (by decide) (fun ls hl => ?_)
          have hl : lv_has ls 7 [(5, .int i6), (0, .ref (ρ o1)), (2, .int i3), (3, .int i6), (4, .int i7)] := hl
          refine lv_iconst hx hb dX9_linksOf_28 k_iconst_0 ?_
          refine wx_istore hx hb dX9_linksOf_29 hl (by decide) (fun ls hl => ?_)
          have hl : lv_has ls 7 [(6, .int (0 : Int32)), (5, .int i6), (0, .ref (ρ o1)), (2, .int i3), (3, .int i6), (4, .int i7)] := hl
          obtain ⟨q9_, hF, hq9⟩ := wJ_some hF
          have hJ71 : ∀ (i10 : Int32) (H : Heap) (locs : List Loc) (ls : Array Slot), F_X9_linksOf_j71 i7 i10 = some q5_ → wHp D κ ρ 1 A s.heap H locs u0 → lv_has ls 7 [(0, .ref (ρ o1)), (2, .int i3), (4, .int i7), (5, .int i10)] → W p l e (wRm 4 90) s m args below meth c H locs 0 0 (wQI below args s A D κ ρ 1 (z, u0)) (F0 m 71 ls []) := by
            intro i10 H locs ls hF hH hl
            unfold F_X9_linksOf_j71 at hF
            refine lv_iload hx hb dX9_linksOf_71 (lv_at hl 3 rfl) ?_
            refine wx_istore_n hx hb dX9_linksOf_73 rfl hl (by decide) (fun ls hl => ?_)
            have hl : lv_has ls 7 [(3, .int i10), (0, .ref (ρ o1)), (2, .int i3), (4, .int i7), (5, .int i10)] := hl
            refine wx_iinc hx hb dX9_linksOf_74 k_iconst_1 hl (k := 3) rfl (by decide) hF (fun i11 ls hF hl => ?_)
            have hl : lv_has ls 7 [(4, .int i11), (3, .int i10), (0, .ref (ρ o1)), (2, .int i3), (5, .int i10)] := hl
            refine lv_goto hx hb dX9_linksOf_77 (tgt := 7) rfl ?_
            have hF := wJ_l hq5 hF
            exact ih5 i10 i11 H locs ls hF hH (lv_sub hl [2, 3, 1, 0] rfl)
          have hL31 : ∀ (k12_ : Nat) (i13 : Int32) (i14 : Int32) (H : Heap) (locs : List Loc) (ls : Array Slot), wL (S := Int32 × Int32) (fun x => F_X9_linksOf_b31 u0 o1 i6 x.1 x.2) k12_ (i13, i14) = some q9_ → wHp D κ ρ 1 A s.heap H locs u0 → lv_has ls 7 [(0, .ref (ρ o1)), (2, .int i3), (3, .int i6), (4, .int i7), (5, .int i13), (6, .int i14)] → W p l e (wRm 4 90) s m args below meth c H locs 0 0 (wQI below args s A D κ ρ 1 (z, u0)) (F0 m 31 ls []) := by
            intro k12_
            induction k12_ with
            | zero => intro i13 i14 H locs ls hF; exact wL_zero hF
            | succ k12_ ih12 =>
              intro i13 i14 H locs ls hF hH hl
              obtain ⟨q12_, hF, hq12⟩ := wL_some hF
              have hF : F_X9_linksOf_b31 u0 o1 i6 i13 i14 = some q12_ := hF
              unfold F_X9_linksOf_b31 at hF
              refine lv_iload hx hb dX9_linksOf_31 (lv_at hl 5 rfl) ?_
              refine lv_aload_n hx hb dX9_linksOf_33 rfl (lv_at hl 0 rfl) ?_
              refine wx_getI hC hH h_o1 rfl f_X9_219 dX9_linksOf_34 ?_
              refine lv_icmp_ge hx hb dX9_linksOf_37 (tgt := 71) rfl (fun h => ?_) (fun h => ?_)
              · have hF := wx_t h hF
                have hF := wJ_r hq12 hF
                have hF := wJ_l hq9 hF
                exact hJ71 i13 H locs ls hF hH (lv_sub hl [0, 1, 3, 4] rfl)
              have hF := wx_f h hF
              refine lv_iload hx hb dX9_linksOf_40 (lv_at hl 4 rfl) ?_
              refine lv_iload_n hx hb dX9_linksOf_42 rfl (lv_at hl 2 rfl) ?_
              refine lv_iload hx hb dX9_linksOf_43 (lv_at hl 5 rfl) ?_
              refine wx_psi hC hH hl (c_X9_isOf i6 i14) y_X9_isOf v_X9_isOf m_X9_383 rfl ⟨Nat.le_of_ble_eq_true rfl, Nat.le_of_ble_eq_true rfl⟩ ⟨Nat.le_refl _, Nat.le_refl _⟩ rfl (Nat.le_of_ble_eq_true rfl) dX9_linksOf_45 hF (fun i15 H locs hF hH => ?_)
              obtain ⟨q16_, hF, hq16⟩ := wJ_some hF
              have hJ62 : ∀ (i17 : Int32) (H : Heap) (locs : List Loc) (ls : Array Slot), F_X9_linksOf_j62 i13 i14 i17 = some q12_ → wHp D κ ρ 1 A s.heap H locs u0 → lv_has ls 7 [(0, .ref (ρ o1)), (2, .int i3), (3, .int i6), (4, .int i7), (6, .int i14)] → W p l e (wRm 4 90) s m args below meth c H locs 0 0 (wQI below args s A D κ ρ 1 (z, u0)) (F0 m 62 ls [.int i17, .int i13]) := by
                intro i17 H locs ls hF hH hl
                unfold F_X9_linksOf_j62 at hF
                refine lv_ior hx hb dX9_linksOf_62 ?_
                refine wx_leti hF (fun i18 hF => ?_)
                refine wx_istore hx hb dX9_linksOf_63 hl (by decide) (fun ls hl => ?_)
                have hl : lv_has ls 7 [(5, .int i18), (0, .ref (ρ o1)), (2, .int i3), (3, .int i6), (4, .int i7), (6, .int i14)] := hl
                refine wx_iinc hx hb dX9_linksOf_65 k_iconst_1 hl (k := 5) rfl (by decide) hF (fun i19 ls hF hl => ?_)
                have hl : lv_has ls 7 [(6, .int i19), (5, .int i18), (0, .ref (ρ o1)), (2, .int i3), (3, .int i6), (4, .int i7)] := hl
                refine lv_goto hx hb dX9_linksOf_68 (tgt := 31) rfl ?_
                have hF := wJ_l hq12 hF
                exact ih12 i18 i19 H locs ls hF hH (lv_sub hl [2, 3, 4, 5, 1, 0] rfl)
              refine lv_if_eq hx hb dX9_linksOf_48 (tgt := 61) rfl (fun h => ?_) (fun h => ?_)
              · have hF := wx_t h hF
                refine lv_iconst hx hb dX9_linksOf_61 k_iconst_0 ?_
                have hF := wJ_l hq16 hF
                exact hJ62 (0 : Int32) H locs ls hF hH (lv_sub hl [0, 1, 2, 3, 5] rfl)
              have hF := wx_f h hF
              refine lv_aload_n hx hb dX9_linksOf_51 rfl (lv_at hl 0 rfl) ?_
              refine lv_iconst hx hb dX9_linksOf_52 k_iconst_0 ?_
              refine lv_iload hx hb dX9_linksOf_53 (lv_at hl 5 rfl) ?_
              refine wx_pvi hC hH hl (c_X9_hearing o1 (0 : Int32) i14 h_o1) y_X9_hearing v_X9_hearing h_o1 rfl m_X9_461 rfl ⟨Nat.le_of_ble_eq_true rfl, Nat.le_of_ble_eq_true rfl⟩ ⟨Nat.le_refl _, Nat.le_refl _⟩ rfl (Nat.le_of_ble_eq_true rfl) dX9_linksOf_55 hF (fun i20 H locs hF hH => ?_)
              refine lv_goto hx hb dX9_linksOf_58 (tgt := 62) rfl ?_
              have hF := wJ_l hq16 hF
              exact hJ62 i20 H locs ls hF hH (lv_sub hl [0, 1, 2, 3, 5] rfl)
          exact hL31 wFu i6 (0 : Int32) H locs ls hF hH (lv_sub hl [2, 3, 4, 5, 1, 0] rfl)
        have hF := wx_f h hF
        refine lv_iload hx hb dX9_linksOf_22 (lv_at hl 3 rfl) ?_
        have hF := wJ_r hq5 hF
        exact wx_iret hC hH hr hlk dX9_linksOf_24 (wx_pr hF)
    exact hL7 wFu i4 (0 : Int32) H locs ls hF hH (lv_sub hl [2, 4, 1, 0] rfl)
  exact key _ _ hH
def F_X9_areOn (o1 : Nat) (i2 : Int32) (i3 : Int32) (u0 : wSt) : Option Int32 :=
  wP (F_X9_isGuest o1 i2 u0) (fun (i4 : Int32) => if i4 = 0 then (some ((0 : Int32))) else (wP (F_X9_isGuest o1 i3 u0) (fun (i5 : Int32) => if i5 = 0 then (some ((0 : Int32))) else (wR (u0.2.2 o1 52) 15 (fun o6 => wN i2 o6 (fun j7 => if (u0.1 o6 j7) = 0 then (some ((0 : Int32))) else (wR (u0.2.2 o1 52) 15 (fun o8 => wN i3 o8 (fun j9 => if (u0.1 o8 j9) = 0 then (some ((0 : Int32))) else (some ((1 : Int32))))))))))))
set_option maxRecDepth 100000 in
set_option maxHeartbeats 4000000 in
theorem c_X9_areOn {l : Launch} {D : va_G} {κ : Nat → ClassId} {ρ : Nat → Nat} (o1 : Nat) (i2 : Int32) (i3 : Int32) (h_o1 : (w_sh o1).1 = 9) : wMI l yX9_areOn cX9_areOn 3 .boolean (wRm 1 21) [.ref (ρ o1), .int i2, .int i3] D κ ρ 1 (fun u => wPu (F_X9_areOn o1 i2 i3 u) u) := by
  refine wMP_of (F := fun u => F_X9_areOn o1 i2 i3 u) rfl (Nat.le_of_ble_eq_true rfl) (fun u0 z p e s m args below meth c ls A hF hC hr hlk hH hl => ?_)
  have hl : lv_has ls 3 [(0, .ref (ρ o1)), (1, .int i2), (2, .int i3)] := hl
  have hx := hC.1.1
  have hb := hC.1.2.1
  have hF : F_X9_areOn o1 i2 i3 u0 = some z := hF
  unfold F_X9_areOn at hF
  change W p l e (wRm 1 21) s m args below meth c s.heap [] 0 0 (wQI below args s A D κ ρ 1 (z, u0)) (F0 m 0 ls [])
  have key : ∀ (H : Heap) (locs : List Loc), wHp D κ ρ 1 A s.heap H locs u0 → W p l e (wRm 1 21) s m args below meth c H locs 0 0 (wQI below args s A D κ ρ 1 (z, u0)) (F0 m 0 ls []) := by
    intro H locs hH
    refine lv_aload_n hx hb dX9_areOn_0 rfl (lv_at hl 0 rfl) ?_
    refine lv_iload_n hx hb dX9_areOn_1 rfl (lv_at hl 1 rfl) ?_
    refine wx_pvi hC hH hl (c_X9_isGuest o1 i2 h_o1) y_X9_isGuest v_X9_isGuest h_o1 rfl m_X9_380 rfl ⟨Nat.le_of_ble_eq_true rfl, Nat.le_of_ble_eq_true rfl⟩ ⟨Nat.le_refl _, Nat.le_refl _⟩ rfl (Nat.le_of_ble_eq_true rfl) dX9_areOn_2 hF (fun i4 H locs hF hH => ?_)
    refine lv_if_eq hx hb dX9_areOn_5 (tgt := 38) rfl (fun h => ?_) (fun h => ?_)
    · have hF := wx_t h hF
      refine lv_iconst hx hb dX9_areOn_38 k_iconst_0 ?_
      exact wx_zret hC hH hr hlk dX9_areOn_39 (Or.inl rfl) (wx_pr hF)
    have hF := wx_f h hF
    refine lv_aload_n hx hb dX9_areOn_8 rfl (lv_at hl 0 rfl) ?_
    refine lv_iload_n hx hb dX9_areOn_9 rfl (lv_at hl 2 rfl) ?_
    refine wx_pvi hC hH hl (c_X9_isGuest o1 i3 h_o1) y_X9_isGuest v_X9_isGuest h_o1 rfl m_X9_380 rfl ⟨Nat.le_of_ble_eq_true rfl, Nat.le_of_ble_eq_true rfl⟩ ⟨Nat.le_refl _, Nat.le_refl _⟩ rfl (Nat.le_of_ble_eq_true rfl) dX9_areOn_10 hF (fun i5 H locs hF hH => ?_)
    refine lv_if_eq hx hb dX9_areOn_13 (tgt := 38) rfl (fun h => ?_) (fun h => ?_)
    · have hF := wx_t h hF
      refine lv_iconst hx hb dX9_areOn_38 k_iconst_0 ?_
      exact wx_zret hC hH hr hlk dX9_areOn_39 (Or.inl rfl) (wx_pr hF)
    have hF := wx_f h hF
    refine lv_aload_n hx hb dX9_areOn_16 rfl (lv_at hl 0 rfl) ?_
    refine wx_getR hC hH h_o1 rfl f_X9_97 dX9_areOn_17 hF (fun o6 h_o6 hF => ?_)
    refine lv_iload_n hx hb dX9_areOn_20 rfl (lv_at hl 1 rfl) ?_
    refine wx_zald hC hH h_o6 ⟨rfl, rfl⟩ dX9_areOn_21 hF (fun j7 hF => ?_)
    refine lv_if_eq hx hb dX9_areOn_22 (tgt := 38) rfl (fun h => ?_) (fun h => ?_)
    · have hF := wx_t h hF
      refine lv_iconst hx hb dX9_areOn_38 k_iconst_0 ?_
      exact wx_zret hC hH hr hlk dX9_areOn_39 (Or.inl rfl) (wx_pr hF)
    have hF := wx_f h hF
    refine lv_aload_n hx hb dX9_areOn_25 rfl (lv_at hl 0 rfl) ?_
    refine wx_getR hC hH h_o1 rfl f_X9_97 dX9_areOn_26 hF (fun o8 h_o8 hF => ?_)
    refine lv_iload_n hx hb dX9_areOn_29 rfl (lv_at hl 2 rfl) ?_
    refine wx_zald hC hH h_o8 ⟨rfl, rfl⟩ dX9_areOn_30 hF (fun j9 hF => ?_)
    refine lv_if_eq hx hb dX9_areOn_31 (tgt := 38) rfl (fun h => ?_) (fun h => ?_)
    · have hF := wx_t h hF
      refine lv_iconst hx hb dX9_areOn_38 k_iconst_0 ?_
      exact wx_zret hC hH hr hlk dX9_areOn_39 (Or.inl rfl) (wx_pr hF)
    have hF := wx_f h hF
    refine lv_iconst hx hb dX9_areOn_34 k_iconst_1 ?_
    refine lv_goto hx hb dX9_areOn_35 (tgt := 39) rfl ?_
    exact wx_zret hC hH hr hlk dX9_areOn_39 (Or.inr rfl) (wx_pr hF)
  exact key _ _ hH
def F_X9_chain (o1 : Nat) (i2 : Int32) (i3 : Int32) (u0 : wSt) : Option (Int32 × wSt) :=
  wB (w_sI u0 o1 2 (0 : Int32)) (fun (u4 : wSt) => wC (F_X9_plainTried o1 u4) (fun _ (u5 : wSt) => wP (F_X9_areOn o1 i2 i3 u5) (fun (i6 : Int32) => if i6 = 0 then (some ((-1 : Int32), u5)) else (wP (F_X9_linksOf o1 i2 i3 u5) (fun (i7 : Int32) => some (i7, u5))))))
set_option maxRecDepth 100000 in
set_option maxHeartbeats 4000000 in
theorem c_X9_chain {l : Launch} {D : va_G} {κ : Nat → ClassId} {ρ : Nat → Nat} (o1 : Nat) (i2 : Int32) (i3 : Int32) (h_o1 : (w_sh o1).1 = 9) : wMI l yX9_chain cX9_chain 3 .int (wRm 5 116) [.ref (ρ o1), .int i2, .int i3] D κ ρ 1 (fun u => F_X9_chain o1 i2 i3 u) := by
  refine wMI_of (F := fun u => F_X9_chain o1 i2 i3 u) rfl (Nat.le_of_ble_eq_true rfl) (fun u0 z p e s m args below meth c ls A hF hC hr hlk hH hl => ?_)
  have hl : lv_has ls 3 [(0, .ref (ρ o1)), (1, .int i2), (2, .int i3)] := hl
  have hx := hC.1.1
  have hb := hC.1.2.1
  have hF : F_X9_chain o1 i2 i3 u0 = some z := hF
  unfold F_X9_chain at hF
  change W p l e (wRm 5 116) s m args below meth c s.heap [] 0 0 (wQI below args s A D κ ρ 1 z) (F0 m 0 ls [])
  have key : ∀ (H : Heap) (locs : List Loc), wHp D κ ρ 1 A s.heap H locs u0 → W p l e (wRm 5 116) s m args below meth c H locs 0 0 (wQI below args s A D κ ρ 1 z) (F0 m 0 ls []) := by
    intro H locs hH
    refine lv_aload_n hx hb dX9_chain_0 rfl (lv_at hl 0 rfl) ?_
    refine lv_iconst hx hb dX9_chain_1 k_iconst_0 ?_
    refine wx_putI hC hH h_o1 rfl f_X9_142 g_9_2 dX9_chain_2 hF (fun u4 H locs hF hH => ?_)
    refine lv_aload_n hx hb dX9_chain_5 rfl (lv_at hl 0 rfl) ?_
    refine wx_evv hC hH hl (c_X9_plainTried o1 h_o1) y_X9_plainTried v_X9_plainTried h_o1 rfl m_X9_341 rfl ⟨Nat.le_of_ble_eq_true rfl, Nat.le_of_ble_eq_true rfl⟩ ⟨Nat.le_refl _, Nat.le_refl _⟩ rfl (Nat.le_of_ble_eq_true rfl) dX9_chain_6 hF (fun _ u5 H locs hF hH => ?_)
    refine lv_aload_n hx hb dX9_chain_9 rfl (lv_at hl 0 rfl) ?_
    refine lv_iload_n hx hb dX9_chain_10 rfl (lv_at hl 1 rfl) ?_
    refine lv_iload_n hx hb dX9_chain_11 rfl (lv_at hl 2 rfl) ?_
    refine wx_pvi hC hH hl (c_X9_areOn o1 i2 i3 h_o1) y_X9_areOn v_X9_areOn h_o1 rfl m_X9_505 rfl ⟨Nat.le_of_ble_eq_true rfl, Nat.le_of_ble_eq_true rfl⟩ ⟨Nat.le_refl _, Nat.le_refl _⟩ rfl (Nat.le_of_ble_eq_true rfl) dX9_chain_12 hF (fun i6 H locs hF hH => ?_)
    refine lv_if_eq hx hb dX9_chain_15 (tgt := 27) rfl (fun h => ?_) (fun h => ?_)
    · have hF := wx_t h hF
      refine lv_iconst hx hb dX9_chain_27 k_iconst_m1 ?_
      exact wx_iret hC hH hr hlk dX9_chain_28 hF
    have hF := wx_f h hF
    refine lv_aload_n hx hb dX9_chain_18 rfl (lv_at hl 0 rfl) ?_
    refine lv_iload_n hx hb dX9_chain_19 rfl (lv_at hl 1 rfl) ?_
    refine lv_iload_n hx hb dX9_chain_20 rfl (lv_at hl 2 rfl) ?_
    refine wx_pvi hC hH hl (c_X9_linksOf o1 i2 i3 h_o1) y_X9_linksOf v_X9_linksOf h_o1 rfl m_X9_508 rfl ⟨Nat.le_of_ble_eq_true rfl, Nat.le_of_ble_eq_true rfl⟩ ⟨Nat.le_refl _, Nat.le_refl _⟩ rfl (Nat.le_of_ble_eq_true rfl) dX9_chain_21 hF (fun i7 H locs hF hH => ?_)
    refine lv_goto hx hb dX9_chain_24 (tgt := 28) rfl ?_
    exact wx_iret hC hH hr hlk dX9_chain_28 hF
  exact key _ _ hH
def F_X9_part_j113 (o1 : Nat) (i10 : Int32) (u11 : wSt) : Option (Int32 × wSt) :=
  wC (F_X9_plainTried o1 u11) (fun _ (u12 : wSt) => some (i10, u12))
def F_X9_part_j107 (i15 : Int32) (i18 : Int32) (u19 : wSt) : Option ((Int32 × Int32 × wSt) ⊕ ((Int32 × wSt) ⊕ (Int32 × wSt))) :=
  wB (i15 + (1 : Int32)) (fun (i20 : Int32) => some (.inl (i18, i20, u19)))
def F_X9_part_j88 (u16 : wSt) (o1 : Nat) (i15 : Int32) (i2 : Int32) (i3 : Int32) (i14 : Int32) : Option ((Int32 × wSt) ⊕ ((Int32 × Int32 × wSt) ⊕ ((Int32 × wSt) ⊕ (Int32 × wSt)))) :=
  wB (w_sI u16 o1 66 i15) (fun (u22 : wSt) => wP (F_X9_linksOf o1 i2 i3 u22) (fun (i23 : Int32) => if 0 ≤ i23 then (some (.inl (i14, u22))) else (some (.inl (i15, u22)))))
def F_X9_part_b47 (o1 : Nat) (i8 : Int32) (i2 : Int32) (i3 : Int32) (i14 : Int32) (i15 : Int32) (u16 : wSt) : Option ((Int32 × Int32 × wSt) ⊕ ((Int32 × wSt) ⊕ (Int32 × wSt))) :=
  if ((1 : Int32) <<< ((u16.1 o1 12) &&& 31)) ≤ i15 then (some (.inr (.inl (i14, u16)))) else (wJ (X := Int32 × wSt) (if (i15 &&& (i8 ^^^ (-1 : Int32))) = 0 then (wJ (X := Unit) (if i14 < 0 then (some (.inl ())) else (wP (F_X9_manyOf i15 u16) (fun (i24 : Int32) => wP (F_X9_manyOf i14 u16) (fun (i25 : Int32) => if i24 < i25 then (some (.inl ())) else (some (.inr (.inl (i14, u16)))))))) (fun x => F_X9_part_j88 u16 o1 i15 i2 i3 i14)) else (some (.inl (i14, u16)))) (fun x => F_X9_part_j107 i15 x.1 x.2))
def F_X9_part (o1 : Nat) (i2 : Int32) (i3 : Int32) (u0 : wSt) : Option (Int32 × wSt) :=
  wB (w_sI u0 o1 2 (0 : Int32)) (fun (u4 : wSt) => wP (F_X9_areOn o1 i2 i3 u4) (fun (i5 : Int32) => if i5 = 0 then (some ((-1 : Int32), u4)) else (if i2 = i3 then (some ((-1 : Int32), u4)) else (wC (F_X9_plainTried o1 u4) (fun _ (u6 : wSt) => wP (F_X9_thereBits o1 u6) (fun (i7 : Int32) => wB (i7 &&& ((((1 : Int32) <<< (i2 &&& 31)) ||| ((1 : Int32) <<< (i3 &&& 31))) ^^^ (-1 : Int32))) (fun (i8 : Int32) => wJ (X := Int32 × wSt) (wL (S := Int32 × Int32 × wSt) (fun x => F_X9_part_b47 o1 i8 i2 i3 x.1 x.2.1 x.2.2) wFu ((-2 : Int32), (0 : Int32), u6)) (fun x => F_X9_part_j113 o1 x.1 x.2))))))))
set_option maxRecDepth 100000 in
set_option maxHeartbeats 4000000 in
theorem c_X9_part {l : Launch} {D : va_G} {κ : Nat → ClassId} {ρ : Nat → Nat} (o1 : Nat) (i2 : Int32) (i3 : Int32) (h_o1 : (w_sh o1).1 = 9) : wMI l yX9_part cX9_part 6 .int (wRm 5 116) [.ref (ρ o1), .int i2, .int i3] D κ ρ 1 (fun u => F_X9_part o1 i2 i3 u) := by
  refine wMI_of (F := fun u => F_X9_part o1 i2 i3 u) rfl (Nat.le_of_ble_eq_true rfl) (fun u0 z p e s m args below meth c ls A hF hC hr hlk hH hl => ?_)
  have hl : lv_has ls 6 [(0, .ref (ρ o1)), (1, .int i2), (2, .int i3)] := hl
  have hx := hC.1.1
  have hb := hC.1.2.1
  have hF : F_X9_part o1 i2 i3 u0 = some z := hF
  unfold F_X9_part at hF
  change W p l e (wRm 5 116) s m args below meth c s.heap [] 0 0 (wQI below args s A D κ ρ 1 z) (F0 m 0 ls [])
  have key : ∀ (H : Heap) (locs : List Loc), wHp D κ ρ 1 A s.heap H locs u0 → W p l e (wRm 5 116) s m args below meth c H locs 0 0 (wQI below args s A D κ ρ 1 z) (F0 m 0 ls []) := by
    intro H locs hH
    refine lv_aload_n hx hb dX9_part_0 rfl (lv_at hl 0 rfl) ?_
    refine lv_iconst hx hb dX9_part_1 k_iconst_0 ?_
    refine wx_putI hC hH h_o1 rfl f_X9_142 g_9_2 dX9_part_2 hF (fun u4 H locs hF hH => ?_)
    refine lv_aload_n hx hb dX9_part_5 rfl (lv_at hl 0 rfl) ?_
    refine lv_iload_n hx hb dX9_part_6 rfl (lv_at hl 1 rfl) ?_
    refine lv_iload_n hx hb dX9_part_7 rfl (lv_at hl 2 rfl) ?_
    refine wx_pvi hC hH hl (c_X9_areOn o1 i2 i3 h_o1) y_X9_areOn v_X9_areOn h_o1 rfl m_X9_505 rfl ⟨Nat.le_of_ble_eq_true rfl, Nat.le_of_ble_eq_true rfl⟩ ⟨Nat.le_refl _, Nat.le_refl _⟩ rfl (Nat.le_of_ble_eq_true rfl) dX9_part_8 hF (fun i5 H locs hF hH => ?_)
    refine lv_if_eq hx hb dX9_part_11 (tgt := 19) rfl (fun h => ?_) (fun h => ?_)
    · have hF := wx_t h hF
      refine lv_iconst hx hb dX9_part_19 k_iconst_m1 ?_
      exact wx_iret hC hH hr hlk dX9_part_20 hF
    have hF := wx_f h hF
    refine lv_iload_n hx hb dX9_part_14 rfl (lv_at hl 1 rfl) ?_
    refine lv_iload_n hx hb dX9_part_15 rfl (lv_at hl 2 rfl) ?_
    refine lv_icmp_ne hx hb dX9_part_16 (tgt := 21) rfl (fun h => ?_) (fun h => ?_)
    · have hF := wx_f h hF
      refine lv_aload_n hx hb dX9_part_21 rfl (lv_at hl 0 rfl) ?_
      refine wx_evv hC hH hl (c_X9_plainTried o1 h_o1) y_X9_plainTried v_X9_plainTried h_o1 rfl m_X9_341 rfl ⟨Nat.le_of_ble_eq_true rfl, Nat.le_of_ble_eq_true rfl⟩ ⟨Nat.le_refl _, Nat.le_refl _⟩ rfl (Nat.le_of_ble_eq_true rfl) dX9_part_22 hF (fun _ u6 H locs hF hH => ?_)
      refine lv_aload_n hx hb dX9_part_25 rfl (lv_at hl 0 rfl) ?_
      refine wx_pvi hC hH hl (c_X9_thereBits o1 h_o1) y_X9_thereBits v_X9_thereBits h_o1 rfl m_X9_496 rfl ⟨Nat.le_of_ble_eq_true rfl, Nat.le_of_ble_eq_true rfl⟩ ⟨Nat.le_refl _, Nat.le_refl _⟩ rfl (Nat.le_of_ble_eq_true rfl) dX9_part_26 hF (fun i7 H locs hF hH => ?_)
      refine lv_iconst hx hb dX9_part_29 k_iconst_1 ?_
      refine lv_iload_n hx hb dX9_part_30 rfl (lv_at hl 1 rfl) ?_
      refine lv_ishl hx hb dX9_part_31 ?_
      refine lv_iconst hx hb dX9_part_32 k_iconst_1 ?_
      refine lv_iload_n hx hb dX9_part_33 rfl (lv_at hl 2 rfl) ?_
      refine lv_ishl hx hb dX9_part_34 ?_
      refine lv_ior hx hb dX9_part_35 ?_
      refine lv_iconst hx hb dX9_part_36 k_iconst_m1 ?_
      refine lv_ixor hx hb dX9_part_37 ?_
      refine lv_iand hx hb dX9_part_38 ?_
      refine wx_leti hF (fun i8 hF => ?_)
      refine wx_istore_n hx hb dX9_part_39 rfl hl (by decide) (fun ls hl => ?_)
      have hl : lv_has ls 6 [(3, .int i8), (0, .ref (ρ o1)), (1, .int i2), (2, .int i3)] := hl
      refine lv_bipush hx hb dX9_part_40 k_bipush_m2 ?_
      refine wx_istore hx hb dX9_part_42 hl (by decide) (fun ls hl => ?_)
      have hl : lv_has ls 6 [(4, .int (-2 : Int32)), (3, .int i8), (0, .ref (ρ o1)), (1, .int i2), (2, .int i3)] := hl
      refine lv_iconst hx hb dX9_part_44 k_iconst_0 ?_
      refine wx_istore hx hb dX9_part_45 hl (by decide) (fun ls hl => ?_)
      have hl : lv_has ls 6 [(5, .int (0 : Int32)), (4, .int (-2 : Int32)), (3, .int i8), (0, .ref (ρ o1)), (1, .int i2), (2, .int i3)] := hl
      obtain ⟨q9_, hF, hq9⟩ := wJ_some hF
      have hJ113 : ∀ (i10 : Int32) (u11 : wSt) (H : Heap) (locs : List Loc) (ls : Array Slot), F_X9_part_j113 o1 i10 u11 = some z → wHp D κ ρ 1 A s.heap H locs u11 → lv_has ls 6 [(0, .ref (ρ o1)), (4, .int i10)] → W p l e (wRm 5 116) s m args below meth c H locs 0 0 (wQI below args s A D κ ρ 1 z) (F0 m 113 ls []) := by
        intro i10 u11 H locs ls hF hH hl
        unfold F_X9_part_j113 at hF
        refine lv_aload_n hx hb dX9_part_113 rfl (lv_at hl 0 rfl) ?_
        refine wx_evv hC hH hl (c_X9_plainTried o1 h_o1) y_X9_plainTried v_X9_plainTried h_o1 rfl m_X9_341 rfl ⟨Nat.le_of_ble_eq_true rfl, Nat.le_of_ble_eq_true rfl⟩ ⟨Nat.le_refl _, Nat.le_refl _⟩ rfl (Nat.le_of_ble_eq_true rfl) dX9_part_114 hF (fun _ u12 H locs hF hH => ?_)
        refine lv_iload hx hb dX9_part_117 (lv_at hl 1 rfl) ?_
        exact wx_iret hC hH hr hlk dX9_part_119 hF
      have hL47 : ∀ (k13_ : Nat) (i14 : Int32) (i15 : Int32) (u16 : wSt) (H : Heap) (locs : List Loc) (ls : Array Slot), wL (S := Int32 × Int32 × wSt) (fun x => F_X9_part_b47 o1 i8 i2 i3 x.1 x.2.1 x.2.2) k13_ (i14, i15, u16) = some q9_ → wHp D κ ρ 1 A s.heap H locs u16 → lv_has ls 6 [(0, .ref (ρ o1)), (1, .int i2), (2, .int i3), (3, .int i8), (4, .int i14), (5, .int i15)] → W p l e (wRm 5 116) s m args below meth c H locs 0 0 (wQI below args s A D κ ρ 1 z) (F0 m 47 ls []) := by
        intro k13_
        induction k13_ with
        | zero => intro i14 i15 u16 H locs ls hF; exact wL_zero hF
        | succ k13_ ih13 =>
          intro i14 i15 u16 H locs ls hF hH hl
          obtain ⟨q13_, hF, hq13⟩ := wL_some hF
          have hF : F_X9_part_b47 o1 i8 i2 i3 i14 i15 u16 = some q13_ := hF
          unfold F_X9_part_b47 at hF
          refine lv_iload hx hb dX9_part_47 (lv_at hl 5 rfl) ?_
          refine lv_iconst hx hb dX9_part_49 k_iconst_1 ?_
          refine lv_aload_n hx hb dX9_part_50 rfl (lv_at hl 0 rfl) ?_
          refine wx_getI hC hH h_o1 rfl f_X9_219 dX9_part_51 ?_
          refine lv_ishl hx hb dX9_part_54 ?_
          refine lv_icmp_ge hx hb dX9_part_55 (tgt := 113) rfl (fun h => ?_) (fun h => ?_)
          · have hF := wx_t h hF
            have hF := wJ_r hq13 hF
            have hF := wJ_l hq9 hF
            exact hJ113 i14 u16 H locs ls hF hH (lv_sub hl [0, 4] rfl)
          have hF := wx_f h hF
          refine lv_iload hx hb dX9_part_58 (lv_at hl 5 rfl) ?_
          refine lv_iload_n hx hb dX9_part_60 rfl (lv_at hl 3 rfl) ?_
          refine lv_iconst hx hb dX9_part_61 k_iconst_m1 ?_
          refine lv_ixor hx hb dX9_part_62 ?_
          refine lv_iand hx hb dX9_part_63 ?_
          obtain ⟨q17_, hF, hq17⟩ := wJ_some hF
          have hJ107 : ∀ (i18 : Int32) (u19 : wSt) (H : Heap) (locs : List Loc) (ls : Array Slot), F_X9_part_j107 i15 i18 u19 = some q13_ → wHp D κ ρ 1 A s.heap H locs u19 → lv_has ls 6 [(0, .ref (ρ o1)), (1, .int i2), (2, .int i3), (3, .int i8), (4, .int i18), (5, .int i15)] → W p l e (wRm 5 116) s m args below meth c H locs 0 0 (wQI below args s A D κ ρ 1 z) (F0 m 107 ls []) := by
            intro i18 u19 H locs ls hF hH hl
            unfold F_X9_part_j107 at hF
            refine wx_iinc hx hb dX9_part_107 k_iconst_1 hl (k := 5) rfl (by decide) hF (fun i20 ls hF hl => ?_)
            have hl : lv_has ls 6 [(5, .int i20), (0, .ref (ρ o1)), (1, .int i2), (2, .int i3), (3, .int i8), (4, .int i18)] := hl
            refine lv_goto hx hb dX9_part_110 (tgt := 47) rfl ?_
            have hF := wJ_l hq13 hF
            exact ih13 i18 i20 u19 H locs ls hF hH (lv_sub hl [1, 2, 3, 4, 5, 0] rfl)
          refine lv_if_ne hx hb dX9_part_64 (tgt := 107) rfl (fun h => ?_) (fun h => ?_)
          · have hF := wx_f h hF
            have hF := wJ_l hq17 hF
            exact hJ107 i14 u16 H locs ls hF hH (lv_sub hl [0, 1, 2, 3, 4, 5] rfl)
          have hF := wx_t h hF
          refine lv_iload hx hb dX9_part_67 (lv_at hl 4 rfl) ?_
          obtain ⟨q21_, hF, hq21⟩ := wJ_some hF
          have hJ88 : ∀ (H : Heap) (locs : List Loc) (ls : Array Slot), F_X9_part_j88 u16 o1 i15 i2 i3 i14 = some q17_ → wHp D κ ρ 1 A s.heap H locs u16 → lv_has ls 6 [(0, .ref (ρ o1)), (1, .int i2), (2, .int i3), (3, .int i8), (4, .int i14), (5, .int i15)] → W p l e (wRm 5 116) s m args below meth c H locs 0 0 (wQI below args s A D κ ρ 1 z) (F0 m 88 ls []) := by
            intro H locs ls hF hH hl
            unfold F_X9_part_j88 at hF
            refine lv_aload_n hx hb dX9_part_88 rfl (lv_at hl 0 rfl) ?_
            refine lv_iload hx hb dX9_part_89 (lv_at hl 5 rfl) ?_
            refine wx_putI hC hH h_o1 rfl f_X9_371 g_9_66 dX9_part_91 hF (fun u22 H locs hF hH => ?_)
            refine lv_aload_n hx hb dX9_part_94 rfl (lv_at hl 0 rfl) ?_
            refine lv_iload_n hx hb dX9_part_95 rfl (lv_at hl 1 rfl) ?_
            refine lv_iload_n hx hb dX9_part_96 rfl (lv_at hl 2 rfl) ?_
            refine wx_pvi hC hH hl (c_X9_linksOf o1 i2 i3 h_o1) y_X9_linksOf v_X9_linksOf h_o1 rfl m_X9_508 rfl ⟨Nat.le_of_ble_eq_true rfl, Nat.le_of_ble_eq_true rfl⟩ ⟨Nat.le_refl _, Nat.le_refl _⟩ rfl (Nat.le_of_ble_eq_true rfl) dX9_part_97 hF (fun i23 H locs hF hH => ?_)
            refine lv_if_ge hx hb dX9_part_100 (tgt := 107) rfl (fun h => ?_) (fun h => ?_)
            · have hF := wx_t h hF
              have hF := wJ_l hq17 hF
              exact hJ107 i14 u22 H locs ls hF hH (lv_sub hl [0, 1, 2, 3, 4, 5] rfl)
            have hF := wx_f h hF
            refine lv_iload hx hb dX9_part_103 (lv_at hl 5 rfl) ?_
            refine wx_istore hx hb dX9_part_105 hl (by decide) (fun ls hl => ?_)
            have hl : lv_has ls 6 [(4, .int i15), (0, .ref (ρ o1)), (1, .int i2), (2, .int i3), (3, .int i8), (5, .int i15)] := hl
            have hF := wJ_l hq17 hF
            exact hJ107 i15 u22 H locs ls hF hH (lv_sub hl [1, 2, 3, 4, 0, 5] rfl)
          refine lv_if_lt hx hb dX9_part_69 (tgt := 88) rfl (fun h => ?_) (fun h => ?_)
          · have hF := wx_t h hF
            have hF := wJ_l hq21 hF
            exact hJ88 H locs ls hF hH (lv_sub hl [0, 1, 2, 3, 4, 5] rfl)
          have hF := wx_f h hF
          refine lv_iload hx hb dX9_part_72 (lv_at hl 5 rfl) ?_
          refine wx_psi hC hH hl (c_X9_manyOf i15) y_X9_manyOf v_X9_manyOf m_X9_499 rfl ⟨Nat.le_of_ble_eq_true rfl, Nat.le_of_ble_eq_true rfl⟩ ⟨Nat.le_refl _, Nat.le_refl _⟩ rfl (Nat.le_of_ble_eq_true rfl) dX9_part_74 hF (fun i24 H locs hF hH => ?_)
          refine lv_iload hx hb dX9_part_77 (lv_at hl 4 rfl) ?_
          refine wx_psi hC hH hl (c_X9_manyOf i14) y_X9_manyOf v_X9_manyOf m_X9_499 rfl ⟨Nat.le_of_ble_eq_true rfl, Nat.le_of_ble_eq_true rfl⟩ ⟨Nat.le_refl _, Nat.le_refl _⟩ rfl (Nat.le_of_ble_eq_true rfl) dX9_part_79 hF (fun i25 H locs hF hH => ?_)
          refine lv_icmp_lt hx hb dX9_part_82 (tgt := 88) rfl (fun h => ?_) (fun h => ?_)
          · have hF := wx_t h hF
            have hF := wJ_l hq21 hF
            exact hJ88 H locs ls hF hH (lv_sub hl [0, 1, 2, 3, 4, 5] rfl)
          have hF := wx_f h hF
          refine lv_goto hx hb dX9_part_85 (tgt := 107) rfl ?_
          have hF := wJ_r hq21 hF
          have hF := wJ_l hq17 hF
          exact hJ107 i14 u16 H locs ls hF hH (lv_sub hl [0, 1, 2, 3, 4, 5] rfl)
      exact hL47 wFu (-2 : Int32) (0 : Int32) u6 H locs ls hF hH (lv_sub hl [3, 4, 5, 2, 1, 0] rfl)
    have hF := wx_t h hF
    refine lv_iconst hx hb dX9_part_19 k_iconst_m1 ?_
    exact wx_iret hC hH hr hlk dX9_part_20 hF
  exact key _ _ hH
def F_X9_feeds_j62 (i7 : Int32) (i8 : Int32) (i11 : Int32) : Option ((Int32 × Int32) ⊕ (Int32 × wSt)) :=
  wB (i7 + i11) (fun (i12 : Int32) => wB (i8 + (1 : Int32)) (fun (i13 : Int32) => some (.inl (i12, i13))))
def F_X9_feeds_b14 (u4 : wSt) (o1 : Nat) (i2 : Int32) (i5 : Int32) (i7 : Int32) (i8 : Int32) : Option ((Int32 × Int32) ⊕ (Int32 × wSt)) :=
  if (u4.1 o1 12) ≤ i8 then (some (.inr (i7, u4))) else (wP (F_X9_hears o1 (0 : Int32) i8 i2 u4) (fun (i9 : Int32) => wJ (X := Int32) (if i9 = 0 then (some (.inl (0 : Int32))) else (wR (u4.2.2 o1 50) 14 (fun o14 => wN i8 o14 (fun j15 => if (u4.1 o14 j15) ≤ i5 then (wR (u4.2.2 o1 50) 14 (fun o16 => wN i8 o16 (fun j17 => some (.inl (u4.1 o16 j17))))) else (some (.inl i5)))))) (fun x => F_X9_feeds_j62 i7 i8 x)))
def F_X9_feeds (o1 : Nat) (i2 : Int32) (i3 : Int32) (u0 : wSt) : Option (Int32 × wSt) :=
  wC (F_X9_praiseOf o1 (0 : Int32) i2 i3 u0) (fun (i5 : Int32) (u4 : wSt) => wL (S := Int32 × Int32) (fun x => F_X9_feeds_b14 u4 o1 i2 i5 x.1 x.2) wFu ((0 : Int32), (0 : Int32)))
set_option maxRecDepth 100000 in
set_option maxHeartbeats 4000000 in
theorem c_X9_feeds {l : Launch} {D : va_G} {κ : Nat → ClassId} {ρ : Nat → Nat} (o1 : Nat) (i2 : Int32) (i3 : Int32) (h_o1 : (w_sh o1).1 = 9) : wMI l yX9_feeds cX9_feeds 6 .int (wRm 5 120) [.ref (ρ o1), .int i2, .int i3] D κ ρ 1 (fun u => F_X9_feeds o1 i2 i3 u) := by
  refine wMI_of (F := fun u => F_X9_feeds o1 i2 i3 u) rfl (Nat.le_of_ble_eq_true rfl) (fun u0 z p e s m args below meth c ls A hF hC hr hlk hH hl => ?_)
  have hl : lv_has ls 6 [(0, .ref (ρ o1)), (1, .int i2), (2, .int i3)] := hl
  have hx := hC.1.1
  have hb := hC.1.2.1
  have hF : F_X9_feeds o1 i2 i3 u0 = some z := hF
  unfold F_X9_feeds at hF
  change W p l e (wRm 5 120) s m args below meth c s.heap [] 0 0 (wQI below args s A D κ ρ 1 z) (F0 m 0 ls [])
  have key : ∀ (H : Heap) (locs : List Loc), wHp D κ ρ 1 A s.heap H locs u0 → W p l e (wRm 5 120) s m args below meth c H locs 0 0 (wQI below args s A D κ ρ 1 z) (F0 m 0 ls []) := by
    intro H locs hH
    refine lv_aload_n hx hb dX9_feeds_0 rfl (lv_at hl 0 rfl) ?_
    refine lv_iconst hx hb dX9_feeds_1 k_iconst_0 ?_
    refine lv_iload_n hx hb dX9_feeds_2 rfl (lv_at hl 1 rfl) ?_
    refine lv_iload_n hx hb dX9_feeds_3 rfl (lv_at hl 2 rfl) ?_
    refine wx_evi hC hH hl (c_X9_praiseOf o1 (0 : Int32) i2 i3 h_o1) y_X9_praiseOf v_X9_praiseOf h_o1 rfl m_X9_434 rfl ⟨Nat.le_of_ble_eq_true rfl, Nat.le_of_ble_eq_true rfl⟩ ⟨Nat.le_refl _, Nat.le_refl _⟩ rfl (Nat.le_of_ble_eq_true rfl) dX9_feeds_4 hF (fun i5 u4 H locs hF hH => ?_)
    refine wx_istore_n hx hb dX9_feeds_7 rfl hl (by decide) (fun ls hl => ?_)
    have hl : lv_has ls 6 [(3, .int i5), (0, .ref (ρ o1)), (1, .int i2), (2, .int i3)] := hl
    refine lv_iconst hx hb dX9_feeds_8 k_iconst_0 ?_
    refine wx_istore hx hb dX9_feeds_9 hl (by decide) (fun ls hl => ?_)
    have hl : lv_has ls 6 [(4, .int (0 : Int32)), (3, .int i5), (0, .ref (ρ o1)), (1, .int i2), (2, .int i3)] := hl
    refine lv_iconst hx hb dX9_feeds_11 k_iconst_0 ?_
    refine wx_istore hx hb dX9_feeds_12 hl (by decide) (fun ls hl => ?_)
    have hl : lv_has ls 6 [(5, .int (0 : Int32)), (4, .int (0 : Int32)), (3, .int i5), (0, .ref (ρ o1)), (1, .int i2), (2, .int i3)] := hl
    have hL14 : ∀ (k6_ : Nat) (i7 : Int32) (i8 : Int32) (H : Heap) (locs : List Loc) (ls : Array Slot), wL (S := Int32 × Int32) (fun x => F_X9_feeds_b14 u4 o1 i2 i5 x.1 x.2) k6_ (i7, i8) = some z → wHp D κ ρ 1 A s.heap H locs u4 → lv_has ls 6 [(0, .ref (ρ o1)), (1, .int i2), (3, .int i5), (4, .int i7), (5, .int i8)] → W p l e (wRm 5 120) s m args below meth c H locs 0 0 (wQI below args s A D κ ρ 1 z) (F0 m 14 ls []) := by
      intro k6_
      induction k6_ with
      | zero => intro i7 i8 H locs ls hF; exact wL_zero hF
      | succ k6_ ih6 =>
        intro i7 i8 H locs ls hF hH hl
        obtain ⟨q6_, hF, hq6⟩ := wL_some hF
        have hF : F_X9_feeds_b14 u4 o1 i2 i5 i7 i8 = some q6_ := hF
        unfold F_X9_feeds_b14 at hF
        refine lv_iload hx hb dX9_feeds_14 (lv_at hl 4 rfl) ?_
        refine lv_aload_n hx hb dX9_feeds_16 rfl (lv_at hl 0 rfl) ?_
        refine wx_getI hC hH h_o1 rfl f_X9_219 dX9_feeds_17 ?_
        refine lv_icmp_ge hx hb dX9_feeds_20 (tgt := 71) rfl (fun h => ?_) (fun h => ?_)
        · have hF := wx_t h hF
          refine lv_iload hx hb dX9_feeds_71 (lv_at hl 3 rfl) ?_
          have hF := wJ_r hq6 hF
          exact wx_iret hC hH hr hlk dX9_feeds_73 hF
        have hF := wx_f h hF
        refine lv_iload hx hb dX9_feeds_23 (lv_at hl 3 rfl) ?_
        refine lv_aload_n hx hb dX9_feeds_25 rfl (lv_at hl 0 rfl) ?_
        refine lv_iconst hx hb dX9_feeds_26 k_iconst_0 ?_
        refine lv_iload hx hb dX9_feeds_27 (lv_at hl 4 rfl) ?_
        refine lv_iload_n hx hb dX9_feeds_29 rfl (lv_at hl 1 rfl) ?_
        refine wx_pvi hC hH hl (c_X9_hears o1 (0 : Int32) i8 i2 h_o1) y_X9_hears v_X9_hears h_o1 rfl m_X9_431 rfl ⟨Nat.le_of_ble_eq_true rfl, Nat.le_of_ble_eq_true rfl⟩ ⟨Nat.le_refl _, Nat.le_refl _⟩ rfl (Nat.le_of_ble_eq_true rfl) dX9_feeds_30 hF (fun i9 H locs hF hH => ?_)
        obtain ⟨q10_, hF, hq10⟩ := wJ_some hF
        have hJ62 : ∀ (i11 : Int32) (H : Heap) (locs : List Loc) (ls : Array Slot), F_X9_feeds_j62 i7 i8 i11 = some q6_ → wHp D κ ρ 1 A s.heap H locs u4 → lv_has ls 6 [(0, .ref (ρ o1)), (1, .int i2), (3, .int i5), (5, .int i8)] → W p l e (wRm 5 120) s m args below meth c H locs 0 0 (wQI below args s A D κ ρ 1 z) (F0 m 62 ls [.int i11, .int i7]) := by
          intro i11 H locs ls hF hH hl
          unfold F_X9_feeds_j62 at hF
          refine lv_iadd hx hb dX9_feeds_62 ?_
          refine wx_leti hF (fun i12 hF => ?_)
          refine wx_istore hx hb dX9_feeds_63 hl (by decide) (fun ls hl => ?_)
          have hl : lv_has ls 6 [(4, .int i12), (0, .ref (ρ o1)), (1, .int i2), (3, .int i5), (5, .int i8)] := hl
          refine wx_iinc hx hb dX9_feeds_65 k_iconst_1 hl (k := 4) rfl (by decide) hF (fun i13 ls hF hl => ?_)
          have hl : lv_has ls 6 [(5, .int i13), (4, .int i12), (0, .ref (ρ o1)), (1, .int i2), (3, .int i5)] := hl
          refine lv_goto hx hb dX9_feeds_68 (tgt := 14) rfl ?_
          have hF := wJ_l hq6 hF
          exact ih6 i12 i13 H locs ls hF hH (lv_sub hl [2, 3, 4, 1, 0] rfl)
        refine lv_if_ne hx hb dX9_feeds_33 (tgt := 40) rfl (fun h => ?_) (fun h => ?_)
        · have hF := wx_f h hF
          refine lv_iload_n hx hb dX9_feeds_40 rfl (lv_at hl 2 rfl) ?_
          refine lv_aload_n hx hb dX9_feeds_41 rfl (lv_at hl 0 rfl) ?_
          refine wx_getR hC hH h_o1 rfl f_X9_91 dX9_feeds_42 hF (fun o14 h_o14 hF => ?_)
          refine lv_iload hx hb dX9_feeds_45 (lv_at hl 4 rfl) ?_
          refine wx_iald hC hH h_o14 ⟨rfl, rfl⟩ dX9_feeds_47 hF (fun j15 hF => ?_)
          refine lv_icmp_ge hx hb dX9_feeds_48 (tgt := 55) rfl (fun h => ?_) (fun h => ?_)
          · have hF := wx_t h hF
            refine lv_aload_n hx hb dX9_feeds_55 rfl (lv_at hl 0 rfl) ?_
            refine wx_getR hC hH h_o1 rfl f_X9_91 dX9_feeds_56 hF (fun o16 h_o16 hF => ?_)
            refine lv_iload hx hb dX9_feeds_59 (lv_at hl 4 rfl) ?_
            refine wx_iald hC hH h_o16 ⟨rfl, rfl⟩ dX9_feeds_61 hF (fun j17 hF => ?_)
            have hF := wJ_l hq10 hF
            exact hJ62 (u4.1 o16 j17) H locs ls hF hH (lv_sub hl [0, 1, 2, 4] rfl)
          have hF := wx_f h hF
          refine lv_iload_n hx hb dX9_feeds_51 rfl (lv_at hl 2 rfl) ?_
          refine lv_goto hx hb dX9_feeds_52 (tgt := 62) rfl ?_
          have hF := wJ_l hq10 hF
          exact hJ62 i5 H locs ls hF hH (lv_sub hl [0, 1, 2, 4] rfl)
        have hF := wx_t h hF
        refine lv_iconst hx hb dX9_feeds_36 k_iconst_0 ?_
        refine lv_goto hx hb dX9_feeds_37 (tgt := 62) rfl ?_
        have hF := wJ_l hq10 hF
        exact hJ62 (0 : Int32) H locs ls hF hH (lv_sub hl [0, 1, 2, 4] rfl)
    exact hL14 wFu (0 : Int32) (0 : Int32) H locs ls hF hH (lv_sub hl [3, 4, 2, 1, 0] rfl)
  exact key _ _ hH
def F_X9_bestFed_j108 (i2 : Int32) (i7 : Int32) (i8 : Int32) (u9 : wSt) : Option (Int32 × wSt) :=
  if i2 = 0 then (some (i7, u9)) else (some (i8, u9))
def F_X9_bestFed_j102 (i13 : Int32) (u19 : wSt) (i21 : Int32) (i22 : Int32) : Option ((Int32 × Int32 × Int32 × wSt) ⊕ ((Int32 × Int32 × wSt) ⊕ (Int32 × wSt))) :=
  wB (i13 + (1 : Int32)) (fun (i23 : Int32) => some (.inl (i21, i22, i23, u19)))
def F_X9_bestFed_j96 (i13 : Int32) (i18 : Int32) : Option ((Int32 × Int32) ⊕ ((Int32 × Int32 × Int32 × wSt) ⊕ ((Int32 × Int32 × wSt) ⊕ (Int32 × wSt)))) :=
  some (.inl (i13, i18))
def F_X9_bestFed_j76 (i11 : Int32) (i12 : Int32) (i13 : Int32) (i18 : Int32) (u19 : wSt) : Option ((Int32 × Int32 × Int32 × wSt) ⊕ ((Int32 × Int32 × wSt) ⊕ (Int32 × wSt))) :=
  wJ (X := Int32 × Int32) (if i18 < 0 then (some (.inl (i11, i12))) else (wJ (X := Unit) (if i11 < 0 then (some (.inl ())) else (if i12 < i18 then (some (.inl ())) else (some (.inr (.inl (i11, i12)))))) (fun x => F_X9_bestFed_j96 i13 i18))) (fun x => F_X9_bestFed_j102 i13 u19 x.1 x.2)
def F_X9_bestFed_b29 (o1 : Nat) (i11 : Int32) (i12 : Int32) (i13 : Int32) (u14 : wSt) : Option ((Int32 × Int32 × Int32 × wSt) ⊕ ((Int32 × Int32 × wSt) ⊕ (Int32 × wSt))) :=
  if (u14.1 o1 12) ≤ i13 then (some (.inr (.inl (i11, i12, u14)))) else (if (u14.1 o1 13) ≤ 0 then (some (.inr (.inl (i11, i12, u14)))) else (wR (u14.2.2 o1 52) 15 (fun o15 => wN i13 o15 (fun j16 => wJ (X := Int32 × wSt) (if (u14.1 o15 j16) = 0 then (some (.inl ((-1 : Int32), u14))) else (wR (u14.2.2 o1 57) 14 (fun o25 => wN (0 : Int32) o25 (fun j26 => wG (¬ (u14.1 o1 13) = 0) (wC (F_X9_feeds o1 i13 (w_rem (u14.1 o25 j26) (u14.1 o1 13)) u14) (fun (i28 : Int32) (u27 : wSt) => some (.inl (i28, u27)))))))) (fun x => F_X9_bestFed_j76 i11 i12 i13 x.1 x.2)))))
def F_X9_bestFed (o1 : Nat) (i2 : Int32) (u0 : wSt) : Option (Int32 × wSt) :=
  wB (w_sI u0 o1 2 (0 : Int32)) (fun (u3 : wSt) => wP (F_X9_isIn i2 (0 : Int32) (1 : Int32) u3) (fun (i4 : Int32) => if i4 = 0 then (some ((-1 : Int32), u3)) else (wC (F_X9_plainTried o1 u3) (fun _ (u5 : wSt) => wJ (X := Int32 × Int32 × wSt) (wL (S := Int32 × Int32 × Int32 × wSt) (fun x => F_X9_bestFed_b29 o1 x.1 x.2.1 x.2.2.1 x.2.2.2) wFu ((-2 : Int32), (-2 : Int32), (0 : Int32), u5)) (fun x => F_X9_bestFed_j108 i2 x.1 x.2.1 x.2.2)))))
set_option maxRecDepth 100000 in
set_option maxHeartbeats 4000000 in
theorem c_X9_bestFed {l : Launch} {D : va_G} {κ : Nat → ClassId} {ρ : Nat → Nat} (o1 : Nat) (i2 : Int32) (h_o1 : (w_sh o1).1 = 9) : wMI l yX9_bestFed cX9_bestFed 6 .int (wRm 6 145) [.ref (ρ o1), .int i2] D κ ρ 1 (fun u => F_X9_bestFed o1 i2 u) := by
  refine wMI_of (F := fun u => F_X9_bestFed o1 i2 u) rfl (Nat.le_of_ble_eq_true rfl) (fun u0 z p e s m args below meth c ls A hF hC hr hlk hH hl => ?_)
  have hl : lv_has ls 6 [(0, .ref (ρ o1)), (1, .int i2)] := hl
  have hx := hC.1.1
  have hb := hC.1.2.1
  have hF : F_X9_bestFed o1 i2 u0 = some z := hF
  unfold F_X9_bestFed at hF
  change W p l e (wRm 6 145) s m args below meth c s.heap [] 0 0 (wQI below args s A D κ ρ 1 z) (F0 m 0 ls [])
  have key : ∀ (H : Heap) (locs : List Loc), wHp D κ ρ 1 A s.heap H locs u0 → W p l e (wRm 6 145) s m args below meth c H locs 0 0 (wQI below args s A D κ ρ 1 z) (F0 m 0 ls []) := by
    intro H locs hH
    refine lv_aload_n hx hb dX9_bestFed_0 rfl (lv_at hl 0 rfl) ?_
    refine lv_iconst hx hb dX9_bestFed_1 k_iconst_0 ?_
    refine wx_putI hC hH h_o1 rfl f_X9_142 g_9_2 dX9_bestFed_2 hF (fun u3 H locs hF hH => ?_)
    refine lv_iload_n hx hb dX9_bestFed_5 rfl (lv_at hl 1 rfl) ?_
    refine lv_iconst hx hb dX9_bestFed_6 k_iconst_0 ?_
    refine lv_iconst hx hb dX9_bestFed_7 k_iconst_1 ?_
    refine wx_psi hC hH hl (c_X9_isIn i2 (0 : Int32) (1 : Int32)) y_X9_isIn v_X9_isIn m_X9_187 rfl ⟨Nat.le_of_ble_eq_true rfl, Nat.le_of_ble_eq_true rfl⟩ ⟨Nat.le_refl _, Nat.le_refl _⟩ rfl (Nat.le_of_ble_eq_true rfl) dX9_bestFed_8 hF (fun i4 H locs hF hH => ?_)
    refine lv_if_ne hx hb dX9_bestFed_11 (tgt := 16) rfl (fun h => ?_) (fun h => ?_)
    · have hF := wx_f h hF
      refine lv_aload_n hx hb dX9_bestFed_16 rfl (lv_at hl 0 rfl) ?_
      refine wx_evv hC hH hl (c_X9_plainTried o1 h_o1) y_X9_plainTried v_X9_plainTried h_o1 rfl m_X9_341 rfl ⟨Nat.le_of_ble_eq_true rfl, Nat.le_of_ble_eq_true rfl⟩ ⟨Nat.le_refl _, Nat.le_refl _⟩ rfl (Nat.le_of_ble_eq_true rfl) dX9_bestFed_17 hF (fun _ u5 H locs hF hH => ?_)
      refine lv_bipush hx hb dX9_bestFed_20 k_bipush_m2 ?_
      refine wx_istore_n hx hb dX9_bestFed_22 rfl hl (by decide) (fun ls hl => ?_)
      have hl : lv_has ls 6 [(2, .int (-2 : Int32)), (0, .ref (ρ o1)), (1, .int i2)] := hl
      refine lv_bipush hx hb dX9_bestFed_23 k_bipush_m2 ?_
      refine wx_istore_n hx hb dX9_bestFed_25 rfl hl (by decide) (fun ls hl => ?_)
      have hl : lv_has ls 6 [(3, .int (-2 : Int32)), (2, .int (-2 : Int32)), (0, .ref (ρ o1)), (1, .int i2)] := hl
      refine lv_iconst hx hb dX9_bestFed_26 k_iconst_0 ?_
      refine wx_istore hx hb dX9_bestFed_27 hl (by decide) (fun ls hl => ?_)
      have hl : lv_has ls 6 [(4, .int (0 : Int32)), (3, .int (-2 : Int32)), (2, .int (-2 : Int32)), (0, .ref (ρ o1)), (1, .int i2)] := hl
      obtain ⟨q6_, hF, hq6⟩ := wJ_some hF
      have hJ108 : ∀ (i7 : Int32) (i8 : Int32) (u9 : wSt) (H : Heap) (locs : List Loc) (ls : Array Slot), F_X9_bestFed_j108 i2 i7 i8 u9 = some z → wHp D κ ρ 1 A s.heap H locs u9 → lv_has ls 6 [(1, .int i2), (2, .int i7), (3, .int i8)] → W p l e (wRm 6 145) s m args below meth c H locs 0 0 (wQI below args s A D κ ρ 1 z) (F0 m 108 ls []) := by
        intro i7 i8 u9 H locs ls hF hH hl
        unfold F_X9_bestFed_j108 at hF
        refine lv_iload_n hx hb dX9_bestFed_108 rfl (lv_at hl 0 rfl) ?_
        refine lv_if_ne hx hb dX9_bestFed_109 (tgt := 116) rfl (fun h => ?_) (fun h => ?_)
        · have hF := wx_f h hF
          refine lv_iload_n hx hb dX9_bestFed_116 rfl (lv_at hl 2 rfl) ?_
          exact wx_iret hC hH hr hlk dX9_bestFed_117 hF
        have hF := wx_t h hF
        refine lv_iload_n hx hb dX9_bestFed_112 rfl (lv_at hl 1 rfl) ?_
        refine lv_goto hx hb dX9_bestFed_113 (tgt := 117) rfl ?_
        exact wx_iret hC hH hr hlk dX9_bestFed_117 hF
      have hL29 : ∀ (k10_ : Nat) (i11 : Int32) (i12 : Int32) (i13 : Int32) (u14 : wSt) (H : Heap) (locs : List Loc) (ls : Array Slot), wL (S := Int32 × Int32 × Int32 × wSt) (fun x => F_X9_bestFed_b29 o1 x.1 x.2.1 x.2.2.1 x.2.2.2) k10_ (i11, i12, i13, u14) = some q6_ → wHp D κ ρ 1 A s.heap H locs u14 → lv_has ls 6 [(0, .ref (ρ o1)), (1, .int i2), (2, .int i11), (3, .int i12), (4, .int i13)] → W p l e (wRm 6 145) s m args below meth c H locs 0 0 (wQI below args s A D κ ρ 1 z) (F0 m 29 ls []) := by
        intro k10_
        induction k10_ with
        | zero => intro i11 i12 i13 u14 H locs ls hF; exact wL_zero hF
        | succ k10_ ih10 =>
          intro i11 i12 i13 u14 H locs ls hF hH hl
          obtain ⟨q10_, hF, hq10⟩ := wL_some hF
          have hF : F_X9_bestFed_b29 o1 i11 i12 i13 u14 = some q10_ := hF
          unfold F_X9_bestFed_b29 at hF
          refine lv_iload hx hb dX9_bestFed_29 (lv_at hl 4 rfl) ?_
          refine lv_aload_n hx hb dX9_bestFed_31 rfl (lv_at hl 0 rfl) ?_
          refine wx_getI hC hH h_o1 rfl f_X9_219 dX9_bestFed_32 ?_
          refine lv_icmp_ge hx hb dX9_bestFed_35 (tgt := 108) rfl (fun h => ?_) (fun h => ?_)
          · have hF := wx_t h hF
            have hF := wJ_r hq10 hF
            have hF := wJ_l hq6 hF
            exact hJ108 i11 i12 u14 H locs ls hF hH (lv_sub hl [1, 2, 3] rfl)
          have hF := wx_f h hF
          refine lv_aload_n hx hb dX9_bestFed_38 rfl (lv_at hl 0 rfl) ?_
          refine wx_getI hC hH h_o1 rfl f_X9_222 dX9_bestFed_39 ?_
          refine lv_if_le hx hb dX9_bestFed_42 (tgt := 108) rfl (fun h => ?_) (fun h => ?_)
          · have hF := wx_t h hF
            have hF := wJ_r hq10 hF
            have hF := wJ_l hq6 hF
            exact hJ108 i11 i12 u14 H locs ls hF hH (lv_sub hl [1, 2, 3] rfl)
          have hF := wx_f h hF
          refine lv_aload_n hx hb dX9_bestFed_45 rfl (lv_at hl 0 rfl) ?_
          refine wx_getR hC hH h_o1 rfl f_X9_97 dX9_bestFed_46 hF (fun o15 h_o15 hF => ?_)
          refine lv_iload hx hb dX9_bestFed_49 (lv_at hl 4 rfl) ?_
          refine wx_zald hC hH h_o15 ⟨rfl, rfl⟩ dX9_bestFed_51 hF (fun j16 hF => ?_)
          obtain ⟨q17_, hF, hq17⟩ := wJ_some hF
          have hJ76 : ∀ (i18 : Int32) (u19 : wSt) (H : Heap) (locs : List Loc) (ls : Array Slot), F_X9_bestFed_j76 i11 i12 i13 i18 u19 = some q10_ → wHp D κ ρ 1 A s.heap H locs u19 → lv_has ls 6 [(0, .ref (ρ o1)), (1, .int i2), (2, .int i11), (3, .int i12), (4, .int i13)] → W p l e (wRm 6 145) s m args below meth c H locs 0 0 (wQI below args s A D κ ρ 1 z) (F0 m 76 ls [.int i18]) := by
            intro i18 u19 H locs ls hF hH hl
            unfold F_X9_bestFed_j76 at hF
            refine wx_istore hx hb dX9_bestFed_76 hl (by decide) (fun ls hl => ?_)
            have hl : lv_has ls 6 [(5, .int i18), (0, .ref (ρ o1)), (1, .int i2), (2, .int i11), (3, .int i12), (4, .int i13)] := hl
            refine lv_iload hx hb dX9_bestFed_78 (lv_at hl 0 rfl) ?_
            obtain ⟨q20_, hF, hq20⟩ := wJ_some hF
            have hJ102 : ∀ (i21 : Int32) (i22 : Int32) (H : Heap) (locs : List Loc) (ls : Array Slot), F_X9_bestFed_j102 i13 u19 i21 i22 = some q10_ → wHp D κ ρ 1 A s.heap H locs u19 → lv_has ls 6 [(0, .ref (ρ o1)), (1, .int i2), (2, .int i21), (3, .int i22), (4, .int i13)] → W p l e (wRm 6 145) s m args below meth c H locs 0 0 (wQI below args s A D κ ρ 1 z) (F0 m 102 ls []) := by
              intro i21 i22 H locs ls hF hH hl
              unfold F_X9_bestFed_j102 at hF
              refine wx_iinc hx hb dX9_bestFed_102 k_iconst_1 hl (k := 4) rfl (by decide) hF (fun i23 ls hF hl => ?_)
              have hl : lv_has ls 6 [(4, .int i23), (0, .ref (ρ o1)), (1, .int i2), (2, .int i21), (3, .int i22)] := hl
              refine lv_goto hx hb dX9_bestFed_105 (tgt := 29) rfl ?_
              have hF := wJ_l hq10 hF
              exact ih10 i21 i22 i23 u19 H locs ls hF hH (lv_sub hl [1, 2, 3, 4, 0] rfl)
            refine lv_if_lt hx hb dX9_bestFed_80 (tgt := 102) rfl (fun h => ?_) (fun h => ?_)
            · have hF := wx_t h hF
              have hF := wJ_l hq20 hF
              exact hJ102 i11 i12 H locs ls hF hH (lv_sub hl [1, 2, 3, 4, 5] rfl)
            have hF := wx_f h hF
            refine lv_iload_n hx hb dX9_bestFed_83 rfl (lv_at hl 3 rfl) ?_
            obtain ⟨q24_, hF, hq24⟩ := wJ_some hF
            have hJ96 : ∀ (H : Heap) (locs : List Loc) (ls : Array Slot), F_X9_bestFed_j96 i13 i18 = some q20_ → wHp D κ ρ 1 A s.heap H locs u19 → lv_has ls 6 [(0, .ref (ρ o1)), (1, .int i2), (4, .int i13), (5, .int i18)] → W p l e (wRm 6 145) s m args below meth c H locs 0 0 (wQI below args s A D κ ρ 1 z) (F0 m 96 ls []) := by
              intro H locs ls hF hH hl
              unfold F_X9_bestFed_j96 at hF
              refine lv_iload hx hb dX9_bestFed_96 (lv_at hl 2 rfl) ?_
              refine wx_istore_n hx hb dX9_bestFed_98 rfl hl (by decide) (fun ls hl => ?_)
              have hl : lv_has ls 6 [(2, .int i13), (0, .ref (ρ o1)), (1, .int i2), (4, .int i13), (5, .int i18)] := hl
              refine lv_iload hx hb dX9_bestFed_99 (lv_at hl 4 rfl) ?_
              refine wx_istore_n hx hb dX9_bestFed_101 rfl hl (by decide) (fun ls hl => ?_)
              have hl : lv_has ls 6 [(3, .int i18), (2, .int i13), (0, .ref (ρ o1)), (1, .int i2), (4, .int i13), (5, .int i18)] := hl
              have hF := wJ_l hq20 hF
              exact hJ102 i13 i18 H locs ls hF hH (lv_sub hl [2, 3, 1, 0, 4] rfl)
            refine lv_if_lt hx hb dX9_bestFed_84 (tgt := 96) rfl (fun h => ?_) (fun h => ?_)
            · have hF := wx_t h hF
              have hF := wJ_l hq24 hF
              exact hJ96 H locs ls hF hH (lv_sub hl [1, 2, 5, 0] rfl)
            have hF := wx_f h hF
            refine lv_iload hx hb dX9_bestFed_87 (lv_at hl 0 rfl) ?_
            refine lv_iload_n hx hb dX9_bestFed_89 rfl (lv_at hl 4 rfl) ?_
            refine lv_icmp_gt hx hb dX9_bestFed_90 (tgt := 96) rfl (fun h => ?_) (fun h => ?_)
            · have hF := wx_t h hF
              have hF := wJ_l hq24 hF
              exact hJ96 H locs ls hF hH (lv_sub hl [1, 2, 5, 0] rfl)
            have hF := wx_f h hF
            refine lv_goto hx hb dX9_bestFed_93 (tgt := 102) rfl ?_
            have hF := wJ_r hq24 hF
            have hF := wJ_l hq20 hF
            exact hJ102 i11 i12 H locs ls hF hH (lv_sub hl [1, 2, 3, 4, 5] rfl)
          refine lv_if_eq hx hb dX9_bestFed_52 (tgt := 75) rfl (fun h => ?_) (fun h => ?_)
          · have hF := wx_t h hF
            refine lv_iconst hx hb dX9_bestFed_75 k_iconst_m1 ?_
            have hF := wJ_l hq17 hF
            exact hJ76 (-1 : Int32) u14 H locs ls hF hH (lv_sub hl [0, 1, 2, 3, 4] rfl)
          have hF := wx_f h hF
          refine lv_aload_n hx hb dX9_bestFed_55 rfl (lv_at hl 0 rfl) ?_
          refine lv_iload hx hb dX9_bestFed_56 (lv_at hl 4 rfl) ?_
          refine lv_aload_n hx hb dX9_bestFed_58 rfl (lv_at hl 0 rfl) ?_
          refine wx_getR hC hH h_o1 rfl f_X9_112 dX9_bestFed_59 hF (fun o25 h_o25 hF => ?_)
          refine lv_iconst hx hb dX9_bestFed_62 k_iconst_0 ?_
          refine wx_iald hC hH h_o25 ⟨rfl, rfl⟩ dX9_bestFed_63 hF (fun j26 hF => ?_)
          refine lv_aload_n hx hb dX9_bestFed_64 rfl (lv_at hl 0 rfl) ?_
          refine wx_getI hC hH h_o1 rfl f_X9_222 dX9_bestFed_65 ?_
          obtain ⟨h0, hF⟩ := wG_some hF
          refine wx_irem hx hb dX9_bestFed_68 h0 ?_
          refine wx_evi hC hH hl (c_X9_feeds o1 i13 (w_rem (u14.1 o25 j26) (u14.1 o1 13)) h_o1) y_X9_feeds v_X9_feeds h_o1 rfl m_X9_511 rfl ⟨Nat.le_of_ble_eq_true rfl, Nat.le_of_ble_eq_true rfl⟩ ⟨Nat.le_refl _, Nat.le_refl _⟩ rfl (Nat.le_of_ble_eq_true rfl) dX9_bestFed_69 hF (fun i28 u27 H locs hF hH => ?_)
          refine lv_goto hx hb dX9_bestFed_72 (tgt := 76) rfl ?_
          have hF := wJ_l hq17 hF
          exact hJ76 i28 u27 H locs ls hF hH (lv_sub hl [0, 1, 2, 3, 4] rfl)
      exact hL29 wFu (-2 : Int32) (-2 : Int32) (0 : Int32) u5 H locs ls hF hH (lv_sub hl [3, 4, 2, 1, 0] rfl)
    have hF := wx_t h hF
    refine lv_iconst hx hb dX9_bestFed_14 k_iconst_m1 ?_
    exact wx_iret hC hH hr hlk dX9_bestFed_15 hF
  exact key _ _ hH
def F_X9_hasBy (o1 : Nat) (i2 : Int32) (i3 : Int32) (i4 : Int32) (i5 : Int32) (u0 : wSt) : Option Int32 :=
  if i4 = 0 then (if i5 = 0 then (wR (u0.2.2 o1 25) 14 (fun o12 => wN i3 o12 (fun j13 => some ((u0.1 o12 j13))))) else (wR (u0.2.2 o1 25) 14 (fun o10 => wN i2 o10 (fun j11 => some (((u0.1 o10 j11) - (5 : Int32))))))) else (if i5 = 0 then (wR (u0.2.2 o1 50) 14 (fun o8 => wN i2 o8 (fun j9 => some (((u0.1 o8 j9) / (5 : Int32)))))) else (wR (u0.2.2 o1 49) 14 (fun o6 => wN i2 o6 (fun j7 => some ((-((u0.1 o6 j7) / (20 : Int32))))))))
set_option maxRecDepth 100000 in
set_option maxHeartbeats 4000000 in
theorem c_X9_hasBy {l : Launch} {D : va_G} {κ : Nat → ClassId} {ρ : Nat → Nat} (o1 : Nat) (i2 : Int32) (i3 : Int32) (i4 : Int32) (i5 : Int32) (h_o1 : (w_sh o1).1 = 9) : wMI l yX9_hasBy cX9_hasBy 5 .int (wRm 0 0) [.ref (ρ o1), .int i2, .int i3, .int i4, .int i5] D κ ρ 1 (fun u => wPu (F_X9_hasBy o1 i2 i3 i4 i5 u) u) := by
  refine wMP_of (F := fun u => F_X9_hasBy o1 i2 i3 i4 i5 u) rfl (Nat.le_of_ble_eq_true rfl) (fun u0 z p e s m args below meth c ls A hF hC hr hlk hH hl => ?_)
  have hl : lv_has ls 5 [(0, .ref (ρ o1)), (1, .int i2), (2, .int i3), (3, .int i4), (4, .int i5)] := hl
  have hx := hC.1.1
  have hb := hC.1.2.1
  have hF : F_X9_hasBy o1 i2 i3 i4 i5 u0 = some z := hF
  unfold F_X9_hasBy at hF
  change W p l e (wRm 0 0) s m args below meth c s.heap [] 0 0 (wQI below args s A D κ ρ 1 (z, u0)) (F0 m 0 ls [])
  have key : ∀ (H : Heap) (locs : List Loc), wHp D κ ρ 1 A s.heap H locs u0 → W p l e (wRm 0 0) s m args below meth c H locs 0 0 (wQI below args s A D κ ρ 1 (z, u0)) (F0 m 0 ls []) := by
    intro H locs hH
    refine lv_iload_n hx hb dX9_hasBy_0 rfl (lv_at hl 3 rfl) ?_
    refine lv_if_ne hx hb dX9_hasBy_1 (tgt := 27) rfl (fun h => ?_) (fun h => ?_)
    · have hF := wx_f h hF
      refine lv_iload hx hb dX9_hasBy_27 (lv_at hl 4 rfl) ?_
      refine lv_if_ne hx hb dX9_hasBy_29 (tgt := 43) rfl (fun h => ?_) (fun h => ?_)
      · have hF := wx_f h hF
        refine lv_aload_n hx hb dX9_hasBy_43 rfl (lv_at hl 0 rfl) ?_
        refine wx_getR hC hH h_o1 rfl f_X9_88 dX9_hasBy_44 hF (fun o6 h_o6 hF => ?_)
        refine lv_iload_n hx hb dX9_hasBy_47 rfl (lv_at hl 1 rfl) ?_
        refine wx_iald hC hH h_o6 ⟨rfl, rfl⟩ dX9_hasBy_48 hF (fun j7 hF => ?_)
        refine lv_bipush hx hb dX9_hasBy_49 k_bipush_20 ?_
        refine lv_idiv hx hb dX9_hasBy_51 (by decide) ?_
        refine lv_ineg hx hb dX9_hasBy_52 ?_
        exact wx_iret hC hH hr hlk dX9_hasBy_53 (wx_pr hF)
      have hF := wx_t h hF
      refine lv_aload_n hx hb dX9_hasBy_32 rfl (lv_at hl 0 rfl) ?_
      refine wx_getR hC hH h_o1 rfl f_X9_91 dX9_hasBy_33 hF (fun o8 h_o8 hF => ?_)
      refine lv_iload_n hx hb dX9_hasBy_36 rfl (lv_at hl 1 rfl) ?_
      refine wx_iald hC hH h_o8 ⟨rfl, rfl⟩ dX9_hasBy_37 hF (fun j9 hF => ?_)
      refine lv_iconst hx hb dX9_hasBy_38 k_iconst_5 ?_
      refine lv_idiv hx hb dX9_hasBy_39 (by decide) ?_
      refine lv_goto hx hb dX9_hasBy_40 (tgt := 53) rfl ?_
      exact wx_iret hC hH hr hlk dX9_hasBy_53 (wx_pr hF)
    have hF := wx_t h hF
    refine lv_iload hx hb dX9_hasBy_4 (lv_at hl 4 rfl) ?_
    refine lv_if_ne hx hb dX9_hasBy_6 (tgt := 18) rfl (fun h => ?_) (fun h => ?_)
    · have hF := wx_f h hF
      refine lv_aload_n hx hb dX9_hasBy_18 rfl (lv_at hl 0 rfl) ?_
      refine wx_getR hC hH h_o1 rfl f_X9_36 dX9_hasBy_19 hF (fun o10 h_o10 hF => ?_)
      refine lv_iload_n hx hb dX9_hasBy_22 rfl (lv_at hl 1 rfl) ?_
      refine wx_iald hC hH h_o10 ⟨rfl, rfl⟩ dX9_hasBy_23 hF (fun j11 hF => ?_)
      refine lv_iconst hx hb dX9_hasBy_24 k_iconst_5 ?_
      refine lv_isub hx hb dX9_hasBy_25 ?_
      exact wx_iret hC hH hr hlk dX9_hasBy_26 (wx_pr hF)
    have hF := wx_t h hF
    refine lv_aload_n hx hb dX9_hasBy_9 rfl (lv_at hl 0 rfl) ?_
    refine wx_getR hC hH h_o1 rfl f_X9_36 dX9_hasBy_10 hF (fun o12 h_o12 hF => ?_)
    refine lv_iload_n hx hb dX9_hasBy_13 rfl (lv_at hl 2 rfl) ?_
    refine wx_iald hC hH h_o12 ⟨rfl, rfl⟩ dX9_hasBy_14 hF (fun j13 hF => ?_)
    refine lv_goto hx hb dX9_hasBy_15 (tgt := 26) rfl ?_
    exact wx_iret hC hH hr hlk dX9_hasBy_26 (wx_pr hF)
  exact key _ _ hH
def F_X9_restAt_j101 (i4 : Int32) (i7 : Int32) : Option Int32 :=
  if 0 ≤ i4 then (some ((-2 : Int32))) else (some (i7))
def F_X9_restAt_j83 (i8 : Int32) (i9 : Int32) : Option ((Int32) ⊕ Int32) :=
  some (.inr ((((10 : Int32) * i8) + i9)))
def F_X9_restAt_j95 (i12 : Int32) (i18 : Int32) : Option ((Int32 × Int32) ⊕ ((Int32 × Int32) ⊕ ((Int32) ⊕ Int32))) :=
  wB (i12 + (1 : Int32)) (fun (i19 : Int32) => some (.inl (i18, i19)))
def F_X9_restAt_b6 (o1 : Nat) (i2 : Int32) (i3 : Int32) (u0 : wSt) (i4 : Int32) (i11 : Int32) (i12 : Int32) : Option ((Int32 × Int32) ⊕ ((Int32 × Int32) ⊕ ((Int32) ⊕ Int32))) :=
  if (4 : Int32) ≤ i12 then (some (.inr (.inr (.inl i11)))) else (wB (i12 / (2 : Int32)) (fun (i13 : Int32) => wB (w_rem i12 (2 : Int32)) (fun (i14 : Int32) => wP (F_X9_hasBy o1 i2 i3 ((1 : Int32) - i13) i14 u0) (fun (i15 : Int32) => wP (F_X9_hasBy o1 i2 i3 i13 i14 u0) (fun (i16 : Int32) => wJ (X := Int32) (if i16 < i15 then (some (.inl i11)) else (wP (F_X9_hasBy o1 i3 i2 ((1 : Int32) - i14) i13 u0) (fun (i20 : Int32) => wP (F_X9_hasBy o1 i3 i2 i14 i13 u0) (fun (i21 : Int32) => if i20 ≤ i21 then (if i11 = i4 then (some (.inr (.inr (.inl (i13, i14))))) else (wB (i11 + (1 : Int32)) (fun (i22 : Int32) => some (.inl i22)))) else (some (.inl i11)))))) (fun x => F_X9_restAt_j95 i12 x))))))
def F_X9_restAt (o1 : Nat) (i2 : Int32) (i3 : Int32) (i4 : Int32) (u0 : wSt) : Option Int32 :=
  wJ (X := Int32) (wJ (X := Int32 × Int32) (wL (S := Int32 × Int32) (fun x => F_X9_restAt_b6 o1 i2 i3 u0 i4 x.1 x.2) wFu ((0 : Int32), (0 : Int32))) (fun x => F_X9_restAt_j83 x.1 x.2)) (fun x => F_X9_restAt_j101 i4 x)
set_option maxRecDepth 100000 in
set_option maxHeartbeats 4000000 in
theorem c_X9_restAt {l : Launch} {D : va_G} {κ : Nat → ClassId} {ρ : Nat → Nat} (o1 : Nat) (i2 : Int32) (i3 : Int32) (i4 : Int32) (h_o1 : (w_sh o1).1 = 9) : wMI l yX9_restAt cX9_restAt 8 .int (wRm 1 24) [.ref (ρ o1), .int i2, .int i3, .int i4] D κ ρ 1 (fun u => wPu (F_X9_restAt o1 i2 i3 i4 u) u) := by
  refine wMP_of (F := fun u => F_X9_restAt o1 i2 i3 i4 u) rfl (Nat.le_of_ble_eq_true rfl) (fun u0 z p e s m args below meth c ls A hF hC hr hlk hH hl => ?_)
  have hl : lv_has ls 8 [(0, .ref (ρ o1)), (1, .int i2), (2, .int i3), (3, .int i4)] := hl
  have hx := hC.1.1
  have hb := hC.1.2.1
  have hF : F_X9_restAt o1 i2 i3 i4 u0 = some z := hF
  unfold F_X9_restAt at hF
  change W p l e (wRm 1 24) s m args below meth c s.heap [] 0 0 (wQI below args s A D κ ρ 1 (z, u0)) (F0 m 0 ls [])
  have key : ∀ (H : Heap) (locs : List Loc), wHp D κ ρ 1 A s.heap H locs u0 → W p l e (wRm 1 24) s m args below meth c H locs 0 0 (wQI below args s A D κ ρ 1 (z, u0)) (F0 m 0 ls []) := by
    intro H locs hH
    refine lv_iconst hx hb dX9_restAt_0 k_iconst_0 ?_
    refine wx_istore hx hb dX9_restAt_1 hl (by decide) (fun ls hl => ?_)
    have hl : lv_has ls 8 [(4, .int (0 : Int32)), (0, .ref (ρ o1)), (1, .int i2), (2, .int i3), (3, .int i4)] := hl
    refine lv_iconst hx hb dX9_restAt_3 k_iconst_0 ?_
    refine wx_istore hx hb dX9_restAt_4 hl (by decide) (fun ls hl => ?_)
    have hl : lv_has ls 8 [(5, .int (0 : Int32)), (4, .int (0 : Int32)), (0, .ref (ρ o1)), (1, .int i2), (2, .int i3), (3, .int i4)] := hl
    obtain ⟨q5_, hF, hq5⟩ := wJ_some hF
    obtain ⟨q6_, hF, hq6⟩ := wJ_some hF
    have hJ101 : ∀ (i7 : Int32) (H : Heap) (locs : List Loc) (ls : Array Slot), F_X9_restAt_j101 i4 i7 = some z → wHp D κ ρ 1 A s.heap H locs u0 → lv_has ls 8 [(3, .int i4), (4, .int i7)] → W p l e (wRm 1 24) s m args below meth c H locs 0 0 (wQI below args s A D κ ρ 1 (z, u0)) (F0 m 101 ls []) := by
      intro i7 H locs ls hF hH hl
      unfold F_X9_restAt_j101 at hF
      refine lv_iload_n hx hb dX9_restAt_101 rfl (lv_at hl 0 rfl) ?_
      refine lv_if_ge hx hb dX9_restAt_102 (tgt := 110) rfl (fun h => ?_) (fun h => ?_)
      · have hF := wx_t h hF
        refine lv_bipush hx hb dX9_restAt_110 k_bipush_m2 ?_
        exact wx_iret hC hH hr hlk dX9_restAt_112 (wx_pr hF)
      have hF := wx_f h hF
      refine lv_iload hx hb dX9_restAt_105 (lv_at hl 1 rfl) ?_
      refine lv_goto hx hb dX9_restAt_107 (tgt := 112) rfl ?_
      exact wx_iret hC hH hr hlk dX9_restAt_112 (wx_pr hF)
    have hJ83 : ∀ (i8 : Int32) (i9 : Int32) (H : Heap) (locs : List Loc) (ls : Array Slot), F_X9_restAt_j83 i8 i9 = some q5_ → wHp D κ ρ 1 A s.heap H locs u0 → lv_has ls 8 [(6, .int i8), (7, .int i9)] → W p l e (wRm 1 24) s m args below meth c H locs 0 0 (wQI below args s A D κ ρ 1 (z, u0)) (F0 m 83 ls []) := by
      intro i8 i9 H locs ls hF hH hl
      unfold F_X9_restAt_j83 at hF
      refine lv_bipush hx hb dX9_restAt_83 k_bipush_10 ?_
      refine lv_iload hx hb dX9_restAt_85 (lv_at hl 0 rfl) ?_
      refine lv_imul hx hb dX9_restAt_87 ?_
      refine lv_iload hx hb dX9_restAt_88 (lv_at hl 1 rfl) ?_
      refine lv_iadd hx hb dX9_restAt_90 ?_
      have hF := wJ_r hq5 hF
      exact wx_iret hC hH hr hlk dX9_restAt_91 (wx_pr hF)
    have hL6 : ∀ (k10_ : Nat) (i11 : Int32) (i12 : Int32) (H : Heap) (locs : List Loc) (ls : Array Slot), wL (S := Int32 × Int32) (fun x => F_X9_restAt_b6 o1 i2 i3 u0 i4 x.1 x.2) k10_ (i11, i12) = some q6_ → wHp D κ ρ 1 A s.heap H locs u0 → lv_has ls 8 [(0, .ref (ρ o1)), (1, .int i2), (2, .int i3), (3, .int i4), (4, .int i11), (5, .int i12)] → W p l e (wRm 1 24) s m args below meth c H locs 0 0 (wQI below args s A D κ ρ 1 (z, u0)) (F0 m 6 ls []) := by
      intro k10_
      induction k10_ with
      | zero => intro i11 i12 H locs ls hF; exact wL_zero hF
      | succ k10_ ih10 =>
        intro i11 i12 H locs ls hF hH hl
        obtain ⟨q10_, hF, hq10⟩ := wL_some hF
        have hF : F_X9_restAt_b6 o1 i2 i3 u0 i4 i11 i12 = some q10_ := hF
        unfold F_X9_restAt_b6 at hF
        refine lv_iload hx hb dX9_restAt_6 (lv_at hl 5 rfl) ?_
        refine lv_iconst hx hb dX9_restAt_8 k_iconst_4 ?_
        refine lv_icmp_ge hx hb dX9_restAt_9 (tgt := 101) rfl (fun h => ?_) (fun h => ?_)
        · have hF := wx_t h hF
          have hF := wJ_r hq10 hF
          have hF := wJ_r hq6 hF
          have hF := wJ_l hq5 hF
          exact hJ101 i11 H locs ls hF hH (lv_sub hl [3, 4] rfl)
        have hF := wx_f h hF
        refine lv_iload hx hb dX9_restAt_12 (lv_at hl 5 rfl) ?_
        refine lv_iconst hx hb dX9_restAt_14 k_iconst_2 ?_
        refine lv_idiv hx hb dX9_restAt_15 (by decide) ?_
        refine wx_leti hF (fun i13 hF => ?_)
        refine wx_istore hx hb dX9_restAt_16 hl (by decide) (fun ls hl => ?_)
        have hl : lv_has ls 8 [(6, .int i13), (0, .ref (ρ o1)), (1, .int i2), (2, .int i3), (3, .int i4), (4, .int i11), (5, .int i12)] := hl
        refine lv_iload hx hb dX9_restAt_18 (lv_at hl 6 rfl) ?_
        refine lv_iconst hx hb dX9_restAt_20 k_iconst_2 ?_
        refine wx_irem hx hb dX9_restAt_21 (by decide) ?_
        refine wx_leti hF (fun i14 hF => ?_)
        refine wx_istore hx hb dX9_restAt_22 hl (by decide) (fun ls hl => ?_)
        have hl : lv_has ls 8 [(7, .int i14), (6, .int i13), (0, .ref (ρ o1)), (1, .int i2), (2, .int i3), (3, .int i4), (4, .int i11), (5, .int i12)] := hl
        refine lv_aload_n hx hb dX9_restAt_24 rfl (lv_at hl 2 rfl) ?_
        refine lv_iload_n hx hb dX9_restAt_25 rfl (lv_at hl 3 rfl) ?_
        refine lv_iload_n hx hb dX9_restAt_26 rfl (lv_at hl 4 rfl) ?_
        refine lv_iconst hx hb dX9_restAt_27 k_iconst_1 ?_
        refine lv_iload hx hb dX9_restAt_28 (lv_at hl 1 rfl) ?_
        refine lv_isub hx hb dX9_restAt_30 ?_
        refine lv_iload hx hb dX9_restAt_31 (lv_at hl 0 rfl) ?_
        refine wx_pvi hC hH hl (c_X9_hasBy o1 i2 i3 ((1 : Int32) - i13) i14 h_o1) y_X9_hasBy v_X9_hasBy h_o1 rfl m_X9_514 rfl ⟨Nat.le_of_ble_eq_true rfl, Nat.le_of_ble_eq_true rfl⟩ ⟨Nat.le_refl _, Nat.le_refl _⟩ rfl (Nat.le_of_ble_eq_true rfl) dX9_restAt_33 hF (fun i15 H locs hF hH => ?_)
        refine lv_aload_n hx hb dX9_restAt_36 rfl (lv_at hl 2 rfl) ?_
        refine lv_iload_n hx hb dX9_restAt_37 rfl (lv_at hl 3 rfl) ?_
        refine lv_iload_n hx hb dX9_restAt_38 rfl (lv_at hl 4 rfl) ?_
        refine lv_iload hx hb dX9_restAt_39 (lv_at hl 1 rfl) ?_
        refine lv_iload hx hb dX9_restAt_41 (lv_at hl 0 rfl) ?_
        refine wx_pvi hC hH hl (c_X9_hasBy o1 i2 i3 i13 i14 h_o1) y_X9_hasBy v_X9_hasBy h_o1 rfl m_X9_514 rfl ⟨Nat.le_of_ble_eq_true rfl, Nat.le_of_ble_eq_true rfl⟩ ⟨Nat.le_refl _, Nat.le_refl _⟩ rfl (Nat.le_of_ble_eq_true rfl) dX9_restAt_43 hF (fun i16 H locs hF hH => ?_)
        obtain ⟨q17_, hF, hq17⟩ := wJ_some hF
        have hJ95 : ∀ (i18 : Int32) (H : Heap) (locs : List Loc) (ls : Array Slot), F_X9_restAt_j95 i12 i18 = some q10_ → wHp D κ ρ 1 A s.heap H locs u0 → lv_has ls 8 [(0, .ref (ρ o1)), (1, .int i2), (2, .int i3), (3, .int i4), (4, .int i18), (5, .int i12)] → W p l e (wRm 1 24) s m args below meth c H locs 0 0 (wQI below args s A D κ ρ 1 (z, u0)) (F0 m 95 ls []) := by
          intro i18 H locs ls hF hH hl
          unfold F_X9_restAt_j95 at hF
          refine wx_iinc hx hb dX9_restAt_95 k_iconst_1 hl (k := 5) rfl (by decide) hF (fun i19 ls hF hl => ?_)
          have hl : lv_has ls 8 [(5, .int i19), (0, .ref (ρ o1)), (1, .int i2), (2, .int i3), (3, .int i4), (4, .int i18)] := hl
          refine lv_goto hx hb dX9_restAt_98 (tgt := 6) rfl ?_
          have hF := wJ_l hq10 hF
          exact ih10 i18 i19 H locs ls hF hH (lv_sub hl [1, 2, 3, 4, 5, 0] rfl)
        refine lv_icmp_gt hx hb dX9_restAt_46 (tgt := 95) rfl (fun h => ?_) (fun h => ?_)
        · have hF := wx_t h hF
          have hF := wJ_l hq17 hF
          exact hJ95 i11 H locs ls hF hH (lv_sub hl [2, 3, 4, 5, 6, 7] rfl)
        have hF := wx_f h hF
        refine lv_aload_n hx hb dX9_restAt_49 rfl (lv_at hl 2 rfl) ?_
        refine lv_iload_n hx hb dX9_restAt_50 rfl (lv_at hl 4 rfl) ?_
        refine lv_iload_n hx hb dX9_restAt_51 rfl (lv_at hl 3 rfl) ?_
        refine lv_iconst hx hb dX9_restAt_52 k_iconst_1 ?_
        refine lv_iload hx hb dX9_restAt_53 (lv_at hl 0 rfl) ?_
        refine lv_isub hx hb dX9_restAt_55 ?_
        refine lv_iload hx hb dX9_restAt_56 (lv_at hl 1 rfl) ?_
        refine wx_pvi hC hH hl (c_X9_hasBy o1 i3 i2 ((1 : Int32) - i14) i13 h_o1) y_X9_hasBy v_X9_hasBy h_o1 rfl m_X9_514 rfl ⟨Nat.le_of_ble_eq_true rfl, Nat.le_of_ble_eq_true rfl⟩ ⟨Nat.le_refl _, Nat.le_refl _⟩ rfl (Nat.le_of_ble_eq_true rfl) dX9_restAt_58 hF (fun i20 H locs hF hH => ?_)
        refine lv_aload_n hx hb dX9_restAt_61 rfl (lv_at hl 2 rfl) ?_
        refine lv_iload_n hx hb dX9_restAt_62 rfl (lv_at hl 4 rfl) ?_
        refine lv_iload_n hx hb dX9_restAt_63 rfl (lv_at hl 3 rfl) ?_
        refine lv_iload hx hb dX9_restAt_64 (lv_at hl 0 rfl) ?_
        refine lv_iload hx hb dX9_restAt_66 (lv_at hl 1 rfl) ?_
        refine wx_pvi hC hH hl (c_X9_hasBy o1 i3 i2 i14 i13 h_o1) y_X9_hasBy v_X9_hasBy h_o1 rfl m_X9_514 rfl ⟨Nat.le_of_ble_eq_true rfl, Nat.le_of_ble_eq_true rfl⟩ ⟨Nat.le_refl _, Nat.le_refl _⟩ rfl (Nat.le_of_ble_eq_true rfl) dX9_restAt_68 hF (fun i21 H locs hF hH => ?_)
        refine lv_icmp_le hx hb dX9_restAt_71 (tgt := 77) rfl (fun h => ?_) (fun h => ?_)
        · have hF := wx_t h hF
          refine lv_iload hx hb dX9_restAt_77 (lv_at hl 6 rfl) ?_
          refine lv_iload_n hx hb dX9_restAt_79 rfl (lv_at hl 5 rfl) ?_
          refine lv_icmp_ne hx hb dX9_restAt_80 (tgt := 92) rfl (fun h => ?_) (fun h => ?_)
          · have hF := wx_f h hF
            refine wx_iinc hx hb dX9_restAt_92 k_iconst_1 hl (k := 6) rfl (by decide) hF (fun i22 ls hF hl => ?_)
            have hl : lv_has ls 8 [(4, .int i22), (7, .int i14), (6, .int i13), (0, .ref (ρ o1)), (1, .int i2), (2, .int i3), (3, .int i4), (5, .int i12)] := hl
            have hF := wJ_l hq17 hF
            exact hJ95 i22 H locs ls hF hH (lv_sub hl [3, 4, 5, 6, 0, 7] rfl)
          have hF := wx_t h hF
          have hF := wJ_r hq17 hF
          have hF := wJ_r hq10 hF
          have hF := wJ_l hq6 hF
          exact hJ83 i13 i14 H locs ls hF hH (lv_sub hl [1, 0] rfl)
        have hF := wx_f h hF
        refine lv_goto hx hb dX9_restAt_74 (tgt := 95) rfl ?_
        have hF := wJ_l hq17 hF
        exact hJ95 i11 H locs ls hF hH (lv_sub hl [2, 3, 4, 5, 6, 7] rfl)
    exact hL6 wFu (0 : Int32) (0 : Int32) H locs ls hF hH (lv_sub hl [2, 3, 4, 5, 1, 0] rfl)
  exact key _ _ hH
def F_X9_rests (o1 : Nat) (i2 : Int32) (i3 : Int32) (u0 : wSt) : Option (Int32 × wSt) :=
  wB (w_sI u0 o1 2 (0 : Int32)) (fun (u4 : wSt) => wP (F_X9_areTwo o1 i2 i3 u4) (fun (i5 : Int32) => if i5 = 0 then (some ((-1 : Int32), u4)) else (wP (F_X9_restAt o1 i2 i3 (-1 : Int32) u4) (fun (i6 : Int32) => some (i6, u4)))))
set_option maxRecDepth 100000 in
set_option maxHeartbeats 4000000 in
theorem c_X9_rests {l : Launch} {D : va_G} {κ : Nat → ClassId} {ρ : Nat → Nat} (o1 : Nat) (i2 : Int32) (i3 : Int32) (h_o1 : (w_sh o1).1 = 9) : wMI l yX9_rests cX9_rests 3 .int (wRm 2 51) [.ref (ρ o1), .int i2, .int i3] D κ ρ 1 (fun u => F_X9_rests o1 i2 i3 u) := by
  refine wMI_of (F := fun u => F_X9_rests o1 i2 i3 u) rfl (Nat.le_of_ble_eq_true rfl) (fun u0 z p e s m args below meth c ls A hF hC hr hlk hH hl => ?_)
  have hl : lv_has ls 3 [(0, .ref (ρ o1)), (1, .int i2), (2, .int i3)] := hl
  have hx := hC.1.1
  have hb := hC.1.2.1
  have hF : F_X9_rests o1 i2 i3 u0 = some z := hF
  unfold F_X9_rests at hF
  change W p l e (wRm 2 51) s m args below meth c s.heap [] 0 0 (wQI below args s A D κ ρ 1 z) (F0 m 0 ls [])
  have key : ∀ (H : Heap) (locs : List Loc), wHp D κ ρ 1 A s.heap H locs u0 → W p l e (wRm 2 51) s m args below meth c H locs 0 0 (wQI below args s A D κ ρ 1 z) (F0 m 0 ls []) := by
    intro H locs hH
    refine lv_aload_n hx hb dX9_rests_0 rfl (lv_at hl 0 rfl) ?_
    refine lv_iconst hx hb dX9_rests_1 k_iconst_0 ?_
    refine wx_putI hC hH h_o1 rfl f_X9_142 g_9_2 dX9_rests_2 hF (fun u4 H locs hF hH => ?_)
    refine lv_aload_n hx hb dX9_rests_5 rfl (lv_at hl 0 rfl) ?_
    refine lv_iload_n hx hb dX9_rests_6 rfl (lv_at hl 1 rfl) ?_
    refine lv_iload_n hx hb dX9_rests_7 rfl (lv_at hl 2 rfl) ?_
    refine wx_pvi hC hH hl (c_X9_areTwo o1 i2 i3 h_o1) y_X9_areTwo v_X9_areTwo h_o1 rfl m_X9_469 rfl ⟨Nat.le_of_ble_eq_true rfl, Nat.le_of_ble_eq_true rfl⟩ ⟨Nat.le_refl _, Nat.le_refl _⟩ rfl (Nat.le_of_ble_eq_true rfl) dX9_rests_8 hF (fun i5 H locs hF hH => ?_)
    refine lv_if_eq hx hb dX9_rests_11 (tgt := 24) rfl (fun h => ?_) (fun h => ?_)
    · have hF := wx_t h hF
      refine lv_iconst hx hb dX9_rests_24 k_iconst_m1 ?_
      exact wx_iret hC hH hr hlk dX9_rests_25 hF
    have hF := wx_f h hF
    refine lv_aload_n hx hb dX9_rests_14 rfl (lv_at hl 0 rfl) ?_
    refine lv_iload_n hx hb dX9_rests_15 rfl (lv_at hl 1 rfl) ?_
    refine lv_iload_n hx hb dX9_rests_16 rfl (lv_at hl 2 rfl) ?_
    refine lv_iconst hx hb dX9_rests_17 k_iconst_m1 ?_
    refine wx_pvi hC hH hl (c_X9_restAt o1 i2 i3 (-1 : Int32) h_o1) y_X9_restAt v_X9_restAt h_o1 rfl m_X9_518 rfl ⟨Nat.le_of_ble_eq_true rfl, Nat.le_of_ble_eq_true rfl⟩ ⟨Nat.le_refl _, Nat.le_refl _⟩ rfl (Nat.le_of_ble_eq_true rfl) dX9_rests_18 hF (fun i6 H locs hF hH => ?_)
    refine lv_goto hx hb dX9_rests_21 (tgt := 25) rfl ?_
    exact wx_iret hC hH hr hlk dX9_rests_25 hF
  exact key _ _ hH
def F_X9_rest (o1 : Nat) (i2 : Int32) (i3 : Int32) (i4 : Int32) (u0 : wSt) : Option (Int32 × wSt) :=
  wB (w_sI u0 o1 2 (0 : Int32)) (fun (u5 : wSt) => wP (F_X9_areTwo o1 i2 i3 u5) (fun (i6 : Int32) => if i6 = 0 then (some ((-1 : Int32), u5)) else (if i4 < 0 then (some ((-1 : Int32), u5)) else (wP (F_X9_restAt o1 i2 i3 i4 u5) (fun (i7 : Int32) => some (i7, u5))))))
set_option maxRecDepth 100000 in
set_option maxHeartbeats 4000000 in
theorem c_X9_rest {l : Launch} {D : va_G} {κ : Nat → ClassId} {ρ : Nat → Nat} (o1 : Nat) (i2 : Int32) (i3 : Int32) (i4 : Int32) (h_o1 : (w_sh o1).1 = 9) : wMI l yX9_rest cX9_rest 4 .int (wRm 2 51) [.ref (ρ o1), .int i2, .int i3, .int i4] D κ ρ 1 (fun u => F_X9_rest o1 i2 i3 i4 u) := by
  refine wMI_of (F := fun u => F_X9_rest o1 i2 i3 i4 u) rfl (Nat.le_of_ble_eq_true rfl) (fun u0 z p e s m args below meth c ls A hF hC hr hlk hH hl => ?_)
  have hl : lv_has ls 4 [(0, .ref (ρ o1)), (1, .int i2), (2, .int i3), (3, .int i4)] := hl
  have hx := hC.1.1
  have hb := hC.1.2.1
  have hF : F_X9_rest o1 i2 i3 i4 u0 = some z := hF
  unfold F_X9_rest at hF
  change W p l e (wRm 2 51) s m args below meth c s.heap [] 0 0 (wQI below args s A D κ ρ 1 z) (F0 m 0 ls [])
  have key : ∀ (H : Heap) (locs : List Loc), wHp D κ ρ 1 A s.heap H locs u0 → W p l e (wRm 2 51) s m args below meth c H locs 0 0 (wQI below args s A D κ ρ 1 z) (F0 m 0 ls []) := by
    intro H locs hH
    refine lv_aload_n hx hb dX9_rest_0 rfl (lv_at hl 0 rfl) ?_
    refine lv_iconst hx hb dX9_rest_1 k_iconst_0 ?_
    refine wx_putI hC hH h_o1 rfl f_X9_142 g_9_2 dX9_rest_2 hF (fun u5 H locs hF hH => ?_)
    refine lv_aload_n hx hb dX9_rest_5 rfl (lv_at hl 0 rfl) ?_
    refine lv_iload_n hx hb dX9_rest_6 rfl (lv_at hl 1 rfl) ?_
    refine lv_iload_n hx hb dX9_rest_7 rfl (lv_at hl 2 rfl) ?_
    refine wx_pvi hC hH hl (c_X9_areTwo o1 i2 i3 h_o1) y_X9_areTwo v_X9_areTwo h_o1 rfl m_X9_469 rfl ⟨Nat.le_of_ble_eq_true rfl, Nat.le_of_ble_eq_true rfl⟩ ⟨Nat.le_refl _, Nat.le_refl _⟩ rfl (Nat.le_of_ble_eq_true rfl) dX9_rest_8 hF (fun i6 H locs hF hH => ?_)
    refine lv_if_eq hx hb dX9_rest_11 (tgt := 28) rfl (fun h => ?_) (fun h => ?_)
    · have hF := wx_t h hF
      refine lv_iconst hx hb dX9_rest_28 k_iconst_m1 ?_
      exact wx_iret hC hH hr hlk dX9_rest_29 hF
    have hF := wx_f h hF
    refine lv_iload_n hx hb dX9_rest_14 rfl (lv_at hl 3 rfl) ?_
    refine lv_if_lt hx hb dX9_rest_15 (tgt := 28) rfl (fun h => ?_) (fun h => ?_)
    · have hF := wx_t h hF
      refine lv_iconst hx hb dX9_rest_28 k_iconst_m1 ?_
      exact wx_iret hC hH hr hlk dX9_rest_29 hF
    have hF := wx_f h hF
    refine lv_aload_n hx hb dX9_rest_18 rfl (lv_at hl 0 rfl) ?_
    refine lv_iload_n hx hb dX9_rest_19 rfl (lv_at hl 1 rfl) ?_
    refine lv_iload_n hx hb dX9_rest_20 rfl (lv_at hl 2 rfl) ?_
    refine lv_iload_n hx hb dX9_rest_21 rfl (lv_at hl 3 rfl) ?_
    refine wx_pvi hC hH hl (c_X9_restAt o1 i2 i3 i4 h_o1) y_X9_restAt v_X9_restAt h_o1 rfl m_X9_518 rfl ⟨Nat.le_of_ble_eq_true rfl, Nat.le_of_ble_eq_true rfl⟩ ⟨Nat.le_refl _, Nat.le_refl _⟩ rfl (Nat.le_of_ble_eq_true rfl) dX9_rest_22 hF (fun i7 H locs hF hH => ?_)
    refine lv_goto hx hb dX9_rest_25 (tgt := 29) rfl ?_
    exact wx_iret hC hH hr hlk dX9_rest_29 hF
  exact key _ _ hH
def F_X9_warm_j24 (u7 : wSt) : Option (Int64 × wSt) :=
  some ((-1 : Int64), u7)
def F_X9_warm_j101 (i3 : Int32) (q10 : Int64) (u4 : wSt) (q11 : Int64) (q13 : Int64) : Option ((wSt) ⊕ (Int64 × wSt)) :=
  if i3 = 0 then (wG (¬ q13 = 0) (some (.inr ((q10 / q13), u4)))) else (wG (¬ q13 = 0) (some (.inr ((q11 / q13), u4))))
def F_X9_warm_b76 (q15 : Int64) (q16 : Int64) : Option ((Int64 × Int64) ⊕ ((Int64) ⊕ ((wSt) ⊕ (Int64 × wSt)))) :=
  if (lg_cmp q16 (0 : Int64)) = 0 then (some (.inr (.inl q15))) else (wG (¬ q16 = 0) (wB (w_reml q15 q16) (fun (q17 : Int64) => some (.inl (q16, q17)))))
def F_X9_warm_j69 (i3 : Int32) (u4 : wSt) (q10 : Int64) (q11 : Int64) : Option ((wSt) ⊕ (Int64 × wSt)) :=
  wJ (X := Int64) (wL (S := Int64 × Int64) (fun x => F_X9_warm_b76 x.1 x.2) wFu (q11, q10)) (fun x => F_X9_warm_j101 i3 q10 u4 q11 x)
def F_X9_warm_b36 (i2 : Int32) (u4 : wSt) (o1 : Nat) (q19 : Int64) (q20 : Int64) (i21 : Int32) : Option ((Int64 × Int64 × Int32) ⊕ ((Int64 × Int64) ⊕ ((wSt) ⊕ (Int64 × wSt)))) :=
  if i2 ≤ i21 then (some (.inr (.inl (q19, q20)))) else (wR (u4.2.2 o1 21) 14 (fun o22 => wN (1 : Int32) o22 (fun j23 => wB (q19 * (((100 : Int32) - (u4.1 o22 j23)).toInt64)) (fun (q24 : Int64) => wB (q20 * (100 : Int64)) (fun (q25 : Int64) => wB (i21 + (1 : Int32)) (fun (i26 : Int32) => some (.inl (q24, q25, i26))))))))
def F_X9_warm (o1 : Nat) (i2 : Int32) (i3 : Int32) (u0 : wSt) : Option (Int64 × wSt) :=
  wB (w_sI u0 o1 2 (0 : Int32)) (fun (u4 : wSt) => wP (F_X9_isIn i2 (0 : Int32) (6 : Int32) u4) (fun (i5 : Int32) => wJ (X := wSt) (if i5 = 0 then (some (.inl u4)) else (wP (F_X9_isIn i3 (0 : Int32) (1 : Int32) u4) (fun (i8 : Int32) => if i8 = 0 then (some (.inl u4)) else (wJ (X := Int64 × Int64) (wL (S := Int64 × Int64 × Int32) (fun x => F_X9_warm_b36 i2 u4 o1 x.1 x.2.1 x.2.2) wFu ((1 : Int64), (1 : Int64), (0 : Int32))) (fun x => F_X9_warm_j69 i3 u4 x.1 x.2))))) (fun x => F_X9_warm_j24 x)))
set_option maxRecDepth 100000 in
set_option maxHeartbeats 4000000 in
theorem c_X9_warm {l : Launch} {D : va_G} {κ : Nat → ClassId} {ρ : Nat → Nat} (o1 : Nat) (i2 : Int32) (i3 : Int32) (h_o1 : (w_sh o1).1 = 9) : wML l yX9_warm cX9_warm 13 (wRm 1 22) [.ref (ρ o1), .int i2, .int i3] D κ ρ 1 (fun u => F_X9_warm o1 i2 i3 u) := by
  refine wML_of (F := fun u => F_X9_warm o1 i2 i3 u) rfl (Nat.le_of_ble_eq_true rfl) (fun u0 z p e s m args below meth c ls A hF hC hr hlk hH hl => ?_)
  have hl : lv_has ls 13 [(0, .ref (ρ o1)), (1, .int i2), (2, .int i3)] := hl
  have hx := hC.1.1
  have hb := hC.1.2.1
  have hF : F_X9_warm o1 i2 i3 u0 = some z := hF
  unfold F_X9_warm at hF
  change W p l e (wRm 1 22) s m args below meth c s.heap [] 0 0 (wQL below args s A D κ ρ 1 z) (F0 m 0 ls [])
  have key : ∀ (H : Heap) (locs : List Loc), wHp D κ ρ 1 A s.heap H locs u0 → W p l e (wRm 1 22) s m args below meth c H locs 0 0 (wQL below args s A D κ ρ 1 z) (F0 m 0 ls []) := by
    intro H locs hH
    refine lv_aload_n hx hb dX9_warm_0 rfl (lv_at hl 0 rfl) ?_
    refine lv_iconst hx hb dX9_warm_1 k_iconst_0 ?_
    refine wx_putI hC hH h_o1 rfl f_X9_142 g_9_2 dX9_warm_2 hF (fun u4 H locs hF hH => ?_)
    refine lv_iload_n hx hb dX9_warm_5 rfl (lv_at hl 1 rfl) ?_
    refine lv_iconst hx hb dX9_warm_6 k_iconst_0 ?_
    refine lv_bipush hx hb dX9_warm_7 k_bipush_6 ?_
    refine wx_psi hC hH hl (c_X9_isIn i2 (0 : Int32) (6 : Int32)) y_X9_isIn v_X9_isIn m_X9_187 rfl ⟨Nat.le_of_ble_eq_true rfl, Nat.le_of_ble_eq_true rfl⟩ ⟨Nat.le_refl _, Nat.le_refl _⟩ rfl (Nat.le_of_ble_eq_true rfl) dX9_warm_9 hF (fun i5 H locs hF hH => ?_)
    obtain ⟨q6_, hF, hq6⟩ := wJ_some hF
    have hJ24 : ∀ (u7 : wSt) (H : Heap) (locs : List Loc) (ls : Array Slot), F_X9_warm_j24 u7 = some z → wHp D κ ρ 1 A s.heap H locs u7 → lv_has ls 13 [] → W p l e (wRm 1 22) s m args below meth c H locs 0 0 (wQL below args s A D κ ρ 1 z) (F0 m 24 ls []) := by
      intro u7 H locs ls hF hH hl
      unfold F_X9_warm_j24 at hF
      refine lv_ldc2 hx hb hC.1.2.2.2.1 (hC.1.2.2.2.2 _ l_X9_521) dX9_warm_24 ?_
      exact wx_lret hC hH hr hlk dX9_warm_27 hF
    refine lv_if_eq hx hb dX9_warm_12 (tgt := 24) rfl (fun h => ?_) (fun h => ?_)
    · have hF := wx_t h hF
      have hF := wJ_l hq6 hF
      exact hJ24 u4 H locs ls hF hH (lv_sub hl [] rfl)
    have hF := wx_f h hF
    refine lv_iload_n hx hb dX9_warm_15 rfl (lv_at hl 2 rfl) ?_
    refine lv_iconst hx hb dX9_warm_16 k_iconst_0 ?_
    refine lv_iconst hx hb dX9_warm_17 k_iconst_1 ?_
    refine wx_psi hC hH hl (c_X9_isIn i3 (0 : Int32) (1 : Int32)) y_X9_isIn v_X9_isIn m_X9_187 rfl ⟨Nat.le_of_ble_eq_true rfl, Nat.le_of_ble_eq_true rfl⟩ ⟨Nat.le_refl _, Nat.le_refl _⟩ rfl (Nat.le_of_ble_eq_true rfl) dX9_warm_18 hF (fun i8 H locs hF hH => ?_)
    refine lv_if_ne hx hb dX9_warm_21 (tgt := 28) rfl (fun h => ?_) (fun h => ?_)
    · have hF := wx_f h hF
      refine lv_lconst hx hb dX9_warm_28 k_lconst_1 ?_
      refine wx_lstore_n hx hb dX9_warm_29 rfl hl (by decide) (fun ls hl => ?_)
      have hl : lv_has ls 13 [(3, .long (1 : Int64)), (0, .ref (ρ o1)), (1, .int i2), (2, .int i3)] := hl
      refine lv_lconst hx hb dX9_warm_30 k_lconst_1 ?_
      refine wx_lstore hx hb dX9_warm_31 hl (by decide) (fun ls hl => ?_)
      have hl : lv_has ls 13 [(5, .long (1 : Int64)), (3, .long (1 : Int64)), (0, .ref (ρ o1)), (1, .int i2), (2, .int i3)] := hl
      refine lv_iconst hx hb dX9_warm_33 k_iconst_0 ?_
      refine wx_istore hx hb dX9_warm_34 hl (by decide) (fun ls hl => ?_)
      have hl : lv_has ls 13 [(7, .int (0 : Int32)), (5, .long (1 : Int64)), (3, .long (1 : Int64)), (0, .ref (ρ o1)), (1, .int i2), (2, .int i3)] := hl
      obtain ⟨q9_, hF, hq9⟩ := wJ_some hF
      have hJ69 : ∀ (q10 : Int64) (q11 : Int64) (H : Heap) (locs : List Loc) (ls : Array Slot), F_X9_warm_j69 i3 u4 q10 q11 = some q6_ → wHp D κ ρ 1 A s.heap H locs u4 → lv_has ls 13 [(2, .int i3), (3, .long q10), (5, .long q11)] → W p l e (wRm 1 22) s m args below meth c H locs 0 0 (wQL below args s A D κ ρ 1 z) (F0 m 69 ls []) := by
        intro q10 q11 H locs ls hF hH hl
        unfold F_X9_warm_j69 at hF
        refine lv_lload hx hb dX9_warm_69 (lv_at hl 2 rfl) ?_
        refine wx_lstore hx hb dX9_warm_71 hl (by decide) (fun ls hl => ?_)
        have hl : lv_has ls 13 [(7, .long q11), (2, .int i3), (3, .long q10), (5, .long q11)] := hl
        refine lv_lload_n hx hb dX9_warm_73 rfl (lv_at hl 2 rfl) ?_
        refine wx_lstore hx hb dX9_warm_74 hl (by decide) (fun ls hl => ?_)
        have hl : lv_has ls 13 [(9, .long q10), (7, .long q11), (2, .int i3), (3, .long q10), (5, .long q11)] := hl
        obtain ⟨q12_, hF, hq12⟩ := wJ_some hF
        have hJ101 : ∀ (q13 : Int64) (H : Heap) (locs : List Loc) (ls : Array Slot), F_X9_warm_j101 i3 q10 u4 q11 q13 = some q6_ → wHp D κ ρ 1 A s.heap H locs u4 → lv_has ls 13 [(2, .int i3), (3, .long q10), (5, .long q11), (7, .long q13)] → W p l e (wRm 1 22) s m args below meth c H locs 0 0 (wQL below args s A D κ ρ 1 z) (F0 m 101 ls []) := by
          intro q13 H locs ls hF hH hl
          unfold F_X9_warm_j101 at hF
          refine lv_iload_n hx hb dX9_warm_101 rfl (lv_at hl 0 rfl) ?_
          refine lv_if_ne hx hb dX9_warm_102 (tgt := 112) rfl (fun h => ?_) (fun h => ?_)
          · have hF := wx_f h hF
            refine lv_lload hx hb dX9_warm_112 (lv_at hl 2 rfl) ?_
            refine lv_lload hx hb dX9_warm_114 (lv_at hl 3 rfl) ?_
            obtain ⟨h0, hF⟩ := wG_some hF
            refine lv_ldiv hx hb dX9_warm_116 h0 ?_
            have hF := wJ_r hq6 hF
            exact wx_lret hC hH hr hlk dX9_warm_117 hF
          have hF := wx_t h hF
          refine lv_lload_n hx hb dX9_warm_105 rfl (lv_at hl 1 rfl) ?_
          refine lv_lload hx hb dX9_warm_106 (lv_at hl 3 rfl) ?_
          obtain ⟨h0, hF⟩ := wG_some hF
          refine lv_ldiv hx hb dX9_warm_108 h0 ?_
          refine lv_goto hx hb dX9_warm_109 (tgt := 117) rfl ?_
          have hF := wJ_r hq6 hF
          exact wx_lret hC hH hr hlk dX9_warm_117 hF
        have hL76 : ∀ (k14_ : Nat) (q15 : Int64) (q16 : Int64) (H : Heap) (locs : List Loc) (ls : Array Slot), wL (S := Int64 × Int64) (fun x => F_X9_warm_b76 x.1 x.2) k14_ (q15, q16) = some q12_ → wHp D κ ρ 1 A s.heap H locs u4 → lv_has ls 13 [(2, .int i3), (3, .long q10), (5, .long q11), (7, .long q15), (9, .long q16)] → W p l e (wRm 1 22) s m args below meth c H locs 0 0 (wQL below args s A D κ ρ 1 z) (F0 m 76 ls []) := by
          intro k14_
          induction k14_ with
          | zero => intro q15 q16 H locs ls hF; exact wL_zero hF
          | succ k14_ ih14 =>
            intro q15 q16 H locs ls hF hH hl
            obtain ⟨q14_, hF, hq14⟩ := wL_some hF
            have hF : F_X9_warm_b76 q15 q16 = some q14_ := hF
            unfold F_X9_warm_b76 at hF
            refine lv_lload hx hb dX9_warm_76 (lv_at hl 4 rfl) ?_
            refine lv_lconst hx hb dX9_warm_78 k_lconst_0 ?_
            refine W.lcmp hx hb dX9_warm_79 ?_
            refine lv_if_eq hx hb dX9_warm_80 (tgt := 101) rfl (fun h => ?_) (fun h => ?_)
            · have hF := wx_t h hF
              have hF := wJ_r hq14 hF
              have hF := wJ_l hq12 hF
              exact hJ101 q15 H locs ls hF hH (lv_sub hl [0, 1, 2, 3] rfl)
            have hF := wx_f h hF
            refine lv_lload hx hb dX9_warm_83 (lv_at hl 3 rfl) ?_
            refine lv_lload hx hb dX9_warm_85 (lv_at hl 4 rfl) ?_
            obtain ⟨h0, hF⟩ := wG_some hF
            refine wx_lrem hx hb dX9_warm_87 h0 ?_
            refine wx_letl hF (fun q17 hF => ?_)
            refine wx_lstore hx hb dX9_warm_88 hl (by decide) (fun ls hl => ?_)
            have hl : lv_has ls 13 [(11, .long q17), (2, .int i3), (3, .long q10), (5, .long q11), (7, .long q15), (9, .long q16)] := hl
            refine lv_lload hx hb dX9_warm_90 (lv_at hl 5 rfl) ?_
            refine wx_lstore hx hb dX9_warm_92 hl (by decide) (fun ls hl => ?_)
            have hl : lv_has ls 13 [(7, .long q16), (11, .long q17), (2, .int i3), (3, .long q10), (5, .long q11), (9, .long q16)] := hl
            refine lv_lload hx hb dX9_warm_94 (lv_at hl 1 rfl) ?_
            refine wx_lstore hx hb dX9_warm_96 hl (by decide) (fun ls hl => ?_)
            have hl : lv_has ls 13 [(9, .long q17), (7, .long q16), (11, .long q17), (2, .int i3), (3, .long q10), (5, .long q11)] := hl
            refine lv_goto hx hb dX9_warm_98 (tgt := 76) rfl ?_
            have hF := wJ_l hq14 hF
            exact ih14 q16 q17 H locs ls hF hH (lv_sub hl [3, 4, 5, 1, 0] rfl)
        exact hL76 wFu q11 q10 H locs ls hF hH (lv_sub hl [2, 3, 4, 1, 0] rfl)
      have hL36 : ∀ (k18_ : Nat) (q19 : Int64) (q20 : Int64) (i21 : Int32) (H : Heap) (locs : List Loc) (ls : Array Slot), wL (S := Int64 × Int64 × Int32) (fun x => F_X9_warm_b36 i2 u4 o1 x.1 x.2.1 x.2.2) k18_ (q19, q20, i21) = some q9_ → wHp D κ ρ 1 A s.heap H locs u4 → lv_has ls 13 [(0, .ref (ρ o1)), (1, .int i2), (2, .int i3), (3, .long q19), (5, .long q20), (7, .int i21)] → W p l e (wRm 1 22) s m args below meth c H locs 0 0 (wQL below args s A D κ ρ 1 z) (F0 m 36 ls []) := by
        intro k18_
        induction k18_ with
        | zero => intro q19 q20 i21 H locs ls hF; exact wL_zero hF
        | succ k18_ ih18 =>
          intro q19 q20 i21 H locs ls hF hH hl
          obtain ⟨q18_, hF, hq18⟩ := wL_some hF
          have hF : F_X9_warm_b36 i2 u4 o1 q19 q20 i21 = some q18_ := hF
          unfold F_X9_warm_b36 at hF
          refine lv_iload hx hb dX9_warm_36 (lv_at hl 5 rfl) ?_
          refine lv_iload_n hx hb dX9_warm_38 rfl (lv_at hl 1 rfl) ?_
          refine lv_icmp_ge hx hb dX9_warm_39 (tgt := 69) rfl (fun h => ?_) (fun h => ?_)
          · have hF := wx_t h hF
            have hF := wJ_r hq18 hF
            have hF := wJ_l hq9 hF
            exact hJ69 q19 q20 H locs ls hF hH (lv_sub hl [2, 3, 4] rfl)
          have hF := wx_f h hF
          refine lv_lload_n hx hb dX9_warm_42 rfl (lv_at hl 3 rfl) ?_
          refine lv_bipush hx hb dX9_warm_43 k_bipush_100 ?_
          refine lv_aload_n hx hb dX9_warm_45 rfl (lv_at hl 0 rfl) ?_
          refine wx_getR hC hH h_o1 rfl f_X9_24 dX9_warm_46 hF (fun o22 h_o22 hF => ?_)
          refine lv_iconst hx hb dX9_warm_49 k_iconst_1 ?_
          refine wx_iald hC hH h_o22 ⟨rfl, rfl⟩ dX9_warm_50 hF (fun j23 hF => ?_)
          refine lv_isub hx hb dX9_warm_51 ?_
          refine lv_i2l hx hb dX9_warm_52 rfl ?_
          refine lv_lmul hx hb dX9_warm_53 ?_
          refine wx_letl hF (fun q24 hF => ?_)
          refine wx_lstore_n hx hb dX9_warm_54 rfl hl (by decide) (fun ls hl => ?_)
          have hl : lv_has ls 13 [(3, .long q24), (0, .ref (ρ o1)), (1, .int i2), (2, .int i3), (5, .long q20), (7, .int i21)] := hl
          refine lv_lload hx hb dX9_warm_55 (lv_at hl 4 rfl) ?_
          refine lv_ldc2 hx hb hC.1.2.2.2.1 (hC.1.2.2.2.2 _ l_X9_523) dX9_warm_57 ?_
          refine lv_lmul hx hb dX9_warm_60 ?_
          refine wx_letl hF (fun q25 hF => ?_)
          refine wx_lstore hx hb dX9_warm_61 hl (by decide) (fun ls hl => ?_)
          have hl : lv_has ls 13 [(5, .long q25), (3, .long q24), (0, .ref (ρ o1)), (1, .int i2), (2, .int i3), (7, .int i21)] := hl
          refine wx_iinc hx hb dX9_warm_63 k_iconst_1 hl (k := 5) rfl (by decide) hF (fun i26 ls hF hl => ?_)
          have hl : lv_has ls 13 [(7, .int i26), (5, .long q25), (3, .long q24), (0, .ref (ρ o1)), (1, .int i2), (2, .int i3)] := hl
          refine lv_goto hx hb dX9_warm_66 (tgt := 36) rfl ?_
          have hF := wJ_l hq18 hF
          exact ih18 q24 q25 i26 H locs ls hF hH (lv_sub hl [3, 4, 5, 2, 1, 0] rfl)
      exact hL36 wFu (1 : Int64) (1 : Int64) (0 : Int32) H locs ls hF hH (lv_sub hl [3, 4, 5, 2, 1, 0] rfl)
    have hF := wx_t h hF
    have hF := wJ_l hq6 hF
    exact hJ24 u4 H locs ls hF hH (lv_sub hl [] rfl)
  exact key _ _ hH
def F_X9_bowl_j36 (i5 : Int32) (u6 : wSt) : Option (Int32 × wSt) :=
  if 0 ≤ i5 then (some (i5, u6)) else (some ((-2 : Int32), u6))
def F_X9_bowl (o1 : Nat) (u0 : wSt) : Option (Int32 × wSt) :=
  wB (w_sI u0 o1 2 (0 : Int32)) (fun (u2 : wSt) => wC (F_X9_plainTried o1 u2) (fun _ (u3 : wSt) => wJ (X := Int32 × wSt) (if (u3.1 o1 12) = 0 then (some (.inl ((-1 : Int32), u3))) else (wR (u3.2.2 o1 57) 14 (fun o7 => wN (0 : Int32) o7 (fun j8 => wG (¬ (u3.1 o1 12) = 0) (wP (F_X9_sitsAt o1 (0 : Int32) (w_rem (u3.1 o7 j8) (u3.1 o1 12)) u3) (fun (i9 : Int32) => some (.inl (i9, u3)))))))) (fun x => F_X9_bowl_j36 x.1 x.2)))
set_option maxRecDepth 100000 in
set_option maxHeartbeats 4000000 in
theorem c_X9_bowl {l : Launch} {D : va_G} {κ : Nat → ClassId} {ρ : Nat → Nat} (o1 : Nat) (h_o1 : (w_sh o1).1 = 9) : wMI l yX9_bowl cX9_bowl 2 .int (wRm 3 66) [.ref (ρ o1)] D κ ρ 1 (fun u => F_X9_bowl o1 u) := by
  refine wMI_of (F := fun u => F_X9_bowl o1 u) rfl (Nat.le_of_ble_eq_true rfl) (fun u0 z p e s m args below meth c ls A hF hC hr hlk hH hl => ?_)
  have hl : lv_has ls 2 [(0, .ref (ρ o1))] := hl
  have hx := hC.1.1
  have hb := hC.1.2.1
  have hF : F_X9_bowl o1 u0 = some z := hF
  unfold F_X9_bowl at hF
  change W p l e (wRm 3 66) s m args below meth c s.heap [] 0 0 (wQI below args s A D κ ρ 1 z) (F0 m 0 ls [])
  have key : ∀ (H : Heap) (locs : List Loc), wHp D κ ρ 1 A s.heap H locs u0 → W p l e (wRm 3 66) s m args below meth c H locs 0 0 (wQI below args s A D κ ρ 1 z) (F0 m 0 ls []) := by
    intro H locs hH
    refine lv_aload_n hx hb dX9_bowl_0 rfl (lv_at hl 0 rfl) ?_
    refine lv_iconst hx hb dX9_bowl_1 k_iconst_0 ?_
    refine wx_putI hC hH h_o1 rfl f_X9_142 g_9_2 dX9_bowl_2 hF (fun u2 H locs hF hH => ?_)
    refine lv_aload_n hx hb dX9_bowl_5 rfl (lv_at hl 0 rfl) ?_
    refine wx_evv hC hH hl (c_X9_plainTried o1 h_o1) y_X9_plainTried v_X9_plainTried h_o1 rfl m_X9_341 rfl ⟨Nat.le_of_ble_eq_true rfl, Nat.le_of_ble_eq_true rfl⟩ ⟨Nat.le_refl _, Nat.le_refl _⟩ rfl (Nat.le_of_ble_eq_true rfl) dX9_bowl_6 hF (fun _ u3 H locs hF hH => ?_)
    refine lv_aload_n hx hb dX9_bowl_9 rfl (lv_at hl 0 rfl) ?_
    refine wx_getI hC hH h_o1 rfl f_X9_219 dX9_bowl_10 ?_
    obtain ⟨q4_, hF, hq4⟩ := wJ_some hF
    have hJ36 : ∀ (i5 : Int32) (u6 : wSt) (H : Heap) (locs : List Loc) (ls : Array Slot), F_X9_bowl_j36 i5 u6 = some z → wHp D κ ρ 1 A s.heap H locs u6 → lv_has ls 2 [] → W p l e (wRm 3 66) s m args below meth c H locs 0 0 (wQI below args s A D κ ρ 1 z) (F0 m 36 ls [.int i5]) := by
      intro i5 u6 H locs ls hF hH hl
      unfold F_X9_bowl_j36 at hF
      refine wx_istore_n hx hb dX9_bowl_36 rfl hl (by decide) (fun ls hl => ?_)
      have hl : lv_has ls 2 [(1, .int i5)] := hl
      refine lv_iload_n hx hb dX9_bowl_37 rfl (lv_at hl 0 rfl) ?_
      refine lv_if_ge hx hb dX9_bowl_38 (tgt := 46) rfl (fun h => ?_) (fun h => ?_)
      · have hF := wx_t h hF
        refine lv_iload_n hx hb dX9_bowl_46 rfl (lv_at hl 0 rfl) ?_
        exact wx_iret hC hH hr hlk dX9_bowl_47 hF
      have hF := wx_f h hF
      refine lv_bipush hx hb dX9_bowl_41 k_bipush_m2 ?_
      refine lv_goto hx hb dX9_bowl_43 (tgt := 47) rfl ?_
      exact wx_iret hC hH hr hlk dX9_bowl_47 hF
    refine lv_if_ne hx hb dX9_bowl_13 (tgt := 20) rfl (fun h => ?_) (fun h => ?_)
    · have hF := wx_f h hF
      refine lv_aload_n hx hb dX9_bowl_20 rfl (lv_at hl 0 rfl) ?_
      refine lv_iconst hx hb dX9_bowl_21 k_iconst_0 ?_
      refine lv_aload_n hx hb dX9_bowl_22 rfl (lv_at hl 0 rfl) ?_
      refine wx_getR hC hH h_o1 rfl f_X9_112 dX9_bowl_23 hF (fun o7 h_o7 hF => ?_)
      refine lv_iconst hx hb dX9_bowl_26 k_iconst_0 ?_
      refine wx_iald hC hH h_o7 ⟨rfl, rfl⟩ dX9_bowl_27 hF (fun j8 hF => ?_)
      refine lv_aload_n hx hb dX9_bowl_28 rfl (lv_at hl 0 rfl) ?_
      refine wx_getI hC hH h_o1 rfl f_X9_219 dX9_bowl_29 ?_
      obtain ⟨h0, hF⟩ := wG_some hF
      refine wx_irem hx hb dX9_bowl_32 h0 ?_
      refine wx_pvi hC hH hl (c_X9_sitsAt o1 (0 : Int32) (w_rem (u3.1 o7 j8) (u3.1 o1 12)) h_o1) y_X9_sitsAt v_X9_sitsAt h_o1 rfl m_X9_437 rfl ⟨Nat.le_of_ble_eq_true rfl, Nat.le_of_ble_eq_true rfl⟩ ⟨Nat.le_refl _, Nat.le_refl _⟩ rfl (Nat.le_of_ble_eq_true rfl) dX9_bowl_33 hF (fun i9 H locs hF hH => ?_)
      have hF := wJ_l hq4 hF
      exact hJ36 i9 u3 H locs ls hF hH (lv_sub hl [] rfl)
    have hF := wx_t h hF
    refine lv_iconst hx hb dX9_bowl_16 k_iconst_m1 ?_
    refine lv_goto hx hb dX9_bowl_17 (tgt := 36) rfl ?_
    have hF := wJ_l hq4 hF
    exact hJ36 (-1 : Int32) u3 H locs ls hF hH (lv_sub hl [] rfl)
  exact key _ _ hH
def F_X9_uppermost (o1 : Nat) (u0 : wSt) : Option (Int32 × wSt) :=
  wB (w_sI u0 o1 2 (0 : Int32)) (fun (u2 : wSt) => if (u2.1 o1 13) = 0 then (some ((-2 : Int32), u2)) else (wR (u2.2.2 o1 57) 14 (fun o3 => wN (0 : Int32) o3 (fun j4 => wG (¬ (u2.1 o1 13) = 0) (some ((w_rem (u2.1 o3 j4) (u2.1 o1 13)), u2))))))
set_option maxRecDepth 100000 in
set_option maxHeartbeats 4000000 in
theorem c_X9_uppermost {l : Launch} {D : va_G} {κ : Nat → ClassId} {ρ : Nat → Nat} (o1 : Nat) (h_o1 : (w_sh o1).1 = 9) : wMI l yX9_uppermost cX9_uppermost 1 .int (wRm 0 0) [.ref (ρ o1)] D κ ρ 1 (fun u => F_X9_uppermost o1 u) := by
  refine wMI_of (F := fun u => F_X9_uppermost o1 u) rfl (Nat.le_of_ble_eq_true rfl) (fun u0 z p e s m args below meth c ls A hF hC hr hlk hH hl => ?_)
  have hl : lv_has ls 1 [(0, .ref (ρ o1))] := hl
  have hx := hC.1.1
  have hb := hC.1.2.1
  have hF : F_X9_uppermost o1 u0 = some z := hF
  unfold F_X9_uppermost at hF
  change W p l e (wRm 0 0) s m args below meth c s.heap [] 0 0 (wQI below args s A D κ ρ 1 z) (F0 m 0 ls [])
  have key : ∀ (H : Heap) (locs : List Loc), wHp D κ ρ 1 A s.heap H locs u0 → W p l e (wRm 0 0) s m args below meth c H locs 0 0 (wQI below args s A D κ ρ 1 z) (F0 m 0 ls []) := by
    intro H locs hH
    refine lv_aload_n hx hb dX9_uppermost_0 rfl (lv_at hl 0 rfl) ?_
    refine lv_iconst hx hb dX9_uppermost_1 k_iconst_0 ?_
    refine wx_putI hC hH h_o1 rfl f_X9_142 g_9_2 dX9_uppermost_2 hF (fun u2 H locs hF hH => ?_)
    refine lv_aload_n hx hb dX9_uppermost_5 rfl (lv_at hl 0 rfl) ?_
    refine wx_getI hC hH h_o1 rfl f_X9_222 dX9_uppermost_6 ?_
    refine lv_if_ne hx hb dX9_uppermost_9 (tgt := 17) rfl (fun h => ?_) (fun h => ?_)
    · have hF := wx_f h hF
      refine lv_aload_n hx hb dX9_uppermost_17 rfl (lv_at hl 0 rfl) ?_
      refine wx_getR hC hH h_o1 rfl f_X9_112 dX9_uppermost_18 hF (fun o3 h_o3 hF => ?_)
      refine lv_iconst hx hb dX9_uppermost_21 k_iconst_0 ?_
      refine wx_iald hC hH h_o3 ⟨rfl, rfl⟩ dX9_uppermost_22 hF (fun j4 hF => ?_)
      refine lv_aload_n hx hb dX9_uppermost_23 rfl (lv_at hl 0 rfl) ?_
      refine wx_getI hC hH h_o1 rfl f_X9_222 dX9_uppermost_24 ?_
      obtain ⟨h0, hF⟩ := wG_some hF
      refine wx_irem hx hb dX9_uppermost_27 h0 ?_
      exact wx_iret hC hH hr hlk dX9_uppermost_28 hF
    have hF := wx_t h hF
    refine lv_bipush hx hb dX9_uppermost_12 k_bipush_m2 ?_
    refine lv_goto hx hb dX9_uppermost_14 (tgt := 28) rfl ?_
    exact wx_iret hC hH hr hlk dX9_uppermost_28 hF
  exact key _ _ hH
def F_X9_hungriest_j51 (i5 : Int32) (i10 : Int32) : Option ((Int32 × Int32) ⊕ (Int32 × wSt)) :=
  wB (i5 + (1 : Int32)) (fun (i11 : Int32) => some (.inl (i10, i11)))
def F_X9_hungriest_j50 (i4 : Int32) : Option ((Int32) ⊕ ((Int32 × Int32) ⊕ (Int32 × wSt))) :=
  some (.inl i4)
def F_X9_hungriest_j46 (i5 : Int32) : Option ((Unit) ⊕ ((Int32) ⊕ ((Int32 × Int32) ⊕ (Int32 × wSt)))) :=
  some (.inr (.inl i5))
def F_X9_hungriest_b10 (u2 : wSt) (o1 : Nat) (i4 : Int32) (i5 : Int32) : Option ((Int32 × Int32) ⊕ (Int32 × wSt)) :=
  if (u2.1 o1 12) ≤ i5 then (some (.inr (i4, u2))) else (wR (u2.2.2 o1 52) 15 (fun o6 => wN i5 o6 (fun j7 => wJ (X := Int32) (wJ (X := Unit) (if (u2.1 o6 j7) = 0 then (some (.inl ())) else (wJ (X := Unit) (if i4 < 0 then (some (.inl ())) else (wR (u2.2.2 o1 50) 14 (fun o13 => wN i5 o13 (fun j14 => wR (u2.2.2 o1 50) 14 (fun o15 => wN i4 o15 (fun j16 => if (u2.1 o13 j14) ≤ (u2.1 o15 j16) then (some (.inr (.inl ()))) else (some (.inl ())))))))) (fun x => F_X9_hungriest_j46 i5))) (fun x => F_X9_hungriest_j50 i4)) (fun x => F_X9_hungriest_j51 i5 x))))
def F_X9_hungriest (o1 : Nat) (u0 : wSt) : Option (Int32 × wSt) :=
  wB (w_sI u0 o1 2 (0 : Int32)) (fun (u2 : wSt) => wL (S := Int32 × Int32) (fun x => F_X9_hungriest_b10 u2 o1 x.1 x.2) wFu ((-2 : Int32), (0 : Int32)))
set_option maxRecDepth 100000 in
set_option maxHeartbeats 4000000 in
theorem c_X9_hungriest {l : Launch} {D : va_G} {κ : Nat → ClassId} {ρ : Nat → Nat} (o1 : Nat) (h_o1 : (w_sh o1).1 = 9) : wMI l yX9_hungriest cX9_hungriest 3 .int (wRm 0 0) [.ref (ρ o1)] D κ ρ 1 (fun u => F_X9_hungriest o1 u) := by
  refine wMI_of (F := fun u => F_X9_hungriest o1 u) rfl (Nat.le_of_ble_eq_true rfl) (fun u0 z p e s m args below meth c ls A hF hC hr hlk hH hl => ?_)
  have hl : lv_has ls 3 [(0, .ref (ρ o1))] := hl
  have hx := hC.1.1
  have hb := hC.1.2.1
  have hF : F_X9_hungriest o1 u0 = some z := hF
  unfold F_X9_hungriest at hF
  change W p l e (wRm 0 0) s m args below meth c s.heap [] 0 0 (wQI below args s A D κ ρ 1 z) (F0 m 0 ls [])
  have key : ∀ (H : Heap) (locs : List Loc), wHp D κ ρ 1 A s.heap H locs u0 → W p l e (wRm 0 0) s m args below meth c H locs 0 0 (wQI below args s A D κ ρ 1 z) (F0 m 0 ls []) := by
    intro H locs hH
    refine lv_aload_n hx hb dX9_hungriest_0 rfl (lv_at hl 0 rfl) ?_
    refine lv_iconst hx hb dX9_hungriest_1 k_iconst_0 ?_
    refine wx_putI hC hH h_o1 rfl f_X9_142 g_9_2 dX9_hungriest_2 hF (fun u2 H locs hF hH => ?_)
    refine lv_bipush hx hb dX9_hungriest_5 k_bipush_m2 ?_
    refine wx_istore_n hx hb dX9_hungriest_7 rfl hl (by decide) (fun ls hl => ?_)
    have hl : lv_has ls 3 [(1, .int (-2 : Int32)), (0, .ref (ρ o1))] := hl
    refine lv_iconst hx hb dX9_hungriest_8 k_iconst_0 ?_
    refine wx_istore_n hx hb dX9_hungriest_9 rfl hl (by decide) (fun ls hl => ?_)
    have hl : lv_has ls 3 [(2, .int (0 : Int32)), (1, .int (-2 : Int32)), (0, .ref (ρ o1))] := hl
    have hL10 : ∀ (k3_ : Nat) (i4 : Int32) (i5 : Int32) (H : Heap) (locs : List Loc) (ls : Array Slot), wL (S := Int32 × Int32) (fun x => F_X9_hungriest_b10 u2 o1 x.1 x.2) k3_ (i4, i5) = some z → wHp D κ ρ 1 A s.heap H locs u2 → lv_has ls 3 [(0, .ref (ρ o1)), (1, .int i4), (2, .int i5)] → W p l e (wRm 0 0) s m args below meth c H locs 0 0 (wQI below args s A D κ ρ 1 z) (F0 m 10 ls []) := by
      intro k3_
      induction k3_ with
      | zero => intro i4 i5 H locs ls hF; exact wL_zero hF
      | succ k3_ ih3 =>
        intro i4 i5 H locs ls hF hH hl
        obtain ⟨q3_, hF, hq3⟩ := wL_some hF
        have hF : F_X9_hungriest_b10 u2 o1 i4 i5 = some q3_ := hF
        unfold F_X9_hungriest_b10 at hF
        refine lv_iload_n hx hb dX9_hungriest_10 rfl (lv_at hl 2 rfl) ?_
        refine lv_aload_n hx hb dX9_hungriest_11 rfl (lv_at hl 0 rfl) ?_
        refine wx_getI hC hH h_o1 rfl f_X9_219 dX9_hungriest_12 ?_
        refine lv_icmp_ge hx hb dX9_hungriest_15 (tgt := 58) rfl (fun h => ?_) (fun h => ?_)
        · have hF := wx_t h hF
          refine lv_iload_n hx hb dX9_hungriest_58 rfl (lv_at hl 1 rfl) ?_
          have hF := wJ_r hq3 hF
          exact wx_iret hC hH hr hlk dX9_hungriest_59 hF
        have hF := wx_f h hF
        refine lv_aload_n hx hb dX9_hungriest_18 rfl (lv_at hl 0 rfl) ?_
        refine wx_getR hC hH h_o1 rfl f_X9_97 dX9_hungriest_19 hF (fun o6 h_o6 hF => ?_)
        refine lv_iload_n hx hb dX9_hungriest_22 rfl (lv_at hl 2 rfl) ?_
        refine wx_zald hC hH h_o6 ⟨rfl, rfl⟩ dX9_hungriest_23 hF (fun j7 hF => ?_)
        obtain ⟨q8_, hF, hq8⟩ := wJ_some hF
        obtain ⟨q9_, hF, hq9⟩ := wJ_some hF
        have hJ51 : ∀ (i10 : Int32) (H : Heap) (locs : List Loc) (ls : Array Slot), F_X9_hungriest_j51 i5 i10 = some q3_ → wHp D κ ρ 1 A s.heap H locs u2 → lv_has ls 3 [(0, .ref (ρ o1)), (2, .int i5)] → W p l e (wRm 0 0) s m args below meth c H locs 0 0 (wQI below args s A D κ ρ 1 z) (F0 m 51 ls [.int i10]) := by
          intro i10 H locs ls hF hH hl
          unfold F_X9_hungriest_j51 at hF
          refine wx_istore_n hx hb dX9_hungriest_51 rfl hl (by decide) (fun ls hl => ?_)
          have hl : lv_has ls 3 [(1, .int i10), (0, .ref (ρ o1)), (2, .int i5)] := hl
          refine wx_iinc hx hb dX9_hungriest_52 k_iconst_1 hl (k := 2) rfl (by decide) hF (fun i11 ls hF hl => ?_)
          have hl : lv_has ls 3 [(2, .int i11), (1, .int i10), (0, .ref (ρ o1))] := hl
          refine lv_goto hx hb dX9_hungriest_55 (tgt := 10) rfl ?_
          have hF := wJ_l hq3 hF
          exact ih3 i10 i11 H locs ls hF hH (lv_sub hl [2, 1, 0] rfl)
        have hJ50 : ∀ (H : Heap) (locs : List Loc) (ls : Array Slot), F_X9_hungriest_j50 i4 = some q8_ → wHp D κ ρ 1 A s.heap H locs u2 → lv_has ls 3 [(0, .ref (ρ o1)), (1, .int i4), (2, .int i5)] → W p l e (wRm 0 0) s m args below meth c H locs 0 0 (wQI below args s A D κ ρ 1 z) (F0 m 50 ls []) := by
          intro H locs ls hF hH hl
          unfold F_X9_hungriest_j50 at hF
          refine lv_iload_n hx hb dX9_hungriest_50 rfl (lv_at hl 1 rfl) ?_
          have hF := wJ_l hq8 hF
          exact hJ51 i4 H locs ls hF hH (lv_sub hl [0, 2] rfl)
        refine lv_if_eq hx hb dX9_hungriest_24 (tgt := 50) rfl (fun h => ?_) (fun h => ?_)
        · have hF := wx_t h hF
          have hF := wJ_l hq9 hF
          exact hJ50 H locs ls hF hH (lv_sub hl [0, 1, 2] rfl)
        have hF := wx_f h hF
        refine lv_iload_n hx hb dX9_hungriest_27 rfl (lv_at hl 1 rfl) ?_
        obtain ⟨q12_, hF, hq12⟩ := wJ_some hF
        have hJ46 : ∀ (H : Heap) (locs : List Loc) (ls : Array Slot), F_X9_hungriest_j46 i5 = some q9_ → wHp D κ ρ 1 A s.heap H locs u2 → lv_has ls 3 [(0, .ref (ρ o1)), (2, .int i5)] → W p l e (wRm 0 0) s m args below meth c H locs 0 0 (wQI below args s A D κ ρ 1 z) (F0 m 46 ls []) := by
          intro H locs ls hF hH hl
          unfold F_X9_hungriest_j46 at hF
          refine lv_iload_n hx hb dX9_hungriest_46 rfl (lv_at hl 1 rfl) ?_
          refine lv_goto hx hb dX9_hungriest_47 (tgt := 51) rfl ?_
          have hF := wJ_r hq9 hF
          have hF := wJ_l hq8 hF
          exact hJ51 i5 H locs ls hF hH (lv_sub hl [0, 1] rfl)
        refine lv_if_lt hx hb dX9_hungriest_28 (tgt := 46) rfl (fun h => ?_) (fun h => ?_)
        · have hF := wx_t h hF
          have hF := wJ_l hq12 hF
          exact hJ46 H locs ls hF hH (lv_sub hl [0, 2] rfl)
        have hF := wx_f h hF
        refine lv_aload_n hx hb dX9_hungriest_31 rfl (lv_at hl 0 rfl) ?_
        refine wx_getR hC hH h_o1 rfl f_X9_91 dX9_hungriest_32 hF (fun o13 h_o13 hF => ?_)
        refine lv_iload_n hx hb dX9_hungriest_35 rfl (lv_at hl 2 rfl) ?_
        refine wx_iald hC hH h_o13 ⟨rfl, rfl⟩ dX9_hungriest_36 hF (fun j14 hF => ?_)
        refine lv_aload_n hx hb dX9_hungriest_37 rfl (lv_at hl 0 rfl) ?_
        refine wx_getR hC hH h_o1 rfl f_X9_91 dX9_hungriest_38 hF (fun o15 h_o15 hF => ?_)
        refine lv_iload_n hx hb dX9_hungriest_41 rfl (lv_at hl 1 rfl) ?_
        refine wx_iald hC hH h_o15 ⟨rfl, rfl⟩ dX9_hungriest_42 hF (fun j16 hF => ?_)
        refine lv_icmp_le hx hb dX9_hungriest_43 (tgt := 50) rfl (fun h => ?_) (fun h => ?_)
        · have hF := wx_t h hF
          have hF := wJ_r hq12 hF
          have hF := wJ_l hq9 hF
          exact hJ50 H locs ls hF hH (lv_sub hl [0, 1, 2] rfl)
        have hF := wx_f h hF
        have hF := wJ_l hq12 hF
        exact hJ46 H locs ls hF hH (lv_sub hl [0, 2] rfl)
    exact hL10 wFu (-2 : Int32) (0 : Int32) H locs ls hF hH (lv_sub hl [2, 1, 0] rfl)
  exact key _ _ hH
def F_X9_rudest_j51 (i5 : Int32) (i10 : Int32) : Option ((Int32 × Int32) ⊕ (Int32 × wSt)) :=
  wB (i5 + (1 : Int32)) (fun (i11 : Int32) => some (.inl (i10, i11)))
def F_X9_rudest_j50 (i4 : Int32) : Option ((Int32) ⊕ ((Int32 × Int32) ⊕ (Int32 × wSt))) :=
  some (.inl i4)
def F_X9_rudest_j46 (i5 : Int32) : Option ((Unit) ⊕ ((Int32) ⊕ ((Int32 × Int32) ⊕ (Int32 × wSt)))) :=
  some (.inr (.inl i5))
def F_X9_rudest_b10 (u2 : wSt) (o1 : Nat) (i4 : Int32) (i5 : Int32) : Option ((Int32 × Int32) ⊕ (Int32 × wSt)) :=
  if (u2.1 o1 12) ≤ i5 then (some (.inr (i4, u2))) else (wR (u2.2.2 o1 52) 15 (fun o6 => wN i5 o6 (fun j7 => wJ (X := Int32) (wJ (X := Unit) (if (u2.1 o6 j7) = 0 then (some (.inl ())) else (wJ (X := Unit) (if i4 < 0 then (some (.inl ())) else (wR (u2.2.2 o1 49) 14 (fun o13 => wN i5 o13 (fun j14 => wR (u2.2.2 o1 49) 14 (fun o15 => wN i4 o15 (fun j16 => if (u2.1 o15 j16) ≤ (u2.1 o13 j14) then (some (.inr (.inl ()))) else (some (.inl ())))))))) (fun x => F_X9_rudest_j46 i5))) (fun x => F_X9_rudest_j50 i4)) (fun x => F_X9_rudest_j51 i5 x))))
def F_X9_rudest (o1 : Nat) (u0 : wSt) : Option (Int32 × wSt) :=
  wB (w_sI u0 o1 2 (0 : Int32)) (fun (u2 : wSt) => wL (S := Int32 × Int32) (fun x => F_X9_rudest_b10 u2 o1 x.1 x.2) wFu ((-2 : Int32), (0 : Int32)))
set_option maxRecDepth 100000 in
set_option maxHeartbeats 4000000 in
theorem c_X9_rudest {l : Launch} {D : va_G} {κ : Nat → ClassId} {ρ : Nat → Nat} (o1 : Nat) (h_o1 : (w_sh o1).1 = 9) : wMI l yX9_rudest cX9_rudest 3 .int (wRm 0 0) [.ref (ρ o1)] D κ ρ 1 (fun u => F_X9_rudest o1 u) := by
  refine wMI_of (F := fun u => F_X9_rudest o1 u) rfl (Nat.le_of_ble_eq_true rfl) (fun u0 z p e s m args below meth c ls A hF hC hr hlk hH hl => ?_)
  have hl : lv_has ls 3 [(0, .ref (ρ o1))] := hl
  have hx := hC.1.1
  have hb := hC.1.2.1
  have hF : F_X9_rudest o1 u0 = some z := hF
  unfold F_X9_rudest at hF
  change W p l e (wRm 0 0) s m args below meth c s.heap [] 0 0 (wQI below args s A D κ ρ 1 z) (F0 m 0 ls [])
  have key : ∀ (H : Heap) (locs : List Loc), wHp D κ ρ 1 A s.heap H locs u0 → W p l e (wRm 0 0) s m args below meth c H locs 0 0 (wQI below args s A D κ ρ 1 z) (F0 m 0 ls []) := by
    intro H locs hH
    refine lv_aload_n hx hb dX9_rudest_0 rfl (lv_at hl 0 rfl) ?_
    refine lv_iconst hx hb dX9_rudest_1 k_iconst_0 ?_
    refine wx_putI hC hH h_o1 rfl f_X9_142 g_9_2 dX9_rudest_2 hF (fun u2 H locs hF hH => ?_)
    refine lv_bipush hx hb dX9_rudest_5 k_bipush_m2 ?_
    refine wx_istore_n hx hb dX9_rudest_7 rfl hl (by decide) (fun ls hl => ?_)
    have hl : lv_has ls 3 [(1, .int (-2 : Int32)), (0, .ref (ρ o1))] := hl
    refine lv_iconst hx hb dX9_rudest_8 k_iconst_0 ?_
    refine wx_istore_n hx hb dX9_rudest_9 rfl hl (by decide) (fun ls hl => ?_)
    have hl : lv_has ls 3 [(2, .int (0 : Int32)), (1, .int (-2 : Int32)), (0, .ref (ρ o1))] := hl
    have hL10 : ∀ (k3_ : Nat) (i4 : Int32) (i5 : Int32) (H : Heap) (locs : List Loc) (ls : Array Slot), wL (S := Int32 × Int32) (fun x => F_X9_rudest_b10 u2 o1 x.1 x.2) k3_ (i4, i5) = some z → wHp D κ ρ 1 A s.heap H locs u2 → lv_has ls 3 [(0, .ref (ρ o1)), (1, .int i4), (2, .int i5)] → W p l e (wRm 0 0) s m args below meth c H locs 0 0 (wQI below args s A D κ ρ 1 z) (F0 m 10 ls []) := by
      intro k3_
      induction k3_ with
      | zero => intro i4 i5 H locs ls hF; exact wL_zero hF
      | succ k3_ ih3 =>
        intro i4 i5 H locs ls hF hH hl
        obtain ⟨q3_, hF, hq3⟩ := wL_some hF
        have hF : F_X9_rudest_b10 u2 o1 i4 i5 = some q3_ := hF
        unfold F_X9_rudest_b10 at hF
        refine lv_iload_n hx hb dX9_rudest_10 rfl (lv_at hl 2 rfl) ?_
        refine lv_aload_n hx hb dX9_rudest_11 rfl (lv_at hl 0 rfl) ?_
        refine wx_getI hC hH h_o1 rfl f_X9_219 dX9_rudest_12 ?_
        refine lv_icmp_ge hx hb dX9_rudest_15 (tgt := 58) rfl (fun h => ?_) (fun h => ?_)
        · have hF := wx_t h hF
          refine lv_iload_n hx hb dX9_rudest_58 rfl (lv_at hl 1 rfl) ?_
          have hF := wJ_r hq3 hF
          exact wx_iret hC hH hr hlk dX9_rudest_59 hF
        have hF := wx_f h hF
        refine lv_aload_n hx hb dX9_rudest_18 rfl (lv_at hl 0 rfl) ?_
        refine wx_getR hC hH h_o1 rfl f_X9_97 dX9_rudest_19 hF (fun o6 h_o6 hF => ?_)
        refine lv_iload_n hx hb dX9_rudest_22 rfl (lv_at hl 2 rfl) ?_
        refine wx_zald hC hH h_o6 ⟨rfl, rfl⟩ dX9_rudest_23 hF (fun j7 hF => ?_)
        obtain ⟨q8_, hF, hq8⟩ := wJ_some hF
        obtain ⟨q9_, hF, hq9⟩ := wJ_some hF
        have hJ51 : ∀ (i10 : Int32) (H : Heap) (locs : List Loc) (ls : Array Slot), F_X9_rudest_j51 i5 i10 = some q3_ → wHp D κ ρ 1 A s.heap H locs u2 → lv_has ls 3 [(0, .ref (ρ o1)), (2, .int i5)] → W p l e (wRm 0 0) s m args below meth c H locs 0 0 (wQI below args s A D κ ρ 1 z) (F0 m 51 ls [.int i10]) := by
          intro i10 H locs ls hF hH hl
          unfold F_X9_rudest_j51 at hF
          refine wx_istore_n hx hb dX9_rudest_51 rfl hl (by decide) (fun ls hl => ?_)
          have hl : lv_has ls 3 [(1, .int i10), (0, .ref (ρ o1)), (2, .int i5)] := hl
          refine wx_iinc hx hb dX9_rudest_52 k_iconst_1 hl (k := 2) rfl (by decide) hF (fun i11 ls hF hl => ?_)
          have hl : lv_has ls 3 [(2, .int i11), (1, .int i10), (0, .ref (ρ o1))] := hl
          refine lv_goto hx hb dX9_rudest_55 (tgt := 10) rfl ?_
          have hF := wJ_l hq3 hF
          exact ih3 i10 i11 H locs ls hF hH (lv_sub hl [2, 1, 0] rfl)
        have hJ50 : ∀ (H : Heap) (locs : List Loc) (ls : Array Slot), F_X9_rudest_j50 i4 = some q8_ → wHp D κ ρ 1 A s.heap H locs u2 → lv_has ls 3 [(0, .ref (ρ o1)), (1, .int i4), (2, .int i5)] → W p l e (wRm 0 0) s m args below meth c H locs 0 0 (wQI below args s A D κ ρ 1 z) (F0 m 50 ls []) := by
          intro H locs ls hF hH hl
          unfold F_X9_rudest_j50 at hF
          refine lv_iload_n hx hb dX9_rudest_50 rfl (lv_at hl 1 rfl) ?_
          have hF := wJ_l hq8 hF
          exact hJ51 i4 H locs ls hF hH (lv_sub hl [0, 2] rfl)
        refine lv_if_eq hx hb dX9_rudest_24 (tgt := 50) rfl (fun h => ?_) (fun h => ?_)
        · have hF := wx_t h hF
          have hF := wJ_l hq9 hF
          exact hJ50 H locs ls hF hH (lv_sub hl [0, 1, 2] rfl)
        have hF := wx_f h hF
        refine lv_iload_n hx hb dX9_rudest_27 rfl (lv_at hl 1 rfl) ?_
        obtain ⟨q12_, hF, hq12⟩ := wJ_some hF
        have hJ46 : ∀ (H : Heap) (locs : List Loc) (ls : Array Slot), F_X9_rudest_j46 i5 = some q9_ → wHp D κ ρ 1 A s.heap H locs u2 → lv_has ls 3 [(0, .ref (ρ o1)), (2, .int i5)] → W p l e (wRm 0 0) s m args below meth c H locs 0 0 (wQI below args s A D κ ρ 1 z) (F0 m 46 ls []) := by
          intro H locs ls hF hH hl
          unfold F_X9_rudest_j46 at hF
          refine lv_iload_n hx hb dX9_rudest_46 rfl (lv_at hl 1 rfl) ?_
          refine lv_goto hx hb dX9_rudest_47 (tgt := 51) rfl ?_
          have hF := wJ_r hq9 hF
          have hF := wJ_l hq8 hF
          exact hJ51 i5 H locs ls hF hH (lv_sub hl [0, 1] rfl)
        refine lv_if_lt hx hb dX9_rudest_28 (tgt := 46) rfl (fun h => ?_) (fun h => ?_)
        · have hF := wx_t h hF
          have hF := wJ_l hq12 hF
          exact hJ46 H locs ls hF hH (lv_sub hl [0, 2] rfl)
        have hF := wx_f h hF
        refine lv_aload_n hx hb dX9_rudest_31 rfl (lv_at hl 0 rfl) ?_
        refine wx_getR hC hH h_o1 rfl f_X9_88 dX9_rudest_32 hF (fun o13 h_o13 hF => ?_)
        refine lv_iload_n hx hb dX9_rudest_35 rfl (lv_at hl 2 rfl) ?_
        refine wx_iald hC hH h_o13 ⟨rfl, rfl⟩ dX9_rudest_36 hF (fun j14 hF => ?_)
        refine lv_aload_n hx hb dX9_rudest_37 rfl (lv_at hl 0 rfl) ?_
        refine wx_getR hC hH h_o1 rfl f_X9_88 dX9_rudest_38 hF (fun o15 h_o15 hF => ?_)
        refine lv_iload_n hx hb dX9_rudest_41 rfl (lv_at hl 1 rfl) ?_
        refine wx_iald hC hH h_o15 ⟨rfl, rfl⟩ dX9_rudest_42 hF (fun j16 hF => ?_)
        refine lv_icmp_ge hx hb dX9_rudest_43 (tgt := 50) rfl (fun h => ?_) (fun h => ?_)
        · have hF := wx_t h hF
          have hF := wJ_r hq12 hF
          have hF := wJ_l hq9 hF
          exact hJ50 H locs ls hF hH (lv_sub hl [0, 1, 2] rfl)
        have hF := wx_f h hF
        have hF := wJ_l hq12 hF
        exact hJ46 H locs ls hF hH (lv_sub hl [0, 2] rfl)
    exact hL10 wFu (-2 : Int32) (0 : Int32) H locs ls hF hH (lv_sub hl [2, 1, 0] rfl)
  exact key _ _ hH

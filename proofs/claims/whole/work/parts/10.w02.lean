def F_X5_readSign_j95 (u9 : wSt) (o1 : Nat) (i8 : Int32) : Option (Unit × wSt) :=
  if (u9.1 o1 0) = (25 : Int32) then (if i8 = (61 : Int32) then (wB (w_sI u9 o1 0 (24 : Int32)) (fun (u11 : wSt) => wB (w_sI u11 o1 5 ((u11.1 o1 5) + (1 : Int32))) (fun (u12 : wSt) => some ((), u12)))) else (some ((), u9))) else (some ((), u9))
def F_X5_readSign_j61 (o1 : Nat) (i8 : Int32) (u9 : wSt) : Option (Unit × wSt) :=
  wJ (X := Unit) (if (u9.1 o1 0) = (20 : Int32) then (if i8 = (62 : Int32) then (wB (w_sI u9 o1 0 (23 : Int32)) (fun (u13 : wSt) => wB (w_sI u13 o1 5 ((u13.1 o1 5) + (1 : Int32))) (fun (u14 : wSt) => some (.inr ((), u14))))) else (some (.inl ()))) else (some (.inl ()))) (fun x => F_X5_readSign_j95 u9 o1 i8)
def F_X5_readSign (o1 : Nat) (i2 : Int32) (u0 : wSt) : Option (Unit × wSt) :=
  wB (w_sI u0 o1 5 ((u0.1 o1 5) + (1 : Int32))) (fun (u3 : wSt) => wP (F_X5_kindOfSign i2 u3) (fun (i4 : Int32) => wB (w_sI u3 o1 0 i4) (fun (u5 : wSt) => wP (F_X5_signAt o1 (u5.1 o1 5) u5) (fun (i6 : Int32) => wJ (X := Int32 × wSt) (if (u5.1 o1 0) = (20 : Int32) then (if i6 = (61 : Int32) then (wB (w_sI u5 o1 0 (21 : Int32)) (fun (u15 : wSt) => wB (w_sI u15 o1 5 ((u15.1 o1 5) + (1 : Int32))) (fun (u16 : wSt) => some (.inr ((), u16))))) else (some (.inl (i6, u5)))) else (some (.inl (i6, u5)))) (fun x => F_X5_readSign_j61 o1 x.1 x.2)))))
set_option maxRecDepth 100000 in
set_option maxHeartbeats 4000000 in
theorem c_X5_readSign {l : Launch} {D : va_G} {κ : Nat → ClassId} {ρ : Nat → Nat} (o1 : Nat) (i2 : Int32) (h_o1 : (w_sh o1).1 = 5) : wMV l yX5_readSign cX5_readSign 3 (wRm 1 21) [.ref (ρ o1), .int i2] D κ ρ 0 (fun u => F_X5_readSign o1 i2 u) := by
  refine wMV_of (F := fun u => F_X5_readSign o1 i2 u) rfl (Nat.le_of_ble_eq_true rfl) (fun u0 z p e s m args below meth c ls A hF hC hr hlk hH hl => ?_)
  have hl : lv_has ls 3 [(0, .ref (ρ o1)), (1, .int i2)] := hl
  have hx := hC.1.1
  have hb := hC.1.2.1
  have hF : F_X5_readSign o1 i2 u0 = some z := hF
  unfold F_X5_readSign at hF
  change W p l e (wRm 1 21) s m args below meth c s.heap [] 0 0 (wQV below args s A D κ ρ 0 z) (F0 m 0 ls [])
  have key : ∀ (H : Heap) (locs : List Loc), wHp D κ ρ 0 A s.heap H locs u0 → W p l e (wRm 1 21) s m args below meth c H locs 0 0 (wQV below args s A D κ ρ 0 z) (F0 m 0 ls []) := by
    intro H locs hH
    refine lv_aload_n hx hb dX5_readSign_0 rfl (lv_at hl 0 rfl) ?_
    refine lv_dup hx hb dX5_readSign_1 rfl ?_
    refine wx_getI hC hH h_o1 rfl f_X5_24 dX5_readSign_2 ?_
    refine lv_iconst hx hb dX5_readSign_5 k_iconst_1 ?_
    refine lv_iadd hx hb dX5_readSign_6 ?_
    refine wx_putI hC hH h_o1 rfl f_X5_24 g_5_5 dX5_readSign_7 hF (fun u3 H locs hF hH => ?_)
    refine lv_aload_n hx hb dX5_readSign_10 rfl (lv_at hl 0 rfl) ?_
    refine lv_iload_n hx hb dX5_readSign_11 rfl (lv_at hl 1 rfl) ?_
    refine wx_psi hC hH hl (c_X5_kindOfSign i2) y_X5_kindOfSign v_X5_kindOfSign m_X5_98 rfl ⟨Nat.le_of_ble_eq_true rfl, Nat.le_of_ble_eq_true rfl⟩ ⟨Nat.le_refl _, Nat.le_refl _⟩ rfl (Nat.le_of_ble_eq_true rfl) dX5_readSign_12 hF (fun i4 H locs hF hH => ?_)
    refine wx_putI hC hH h_o1 rfl f_X5_9 g_5_0 dX5_readSign_15 hF (fun u5 H locs hF hH => ?_)
    refine lv_aload_n hx hb dX5_readSign_18 rfl (lv_at hl 0 rfl) ?_
    refine lv_aload_n hx hb dX5_readSign_19 rfl (lv_at hl 0 rfl) ?_
    refine wx_getI hC hH h_o1 rfl f_X5_24 dX5_readSign_20 ?_
    refine wx_pvi hC hH hl (c_X5_signAt o1 (u5.1 o1 5) h_o1) y_X5_signAt v_X5_signAt h_o1 rfl m_X5_73 rfl ⟨Nat.le_of_ble_eq_true rfl, Nat.le_of_ble_eq_true rfl⟩ ⟨Nat.le_refl _, Nat.le_refl _⟩ rfl (Nat.le_of_ble_eq_true rfl) dX5_readSign_23 hF (fun i6 H locs hF hH => ?_)
    refine wx_istore_n hx hb dX5_readSign_26 rfl hl (by decide) (fun ls hl => ?_)
    have hl : lv_has ls 3 [(2, .int i6), (0, .ref (ρ o1)), (1, .int i2)] := hl
    refine lv_aload_n hx hb dX5_readSign_27 rfl (lv_at hl 1 rfl) ?_
    refine wx_getI hC hH h_o1 rfl f_X5_9 dX5_readSign_28 ?_
    refine lv_bipush hx hb dX5_readSign_31 k_bipush_20 ?_
    obtain ⟨q7_, hF, hq7⟩ := wJ_some hF
    have hJ61 : ∀ (i8 : Int32) (u9 : wSt) (H : Heap) (locs : List Loc) (ls : Array Slot), F_X5_readSign_j61 o1 i8 u9 = some z → wHp D κ ρ 0 A s.heap H locs u9 → lv_has ls 3 [(0, .ref (ρ o1)), (2, .int i8)] → W p l e (wRm 1 21) s m args below meth c H locs 0 0 (wQV below args s A D κ ρ 0 z) (F0 m 61 ls []) := by
      intro i8 u9 H locs ls hF hH hl
      unfold F_X5_readSign_j61 at hF
      refine lv_aload_n hx hb dX5_readSign_61 rfl (lv_at hl 0 rfl) ?_
      refine wx_getI hC hH h_o1 rfl f_X5_9 dX5_readSign_62 ?_
      refine lv_bipush hx hb dX5_readSign_65 k_bipush_20 ?_
      obtain ⟨q10_, hF, hq10⟩ := wJ_some hF
      have hJ95 : ∀ (H : Heap) (locs : List Loc) (ls : Array Slot), F_X5_readSign_j95 u9 o1 i8 = some z → wHp D κ ρ 0 A s.heap H locs u9 → lv_has ls 3 [(0, .ref (ρ o1)), (2, .int i8)] → W p l e (wRm 1 21) s m args below meth c H locs 0 0 (wQV below args s A D κ ρ 0 z) (F0 m 95 ls []) := by
        intro H locs ls hF hH hl
        unfold F_X5_readSign_j95 at hF
        refine lv_aload_n hx hb dX5_readSign_95 rfl (lv_at hl 0 rfl) ?_
        refine wx_getI hC hH h_o1 rfl f_X5_9 dX5_readSign_96 ?_
        refine lv_bipush hx hb dX5_readSign_99 k_bipush_25 ?_
        refine lv_icmp_ne hx hb dX5_readSign_101 (tgt := 126) rfl (fun h => ?_) (fun h => ?_)
        · have hF := wx_f h hF
          exact wx_vret hC hH hr hlk dX5_readSign_126 hF
        have hF := wx_t h hF
        refine lv_iload_n hx hb dX5_readSign_104 rfl (lv_at hl 1 rfl) ?_
        refine lv_bipush hx hb dX5_readSign_105 k_bipush_61 ?_
        refine lv_icmp_ne hx hb dX5_readSign_107 (tgt := 126) rfl (fun h => ?_) (fun h => ?_)
        · have hF := wx_f h hF
          exact wx_vret hC hH hr hlk dX5_readSign_126 hF
        have hF := wx_t h hF
        refine lv_aload_n hx hb dX5_readSign_110 rfl (lv_at hl 0 rfl) ?_
        refine lv_bipush hx hb dX5_readSign_111 k_bipush_24 ?_
        refine wx_putI hC hH h_o1 rfl f_X5_9 g_5_0 dX5_readSign_113 hF (fun u11 H locs hF hH => ?_)
        refine lv_aload_n hx hb dX5_readSign_116 rfl (lv_at hl 0 rfl) ?_
        refine lv_dup hx hb dX5_readSign_117 rfl ?_
        refine wx_getI hC hH h_o1 rfl f_X5_24 dX5_readSign_118 ?_
        refine lv_iconst hx hb dX5_readSign_121 k_iconst_1 ?_
        refine lv_iadd hx hb dX5_readSign_122 ?_
        refine wx_putI hC hH h_o1 rfl f_X5_24 g_5_5 dX5_readSign_123 hF (fun u12 H locs hF hH => ?_)
        exact wx_vret hC hH hr hlk dX5_readSign_126 hF
      refine lv_icmp_ne hx hb dX5_readSign_67 (tgt := 95) rfl (fun h => ?_) (fun h => ?_)
      · have hF := wx_f h hF
        have hF := wJ_l hq10 hF
        exact hJ95 H locs ls hF hH (lv_sub hl [0, 1] rfl)
      have hF := wx_t h hF
      refine lv_iload_n hx hb dX5_readSign_70 rfl (lv_at hl 1 rfl) ?_
      refine lv_bipush hx hb dX5_readSign_71 k_bipush_62 ?_
      refine lv_icmp_ne hx hb dX5_readSign_73 (tgt := 95) rfl (fun h => ?_) (fun h => ?_)
      · have hF := wx_f h hF
        have hF := wJ_l hq10 hF
        exact hJ95 H locs ls hF hH (lv_sub hl [0, 1] rfl)
      have hF := wx_t h hF
      refine lv_aload_n hx hb dX5_readSign_76 rfl (lv_at hl 0 rfl) ?_
      refine lv_bipush hx hb dX5_readSign_77 k_bipush_23 ?_
      refine wx_putI hC hH h_o1 rfl f_X5_9 g_5_0 dX5_readSign_79 hF (fun u13 H locs hF hH => ?_)
      refine lv_aload_n hx hb dX5_readSign_82 rfl (lv_at hl 0 rfl) ?_
      refine lv_dup hx hb dX5_readSign_83 rfl ?_
      refine wx_getI hC hH h_o1 rfl f_X5_24 dX5_readSign_84 ?_
      refine lv_iconst hx hb dX5_readSign_87 k_iconst_1 ?_
      refine lv_iadd hx hb dX5_readSign_88 ?_
      refine wx_putI hC hH h_o1 rfl f_X5_24 g_5_5 dX5_readSign_89 hF (fun u14 H locs hF hH => ?_)
      refine lv_goto hx hb dX5_readSign_92 (tgt := 126) rfl ?_
      have hF := wJ_r hq10 hF
      exact wx_vret hC hH hr hlk dX5_readSign_126 hF
    refine lv_icmp_ne hx hb dX5_readSign_33 (tgt := 61) rfl (fun h => ?_) (fun h => ?_)
    · have hF := wx_f h hF
      have hF := wJ_l hq7 hF
      exact hJ61 i6 u5 H locs ls hF hH (lv_sub hl [1, 0] rfl)
    have hF := wx_t h hF
    refine lv_iload_n hx hb dX5_readSign_36 rfl (lv_at hl 0 rfl) ?_
    refine lv_bipush hx hb dX5_readSign_37 k_bipush_61 ?_
    refine lv_icmp_ne hx hb dX5_readSign_39 (tgt := 61) rfl (fun h => ?_) (fun h => ?_)
    · have hF := wx_f h hF
      have hF := wJ_l hq7 hF
      exact hJ61 i6 u5 H locs ls hF hH (lv_sub hl [1, 0] rfl)
    have hF := wx_t h hF
    refine lv_aload_n hx hb dX5_readSign_42 rfl (lv_at hl 1 rfl) ?_
    refine lv_bipush hx hb dX5_readSign_43 k_bipush_21 ?_
    refine wx_putI hC hH h_o1 rfl f_X5_9 g_5_0 dX5_readSign_45 hF (fun u15 H locs hF hH => ?_)
    refine lv_aload_n hx hb dX5_readSign_48 rfl (lv_at hl 1 rfl) ?_
    refine lv_dup hx hb dX5_readSign_49 rfl ?_
    refine wx_getI hC hH h_o1 rfl f_X5_24 dX5_readSign_50 ?_
    refine lv_iconst hx hb dX5_readSign_53 k_iconst_1 ?_
    refine lv_iadd hx hb dX5_readSign_54 ?_
    refine wx_putI hC hH h_o1 rfl f_X5_24 g_5_5 dX5_readSign_55 hF (fun u16 H locs hF hH => ?_)
    refine lv_goto hx hb dX5_readSign_58 (tgt := 126) rfl ?_
    have hF := wJ_r hq7 hF
    exact wx_vret hC hH hr hlk dX5_readSign_126 hF
  exact key _ _ hH
def F_X5_find_j50 (o1 : Nat) (u3 : wSt) : Option (Unit × wSt) :=
  wB (w_sI u3 o1 1 (u3.1 o1 5)) (fun (u4 : wSt) => wB (w_sI u4 o1 2 (0 : Int32)) (fun (u5 : wSt) => wP (F_X5_signAt o1 (u5.1 o1 5) u5) (fun (i6 : Int32) => if i6 = (-1 : Int32) then (wB (w_sI u5 o1 0 (35 : Int32)) (fun (u12 : wSt) => some ((), u12))) else (wP (F_X5_isLetter i6 u5) (fun (i7 : Int32) => if i7 = 0 then (wP (F_X5_isDigit i6 u5) (fun (i8 : Int32) => if i8 = 0 then (wC (F_X5_readSign o1 i6 u5) (fun _ (u9 : wSt) => some ((), u9))) else (wC (F_X5_readNumber o1 u5) (fun _ (u10 : wSt) => some ((), u10))))) else (wC (F_X5_readWord o1 u5) (fun _ (u11 : wSt) => some ((), u11))))))))
def F_X5_find_j37 (u14 : wSt) (o1 : Nat) : Option ((wSt) ⊕ ((wSt) ⊕ (Unit × wSt))) :=
  wB (w_sI u14 o1 5 ((u14.1 o1 5) + (1 : Int32))) (fun (u17 : wSt) => some (.inl u17))
def F_X5_find_b0 (o1 : Nat) (u14 : wSt) : Option ((wSt) ⊕ ((wSt) ⊕ (Unit × wSt))) :=
  if (u14.1 o1 4) ≤ (u14.1 o1 5) then (some (.inr (.inl u14))) else (wP (F_X5_signAt o1 (u14.1 o1 5) u14) (fun (i15 : Int32) => wJ (X := Unit) (if i15 = (32 : Int32) then (some (.inl ())) else (wP (F_X5_signAt o1 (u14.1 o1 5) u14) (fun (i18 : Int32) => if i18 = (10 : Int32) then (some (.inl ())) else (some (.inr (.inr (.inl u14))))))) (fun x => F_X5_find_j37 u14 o1)))
def F_X5_find (o1 : Nat) (u0 : wSt) : Option (Unit × wSt) :=
  wJ (X := wSt) (wL (S := wSt) (fun x => F_X5_find_b0 o1 x) wFu u0) (fun x => F_X5_find_j50 o1 x)
set_option maxRecDepth 100000 in
set_option maxHeartbeats 4000000 in
theorem c_X5_find {l : Launch} {D : va_G} {κ : Nat → ClassId} {ρ : Nat → Nat} (o1 : Nat) (h_o1 : (w_sh o1).1 = 5) : wMV l yX5_find cX5_find 2 (wRm 2 46) [.ref (ρ o1)] D κ ρ 0 (fun u => F_X5_find o1 u) := by
  refine wMV_of (F := fun u => F_X5_find o1 u) rfl (Nat.le_of_ble_eq_true rfl) (fun u0 z p e s m args below meth c ls A hF hC hr hlk hH hl => ?_)
  have hl : lv_has ls 2 [(0, .ref (ρ o1))] := hl
  have hx := hC.1.1
  have hb := hC.1.2.1
  have hF : F_X5_find o1 u0 = some z := hF
  unfold F_X5_find at hF
  change W p l e (wRm 2 46) s m args below meth c s.heap [] 0 0 (wQV below args s A D κ ρ 0 z) (F0 m 0 ls [])
  have key : ∀ (H : Heap) (locs : List Loc), wHp D κ ρ 0 A s.heap H locs u0 → W p l e (wRm 2 46) s m args below meth c H locs 0 0 (wQV below args s A D κ ρ 0 z) (F0 m 0 ls []) := by
    intro H locs hH
    obtain ⟨q2_, hF, hq2⟩ := wJ_some hF
    have hJ50 : ∀ (u3 : wSt) (H : Heap) (locs : List Loc) (ls : Array Slot), F_X5_find_j50 o1 u3 = some z → wHp D κ ρ 0 A s.heap H locs u3 → lv_has ls 2 [(0, .ref (ρ o1))] → W p l e (wRm 2 46) s m args below meth c H locs 0 0 (wQV below args s A D κ ρ 0 z) (F0 m 50 ls []) := by
      intro u3 H locs ls hF hH hl
      unfold F_X5_find_j50 at hF
      refine lv_aload_n hx hb dX5_find_50 rfl (lv_at hl 0 rfl) ?_
      refine lv_aload_n hx hb dX5_find_51 rfl (lv_at hl 0 rfl) ?_
      refine wx_getI hC hH h_o1 rfl f_X5_24 dX5_find_52 ?_
      refine wx_putI hC hH h_o1 rfl f_X5_15 g_5_1 dX5_find_55 hF (fun u4 H locs hF hH => ?_)
      refine lv_aload_n hx hb dX5_find_58 rfl (lv_at hl 0 rfl) ?_
      refine lv_iconst hx hb dX5_find_59 k_iconst_0 ?_
      refine wx_putI hC hH h_o1 rfl f_X5_18 g_5_2 dX5_find_60 hF (fun u5 H locs hF hH => ?_)
      refine lv_aload_n hx hb dX5_find_63 rfl (lv_at hl 0 rfl) ?_
      refine lv_aload_n hx hb dX5_find_64 rfl (lv_at hl 0 rfl) ?_
      refine wx_getI hC hH h_o1 rfl f_X5_24 dX5_find_65 ?_
      refine wx_pvi hC hH hl (c_X5_signAt o1 (u5.1 o1 5) h_o1) y_X5_signAt v_X5_signAt h_o1 rfl m_X5_73 rfl ⟨Nat.le_of_ble_eq_true rfl, Nat.le_of_ble_eq_true rfl⟩ ⟨Nat.le_refl _, Nat.le_refl _⟩ rfl (Nat.le_of_ble_eq_true rfl) dX5_find_68 hF (fun i6 H locs hF hH => ?_)
      refine wx_istore_n hx hb dX5_find_71 rfl hl (by decide) (fun ls hl => ?_)
      have hl : lv_has ls 2 [(1, .int i6), (0, .ref (ρ o1))] := hl
      refine lv_iload_n hx hb dX5_find_72 rfl (lv_at hl 0 rfl) ?_
      refine lv_iconst hx hb dX5_find_73 k_iconst_m1 ?_
      refine lv_icmp_ne hx hb dX5_find_74 (tgt := 86) rfl (fun h => ?_) (fun h => ?_)
      · have hF := wx_f h hF
        refine lv_iload_n hx hb dX5_find_86 rfl (lv_at hl 0 rfl) ?_
        refine wx_psi hC hH hl (c_X5_isLetter i6) y_X5_isLetter v_X5_isLetter m_X5_77 rfl ⟨Nat.le_of_ble_eq_true rfl, Nat.le_of_ble_eq_true rfl⟩ ⟨Nat.le_refl _, Nat.le_refl _⟩ rfl (Nat.le_of_ble_eq_true rfl) dX5_find_87 hF (fun i7 H locs hF hH => ?_)
        refine lv_if_eq hx hb dX5_find_90 (tgt := 100) rfl (fun h => ?_) (fun h => ?_)
        · have hF := wx_t h hF
          refine lv_iload_n hx hb dX5_find_100 rfl (lv_at hl 0 rfl) ?_
          refine wx_psi hC hH hl (c_X5_isDigit i6) y_X5_isDigit v_X5_isDigit m_X5_84 rfl ⟨Nat.le_of_ble_eq_true rfl, Nat.le_of_ble_eq_true rfl⟩ ⟨Nat.le_refl _, Nat.le_refl _⟩ rfl (Nat.le_of_ble_eq_true rfl) dX5_find_101 hF (fun i8 H locs hF hH => ?_)
          refine lv_if_eq hx hb dX5_find_104 (tgt := 114) rfl (fun h => ?_) (fun h => ?_)
          · have hF := wx_t h hF
            refine lv_aload_n hx hb dX5_find_114 rfl (lv_at hl 1 rfl) ?_
            refine lv_iload_n hx hb dX5_find_115 rfl (lv_at hl 0 rfl) ?_
            refine wx_evv hC hH hl (c_X5_readSign o1 i6 h_o1) y_X5_readSign v_X5_readSign h_o1 rfl m_X5_90 rfl ⟨Nat.le_of_ble_eq_true rfl, Nat.le_of_ble_eq_true rfl⟩ ⟨Nat.le_refl _, Nat.le_refl _⟩ rfl (Nat.le_of_ble_eq_true rfl) dX5_find_116 hF (fun _ u9 H locs hF hH => ?_)
            exact wx_vret hC hH hr hlk dX5_find_119 hF
          have hF := wx_f h hF
          refine lv_aload_n hx hb dX5_find_107 rfl (lv_at hl 1 rfl) ?_
          refine wx_evv hC hH hl (c_X5_readNumber o1 h_o1) y_X5_readNumber v_X5_readNumber h_o1 rfl m_X5_87 rfl ⟨Nat.le_of_ble_eq_true rfl, Nat.le_of_ble_eq_true rfl⟩ ⟨Nat.le_refl _, Nat.le_refl _⟩ rfl (Nat.le_of_ble_eq_true rfl) dX5_find_108 hF (fun _ u10 H locs hF hH => ?_)
          refine lv_goto hx hb dX5_find_111 (tgt := 119) rfl ?_
          exact wx_vret hC hH hr hlk dX5_find_119 hF
        have hF := wx_f h hF
        refine lv_aload_n hx hb dX5_find_93 rfl (lv_at hl 1 rfl) ?_
        refine wx_evv hC hH hl (c_X5_readWord o1 h_o1) y_X5_readWord v_X5_readWord h_o1 rfl m_X5_81 rfl ⟨Nat.le_of_ble_eq_true rfl, Nat.le_of_ble_eq_true rfl⟩ ⟨Nat.le_refl _, Nat.le_refl _⟩ rfl (Nat.le_of_ble_eq_true rfl) dX5_find_94 hF (fun _ u11 H locs hF hH => ?_)
        refine lv_goto hx hb dX5_find_97 (tgt := 119) rfl ?_
        exact wx_vret hC hH hr hlk dX5_find_119 hF
      have hF := wx_t h hF
      refine lv_aload_n hx hb dX5_find_77 rfl (lv_at hl 1 rfl) ?_
      refine lv_bipush hx hb dX5_find_78 k_bipush_35 ?_
      refine wx_putI hC hH h_o1 rfl f_X5_9 g_5_0 dX5_find_80 hF (fun u12 H locs hF hH => ?_)
      refine lv_goto hx hb dX5_find_83 (tgt := 119) rfl ?_
      exact wx_vret hC hH hr hlk dX5_find_119 hF
    have hL0 : ∀ (k13_ : Nat) (u14 : wSt) (H : Heap) (locs : List Loc) (ls : Array Slot), wL (S := wSt) (fun x => F_X5_find_b0 o1 x) k13_ u14 = some q2_ → wHp D κ ρ 0 A s.heap H locs u14 → lv_has ls 2 [(0, .ref (ρ o1))] → W p l e (wRm 2 46) s m args below meth c H locs 0 0 (wQV below args s A D κ ρ 0 z) (F0 m 0 ls []) := by
      intro k13_
      induction k13_ with
      | zero => intro u14 H locs ls hF; exact wL_zero hF
      | succ k13_ ih13 =>
        intro u14 H locs ls hF hH hl
        obtain ⟨q13_, hF, hq13⟩ := wL_some hF
        have hF : F_X5_find_b0 o1 u14 = some q13_ := hF
        unfold F_X5_find_b0 at hF
        refine lv_aload_n hx hb dX5_find_0 rfl (lv_at hl 0 rfl) ?_
        refine wx_getI hC hH h_o1 rfl f_X5_24 dX5_find_1 ?_
        refine lv_aload_n hx hb dX5_find_4 rfl (lv_at hl 0 rfl) ?_
        refine wx_getI hC hH h_o1 rfl f_X5_21 dX5_find_5 ?_
        refine lv_icmp_ge hx hb dX5_find_8 (tgt := 50) rfl (fun h => ?_) (fun h => ?_)
        · have hF := wx_t h hF
          have hF := wJ_r hq13 hF
          have hF := wJ_l hq2 hF
          exact hJ50 u14 H locs ls hF hH (lv_sub hl [0] rfl)
        have hF := wx_f h hF
        refine lv_aload_n hx hb dX5_find_11 rfl (lv_at hl 0 rfl) ?_
        refine lv_aload_n hx hb dX5_find_12 rfl (lv_at hl 0 rfl) ?_
        refine wx_getI hC hH h_o1 rfl f_X5_24 dX5_find_13 ?_
        refine wx_pvi hC hH hl (c_X5_signAt o1 (u14.1 o1 5) h_o1) y_X5_signAt v_X5_signAt h_o1 rfl m_X5_73 rfl ⟨Nat.le_of_ble_eq_true rfl, Nat.le_of_ble_eq_true rfl⟩ ⟨Nat.le_refl _, Nat.le_refl _⟩ rfl (Nat.le_of_ble_eq_true rfl) dX5_find_16 hF (fun i15 H locs hF hH => ?_)
        refine lv_bipush hx hb dX5_find_19 k_bipush_32 ?_
        obtain ⟨q16_, hF, hq16⟩ := wJ_some hF
        have hJ37 : ∀ (H : Heap) (locs : List Loc) (ls : Array Slot), F_X5_find_j37 u14 o1 = some q13_ → wHp D κ ρ 0 A s.heap H locs u14 → lv_has ls 2 [(0, .ref (ρ o1))] → W p l e (wRm 2 46) s m args below meth c H locs 0 0 (wQV below args s A D κ ρ 0 z) (F0 m 37 ls []) := by
          intro H locs ls hF hH hl
          unfold F_X5_find_j37 at hF
          refine lv_aload_n hx hb dX5_find_37 rfl (lv_at hl 0 rfl) ?_
          refine lv_dup hx hb dX5_find_38 rfl ?_
          refine wx_getI hC hH h_o1 rfl f_X5_24 dX5_find_39 ?_
          refine lv_iconst hx hb dX5_find_42 k_iconst_1 ?_
          refine lv_iadd hx hb dX5_find_43 ?_
          refine wx_putI hC hH h_o1 rfl f_X5_24 g_5_5 dX5_find_44 hF (fun u17 H locs hF hH => ?_)
          refine lv_goto hx hb dX5_find_47 (tgt := 0) rfl ?_
          have hF := wJ_l hq13 hF
          exact ih13 u17 H locs ls hF hH (lv_sub hl [0] rfl)
        refine lv_icmp_eq hx hb dX5_find_21 (tgt := 37) rfl (fun h => ?_) (fun h => ?_)
        · have hF := wx_t h hF
          have hF := wJ_l hq16 hF
          exact hJ37 H locs ls hF hH (lv_sub hl [0] rfl)
        have hF := wx_f h hF
        refine lv_aload_n hx hb dX5_find_24 rfl (lv_at hl 0 rfl) ?_
        refine lv_aload_n hx hb dX5_find_25 rfl (lv_at hl 0 rfl) ?_
        refine wx_getI hC hH h_o1 rfl f_X5_24 dX5_find_26 ?_
        refine wx_pvi hC hH hl (c_X5_signAt o1 (u14.1 o1 5) h_o1) y_X5_signAt v_X5_signAt h_o1 rfl m_X5_73 rfl ⟨Nat.le_of_ble_eq_true rfl, Nat.le_of_ble_eq_true rfl⟩ ⟨Nat.le_refl _, Nat.le_refl _⟩ rfl (Nat.le_of_ble_eq_true rfl) dX5_find_29 hF (fun i18 H locs hF hH => ?_)
        refine lv_bipush hx hb dX5_find_32 k_bipush_10 ?_
        refine lv_icmp_ne hx hb dX5_find_34 (tgt := 50) rfl (fun h => ?_) (fun h => ?_)
        · have hF := wx_f h hF
          have hF := wJ_r hq16 hF
          have hF := wJ_r hq13 hF
          have hF := wJ_l hq2 hF
          exact hJ50 u14 H locs ls hF hH (lv_sub hl [0] rfl)
        have hF := wx_t h hF
        have hF := wJ_l hq16 hF
        exact hJ37 H locs ls hF hH (lv_sub hl [0] rfl)
    exact hL0 wFu u0 H locs ls hF hH (lv_sub hl [0] rfl)
  exact key _ _ hH
def F_X5_next_j23 (o1 : Nat) (u3 : wSt) : Option (Unit × wSt) :=
  wR (u3.2.2 o1 9) 10 (fun o4 => wN (u3.1 o1 7) o4 (fun j5 => wB (w_sI u3 o1 0 (u3.1 o4 j5)) (fun (u6 : wSt) => wR (u6.2.2 o1 10) 10 (fun o7 => wN (u6.1 o1 7) o7 (fun j8 => wB (w_sI u6 o1 1 (u6.1 o7 j8)) (fun (u9 : wSt) => wR (u9.2.2 o1 11) 10 (fun o10 => wN (u9.1 o1 7) o10 (fun j11 => wB (w_sI u9 o1 2 (u9.1 o10 j11)) (fun (u12 : wSt) => some ((), u12))))))))))
def F_X5_next (o1 : Nat) (u0 : wSt) : Option (Unit × wSt) :=
  wJ (X := wSt) (if (u0.1 o1 6) ≤ ((u0.1 o1 7) + (1 : Int32)) then (some (.inl u0)) else (wB (w_sI u0 o1 7 ((u0.1 o1 7) + (1 : Int32))) (fun (u13 : wSt) => some (.inl u13)))) (fun x => F_X5_next_j23 o1 x)
set_option maxRecDepth 100000 in
set_option maxHeartbeats 4000000 in
theorem c_X5_next {l : Launch} {D : va_G} {κ : Nat → ClassId} {ρ : Nat → Nat} (o1 : Nat) (h_o1 : (w_sh o1).1 = 5) : wMV l yX5_next cX5_next 1 (wRm 0 0) [.ref (ρ o1)] D κ ρ 0 (fun u => F_X5_next o1 u) := by
  refine wMV_of (F := fun u => F_X5_next o1 u) rfl (Nat.le_of_ble_eq_true rfl) (fun u0 z p e s m args below meth c ls A hF hC hr hlk hH hl => ?_)
  have hl : lv_has ls 1 [(0, .ref (ρ o1))] := hl
  have hx := hC.1.1
  have hb := hC.1.2.1
  have hF : F_X5_next o1 u0 = some z := hF
  unfold F_X5_next at hF
  change W p l e (wRm 0 0) s m args below meth c s.heap [] 0 0 (wQV below args s A D κ ρ 0 z) (F0 m 0 ls [])
  have key : ∀ (H : Heap) (locs : List Loc), wHp D κ ρ 0 A s.heap H locs u0 → W p l e (wRm 0 0) s m args below meth c H locs 0 0 (wQV below args s A D κ ρ 0 z) (F0 m 0 ls []) := by
    intro H locs hH
    refine lv_aload_n hx hb dX5_next_0 rfl (lv_at hl 0 rfl) ?_
    refine wx_getI hC hH h_o1 rfl f_X5_30 dX5_next_1 ?_
    refine lv_iconst hx hb dX5_next_4 k_iconst_1 ?_
    refine lv_iadd hx hb dX5_next_5 ?_
    refine lv_aload_n hx hb dX5_next_6 rfl (lv_at hl 0 rfl) ?_
    refine wx_getI hC hH h_o1 rfl f_X5_27 dX5_next_7 ?_
    obtain ⟨q2_, hF, hq2⟩ := wJ_some hF
    have hJ23 : ∀ (u3 : wSt) (H : Heap) (locs : List Loc) (ls : Array Slot), F_X5_next_j23 o1 u3 = some z → wHp D κ ρ 0 A s.heap H locs u3 → lv_has ls 1 [(0, .ref (ρ o1))] → W p l e (wRm 0 0) s m args below meth c H locs 0 0 (wQV below args s A D κ ρ 0 z) (F0 m 23 ls []) := by
      intro u3 H locs ls hF hH hl
      unfold F_X5_next_j23 at hF
      refine lv_aload_n hx hb dX5_next_23 rfl (lv_at hl 0 rfl) ?_
      refine lv_aload_n hx hb dX5_next_24 rfl (lv_at hl 0 rfl) ?_
      refine wx_getR hC hH h_o1 rfl f_X5_37 dX5_next_25 hF (fun o4 h_o4 hF => ?_)
      refine lv_aload_n hx hb dX5_next_28 rfl (lv_at hl 0 rfl) ?_
      refine wx_getI hC hH h_o1 rfl f_X5_30 dX5_next_29 ?_
      refine wx_iald hC hH h_o4 ⟨rfl, rfl⟩ dX5_next_32 hF (fun j5 hF => ?_)
      refine wx_putI hC hH h_o1 rfl f_X5_9 g_5_0 dX5_next_33 hF (fun u6 H locs hF hH => ?_)
      refine lv_aload_n hx hb dX5_next_36 rfl (lv_at hl 0 rfl) ?_
      refine lv_aload_n hx hb dX5_next_37 rfl (lv_at hl 0 rfl) ?_
      refine wx_getR hC hH h_o1 rfl f_X5_40 dX5_next_38 hF (fun o7 h_o7 hF => ?_)
      refine lv_aload_n hx hb dX5_next_41 rfl (lv_at hl 0 rfl) ?_
      refine wx_getI hC hH h_o1 rfl f_X5_30 dX5_next_42 ?_
      refine wx_iald hC hH h_o7 ⟨rfl, rfl⟩ dX5_next_45 hF (fun j8 hF => ?_)
      refine wx_putI hC hH h_o1 rfl f_X5_15 g_5_1 dX5_next_46 hF (fun u9 H locs hF hH => ?_)
      refine lv_aload_n hx hb dX5_next_49 rfl (lv_at hl 0 rfl) ?_
      refine lv_aload_n hx hb dX5_next_50 rfl (lv_at hl 0 rfl) ?_
      refine wx_getR hC hH h_o1 rfl f_X5_43 dX5_next_51 hF (fun o10 h_o10 hF => ?_)
      refine lv_aload_n hx hb dX5_next_54 rfl (lv_at hl 0 rfl) ?_
      refine wx_getI hC hH h_o1 rfl f_X5_30 dX5_next_55 ?_
      refine wx_iald hC hH h_o10 ⟨rfl, rfl⟩ dX5_next_58 hF (fun j11 hF => ?_)
      refine wx_putI hC hH h_o1 rfl f_X5_18 g_5_2 dX5_next_59 hF (fun u12 H locs hF hH => ?_)
      exact wx_vret hC hH hr hlk dX5_next_62 hF
    refine lv_icmp_ge hx hb dX5_next_10 (tgt := 23) rfl (fun h => ?_) (fun h => ?_)
    · have hF := wx_t h hF
      have hF := wJ_l hq2 hF
      exact hJ23 u0 H locs ls hF hH (lv_sub hl [0] rfl)
    have hF := wx_f h hF
    refine lv_aload_n hx hb dX5_next_13 rfl (lv_at hl 0 rfl) ?_
    refine lv_dup hx hb dX5_next_14 rfl ?_
    refine wx_getI hC hH h_o1 rfl f_X5_30 dX5_next_15 ?_
    refine lv_iconst hx hb dX5_next_18 k_iconst_1 ?_
    refine lv_iadd hx hb dX5_next_19 ?_
    refine wx_putI hC hH h_o1 rfl f_X5_30 g_5_7 dX5_next_20 hF (fun u13 H locs hF hH => ?_)
    have hF := wJ_l hq2 hF
    exact hJ23 u13 H locs ls hF hH (lv_sub hl [0] rfl)
  exact key _ _ hH
def F_X5_split_j97 (o1 : Nat) (u9 : wSt) : Option (Unit × wSt) :=
  wB (w_sI u9 o1 7 (-1 : Int32)) (fun (u10 : wSt) => wC (F_X5_next o1 u10) (fun _ (u11 : wSt) => some ((), u11)))
def F_X5_split_b31 (o1 : Nat) (i13 : Int32) (u14 : wSt) : Option ((Int32 × wSt) ⊕ ((wSt) ⊕ (Unit × wSt))) :=
  if (700 : Int32) < i13 then (some (.inr (.inl u14))) else (if (u14.1 o1 0) = (35 : Int32) then (some (.inr (.inl u14))) else (wC (F_X5_find o1 u14) (fun _ (u15 : wSt) => wR (u15.2.2 o1 9) 10 (fun o16 => wSI u15 o16 i13 (u15.1 o1 0) (fun (u17 : wSt) => wR (u17.2.2 o1 10) 10 (fun o18 => wSI u17 o18 i13 (u17.1 o1 1) (fun (u19 : wSt) => wR (u19.2.2 o1 11) 10 (fun o20 => wSI u19 o20 i13 (u19.1 o1 2) (fun (u21 : wSt) => wB (w_sI u21 o1 6 ((u21.1 o1 6) + (1 : Int32))) (fun (u22 : wSt) => wB (i13 + (1 : Int32)) (fun (i23 : Int32) => some (.inl (i23, u22)))))))))))))
def F_X5_split (o1 : Nat) (i2 : Int32) (u0 : wSt) : Option (Unit × wSt) :=
  wR (u0.2.2 o1 3) 11 (fun o3 => wB (w_sI u0 o1 4 (w_min i2 (Int32.ofNat (w_sh o3).2))) (fun (u4 : wSt) => wB (w_sI u4 o1 5 (0 : Int32)) (fun (u5 : wSt) => wB (w_sI u5 o1 6 (0 : Int32)) (fun (u6 : wSt) => wB (w_sI u6 o1 0 (36 : Int32)) (fun (u7 : wSt) => wJ (X := wSt) (wL (S := Int32 × wSt) (fun x => F_X5_split_b31 o1 x.1 x.2) wFu ((0 : Int32), u7)) (fun x => F_X5_split_j97 o1 x))))))
set_option maxRecDepth 100000 in
set_option maxHeartbeats 4000000 in
theorem c_X5_split {l : Launch} {D : va_G} {κ : Nat → ClassId} {ρ : Nat → Nat} (o1 : Nat) (i2 : Int32) (h_o1 : (w_sh o1).1 = 5) : wMV l yX5_split cX5_split 3 (wRm 3 67) [.ref (ρ o1), .int i2] D κ ρ 0 (fun u => F_X5_split o1 i2 u) := by
  refine wMV_of (F := fun u => F_X5_split o1 i2 u) rfl (Nat.le_of_ble_eq_true rfl) (fun u0 z p e s m args below meth c ls A hF hC hr hlk hH hl => ?_)
  have hl : lv_has ls 3 [(0, .ref (ρ o1)), (1, .int i2)] := hl
  have hx := hC.1.1
  have hb := hC.1.2.1
  have hF : F_X5_split o1 i2 u0 = some z := hF
  unfold F_X5_split at hF
  change W p l e (wRm 3 67) s m args below meth c s.heap [] 0 0 (wQV below args s A D κ ρ 0 z) (F0 m 0 ls [])
  have key : ∀ (H : Heap) (locs : List Loc), wHp D κ ρ 0 A s.heap H locs u0 → W p l e (wRm 3 67) s m args below meth c H locs 0 0 (wQV below args s A D κ ρ 0 z) (F0 m 0 ls []) := by
    intro H locs hH
    refine lv_aload_n hx hb dX5_split_0 rfl (lv_at hl 0 rfl) ?_
    refine lv_iload_n hx hb dX5_split_1 rfl (lv_at hl 1 rfl) ?_
    refine lv_aload_n hx hb dX5_split_2 rfl (lv_at hl 0 rfl) ?_
    refine wx_getR hC hH h_o1 rfl f_X5_46 dX5_split_3 hF (fun o3 h_o3 hF => ?_)
    refine wx_alen (t := 1) hC hH h_o3 ⟨rfl, rfl⟩ (by decide) dX5_split_6 ?_
    refine wx_min hC hl.1 m_X5_61 ⟨Nat.le_of_ble_eq_true rfl, Nat.le_of_ble_eq_true rfl⟩ ⟨Nat.le_refl _, Nat.le_refl _⟩ dX5_split_7 ?_
    refine wx_putI hC hH h_o1 rfl f_X5_21 g_5_4 dX5_split_10 hF (fun u4 H locs hF hH => ?_)
    refine lv_aload_n hx hb dX5_split_13 rfl (lv_at hl 0 rfl) ?_
    refine lv_iconst hx hb dX5_split_14 k_iconst_0 ?_
    refine wx_putI hC hH h_o1 rfl f_X5_24 g_5_5 dX5_split_15 hF (fun u5 H locs hF hH => ?_)
    refine lv_aload_n hx hb dX5_split_18 rfl (lv_at hl 0 rfl) ?_
    refine lv_iconst hx hb dX5_split_19 k_iconst_0 ?_
    refine wx_putI hC hH h_o1 rfl f_X5_27 g_5_6 dX5_split_20 hF (fun u6 H locs hF hH => ?_)
    refine lv_aload_n hx hb dX5_split_23 rfl (lv_at hl 0 rfl) ?_
    refine lv_bipush hx hb dX5_split_24 k_bipush_36 ?_
    refine wx_putI hC hH h_o1 rfl f_X5_9 g_5_0 dX5_split_26 hF (fun u7 H locs hF hH => ?_)
    refine lv_iconst hx hb dX5_split_29 k_iconst_0 ?_
    refine wx_istore_n hx hb dX5_split_30 rfl hl (by decide) (fun ls hl => ?_)
    have hl : lv_has ls 3 [(2, .int (0 : Int32)), (0, .ref (ρ o1)), (1, .int i2)] := hl
    obtain ⟨q8_, hF, hq8⟩ := wJ_some hF
    have hJ97 : ∀ (u9 : wSt) (H : Heap) (locs : List Loc) (ls : Array Slot), F_X5_split_j97 o1 u9 = some z → wHp D κ ρ 0 A s.heap H locs u9 → lv_has ls 3 [(0, .ref (ρ o1))] → W p l e (wRm 3 67) s m args below meth c H locs 0 0 (wQV below args s A D κ ρ 0 z) (F0 m 97 ls []) := by
      intro u9 H locs ls hF hH hl
      unfold F_X5_split_j97 at hF
      refine lv_aload_n hx hb dX5_split_97 rfl (lv_at hl 0 rfl) ?_
      refine lv_iconst hx hb dX5_split_98 k_iconst_m1 ?_
      refine wx_putI hC hH h_o1 rfl f_X5_30 g_5_7 dX5_split_99 hF (fun u10 H locs hF hH => ?_)
      refine lv_aload_n hx hb dX5_split_102 rfl (lv_at hl 0 rfl) ?_
      refine wx_evv hC hH hl (c_X5_next o1 h_o1) y_X5_next v_X5_next h_o1 rfl m_X5_70 rfl ⟨Nat.le_of_ble_eq_true rfl, Nat.le_of_ble_eq_true rfl⟩ ⟨Nat.le_refl _, Nat.le_refl _⟩ rfl (Nat.le_of_ble_eq_true rfl) dX5_split_103 hF (fun _ u11 H locs hF hH => ?_)
      exact wx_vret hC hH hr hlk dX5_split_106 hF
    have hL31 : ∀ (k12_ : Nat) (i13 : Int32) (u14 : wSt) (H : Heap) (locs : List Loc) (ls : Array Slot), wL (S := Int32 × wSt) (fun x => F_X5_split_b31 o1 x.1 x.2) k12_ (i13, u14) = some q8_ → wHp D κ ρ 0 A s.heap H locs u14 → lv_has ls 3 [(0, .ref (ρ o1)), (2, .int i13)] → W p l e (wRm 3 67) s m args below meth c H locs 0 0 (wQV below args s A D κ ρ 0 z) (F0 m 31 ls []) := by
      intro k12_
      induction k12_ with
      | zero => intro i13 u14 H locs ls hF; exact wL_zero hF
      | succ k12_ ih12 =>
        intro i13 u14 H locs ls hF hH hl
        obtain ⟨q12_, hF, hq12⟩ := wL_some hF
        have hF : F_X5_split_b31 o1 i13 u14 = some q12_ := hF
        unfold F_X5_split_b31 at hF
        refine lv_iload_n hx hb dX5_split_31 rfl (lv_at hl 1 rfl) ?_
        refine lv_sipush hx hb dX5_split_32 k_sipush_700 ?_
        refine lv_icmp_gt hx hb dX5_split_35 (tgt := 97) rfl (fun h => ?_) (fun h => ?_)
        · have hF := wx_t h hF
          have hF := wJ_r hq12 hF
          have hF := wJ_l hq8 hF
          exact hJ97 u14 H locs ls hF hH (lv_sub hl [0] rfl)
        have hF := wx_f h hF
        refine lv_aload_n hx hb dX5_split_38 rfl (lv_at hl 0 rfl) ?_
        refine wx_getI hC hH h_o1 rfl f_X5_9 dX5_split_39 ?_
        refine lv_bipush hx hb dX5_split_42 k_bipush_35 ?_
        refine lv_icmp_eq hx hb dX5_split_44 (tgt := 97) rfl (fun h => ?_) (fun h => ?_)
        · have hF := wx_t h hF
          have hF := wJ_r hq12 hF
          have hF := wJ_l hq8 hF
          exact hJ97 u14 H locs ls hF hH (lv_sub hl [0] rfl)
        have hF := wx_f h hF
        refine lv_aload_n hx hb dX5_split_47 rfl (lv_at hl 0 rfl) ?_
        refine wx_evv hC hH hl (c_X5_find o1 h_o1) y_X5_find v_X5_find h_o1 rfl m_X5_67 rfl ⟨Nat.le_of_ble_eq_true rfl, Nat.le_of_ble_eq_true rfl⟩ ⟨Nat.le_refl _, Nat.le_refl _⟩ rfl (Nat.le_of_ble_eq_true rfl) dX5_split_48 hF (fun _ u15 H locs hF hH => ?_)
        refine lv_aload_n hx hb dX5_split_51 rfl (lv_at hl 0 rfl) ?_
        refine wx_getR hC hH h_o1 rfl f_X5_37 dX5_split_52 hF (fun o16 h_o16 hF => ?_)
        refine lv_iload_n hx hb dX5_split_55 rfl (lv_at hl 1 rfl) ?_
        refine lv_aload_n hx hb dX5_split_56 rfl (lv_at hl 0 rfl) ?_
        refine wx_getI hC hH h_o1 rfl f_X5_9 dX5_split_57 ?_
        refine wx_iast hC hH h_o16 ⟨rfl, rfl⟩ dX5_split_60 hF (fun u17 H locs hF hH => ?_)
        refine lv_aload_n hx hb dX5_split_61 rfl (lv_at hl 0 rfl) ?_
        refine wx_getR hC hH h_o1 rfl f_X5_40 dX5_split_62 hF (fun o18 h_o18 hF => ?_)
        refine lv_iload_n hx hb dX5_split_65 rfl (lv_at hl 1 rfl) ?_
        refine lv_aload_n hx hb dX5_split_66 rfl (lv_at hl 0 rfl) ?_
        refine wx_getI hC hH h_o1 rfl f_X5_15 dX5_split_67 ?_
        refine wx_iast hC hH h_o18 ⟨rfl, rfl⟩ dX5_split_70 hF (fun u19 H locs hF hH => ?_)
        refine lv_aload_n hx hb dX5_split_71 rfl (lv_at hl 0 rfl) ?_
        refine wx_getR hC hH h_o1 rfl f_X5_43 dX5_split_72 hF (fun o20 h_o20 hF => ?_)
        refine lv_iload_n hx hb dX5_split_75 rfl (lv_at hl 1 rfl) ?_
        refine lv_aload_n hx hb dX5_split_76 rfl (lv_at hl 0 rfl) ?_
        refine wx_getI hC hH h_o1 rfl f_X5_18 dX5_split_77 ?_
        refine wx_iast hC hH h_o20 ⟨rfl, rfl⟩ dX5_split_80 hF (fun u21 H locs hF hH => ?_)
        refine lv_aload_n hx hb dX5_split_81 rfl (lv_at hl 0 rfl) ?_
        refine lv_dup hx hb dX5_split_82 rfl ?_
        refine wx_getI hC hH h_o1 rfl f_X5_27 dX5_split_83 ?_
        refine lv_iconst hx hb dX5_split_86 k_iconst_1 ?_
        refine lv_iadd hx hb dX5_split_87 ?_
        refine wx_putI hC hH h_o1 rfl f_X5_27 g_5_6 dX5_split_88 hF (fun u22 H locs hF hH => ?_)
        refine wx_iinc hx hb dX5_split_91 k_iconst_1 hl (k := 1) rfl (by decide) hF (fun i23 ls hF hl => ?_)
        have hl : lv_has ls 3 [(2, .int i23), (0, .ref (ρ o1))] := hl
        refine lv_goto hx hb dX5_split_94 (tgt := 31) rfl ?_
        have hF := wJ_l hq12 hF
        exact ih12 i23 u22 H locs ls hF hH (lv_sub hl [1, 0] rfl)
    exact hL31 wFu (0 : Int32) u7 H locs ls hF hH (lv_sub hl [1, 0] rfl)
  exact key _ _ hH
def F_X2_blame (o1 : Nat) (i2 : Int32) (u0 : wSt) : Option (Unit × wSt) :=
  if (u0.1 o1 0) = 0 then (wB (w_sI u0 o1 0 i2) (fun (u3 : wSt) => wR (u3.2.2 o1 2) 5 (fun o4 => wB (w_sI u3 o1 1 (u3.1 o4 1)) (fun (u5 : wSt) => some ((), u5))))) else (some ((), u0))
set_option maxRecDepth 100000 in
set_option maxHeartbeats 4000000 in
theorem c_X2_blame {l : Launch} {D : va_G} {κ : Nat → ClassId} {ρ : Nat → Nat} (o1 : Nat) (i2 : Int32) (h_o1 : (w_sh o1).1 = 2) : wMV l yX2_blame cX2_blame 2 (wRm 0 0) [.ref (ρ o1), .int i2] D κ ρ 0 (fun u => F_X2_blame o1 i2 u) := by
  refine wMV_of (F := fun u => F_X2_blame o1 i2 u) rfl (Nat.le_of_ble_eq_true rfl) (fun u0 z p e s m args below meth c ls A hF hC hr hlk hH hl => ?_)
  have hl : lv_has ls 2 [(0, .ref (ρ o1)), (1, .int i2)] := hl
  have hx := hC.1.1
  have hb := hC.1.2.1
  have hF : F_X2_blame o1 i2 u0 = some z := hF
  unfold F_X2_blame at hF
  change W p l e (wRm 0 0) s m args below meth c s.heap [] 0 0 (wQV below args s A D κ ρ 0 z) (F0 m 0 ls [])
  have key : ∀ (H : Heap) (locs : List Loc), wHp D κ ρ 0 A s.heap H locs u0 → W p l e (wRm 0 0) s m args below meth c H locs 0 0 (wQV below args s A D κ ρ 0 z) (F0 m 0 ls []) := by
    intro H locs hH
    refine lv_aload_n hx hb dX2_blame_0 rfl (lv_at hl 0 rfl) ?_
    refine wx_getI hC hH h_o1 rfl f_X2_9 dX2_blame_1 ?_
    refine lv_if_ne hx hb dX2_blame_4 (tgt := 23) rfl (fun h => ?_) (fun h => ?_)
    · have hF := wx_f h hF
      exact wx_vret hC hH hr hlk dX2_blame_23 hF
    have hF := wx_t h hF
    refine lv_aload_n hx hb dX2_blame_7 rfl (lv_at hl 0 rfl) ?_
    refine lv_iload_n hx hb dX2_blame_8 rfl (lv_at hl 1 rfl) ?_
    refine wx_putI hC hH h_o1 rfl f_X2_9 g_2_0 dX2_blame_9 hF (fun u3 H locs hF hH => ?_)
    refine lv_aload_n hx hb dX2_blame_12 rfl (lv_at hl 0 rfl) ?_
    refine lv_aload_n hx hb dX2_blame_13 rfl (lv_at hl 0 rfl) ?_
    refine wx_getR hC hH h_o1 rfl f_X2_42 dX2_blame_14 hF (fun o4 h_o4 hF => ?_)
    refine wx_getI hC hH h_o4 rfl f_X2_65 dX2_blame_17 ?_
    refine wx_putI hC hH h_o1 rfl f_X2_15 g_2_1 dX2_blame_20 hF (fun u5 H locs hF hH => ?_)
    exact wx_vret hC hH hr hlk dX2_blame_23 hF
  exact key _ _ hH
def F_X6_guestNamed_b2 (u0 : wSt) (o1 : Nat) (i2 : Int32) (i4 : Int32) : Option ((Int32) ⊕ Int32) :=
  if (u0.1 o1 1) ≤ i4 then (some (.inr ((-1 : Int32)))) else (wR (u0.2.2 o1 7) 10 (fun o5 => wN i4 o5 (fun j6 => if (u0.1 o5 j6) = i2 then (some (.inr (i4))) else (wB (i4 + (1 : Int32)) (fun (i7 : Int32) => some (.inl i7))))))
def F_X6_guestNamed (o1 : Nat) (i2 : Int32) (u0 : wSt) : Option Int32 :=
  wL (S := Int32) (fun x => F_X6_guestNamed_b2 u0 o1 i2 x) wFu (0 : Int32)
set_option maxRecDepth 100000 in
set_option maxHeartbeats 4000000 in
theorem c_X6_guestNamed {l : Launch} {D : va_G} {κ : Nat → ClassId} {ρ : Nat → Nat} (o1 : Nat) (i2 : Int32) (h_o1 : (w_sh o1).1 = 6) : wMI l yX6_guestNamed cX6_guestNamed 3 .int (wRm 0 0) [.ref (ρ o1), .int i2] D κ ρ 0 (fun u => wPu (F_X6_guestNamed o1 i2 u) u) := by
  refine wMP_of (F := fun u => F_X6_guestNamed o1 i2 u) rfl (Nat.le_of_ble_eq_true rfl) (fun u0 z p e s m args below meth c ls A hF hC hr hlk hH hl => ?_)
  have hl : lv_has ls 3 [(0, .ref (ρ o1)), (1, .int i2)] := hl
  have hx := hC.1.1
  have hb := hC.1.2.1
  have hF : F_X6_guestNamed o1 i2 u0 = some z := hF
  unfold F_X6_guestNamed at hF
  change W p l e (wRm 0 0) s m args below meth c s.heap [] 0 0 (wQI below args s A D κ ρ 0 (z, u0)) (F0 m 0 ls [])
  have key : ∀ (H : Heap) (locs : List Loc), wHp D κ ρ 0 A s.heap H locs u0 → W p l e (wRm 0 0) s m args below meth c H locs 0 0 (wQI below args s A D κ ρ 0 (z, u0)) (F0 m 0 ls []) := by
    intro H locs hH
    refine lv_iconst hx hb dX6_guestNamed_0 k_iconst_0 ?_
    refine wx_istore_n hx hb dX6_guestNamed_1 rfl hl (by decide) (fun ls hl => ?_)
    have hl : lv_has ls 3 [(2, .int (0 : Int32)), (0, .ref (ρ o1)), (1, .int i2)] := hl
    have hL2 : ∀ (k3_ : Nat) (i4 : Int32) (H : Heap) (locs : List Loc) (ls : Array Slot), wL (S := Int32) (fun x => F_X6_guestNamed_b2 u0 o1 i2 x) k3_ i4 = some z → wHp D κ ρ 0 A s.heap H locs u0 → lv_has ls 3 [(0, .ref (ρ o1)), (1, .int i2), (2, .int i4)] → W p l e (wRm 0 0) s m args below meth c H locs 0 0 (wQI below args s A D κ ρ 0 (z, u0)) (F0 m 2 ls []) := by
      intro k3_
      induction k3_ with
      | zero => intro i4 H locs ls hF; exact wL_zero hF
      | succ k3_ ih3 =>
        intro i4 H locs ls hF hH hl
        obtain ⟨q3_, hF, hq3⟩ := wL_some hF
        have hF : F_X6_guestNamed_b2 u0 o1 i2 i4 = some q3_ := hF
        unfold F_X6_guestNamed_b2 at hF
        refine lv_iload_n hx hb dX6_guestNamed_2 rfl (lv_at hl 2 rfl) ?_
        refine lv_aload_n hx hb dX6_guestNamed_3 rfl (lv_at hl 0 rfl) ?_
        refine wx_getI hC hH h_o1 rfl f_X6_15 dX6_guestNamed_4 ?_
        refine lv_icmp_ge hx hb dX6_guestNamed_7 (tgt := 28) rfl (fun h => ?_) (fun h => ?_)
        · have hF := wx_t h hF
          refine lv_iconst hx hb dX6_guestNamed_28 k_iconst_m1 ?_
          have hF := wJ_r hq3 hF
          exact wx_iret hC hH hr hlk dX6_guestNamed_29 (wx_pr hF)
        have hF := wx_f h hF
        refine lv_aload_n hx hb dX6_guestNamed_10 rfl (lv_at hl 0 rfl) ?_
        refine wx_getR hC hH h_o1 rfl f_X6_33 dX6_guestNamed_11 hF (fun o5 h_o5 hF => ?_)
        refine lv_iload_n hx hb dX6_guestNamed_14 rfl (lv_at hl 2 rfl) ?_
        refine wx_iald hC hH h_o5 ⟨rfl, rfl⟩ dX6_guestNamed_15 hF (fun j6 hF => ?_)
        refine lv_iload_n hx hb dX6_guestNamed_16 rfl (lv_at hl 1 rfl) ?_
        refine lv_icmp_ne hx hb dX6_guestNamed_17 (tgt := 22) rfl (fun h => ?_) (fun h => ?_)
        · have hF := wx_f h hF
          refine wx_iinc hx hb dX6_guestNamed_22 k_iconst_1 hl (k := 2) rfl (by decide) hF (fun i7 ls hF hl => ?_)
          have hl : lv_has ls 3 [(2, .int i7), (0, .ref (ρ o1)), (1, .int i2)] := hl
          refine lv_goto hx hb dX6_guestNamed_25 (tgt := 2) rfl ?_
          have hF := wJ_l hq3 hF
          exact ih3 i7 H locs ls hF hH (lv_sub hl [1, 2, 0] rfl)
        have hF := wx_t h hF
        refine lv_iload_n hx hb dX6_guestNamed_20 rfl (lv_at hl 2 rfl) ?_
        have hF := wJ_r hq3 hF
        exact wx_iret hC hH hr hlk dX6_guestNamed_21 (wx_pr hF)
    exact hL2 wFu (0 : Int32) H locs ls hF hH (lv_sub hl [1, 2, 0] rfl)
  exact key _ _ hH
def F_X2_goOnIfGood (o1 : Nat) (u0 : wSt) : Option (Unit × wSt) :=
  if (u0.1 o1 0) = 0 then (wR (u0.2.2 o1 2) 5 (fun o2 => wC (F_X5_next o2 u0) (fun _ (u3 : wSt) => some ((), u3)))) else (some ((), u0))
set_option maxRecDepth 100000 in
set_option maxHeartbeats 4000000 in
theorem c_X2_goOnIfGood {l : Launch} {D : va_G} {κ : Nat → ClassId} {ρ : Nat → Nat} (o1 : Nat) (h_o1 : (w_sh o1).1 = 2) : wMV l yX2_goOnIfGood cX2_goOnIfGood 1 (wRm 1 20) [.ref (ρ o1)] D κ ρ 0 (fun u => F_X2_goOnIfGood o1 u) := by
  refine wMV_of (F := fun u => F_X2_goOnIfGood o1 u) rfl (Nat.le_of_ble_eq_true rfl) (fun u0 z p e s m args below meth c ls A hF hC hr hlk hH hl => ?_)
  have hl : lv_has ls 1 [(0, .ref (ρ o1))] := hl
  have hx := hC.1.1
  have hb := hC.1.2.1
  have hF : F_X2_goOnIfGood o1 u0 = some z := hF
  unfold F_X2_goOnIfGood at hF
  change W p l e (wRm 1 20) s m args below meth c s.heap [] 0 0 (wQV below args s A D κ ρ 0 z) (F0 m 0 ls [])
  have key : ∀ (H : Heap) (locs : List Loc), wHp D κ ρ 0 A s.heap H locs u0 → W p l e (wRm 1 20) s m args below meth c H locs 0 0 (wQV below args s A D κ ρ 0 z) (F0 m 0 ls []) := by
    intro H locs hH
    refine lv_aload_n hx hb dX2_goOnIfGood_0 rfl (lv_at hl 0 rfl) ?_
    refine wx_getI hC hH h_o1 rfl f_X2_9 dX2_goOnIfGood_1 ?_
    refine lv_if_ne hx hb dX2_goOnIfGood_4 (tgt := 14) rfl (fun h => ?_) (fun h => ?_)
    · have hF := wx_f h hF
      exact wx_vret hC hH hr hlk dX2_goOnIfGood_14 hF
    have hF := wx_t h hF
    refine lv_aload_n hx hb dX2_goOnIfGood_7 rfl (lv_at hl 0 rfl) ?_
    refine wx_getR hC hH h_o1 rfl f_X2_42 dX2_goOnIfGood_8 hF (fun o2 h_o2 hF => ?_)
    refine wx_evv hC hH hl (c_X5_next o2 h_o2) y_X5_next v_X5_next h_o2 rfl m_X2_87 rfl ⟨Nat.le_of_ble_eq_true rfl, Nat.le_of_ble_eq_true rfl⟩ ⟨Nat.le_refl _, Nat.le_refl _⟩ rfl (Nat.le_of_ble_eq_true rfl) dX2_goOnIfGood_11 hF (fun _ u3 H locs hF hH => ?_)
    exact wx_vret hC hH hr hlk dX2_goOnIfGood_14 hF
  exact key _ _ hH
def F_X2_takeNewName_j38 (o1 : Nat) (i7 : Int32) (u8 : wSt) : Option (Int32 × wSt) :=
  wC (F_X2_goOnIfGood o1 u8) (fun _ (u9 : wSt) => some (i7, u9))
def F_X2_takeNewName (o1 : Nat) (i2 : Int32) (u0 : wSt) : Option (Int32 × wSt) :=
  wR (u0.2.2 o1 2) 5 (fun o3 => wB (u0.1 o3 2) (fun (i4 : Int32) => wR (u0.2.2 o1 2) 5 (fun o5 => wJ (X := Int32 × wSt) (if (u0.1 o5 0) = (34 : Int32) then (if i2 = (-1 : Int32) then (some (.inl (i4, u0))) else (wC (F_X2_blame o1 (3 : Int32) u0) (fun _ (u10 : wSt) => some (.inl (i4, u10))))) else (wC (F_X2_blame o1 (1 : Int32) u0) (fun _ (u11 : wSt) => some (.inl (i4, u11))))) (fun x => F_X2_takeNewName_j38 o1 x.1 x.2))))
set_option maxRecDepth 100000 in
set_option maxHeartbeats 4000000 in
theorem c_X2_takeNewName {l : Launch} {D : va_G} {κ : Nat → ClassId} {ρ : Nat → Nat} (o1 : Nat) (i2 : Int32) (h_o1 : (w_sh o1).1 = 2) : wMI l yX2_takeNewName cX2_takeNewName 3 .int (wRm 2 40) [.ref (ρ o1), .int i2] D κ ρ 0 (fun u => F_X2_takeNewName o1 i2 u) := by
  refine wMI_of (F := fun u => F_X2_takeNewName o1 i2 u) rfl (Nat.le_of_ble_eq_true rfl) (fun u0 z p e s m args below meth c ls A hF hC hr hlk hH hl => ?_)
  have hl : lv_has ls 3 [(0, .ref (ρ o1)), (1, .int i2)] := hl
  have hx := hC.1.1
  have hb := hC.1.2.1
  have hF : F_X2_takeNewName o1 i2 u0 = some z := hF
  unfold F_X2_takeNewName at hF
  change W p l e (wRm 2 40) s m args below meth c s.heap [] 0 0 (wQI below args s A D κ ρ 0 z) (F0 m 0 ls [])
  have key : ∀ (H : Heap) (locs : List Loc), wHp D κ ρ 0 A s.heap H locs u0 → W p l e (wRm 2 40) s m args below meth c H locs 0 0 (wQI below args s A D κ ρ 0 z) (F0 m 0 ls []) := by
    intro H locs hH
    refine lv_aload_n hx hb dX2_takeNewName_0 rfl (lv_at hl 0 rfl) ?_
    refine wx_getR hC hH h_o1 rfl f_X2_42 dX2_takeNewName_1 hF (fun o3 h_o3 hF => ?_)
    refine wx_getI hC hH h_o3 rfl f_X2_96 dX2_takeNewName_4 ?_
    refine wx_leti hF (fun i4 hF => ?_)
    refine wx_istore_n hx hb dX2_takeNewName_7 rfl hl (by decide) (fun ls hl => ?_)
    have hl : lv_has ls 3 [(2, .int i4), (0, .ref (ρ o1)), (1, .int i2)] := hl
    refine lv_aload_n hx hb dX2_takeNewName_8 rfl (lv_at hl 1 rfl) ?_
    refine wx_getR hC hH h_o1 rfl f_X2_42 dX2_takeNewName_9 hF (fun o5 h_o5 hF => ?_)
    refine wx_getI hC hH h_o5 rfl f_X2_59 dX2_takeNewName_12 ?_
    refine lv_bipush hx hb dX2_takeNewName_15 k_bipush_34 ?_
    obtain ⟨q6_, hF, hq6⟩ := wJ_some hF
    have hJ38 : ∀ (i7 : Int32) (u8 : wSt) (H : Heap) (locs : List Loc) (ls : Array Slot), F_X2_takeNewName_j38 o1 i7 u8 = some z → wHp D κ ρ 0 A s.heap H locs u8 → lv_has ls 3 [(0, .ref (ρ o1)), (2, .int i7)] → W p l e (wRm 2 40) s m args below meth c H locs 0 0 (wQI below args s A D κ ρ 0 z) (F0 m 38 ls []) := by
      intro i7 u8 H locs ls hF hH hl
      unfold F_X2_takeNewName_j38 at hF
      refine lv_aload_n hx hb dX2_takeNewName_38 rfl (lv_at hl 0 rfl) ?_
      refine wx_evv hC hH hl (c_X2_goOnIfGood o1 h_o1) y_X2_goOnIfGood v_X2_goOnIfGood h_o1 rfl m_X2_179 rfl ⟨Nat.le_of_ble_eq_true rfl, Nat.le_of_ble_eq_true rfl⟩ ⟨Nat.le_refl _, Nat.le_refl _⟩ rfl (Nat.le_of_ble_eq_true rfl) dX2_takeNewName_39 hF (fun _ u9 H locs hF hH => ?_)
      refine lv_iload_n hx hb dX2_takeNewName_42 rfl (lv_at hl 1 rfl) ?_
      exact wx_iret hC hH hr hlk dX2_takeNewName_43 hF
    refine lv_icmp_eq hx hb dX2_takeNewName_17 (tgt := 28) rfl (fun h => ?_) (fun h => ?_)
    · have hF := wx_t h hF
      refine lv_iload_n hx hb dX2_takeNewName_28 rfl (lv_at hl 2 rfl) ?_
      refine lv_iconst hx hb dX2_takeNewName_29 k_iconst_m1 ?_
      refine lv_icmp_eq hx hb dX2_takeNewName_30 (tgt := 38) rfl (fun h => ?_) (fun h => ?_)
      · have hF := wx_t h hF
        have hF := wJ_l hq6 hF
        exact hJ38 i4 u0 H locs ls hF hH (lv_sub hl [1, 0] rfl)
      have hF := wx_f h hF
      refine lv_aload_n hx hb dX2_takeNewName_33 rfl (lv_at hl 1 rfl) ?_
      refine lv_iconst hx hb dX2_takeNewName_34 k_iconst_3 ?_
      refine wx_evv hC hH hl (c_X2_blame o1 (3 : Int32) h_o1) y_X2_blame v_X2_blame h_o1 rfl m_X2_81 rfl ⟨Nat.le_of_ble_eq_true rfl, Nat.le_of_ble_eq_true rfl⟩ ⟨Nat.le_refl _, Nat.le_refl _⟩ rfl (Nat.le_of_ble_eq_true rfl) dX2_takeNewName_35 hF (fun _ u10 H locs hF hH => ?_)
      have hF := wJ_l hq6 hF
      exact hJ38 i4 u10 H locs ls hF hH (lv_sub hl [1, 0] rfl)
    have hF := wx_f h hF
    refine lv_aload_n hx hb dX2_takeNewName_20 rfl (lv_at hl 1 rfl) ?_
    refine lv_iconst hx hb dX2_takeNewName_21 k_iconst_1 ?_
    refine wx_evv hC hH hl (c_X2_blame o1 (1 : Int32) h_o1) y_X2_blame v_X2_blame h_o1 rfl m_X2_81 rfl ⟨Nat.le_of_ble_eq_true rfl, Nat.le_of_ble_eq_true rfl⟩ ⟨Nat.le_refl _, Nat.le_refl _⟩ rfl (Nat.le_of_ble_eq_true rfl) dX2_takeNewName_22 hF (fun _ u11 H locs hF hH => ?_)
    refine lv_goto hx hb dX2_takeNewName_25 (tgt := 38) rfl ?_
    have hF := wJ_l hq6 hF
    exact hJ38 i4 u11 H locs ls hF hH (lv_sub hl [1, 0] rfl)
  exact key _ _ hH
def F_X2_takeNumber_j43 (o1 : Nat) (i8 : Int32) (u9 : wSt) : Option (Int32 × wSt) :=
  wC (F_X2_goOnIfGood o1 u9) (fun _ (u10 : wSt) => some (i8, u10))
def F_X2_takeNumber_j38 (o1 : Nat) (u0 : wSt) (i5 : Int32) : Option ((Int32 × wSt) ⊕ (Int32 × wSt)) :=
  wC (F_X2_blame o1 (2 : Int32) u0) (fun _ (u12 : wSt) => some (.inl (i5, u12)))
def F_X2_takeNumber (o1 : Nat) (i2 : Int32) (i3 : Int32) (u0 : wSt) : Option (Int32 × wSt) :=
  wR (u0.2.2 o1 2) 5 (fun o4 => wB (u0.1 o4 2) (fun (i5 : Int32) => wR (u0.2.2 o1 2) 5 (fun o6 => wJ (X := Int32 × wSt) (if (u0.1 o6 0) = (33 : Int32) then (wJ (X := Unit) (if i5 < i2 then (some (.inl ())) else (if i5 ≤ i3 then (some (.inr (.inl (i5, u0)))) else (some (.inl ())))) (fun x => F_X2_takeNumber_j38 o1 u0 i5)) else (wC (F_X2_blame o1 (1 : Int32) u0) (fun _ (u13 : wSt) => some (.inl (i5, u13))))) (fun x => F_X2_takeNumber_j43 o1 x.1 x.2))))
set_option maxRecDepth 100000 in
set_option maxHeartbeats 4000000 in
theorem c_X2_takeNumber {l : Launch} {D : va_G} {κ : Nat → ClassId} {ρ : Nat → Nat} (o1 : Nat) (i2 : Int32) (i3 : Int32) (h_o1 : (w_sh o1).1 = 2) : wMI l yX2_takeNumber cX2_takeNumber 4 .int (wRm 2 40) [.ref (ρ o1), .int i2, .int i3] D κ ρ 0 (fun u => F_X2_takeNumber o1 i2 i3 u) := by
  refine wMI_of (F := fun u => F_X2_takeNumber o1 i2 i3 u) rfl (Nat.le_of_ble_eq_true rfl) (fun u0 z p e s m args below meth c ls A hF hC hr hlk hH hl => ?_)
  have hl : lv_has ls 4 [(0, .ref (ρ o1)), (1, .int i2), (2, .int i3)] := hl
  have hx := hC.1.1
  have hb := hC.1.2.1
  have hF : F_X2_takeNumber o1 i2 i3 u0 = some z := hF
  unfold F_X2_takeNumber at hF
  change W p l e (wRm 2 40) s m args below meth c s.heap [] 0 0 (wQI below args s A D κ ρ 0 z) (F0 m 0 ls [])
  have key : ∀ (H : Heap) (locs : List Loc), wHp D κ ρ 0 A s.heap H locs u0 → W p l e (wRm 2 40) s m args below meth c H locs 0 0 (wQI below args s A D κ ρ 0 z) (F0 m 0 ls []) := by
    intro H locs hH
    refine lv_aload_n hx hb dX2_takeNumber_0 rfl (lv_at hl 0 rfl) ?_
    refine wx_getR hC hH h_o1 rfl f_X2_42 dX2_takeNumber_1 hF (fun o4 h_o4 hF => ?_)
    refine wx_getI hC hH h_o4 rfl f_X2_96 dX2_takeNumber_4 ?_
    refine wx_leti hF (fun i5 hF => ?_)
    refine wx_istore_n hx hb dX2_takeNumber_7 rfl hl (by decide) (fun ls hl => ?_)
    have hl : lv_has ls 4 [(3, .int i5), (0, .ref (ρ o1)), (1, .int i2), (2, .int i3)] := hl
    refine lv_aload_n hx hb dX2_takeNumber_8 rfl (lv_at hl 1 rfl) ?_
    refine wx_getR hC hH h_o1 rfl f_X2_42 dX2_takeNumber_9 hF (fun o6 h_o6 hF => ?_)
    refine wx_getI hC hH h_o6 rfl f_X2_59 dX2_takeNumber_12 ?_
    refine lv_bipush hx hb dX2_takeNumber_15 k_bipush_33 ?_
    obtain ⟨q7_, hF, hq7⟩ := wJ_some hF
    have hJ43 : ∀ (i8 : Int32) (u9 : wSt) (H : Heap) (locs : List Loc) (ls : Array Slot), F_X2_takeNumber_j43 o1 i8 u9 = some z → wHp D κ ρ 0 A s.heap H locs u9 → lv_has ls 4 [(0, .ref (ρ o1)), (3, .int i8)] → W p l e (wRm 2 40) s m args below meth c H locs 0 0 (wQI below args s A D κ ρ 0 z) (F0 m 43 ls []) := by
      intro i8 u9 H locs ls hF hH hl
      unfold F_X2_takeNumber_j43 at hF
      refine lv_aload_n hx hb dX2_takeNumber_43 rfl (lv_at hl 0 rfl) ?_
      refine wx_evv hC hH hl (c_X2_goOnIfGood o1 h_o1) y_X2_goOnIfGood v_X2_goOnIfGood h_o1 rfl m_X2_179 rfl ⟨Nat.le_of_ble_eq_true rfl, Nat.le_of_ble_eq_true rfl⟩ ⟨Nat.le_refl _, Nat.le_refl _⟩ rfl (Nat.le_of_ble_eq_true rfl) dX2_takeNumber_44 hF (fun _ u10 H locs hF hH => ?_)
      refine lv_iload_n hx hb dX2_takeNumber_47 rfl (lv_at hl 1 rfl) ?_
      exact wx_iret hC hH hr hlk dX2_takeNumber_48 hF
    refine lv_icmp_eq hx hb dX2_takeNumber_17 (tgt := 28) rfl (fun h => ?_) (fun h => ?_)
    · have hF := wx_t h hF
      refine lv_iload_n hx hb dX2_takeNumber_28 rfl (lv_at hl 0 rfl) ?_
      refine lv_iload_n hx hb dX2_takeNumber_29 rfl (lv_at hl 2 rfl) ?_
      obtain ⟨q11_, hF, hq11⟩ := wJ_some hF
      have hJ38 : ∀ (H : Heap) (locs : List Loc) (ls : Array Slot), F_X2_takeNumber_j38 o1 u0 i5 = some q7_ → wHp D κ ρ 0 A s.heap H locs u0 → lv_has ls 4 [(0, .ref (ρ o1)), (3, .int i5)] → W p l e (wRm 2 40) s m args below meth c H locs 0 0 (wQI below args s A D κ ρ 0 z) (F0 m 38 ls []) := by
        intro H locs ls hF hH hl
        unfold F_X2_takeNumber_j38 at hF
        refine lv_aload_n hx hb dX2_takeNumber_38 rfl (lv_at hl 0 rfl) ?_
        refine lv_iconst hx hb dX2_takeNumber_39 k_iconst_2 ?_
        refine wx_evv hC hH hl (c_X2_blame o1 (2 : Int32) h_o1) y_X2_blame v_X2_blame h_o1 rfl m_X2_81 rfl ⟨Nat.le_of_ble_eq_true rfl, Nat.le_of_ble_eq_true rfl⟩ ⟨Nat.le_refl _, Nat.le_refl _⟩ rfl (Nat.le_of_ble_eq_true rfl) dX2_takeNumber_40 hF (fun _ u12 H locs hF hH => ?_)
        have hF := wJ_l hq7 hF
        exact hJ43 i5 u12 H locs ls hF hH (lv_sub hl [0, 1] rfl)
      refine lv_icmp_lt hx hb dX2_takeNumber_30 (tgt := 38) rfl (fun h => ?_) (fun h => ?_)
      · have hF := wx_t h hF
        have hF := wJ_l hq11 hF
        exact hJ38 H locs ls hF hH (lv_sub hl [1, 0] rfl)
      have hF := wx_f h hF
      refine lv_iload_n hx hb dX2_takeNumber_33 rfl (lv_at hl 0 rfl) ?_
      refine lv_iload_n hx hb dX2_takeNumber_34 rfl (lv_at hl 3 rfl) ?_
      refine lv_icmp_le hx hb dX2_takeNumber_35 (tgt := 43) rfl (fun h => ?_) (fun h => ?_)
      · have hF := wx_t h hF
        have hF := wJ_r hq11 hF
        have hF := wJ_l hq7 hF
        exact hJ43 i5 u0 H locs ls hF hH (lv_sub hl [1, 0] rfl)
      have hF := wx_f h hF
      have hF := wJ_l hq11 hF
      exact hJ38 H locs ls hF hH (lv_sub hl [1, 0] rfl)
    have hF := wx_f h hF
    refine lv_aload_n hx hb dX2_takeNumber_20 rfl (lv_at hl 1 rfl) ?_
    refine lv_iconst hx hb dX2_takeNumber_21 k_iconst_1 ?_
    refine wx_evv hC hH hl (c_X2_blame o1 (1 : Int32) h_o1) y_X2_blame v_X2_blame h_o1 rfl m_X2_81 rfl ⟨Nat.le_of_ble_eq_true rfl, Nat.le_of_ble_eq_true rfl⟩ ⟨Nat.le_refl _, Nat.le_refl _⟩ rfl (Nat.le_of_ble_eq_true rfl) dX2_takeNumber_22 hF (fun _ u13 H locs hF hH => ?_)
    refine lv_goto hx hb dX2_takeNumber_25 (tgt := 43) rfl ?_
    have hF := wJ_l hq7 hF
    exact hJ43 i5 u13 H locs ls hF hH (lv_sub hl [1, 0] rfl)
  exact key _ _ hH
def F_X2_readGuest (o1 : Nat) (u0 : wSt) : Option (Unit × wSt) :=
  wR (u0.2.2 o1 3) 6 (fun o2 => wB (u0.1 o2 1) (fun (i3 : Int32) => if i3 < (6 : Int32) then (wR (u0.2.2 o1 2) 5 (fun o4 => wC (F_X5_next o4 u0) (fun _ (u5 : wSt) => wR (u5.2.2 o1 3) 6 (fun o6 => wR (u5.2.2 o6 7) 10 (fun o7 => wR (u5.2.2 o1 3) 6 (fun o8 => wR (u5.2.2 o1 2) 5 (fun o9 => wP (F_X6_guestNamed o8 (u5.1 o9 2) u5) (fun (i10 : Int32) => wC (F_X2_takeNewName o1 i10 u5) (fun (i12 : Int32) (u11 : wSt) => wSI u11 o7 i3 i12 (fun (u13 : wSt) => wR (u13.2.2 o1 3) 6 (fun o14 => wR (u13.2.2 o14 8) 10 (fun o15 => wC (F_X2_takeNumber o1 (0 : Int32) (99 : Int32) u13) (fun (i17 : Int32) (u16 : wSt) => wSI u16 o15 i3 i17 (fun (u18 : wSt) => wR (u18.2.2 o1 3) 6 (fun o19 => wR (u18.2.2 o19 9) 10 (fun o20 => wC (F_X2_takeNumber o1 (0 : Int32) (98 : Int32) u18) (fun (i22 : Int32) (u21 : wSt) => wSI u21 o20 i3 i22 (fun (u23 : wSt) => wR (u23.2.2 o1 3) 6 (fun o24 => wR (u23.2.2 o24 10) 10 (fun o25 => wC (F_X2_takeNumber o1 (0 : Int32) (9 : Int32) u23) (fun (i27 : Int32) (u26 : wSt) => wSI u26 o25 i3 i27 (fun (u28 : wSt) => wR (u28.2.2 o1 3) 6 (fun o29 => wB (w_sI u28 o29 1 ((u28.1 o29 1) + (1 : Int32))) (fun (u30 : wSt) => some ((), u30))))))))))))))))))))))))) else (wC (F_X2_blame o1 (2 : Int32) u0) (fun _ (u31 : wSt) => some ((), u31)))))
set_option maxRecDepth 100000 in
set_option maxHeartbeats 4000000 in
theorem c_X2_readGuest {l : Launch} {D : va_G} {κ : Nat → ClassId} {ρ : Nat → Nat} (o1 : Nat) (h_o1 : (w_sh o1).1 = 2) : wMV l yX2_readGuest cX2_readGuest 2 (wRm 3 63) [.ref (ρ o1)] D κ ρ 0 (fun u => F_X2_readGuest o1 u) := by
  refine wMV_of (F := fun u => F_X2_readGuest o1 u) rfl (Nat.le_of_ble_eq_true rfl) (fun u0 z p e s m args below meth c ls A hF hC hr hlk hH hl => ?_)
  have hl : lv_has ls 2 [(0, .ref (ρ o1))] := hl
  have hx := hC.1.1
  have hb := hC.1.2.1
  have hF : F_X2_readGuest o1 u0 = some z := hF
  unfold F_X2_readGuest at hF
  change W p l e (wRm 3 63) s m args below meth c s.heap [] 0 0 (wQV below args s A D κ ρ 0 z) (F0 m 0 ls [])
  have key : ∀ (H : Heap) (locs : List Loc), wHp D κ ρ 0 A s.heap H locs u0 → W p l e (wRm 3 63) s m args below meth c H locs 0 0 (wQV below args s A D κ ρ 0 z) (F0 m 0 ls []) := by
    intro H locs hH
    refine lv_aload_n hx hb dX2_readGuest_0 rfl (lv_at hl 0 rfl) ?_
    refine wx_getR hC hH h_o1 rfl f_X2_46 dX2_readGuest_1 hF (fun o2 h_o2 hF => ?_)
    refine wx_getI hC hH h_o2 rfl f_X2_90 dX2_readGuest_4 ?_
    refine wx_leti hF (fun i3 hF => ?_)
    refine wx_istore_n hx hb dX2_readGuest_7 rfl hl (by decide) (fun ls hl => ?_)
    have hl : lv_has ls 2 [(1, .int i3), (0, .ref (ρ o1))] := hl
    refine lv_iload_n hx hb dX2_readGuest_8 rfl (lv_at hl 0 rfl) ?_
    refine lv_bipush hx hb dX2_readGuest_9 k_bipush_6 ?_
    refine lv_icmp_lt hx hb dX2_readGuest_11 (tgt := 20) rfl (fun h => ?_) (fun h => ?_)
    · have hF := wx_t h hF
      refine lv_aload_n hx hb dX2_readGuest_20 rfl (lv_at hl 1 rfl) ?_
      refine wx_getR hC hH h_o1 rfl f_X2_42 dX2_readGuest_21 hF (fun o4 h_o4 hF => ?_)
      refine wx_evv hC hH hl (c_X5_next o4 h_o4) y_X5_next v_X5_next h_o4 rfl m_X2_87 rfl ⟨Nat.le_of_ble_eq_true rfl, Nat.le_of_ble_eq_true rfl⟩ ⟨Nat.le_refl _, Nat.le_refl _⟩ rfl (Nat.le_of_ble_eq_true rfl) dX2_readGuest_24 hF (fun _ u5 H locs hF hH => ?_)
      refine lv_aload_n hx hb dX2_readGuest_27 rfl (lv_at hl 1 rfl) ?_
      refine wx_getR hC hH h_o1 rfl f_X2_46 dX2_readGuest_28 hF (fun o6 h_o6 hF => ?_)
      refine wx_getR hC hH h_o6 rfl f_X2_93 dX2_readGuest_31 hF (fun o7 h_o7 hF => ?_)
      refine lv_iload_n hx hb dX2_readGuest_34 rfl (lv_at hl 0 rfl) ?_
      refine lv_aload_n hx hb dX2_readGuest_35 rfl (lv_at hl 1 rfl) ?_
      refine lv_aload_n hx hb dX2_readGuest_36 rfl (lv_at hl 1 rfl) ?_
      refine wx_getR hC hH h_o1 rfl f_X2_46 dX2_readGuest_37 hF (fun o8 h_o8 hF => ?_)
      refine lv_aload_n hx hb dX2_readGuest_40 rfl (lv_at hl 1 rfl) ?_
      refine wx_getR hC hH h_o1 rfl f_X2_42 dX2_readGuest_41 hF (fun o9 h_o9 hF => ?_)
      refine wx_getI hC hH h_o9 rfl f_X2_96 dX2_readGuest_44 ?_
      refine wx_pvi hC hH hl (c_X6_guestNamed o8 (u5.1 o9 2) h_o8) y_X6_guestNamed v_X6_guestNamed h_o8 rfl m_X2_99 rfl ⟨Nat.le_of_ble_eq_true rfl, Nat.le_of_ble_eq_true rfl⟩ ⟨Nat.le_refl _, Nat.le_refl _⟩ rfl (Nat.le_of_ble_eq_true rfl) dX2_readGuest_47 hF (fun i10 H locs hF hH => ?_)
      refine wx_evi hC hH hl (c_X2_takeNewName o1 i10 h_o1) y_X2_takeNewName v_X2_takeNewName h_o1 rfl m_X2_103 rfl ⟨Nat.le_of_ble_eq_true rfl, Nat.le_of_ble_eq_true rfl⟩ ⟨Nat.le_refl _, Nat.le_refl _⟩ rfl (Nat.le_of_ble_eq_true rfl) dX2_readGuest_50 hF (fun i12 u11 H locs hF hH => ?_)
      refine wx_iast hC hH h_o7 ⟨rfl, rfl⟩ dX2_readGuest_53 hF (fun u13 H locs hF hH => ?_)
      refine lv_aload_n hx hb dX2_readGuest_54 rfl (lv_at hl 1 rfl) ?_
      refine wx_getR hC hH h_o1 rfl f_X2_46 dX2_readGuest_55 hF (fun o14 h_o14 hF => ?_)
      refine wx_getR hC hH h_o14 rfl f_X2_106 dX2_readGuest_58 hF (fun o15 h_o15 hF => ?_)
      refine lv_iload_n hx hb dX2_readGuest_61 rfl (lv_at hl 0 rfl) ?_
      refine lv_aload_n hx hb dX2_readGuest_62 rfl (lv_at hl 1 rfl) ?_
      refine lv_iconst hx hb dX2_readGuest_63 k_iconst_0 ?_
      refine lv_bipush hx hb dX2_readGuest_64 k_bipush_99 ?_
      refine wx_evi hC hH hl (c_X2_takeNumber o1 (0 : Int32) (99 : Int32) h_o1) y_X2_takeNumber v_X2_takeNumber h_o1 rfl m_X2_109 rfl ⟨Nat.le_of_ble_eq_true rfl, Nat.le_of_ble_eq_true rfl⟩ ⟨Nat.le_refl _, Nat.le_refl _⟩ rfl (Nat.le_of_ble_eq_true rfl) dX2_readGuest_66 hF (fun i17 u16 H locs hF hH => ?_)
      refine wx_iast hC hH h_o15 ⟨rfl, rfl⟩ dX2_readGuest_69 hF (fun u18 H locs hF hH => ?_)
      refine lv_aload_n hx hb dX2_readGuest_70 rfl (lv_at hl 1 rfl) ?_
      refine wx_getR hC hH h_o1 rfl f_X2_46 dX2_readGuest_71 hF (fun o19 h_o19 hF => ?_)
      refine wx_getR hC hH h_o19 rfl f_X2_113 dX2_readGuest_74 hF (fun o20 h_o20 hF => ?_)
      refine lv_iload_n hx hb dX2_readGuest_77 rfl (lv_at hl 0 rfl) ?_
      refine lv_aload_n hx hb dX2_readGuest_78 rfl (lv_at hl 1 rfl) ?_
      refine lv_iconst hx hb dX2_readGuest_79 k_iconst_0 ?_
      refine lv_bipush hx hb dX2_readGuest_80 k_bipush_98 ?_
      refine wx_evi hC hH hl (c_X2_takeNumber o1 (0 : Int32) (98 : Int32) h_o1) y_X2_takeNumber v_X2_takeNumber h_o1 rfl m_X2_109 rfl ⟨Nat.le_of_ble_eq_true rfl, Nat.le_of_ble_eq_true rfl⟩ ⟨Nat.le_refl _, Nat.le_refl _⟩ rfl (Nat.le_of_ble_eq_true rfl) dX2_readGuest_82 hF (fun i22 u21 H locs hF hH => ?_)
      refine wx_iast hC hH h_o20 ⟨rfl, rfl⟩ dX2_readGuest_85 hF (fun u23 H locs hF hH => ?_)
      refine lv_aload_n hx hb dX2_readGuest_86 rfl (lv_at hl 1 rfl) ?_
      refine wx_getR hC hH h_o1 rfl f_X2_46 dX2_readGuest_87 hF (fun o24 h_o24 hF => ?_)
      refine wx_getR hC hH h_o24 rfl f_X2_116 dX2_readGuest_90 hF (fun o25 h_o25 hF => ?_)
      refine lv_iload_n hx hb dX2_readGuest_93 rfl (lv_at hl 0 rfl) ?_
      refine lv_aload_n hx hb dX2_readGuest_94 rfl (lv_at hl 1 rfl) ?_
      refine lv_iconst hx hb dX2_readGuest_95 k_iconst_0 ?_
      refine lv_bipush hx hb dX2_readGuest_96 k_bipush_9 ?_
      refine wx_evi hC hH hl (c_X2_takeNumber o1 (0 : Int32) (9 : Int32) h_o1) y_X2_takeNumber v_X2_takeNumber h_o1 rfl m_X2_109 rfl ⟨Nat.le_of_ble_eq_true rfl, Nat.le_of_ble_eq_true rfl⟩ ⟨Nat.le_refl _, Nat.le_refl _⟩ rfl (Nat.le_of_ble_eq_true rfl) dX2_readGuest_98 hF (fun i27 u26 H locs hF hH => ?_)
      refine wx_iast hC hH h_o25 ⟨rfl, rfl⟩ dX2_readGuest_101 hF (fun u28 H locs hF hH => ?_)
      refine lv_aload_n hx hb dX2_readGuest_102 rfl (lv_at hl 1 rfl) ?_
      refine wx_getR hC hH h_o1 rfl f_X2_46 dX2_readGuest_103 hF (fun o29 h_o29 hF => ?_)
      refine lv_dup hx hb dX2_readGuest_106 rfl ?_
      refine wx_getI hC hH h_o29 rfl f_X2_90 dX2_readGuest_107 ?_
      refine lv_iconst hx hb dX2_readGuest_110 k_iconst_1 ?_
      refine lv_iadd hx hb dX2_readGuest_111 ?_
      refine wx_putI hC hH h_o29 rfl f_X2_90 g_6_1 dX2_readGuest_112 hF (fun u30 H locs hF hH => ?_)
      exact wx_vret hC hH hr hlk dX2_readGuest_115 hF
    have hF := wx_f h hF
    refine lv_aload_n hx hb dX2_readGuest_14 rfl (lv_at hl 1 rfl) ?_
    refine lv_iconst hx hb dX2_readGuest_15 k_iconst_2 ?_
    refine wx_evv hC hH hl (c_X2_blame o1 (2 : Int32) h_o1) y_X2_blame v_X2_blame h_o1 rfl m_X2_81 rfl ⟨Nat.le_of_ble_eq_true rfl, Nat.le_of_ble_eq_true rfl⟩ ⟨Nat.le_refl _, Nat.le_refl _⟩ rfl (Nat.le_of_ble_eq_true rfl) dX2_readGuest_16 hF (fun _ u31 H locs hF hH => ?_)
    exact wx_vret hC hH hr hlk dX2_readGuest_19 hF
  exact key _ _ hH
def F_X6_fruitNamed_b2 (u0 : wSt) (o1 : Nat) (i2 : Int32) (i4 : Int32) : Option ((Int32) ⊕ Int32) :=
  if (u0.1 o1 2) ≤ i4 then (some (.inr ((-1 : Int32)))) else (wR (u0.2.2 o1 11) 10 (fun o5 => wN i4 o5 (fun j6 => if (u0.1 o5 j6) = i2 then (some (.inr (i4))) else (wB (i4 + (1 : Int32)) (fun (i7 : Int32) => some (.inl i7))))))
def F_X6_fruitNamed (o1 : Nat) (i2 : Int32) (u0 : wSt) : Option Int32 :=
  wL (S := Int32) (fun x => F_X6_fruitNamed_b2 u0 o1 i2 x) wFu (0 : Int32)
set_option maxRecDepth 100000 in
set_option maxHeartbeats 4000000 in
theorem c_X6_fruitNamed {l : Launch} {D : va_G} {κ : Nat → ClassId} {ρ : Nat → Nat} (o1 : Nat) (i2 : Int32) (h_o1 : (w_sh o1).1 = 6) : wMI l yX6_fruitNamed cX6_fruitNamed 3 .int (wRm 0 0) [.ref (ρ o1), .int i2] D κ ρ 0 (fun u => wPu (F_X6_fruitNamed o1 i2 u) u) := by
  refine wMP_of (F := fun u => F_X6_fruitNamed o1 i2 u) rfl (Nat.le_of_ble_eq_true rfl) (fun u0 z p e s m args below meth c ls A hF hC hr hlk hH hl => ?_)
  have hl : lv_has ls 3 [(0, .ref (ρ o1)), (1, .int i2)] := hl
  have hx := hC.1.1
  have hb := hC.1.2.1
  have hF : F_X6_fruitNamed o1 i2 u0 = some z := hF
  unfold F_X6_fruitNamed at hF
  change W p l e (wRm 0 0) s m args below meth c s.heap [] 0 0 (wQI below args s A D κ ρ 0 (z, u0)) (F0 m 0 ls [])
  have key : ∀ (H : Heap) (locs : List Loc), wHp D κ ρ 0 A s.heap H locs u0 → W p l e (wRm 0 0) s m args below meth c H locs 0 0 (wQI below args s A D κ ρ 0 (z, u0)) (F0 m 0 ls []) := by
    intro H locs hH
    refine lv_iconst hx hb dX6_fruitNamed_0 k_iconst_0 ?_
    refine wx_istore_n hx hb dX6_fruitNamed_1 rfl hl (by decide) (fun ls hl => ?_)
    have hl : lv_has ls 3 [(2, .int (0 : Int32)), (0, .ref (ρ o1)), (1, .int i2)] := hl
    have hL2 : ∀ (k3_ : Nat) (i4 : Int32) (H : Heap) (locs : List Loc) (ls : Array Slot), wL (S := Int32) (fun x => F_X6_fruitNamed_b2 u0 o1 i2 x) k3_ i4 = some z → wHp D κ ρ 0 A s.heap H locs u0 → lv_has ls 3 [(0, .ref (ρ o1)), (1, .int i2), (2, .int i4)] → W p l e (wRm 0 0) s m args below meth c H locs 0 0 (wQI below args s A D κ ρ 0 (z, u0)) (F0 m 2 ls []) := by
      intro k3_
      induction k3_ with
      | zero => intro i4 H locs ls hF; exact wL_zero hF
      | succ k3_ ih3 =>
        intro i4 H locs ls hF hH hl
        obtain ⟨q3_, hF, hq3⟩ := wL_some hF
        have hF : F_X6_fruitNamed_b2 u0 o1 i2 i4 = some q3_ := hF
        unfold F_X6_fruitNamed_b2 at hF
        refine lv_iload_n hx hb dX6_fruitNamed_2 rfl (lv_at hl 2 rfl) ?_
        refine lv_aload_n hx hb dX6_fruitNamed_3 rfl (lv_at hl 0 rfl) ?_
        refine wx_getI hC hH h_o1 rfl f_X6_18 dX6_fruitNamed_4 ?_
        refine lv_icmp_ge hx hb dX6_fruitNamed_7 (tgt := 28) rfl (fun h => ?_) (fun h => ?_)
        · have hF := wx_t h hF
          refine lv_iconst hx hb dX6_fruitNamed_28 k_iconst_m1 ?_
          have hF := wJ_r hq3 hF
          exact wx_iret hC hH hr hlk dX6_fruitNamed_29 (wx_pr hF)
        have hF := wx_f h hF
        refine lv_aload_n hx hb dX6_fruitNamed_10 rfl (lv_at hl 0 rfl) ?_
        refine wx_getR hC hH h_o1 rfl f_X6_46 dX6_fruitNamed_11 hF (fun o5 h_o5 hF => ?_)
        refine lv_iload_n hx hb dX6_fruitNamed_14 rfl (lv_at hl 2 rfl) ?_
        refine wx_iald hC hH h_o5 ⟨rfl, rfl⟩ dX6_fruitNamed_15 hF (fun j6 hF => ?_)
        refine lv_iload_n hx hb dX6_fruitNamed_16 rfl (lv_at hl 1 rfl) ?_
        refine lv_icmp_ne hx hb dX6_fruitNamed_17 (tgt := 22) rfl (fun h => ?_) (fun h => ?_)
        · have hF := wx_f h hF
          refine wx_iinc hx hb dX6_fruitNamed_22 k_iconst_1 hl (k := 2) rfl (by decide) hF (fun i7 ls hF hl => ?_)
          have hl : lv_has ls 3 [(2, .int i7), (0, .ref (ρ o1)), (1, .int i2)] := hl
          refine lv_goto hx hb dX6_fruitNamed_25 (tgt := 2) rfl ?_
          have hF := wJ_l hq3 hF
          exact ih3 i7 H locs ls hF hH (lv_sub hl [1, 2, 0] rfl)
        have hF := wx_t h hF
        refine lv_iload_n hx hb dX6_fruitNamed_20 rfl (lv_at hl 2 rfl) ?_
        have hF := wJ_r hq3 hF
        exact wx_iret hC hH hr hlk dX6_fruitNamed_21 (wx_pr hF)
    exact hL2 wFu (0 : Int32) H locs ls hF hH (lv_sub hl [1, 2, 0] rfl)
  exact key _ _ hH
def F_X2_readFruit (o1 : Nat) (u0 : wSt) : Option (Unit × wSt) :=
  wR (u0.2.2 o1 3) 6 (fun o2 => wB (u0.1 o2 2) (fun (i3 : Int32) => if i3 < (8 : Int32) then (wR (u0.2.2 o1 2) 5 (fun o4 => wC (F_X5_next o4 u0) (fun _ (u5 : wSt) => wR (u5.2.2 o1 3) 6 (fun o6 => wR (u5.2.2 o6 11) 10 (fun o7 => wR (u5.2.2 o1 3) 6 (fun o8 => wR (u5.2.2 o1 2) 5 (fun o9 => wP (F_X6_fruitNamed o8 (u5.1 o9 2) u5) (fun (i10 : Int32) => wC (F_X2_takeNewName o1 i10 u5) (fun (i12 : Int32) (u11 : wSt) => wSI u11 o7 i3 i12 (fun (u13 : wSt) => wR (u13.2.2 o1 3) 6 (fun o14 => wR (u13.2.2 o14 12) 10 (fun o15 => wC (F_X2_takeNumber o1 (0 : Int32) (9 : Int32) u13) (fun (i17 : Int32) (u16 : wSt) => wSI u16 o15 i3 i17 (fun (u18 : wSt) => wR (u18.2.2 o1 3) 6 (fun o19 => wR (u18.2.2 o19 13) 10 (fun o20 => wC (F_X2_takeNumber o1 (0 : Int32) (1 : Int32) u18) (fun (i22 : Int32) (u21 : wSt) => wSI u21 o20 i3 i22 (fun (u23 : wSt) => wR (u23.2.2 o1 3) 6 (fun o24 => wB (w_sI u23 o24 2 ((u23.1 o24 2) + (1 : Int32))) (fun (u25 : wSt) => some ((), u25))))))))))))))))))))) else (wC (F_X2_blame o1 (2 : Int32) u0) (fun _ (u26 : wSt) => some ((), u26)))))
set_option maxRecDepth 100000 in
set_option maxHeartbeats 4000000 in
theorem c_X2_readFruit {l : Launch} {D : va_G} {κ : Nat → ClassId} {ρ : Nat → Nat} (o1 : Nat) (h_o1 : (w_sh o1).1 = 2) : wMV l yX2_readFruit cX2_readFruit 2 (wRm 3 63) [.ref (ρ o1)] D κ ρ 0 (fun u => F_X2_readFruit o1 u) := by
  refine wMV_of (F := fun u => F_X2_readFruit o1 u) rfl (Nat.le_of_ble_eq_true rfl) (fun u0 z p e s m args below meth c ls A hF hC hr hlk hH hl => ?_)
  have hl : lv_has ls 2 [(0, .ref (ρ o1))] := hl
  have hx := hC.1.1
  have hb := hC.1.2.1
  have hF : F_X2_readFruit o1 u0 = some z := hF
  unfold F_X2_readFruit at hF
  change W p l e (wRm 3 63) s m args below meth c s.heap [] 0 0 (wQV below args s A D κ ρ 0 z) (F0 m 0 ls [])
  have key : ∀ (H : Heap) (locs : List Loc), wHp D κ ρ 0 A s.heap H locs u0 → W p l e (wRm 3 63) s m args below meth c H locs 0 0 (wQV below args s A D κ ρ 0 z) (F0 m 0 ls []) := by
    intro H locs hH
    refine lv_aload_n hx hb dX2_readFruit_0 rfl (lv_at hl 0 rfl) ?_
    refine wx_getR hC hH h_o1 rfl f_X2_46 dX2_readFruit_1 hF (fun o2 h_o2 hF => ?_)
    refine wx_getI hC hH h_o2 rfl f_X2_119 dX2_readFruit_4 ?_
    refine wx_leti hF (fun i3 hF => ?_)
    refine wx_istore_n hx hb dX2_readFruit_7 rfl hl (by decide) (fun ls hl => ?_)
    have hl : lv_has ls 2 [(1, .int i3), (0, .ref (ρ o1))] := hl
    refine lv_iload_n hx hb dX2_readFruit_8 rfl (lv_at hl 0 rfl) ?_
    refine lv_bipush hx hb dX2_readFruit_9 k_bipush_8 ?_
    refine lv_icmp_lt hx hb dX2_readFruit_11 (tgt := 20) rfl (fun h => ?_) (fun h => ?_)
    · have hF := wx_t h hF
      refine lv_aload_n hx hb dX2_readFruit_20 rfl (lv_at hl 1 rfl) ?_
      refine wx_getR hC hH h_o1 rfl f_X2_42 dX2_readFruit_21 hF (fun o4 h_o4 hF => ?_)
      refine wx_evv hC hH hl (c_X5_next o4 h_o4) y_X5_next v_X5_next h_o4 rfl m_X2_87 rfl ⟨Nat.le_of_ble_eq_true rfl, Nat.le_of_ble_eq_true rfl⟩ ⟨Nat.le_refl _, Nat.le_refl _⟩ rfl (Nat.le_of_ble_eq_true rfl) dX2_readFruit_24 hF (fun _ u5 H locs hF hH => ?_)
      refine lv_aload_n hx hb dX2_readFruit_27 rfl (lv_at hl 1 rfl) ?_
      refine wx_getR hC hH h_o1 rfl f_X2_46 dX2_readFruit_28 hF (fun o6 h_o6 hF => ?_)
      refine wx_getR hC hH h_o6 rfl f_X2_122 dX2_readFruit_31 hF (fun o7 h_o7 hF => ?_)
      refine lv_iload_n hx hb dX2_readFruit_34 rfl (lv_at hl 0 rfl) ?_
      refine lv_aload_n hx hb dX2_readFruit_35 rfl (lv_at hl 1 rfl) ?_
      refine lv_aload_n hx hb dX2_readFruit_36 rfl (lv_at hl 1 rfl) ?_
      refine wx_getR hC hH h_o1 rfl f_X2_46 dX2_readFruit_37 hF (fun o8 h_o8 hF => ?_)
      refine lv_aload_n hx hb dX2_readFruit_40 rfl (lv_at hl 1 rfl) ?_
      refine wx_getR hC hH h_o1 rfl f_X2_42 dX2_readFruit_41 hF (fun o9 h_o9 hF => ?_)
      refine wx_getI hC hH h_o9 rfl f_X2_96 dX2_readFruit_44 ?_
      refine wx_pvi hC hH hl (c_X6_fruitNamed o8 (u5.1 o9 2) h_o8) y_X6_fruitNamed v_X6_fruitNamed h_o8 rfl m_X2_125 rfl ⟨Nat.le_of_ble_eq_true rfl, Nat.le_of_ble_eq_true rfl⟩ ⟨Nat.le_refl _, Nat.le_refl _⟩ rfl (Nat.le_of_ble_eq_true rfl) dX2_readFruit_47 hF (fun i10 H locs hF hH => ?_)
      refine wx_evi hC hH hl (c_X2_takeNewName o1 i10 h_o1) y_X2_takeNewName v_X2_takeNewName h_o1 rfl m_X2_103 rfl ⟨Nat.le_of_ble_eq_true rfl, Nat.le_of_ble_eq_true rfl⟩ ⟨Nat.le_refl _, Nat.le_refl _⟩ rfl (Nat.le_of_ble_eq_true rfl) dX2_readFruit_50 hF (fun i12 u11 H locs hF hH => ?_)
      refine wx_iast hC hH h_o7 ⟨rfl, rfl⟩ dX2_readFruit_53 hF (fun u13 H locs hF hH => ?_)
      refine lv_aload_n hx hb dX2_readFruit_54 rfl (lv_at hl 1 rfl) ?_
      refine wx_getR hC hH h_o1 rfl f_X2_46 dX2_readFruit_55 hF (fun o14 h_o14 hF => ?_)
      refine wx_getR hC hH h_o14 rfl f_X2_128 dX2_readFruit_58 hF (fun o15 h_o15 hF => ?_)
      refine lv_iload_n hx hb dX2_readFruit_61 rfl (lv_at hl 0 rfl) ?_
      refine lv_aload_n hx hb dX2_readFruit_62 rfl (lv_at hl 1 rfl) ?_
      refine lv_iconst hx hb dX2_readFruit_63 k_iconst_0 ?_
      refine lv_bipush hx hb dX2_readFruit_64 k_bipush_9 ?_
      refine wx_evi hC hH hl (c_X2_takeNumber o1 (0 : Int32) (9 : Int32) h_o1) y_X2_takeNumber v_X2_takeNumber h_o1 rfl m_X2_109 rfl ⟨Nat.le_of_ble_eq_true rfl, Nat.le_of_ble_eq_true rfl⟩ ⟨Nat.le_refl _, Nat.le_refl _⟩ rfl (Nat.le_of_ble_eq_true rfl) dX2_readFruit_66 hF (fun i17 u16 H locs hF hH => ?_)
      refine wx_iast hC hH h_o15 ⟨rfl, rfl⟩ dX2_readFruit_69 hF (fun u18 H locs hF hH => ?_)
      refine lv_aload_n hx hb dX2_readFruit_70 rfl (lv_at hl 1 rfl) ?_
      refine wx_getR hC hH h_o1 rfl f_X2_46 dX2_readFruit_71 hF (fun o19 h_o19 hF => ?_)
      refine wx_getR hC hH h_o19 rfl f_X2_131 dX2_readFruit_74 hF (fun o20 h_o20 hF => ?_)
      refine lv_iload_n hx hb dX2_readFruit_77 rfl (lv_at hl 0 rfl) ?_
      refine lv_aload_n hx hb dX2_readFruit_78 rfl (lv_at hl 1 rfl) ?_
      refine lv_iconst hx hb dX2_readFruit_79 k_iconst_0 ?_
      refine lv_iconst hx hb dX2_readFruit_80 k_iconst_1 ?_
      refine wx_evi hC hH hl (c_X2_takeNumber o1 (0 : Int32) (1 : Int32) h_o1) y_X2_takeNumber v_X2_takeNumber h_o1 rfl m_X2_109 rfl ⟨Nat.le_of_ble_eq_true rfl, Nat.le_of_ble_eq_true rfl⟩ ⟨Nat.le_refl _, Nat.le_refl _⟩ rfl (Nat.le_of_ble_eq_true rfl) dX2_readFruit_81 hF (fun i22 u21 H locs hF hH => ?_)
      refine wx_iast hC hH h_o20 ⟨rfl, rfl⟩ dX2_readFruit_84 hF (fun u23 H locs hF hH => ?_)
      refine lv_aload_n hx hb dX2_readFruit_85 rfl (lv_at hl 1 rfl) ?_
      refine wx_getR hC hH h_o1 rfl f_X2_46 dX2_readFruit_86 hF (fun o24 h_o24 hF => ?_)
      refine lv_dup hx hb dX2_readFruit_89 rfl ?_
      refine wx_getI hC hH h_o24 rfl f_X2_119 dX2_readFruit_90 ?_
      refine lv_iconst hx hb dX2_readFruit_93 k_iconst_1 ?_
      refine lv_iadd hx hb dX2_readFruit_94 ?_
      refine wx_putI hC hH h_o24 rfl f_X2_119 g_6_2 dX2_readFruit_95 hF (fun u25 H locs hF hH => ?_)
      exact wx_vret hC hH hr hlk dX2_readFruit_98 hF
    have hF := wx_f h hF
    refine lv_aload_n hx hb dX2_readFruit_14 rfl (lv_at hl 1 rfl) ?_
    refine lv_iconst hx hb dX2_readFruit_15 k_iconst_2 ?_
    refine wx_evv hC hH hl (c_X2_blame o1 (2 : Int32) h_o1) y_X2_blame v_X2_blame h_o1 rfl m_X2_81 rfl ⟨Nat.le_of_ble_eq_true rfl, Nat.le_of_ble_eq_true rfl⟩ ⟨Nat.le_refl _, Nat.le_refl _⟩ rfl (Nat.le_of_ble_eq_true rfl) dX2_readFruit_16 hF (fun _ u26 H locs hF hH => ?_)
    exact wx_vret hC hH hr hlk dX2_readFruit_19 hF
  exact key _ _ hH
def F_X2_takeGuest_j45 (o1 : Nat) (i7 : Int32) (u8 : wSt) : Option (Int32 × wSt) :=
  wC (F_X2_goOnIfGood o1 u8) (fun _ (u9 : wSt) => some (i7, u9))
def F_X2_takeGuest (o1 : Nat) (u0 : wSt) : Option (Int32 × wSt) :=
  wR (u0.2.2 o1 3) 6 (fun o2 => wR (u0.2.2 o1 2) 5 (fun o3 => wP (F_X6_guestNamed o2 (u0.1 o3 2) u0) (fun (i4 : Int32) => wR (u0.2.2 o1 2) 5 (fun o5 => wJ (X := Int32 × wSt) (if (u0.1 o5 0) = (34 : Int32) then (if i4 = (-1 : Int32) then (wC (F_X2_blame o1 (4 : Int32) u0) (fun _ (u10 : wSt) => some (.inl (i4, u10)))) else (some (.inl (i4, u0)))) else (wC (F_X2_blame o1 (1 : Int32) u0) (fun _ (u11 : wSt) => some (.inl (i4, u11))))) (fun x => F_X2_takeGuest_j45 o1 x.1 x.2)))))
set_option maxRecDepth 100000 in
set_option maxHeartbeats 4000000 in
theorem c_X2_takeGuest {l : Launch} {D : va_G} {κ : Nat → ClassId} {ρ : Nat → Nat} (o1 : Nat) (h_o1 : (w_sh o1).1 = 2) : wMI l yX2_takeGuest cX2_takeGuest 2 .int (wRm 2 40) [.ref (ρ o1)] D κ ρ 0 (fun u => F_X2_takeGuest o1 u) := by
  refine wMI_of (F := fun u => F_X2_takeGuest o1 u) rfl (Nat.le_of_ble_eq_true rfl) (fun u0 z p e s m args below meth c ls A hF hC hr hlk hH hl => ?_)
  have hl : lv_has ls 2 [(0, .ref (ρ o1))] := hl
  have hx := hC.1.1
  have hb := hC.1.2.1
  have hF : F_X2_takeGuest o1 u0 = some z := hF
  unfold F_X2_takeGuest at hF
  change W p l e (wRm 2 40) s m args below meth c s.heap [] 0 0 (wQI below args s A D κ ρ 0 z) (F0 m 0 ls [])
  have key : ∀ (H : Heap) (locs : List Loc), wHp D κ ρ 0 A s.heap H locs u0 → W p l e (wRm 2 40) s m args below meth c H locs 0 0 (wQI below args s A D κ ρ 0 z) (F0 m 0 ls []) := by
    intro H locs hH
    refine lv_aload_n hx hb dX2_takeGuest_0 rfl (lv_at hl 0 rfl) ?_
    refine wx_getR hC hH h_o1 rfl f_X2_46 dX2_takeGuest_1 hF (fun o2 h_o2 hF => ?_)
    refine lv_aload_n hx hb dX2_takeGuest_4 rfl (lv_at hl 0 rfl) ?_
    refine wx_getR hC hH h_o1 rfl f_X2_42 dX2_takeGuest_5 hF (fun o3 h_o3 hF => ?_)
    refine wx_getI hC hH h_o3 rfl f_X2_96 dX2_takeGuest_8 ?_
    refine wx_pvi hC hH hl (c_X6_guestNamed o2 (u0.1 o3 2) h_o2) y_X6_guestNamed v_X6_guestNamed h_o2 rfl m_X2_99 rfl ⟨Nat.le_of_ble_eq_true rfl, Nat.le_of_ble_eq_true rfl⟩ ⟨Nat.le_refl _, Nat.le_refl _⟩ rfl (Nat.le_of_ble_eq_true rfl) dX2_takeGuest_11 hF (fun i4 H locs hF hH => ?_)
    refine wx_istore_n hx hb dX2_takeGuest_14 rfl hl (by decide) (fun ls hl => ?_)
    have hl : lv_has ls 2 [(1, .int i4), (0, .ref (ρ o1))] := hl
    refine lv_aload_n hx hb dX2_takeGuest_15 rfl (lv_at hl 1 rfl) ?_
    refine wx_getR hC hH h_o1 rfl f_X2_42 dX2_takeGuest_16 hF (fun o5 h_o5 hF => ?_)
    refine wx_getI hC hH h_o5 rfl f_X2_59 dX2_takeGuest_19 ?_
    refine lv_bipush hx hb dX2_takeGuest_22 k_bipush_34 ?_
    obtain ⟨q6_, hF, hq6⟩ := wJ_some hF
    have hJ45 : ∀ (i7 : Int32) (u8 : wSt) (H : Heap) (locs : List Loc) (ls : Array Slot), F_X2_takeGuest_j45 o1 i7 u8 = some z → wHp D κ ρ 0 A s.heap H locs u8 → lv_has ls 2 [(0, .ref (ρ o1)), (1, .int i7)] → W p l e (wRm 2 40) s m args below meth c H locs 0 0 (wQI below args s A D κ ρ 0 z) (F0 m 45 ls []) := by
      intro i7 u8 H locs ls hF hH hl
      unfold F_X2_takeGuest_j45 at hF
      refine lv_aload_n hx hb dX2_takeGuest_45 rfl (lv_at hl 0 rfl) ?_
      refine wx_evv hC hH hl (c_X2_goOnIfGood o1 h_o1) y_X2_goOnIfGood v_X2_goOnIfGood h_o1 rfl m_X2_179 rfl ⟨Nat.le_of_ble_eq_true rfl, Nat.le_of_ble_eq_true rfl⟩ ⟨Nat.le_refl _, Nat.le_refl _⟩ rfl (Nat.le_of_ble_eq_true rfl) dX2_takeGuest_46 hF (fun _ u9 H locs hF hH => ?_)
      refine lv_iload_n hx hb dX2_takeGuest_49 rfl (lv_at hl 1 rfl) ?_
      exact wx_iret hC hH hr hlk dX2_takeGuest_50 hF
    refine lv_icmp_eq hx hb dX2_takeGuest_24 (tgt := 35) rfl (fun h => ?_) (fun h => ?_)
    · have hF := wx_t h hF
      refine lv_iload_n hx hb dX2_takeGuest_35 rfl (lv_at hl 0 rfl) ?_
      refine lv_iconst hx hb dX2_takeGuest_36 k_iconst_m1 ?_
      refine lv_icmp_ne hx hb dX2_takeGuest_37 (tgt := 45) rfl (fun h => ?_) (fun h => ?_)
      · have hF := wx_f h hF
        have hF := wJ_l hq6 hF
        exact hJ45 i4 u0 H locs ls hF hH (lv_sub hl [1, 0] rfl)
      have hF := wx_t h hF
      refine lv_aload_n hx hb dX2_takeGuest_40 rfl (lv_at hl 1 rfl) ?_
      refine lv_iconst hx hb dX2_takeGuest_41 k_iconst_4 ?_
      refine wx_evv hC hH hl (c_X2_blame o1 (4 : Int32) h_o1) y_X2_blame v_X2_blame h_o1 rfl m_X2_81 rfl ⟨Nat.le_of_ble_eq_true rfl, Nat.le_of_ble_eq_true rfl⟩ ⟨Nat.le_refl _, Nat.le_refl _⟩ rfl (Nat.le_of_ble_eq_true rfl) dX2_takeGuest_42 hF (fun _ u10 H locs hF hH => ?_)
      have hF := wJ_l hq6 hF
      exact hJ45 i4 u10 H locs ls hF hH (lv_sub hl [1, 0] rfl)
    have hF := wx_f h hF
    refine lv_aload_n hx hb dX2_takeGuest_27 rfl (lv_at hl 1 rfl) ?_
    refine lv_iconst hx hb dX2_takeGuest_28 k_iconst_1 ?_
    refine wx_evv hC hH hl (c_X2_blame o1 (1 : Int32) h_o1) y_X2_blame v_X2_blame h_o1 rfl m_X2_81 rfl ⟨Nat.le_of_ble_eq_true rfl, Nat.le_of_ble_eq_true rfl⟩ ⟨Nat.le_refl _, Nat.le_refl _⟩ rfl (Nat.le_of_ble_eq_true rfl) dX2_takeGuest_29 hF (fun _ u11 H locs hF hH => ?_)
    refine lv_goto hx hb dX2_takeGuest_32 (tgt := 45) rfl ?_
    have hF := wJ_l hq6 hF
    exact hJ45 i4 u11 H locs ls hF hH (lv_sub hl [1, 0] rfl)
  exact key _ _ hH
def F_X2_readBite (o1 : Nat) (u0 : wSt) : Option (Unit × wSt) :=
  wR (u0.2.2 o1 3) 6 (fun o2 => wB (u0.1 o2 3) (fun (i3 : Int32) => if i3 < (8 : Int32) then (wR (u0.2.2 o1 2) 5 (fun o4 => wC (F_X5_next o4 u0) (fun _ (u5 : wSt) => wR (u5.2.2 o1 3) 6 (fun o6 => wR (u5.2.2 o6 14) 10 (fun o7 => wC (F_X2_takeGuest o1 u5) (fun (i9 : Int32) (u8 : wSt) => wSI u8 o7 i3 i9 (fun (u10 : wSt) => wR (u10.2.2 o1 3) 6 (fun o11 => wR (u10.2.2 o11 15) 10 (fun o12 => wC (F_X2_takeNumber o1 (0 : Int32) (99 : Int32) u10) (fun (i14 : Int32) (u13 : wSt) => wSI u13 o12 i3 i14 (fun (u15 : wSt) => wR (u15.2.2 o1 3) 6 (fun o16 => wB (w_sI u15 o16 3 ((u15.1 o16 3) + (1 : Int32))) (fun (u17 : wSt) => some ((), u17)))))))))))))) else (wC (F_X2_blame o1 (2 : Int32) u0) (fun _ (u18 : wSt) => some ((), u18)))))
set_option maxRecDepth 100000 in
set_option maxHeartbeats 4000000 in
theorem c_X2_readBite {l : Launch} {D : va_G} {κ : Nat → ClassId} {ρ : Nat → Nat} (o1 : Nat) (h_o1 : (w_sh o1).1 = 2) : wMV l yX2_readBite cX2_readBite 2 (wRm 3 63) [.ref (ρ o1)] D κ ρ 0 (fun u => F_X2_readBite o1 u) := by
  refine wMV_of (F := fun u => F_X2_readBite o1 u) rfl (Nat.le_of_ble_eq_true rfl) (fun u0 z p e s m args below meth c ls A hF hC hr hlk hH hl => ?_)
  have hl : lv_has ls 2 [(0, .ref (ρ o1))] := hl
  have hx := hC.1.1
  have hb := hC.1.2.1
  have hF : F_X2_readBite o1 u0 = some z := hF
  unfold F_X2_readBite at hF
  change W p l e (wRm 3 63) s m args below meth c s.heap [] 0 0 (wQV below args s A D κ ρ 0 z) (F0 m 0 ls [])
  have key : ∀ (H : Heap) (locs : List Loc), wHp D κ ρ 0 A s.heap H locs u0 → W p l e (wRm 3 63) s m args below meth c H locs 0 0 (wQV below args s A D κ ρ 0 z) (F0 m 0 ls []) := by
    intro H locs hH
    refine lv_aload_n hx hb dX2_readBite_0 rfl (lv_at hl 0 rfl) ?_
    refine wx_getR hC hH h_o1 rfl f_X2_46 dX2_readBite_1 hF (fun o2 h_o2 hF => ?_)
    refine wx_getI hC hH h_o2 rfl f_X2_134 dX2_readBite_4 ?_
    refine wx_leti hF (fun i3 hF => ?_)
    refine wx_istore_n hx hb dX2_readBite_7 rfl hl (by decide) (fun ls hl => ?_)
    have hl : lv_has ls 2 [(1, .int i3), (0, .ref (ρ o1))] := hl
    refine lv_iload_n hx hb dX2_readBite_8 rfl (lv_at hl 0 rfl) ?_
    refine lv_bipush hx hb dX2_readBite_9 k_bipush_8 ?_
    refine lv_icmp_lt hx hb dX2_readBite_11 (tgt := 20) rfl (fun h => ?_) (fun h => ?_)
    · have hF := wx_t h hF
      refine lv_aload_n hx hb dX2_readBite_20 rfl (lv_at hl 1 rfl) ?_
      refine wx_getR hC hH h_o1 rfl f_X2_42 dX2_readBite_21 hF (fun o4 h_o4 hF => ?_)
      refine wx_evv hC hH hl (c_X5_next o4 h_o4) y_X5_next v_X5_next h_o4 rfl m_X2_87 rfl ⟨Nat.le_of_ble_eq_true rfl, Nat.le_of_ble_eq_true rfl⟩ ⟨Nat.le_refl _, Nat.le_refl _⟩ rfl (Nat.le_of_ble_eq_true rfl) dX2_readBite_24 hF (fun _ u5 H locs hF hH => ?_)
      refine lv_aload_n hx hb dX2_readBite_27 rfl (lv_at hl 1 rfl) ?_
      refine wx_getR hC hH h_o1 rfl f_X2_46 dX2_readBite_28 hF (fun o6 h_o6 hF => ?_)
      refine wx_getR hC hH h_o6 rfl f_X2_137 dX2_readBite_31 hF (fun o7 h_o7 hF => ?_)
      refine lv_iload_n hx hb dX2_readBite_34 rfl (lv_at hl 0 rfl) ?_
      refine lv_aload_n hx hb dX2_readBite_35 rfl (lv_at hl 1 rfl) ?_
      refine wx_evi hC hH hl (c_X2_takeGuest o1 h_o1) y_X2_takeGuest v_X2_takeGuest h_o1 rfl m_X2_140 rfl ⟨Nat.le_of_ble_eq_true rfl, Nat.le_of_ble_eq_true rfl⟩ ⟨Nat.le_refl _, Nat.le_refl _⟩ rfl (Nat.le_of_ble_eq_true rfl) dX2_readBite_36 hF (fun i9 u8 H locs hF hH => ?_)
      refine wx_iast hC hH h_o7 ⟨rfl, rfl⟩ dX2_readBite_39 hF (fun u10 H locs hF hH => ?_)
      refine lv_aload_n hx hb dX2_readBite_40 rfl (lv_at hl 1 rfl) ?_
      refine wx_getR hC hH h_o1 rfl f_X2_46 dX2_readBite_41 hF (fun o11 h_o11 hF => ?_)
      refine wx_getR hC hH h_o11 rfl f_X2_144 dX2_readBite_44 hF (fun o12 h_o12 hF => ?_)
      refine lv_iload_n hx hb dX2_readBite_47 rfl (lv_at hl 0 rfl) ?_
      refine lv_aload_n hx hb dX2_readBite_48 rfl (lv_at hl 1 rfl) ?_
      refine lv_iconst hx hb dX2_readBite_49 k_iconst_0 ?_
      refine lv_bipush hx hb dX2_readBite_50 k_bipush_99 ?_
      refine wx_evi hC hH hl (c_X2_takeNumber o1 (0 : Int32) (99 : Int32) h_o1) y_X2_takeNumber v_X2_takeNumber h_o1 rfl m_X2_109 rfl ⟨Nat.le_of_ble_eq_true rfl, Nat.le_of_ble_eq_true rfl⟩ ⟨Nat.le_refl _, Nat.le_refl _⟩ rfl (Nat.le_of_ble_eq_true rfl) dX2_readBite_52 hF (fun i14 u13 H locs hF hH => ?_)
      refine wx_iast hC hH h_o12 ⟨rfl, rfl⟩ dX2_readBite_55 hF (fun u15 H locs hF hH => ?_)
      refine lv_aload_n hx hb dX2_readBite_56 rfl (lv_at hl 1 rfl) ?_
      refine wx_getR hC hH h_o1 rfl f_X2_46 dX2_readBite_57 hF (fun o16 h_o16 hF => ?_)
      refine lv_dup hx hb dX2_readBite_60 rfl ?_
      refine wx_getI hC hH h_o16 rfl f_X2_134 dX2_readBite_61 ?_
      refine lv_iconst hx hb dX2_readBite_64 k_iconst_1 ?_
      refine lv_iadd hx hb dX2_readBite_65 ?_
      refine wx_putI hC hH h_o16 rfl f_X2_134 g_6_3 dX2_readBite_66 hF (fun u17 H locs hF hH => ?_)
      exact wx_vret hC hH hr hlk dX2_readBite_69 hF
    have hF := wx_f h hF
    refine lv_aload_n hx hb dX2_readBite_14 rfl (lv_at hl 1 rfl) ?_
    refine lv_iconst hx hb dX2_readBite_15 k_iconst_2 ?_
    refine wx_evv hC hH hl (c_X2_blame o1 (2 : Int32) h_o1) y_X2_blame v_X2_blame h_o1 rfl m_X2_81 rfl ⟨Nat.le_of_ble_eq_true rfl, Nat.le_of_ble_eq_true rfl⟩ ⟨Nat.le_refl _, Nat.le_refl _⟩ rfl (Nat.le_of_ble_eq_true rfl) dX2_readBite_16 hF (fun _ u18 H locs hF hH => ?_)
    exact wx_vret hC hH hr hlk dX2_readBite_19 hF
  exact key _ _ hH
def F_X2_readSetting (o1 : Nat) (i2 : Int32) (u0 : wSt) : Option (Unit × wSt) :=
  if (((u0.1 o1 4) >>> (i2 &&& 31)) &&& (1 : Int32)) = 0 then (wB (w_sI u0 o1 4 ((u0.1 o1 4) ||| ((1 : Int32) <<< (i2 &&& 31)))) (fun (u3 : wSt) => wR (u3.2.2 o1 2) 5 (fun o4 => wC (F_X5_next o4 u3) (fun _ (u5 : wSt) => if i2 = (3 : Int32) then (wR (u5.2.2 o1 3) 6 (fun o14 => wC (F_X2_takeNumber o1 (1 : Int32) (5 : Int32) u5) (fun (i16 : Int32) (u15 : wSt) => wB (w_sI u15 o14 4 i16) (fun (u17 : wSt) => some ((), u17))))) else (if i2 = (4 : Int32) then (wR (u5.2.2 o1 3) 6 (fun o10 => wC (F_X2_takeNumber o1 (0 : Int32) (100 : Int32) u5) (fun (i12 : Int32) (u11 : wSt) => wB (w_sI u11 o10 5 i12) (fun (u13 : wSt) => some ((), u13))))) else (wR (u5.2.2 o1 3) 6 (fun o6 => wC (F_X2_takeNumber o1 (0 : Int32) (99999 : Int32) u5) (fun (i8 : Int32) (u7 : wSt) => wB (w_sI u7 o6 6 i8) (fun (u9 : wSt) => some ((), u9)))))))))) else (wC (F_X2_blame o1 (3 : Int32) u0) (fun _ (u18 : wSt) => some ((), u18)))
set_option maxRecDepth 100000 in
set_option maxHeartbeats 4000000 in
theorem c_X2_readSetting {l : Launch} {D : va_G} {κ : Nat → ClassId} {ρ : Nat → Nat} (o1 : Nat) (i2 : Int32) (h_o1 : (w_sh o1).1 = 2) : wMV l yX2_readSetting cX2_readSetting 2 (wRm 3 63) [.ref (ρ o1), .int i2] D κ ρ 0 (fun u => F_X2_readSetting o1 i2 u) := by
  refine wMV_of (F := fun u => F_X2_readSetting o1 i2 u) rfl (Nat.le_of_ble_eq_true rfl) (fun u0 z p e s m args below meth c ls A hF hC hr hlk hH hl => ?_)
  have hl : lv_has ls 2 [(0, .ref (ρ o1)), (1, .int i2)] := hl
  have hx := hC.1.1
  have hb := hC.1.2.1
  have hF : F_X2_readSetting o1 i2 u0 = some z := hF
  unfold F_X2_readSetting at hF
  change W p l e (wRm 3 63) s m args below meth c s.heap [] 0 0 (wQV below args s A D κ ρ 0 z) (F0 m 0 ls [])
  have key : ∀ (H : Heap) (locs : List Loc), wHp D κ ρ 0 A s.heap H locs u0 → W p l e (wRm 3 63) s m args below meth c H locs 0 0 (wQV below args s A D κ ρ 0 z) (F0 m 0 ls []) := by
    intro H locs hH
    refine lv_aload_n hx hb dX2_readSetting_0 rfl (lv_at hl 0 rfl) ?_
    refine wx_getI hC hH h_o1 rfl f_X2_18 dX2_readSetting_1 ?_
    refine lv_iload_n hx hb dX2_readSetting_4 rfl (lv_at hl 1 rfl) ?_
    refine lv_ishr hx hb dX2_readSetting_5 ?_
    refine lv_iconst hx hb dX2_readSetting_6 k_iconst_1 ?_
    refine lv_iand hx hb dX2_readSetting_7 ?_
    refine lv_if_eq hx hb dX2_readSetting_8 (tgt := 17) rfl (fun h => ?_) (fun h => ?_)
    · have hF := wx_t h hF
      refine lv_aload_n hx hb dX2_readSetting_17 rfl (lv_at hl 0 rfl) ?_
      refine lv_dup hx hb dX2_readSetting_18 rfl ?_
      refine wx_getI hC hH h_o1 rfl f_X2_18 dX2_readSetting_19 ?_
      refine lv_iconst hx hb dX2_readSetting_22 k_iconst_1 ?_
      refine lv_iload_n hx hb dX2_readSetting_23 rfl (lv_at hl 1 rfl) ?_
      refine lv_ishl hx hb dX2_readSetting_24 ?_
      refine lv_ior hx hb dX2_readSetting_25 ?_
      refine wx_putI hC hH h_o1 rfl f_X2_18 g_2_4 dX2_readSetting_26 hF (fun u3 H locs hF hH => ?_)
      refine lv_aload_n hx hb dX2_readSetting_29 rfl (lv_at hl 0 rfl) ?_
      refine wx_getR hC hH h_o1 rfl f_X2_42 dX2_readSetting_30 hF (fun o4 h_o4 hF => ?_)
      refine wx_evv hC hH hl (c_X5_next o4 h_o4) y_X5_next v_X5_next h_o4 rfl m_X2_87 rfl ⟨Nat.le_of_ble_eq_true rfl, Nat.le_of_ble_eq_true rfl⟩ ⟨Nat.le_refl _, Nat.le_refl _⟩ rfl (Nat.le_of_ble_eq_true rfl) dX2_readSetting_33 hF (fun _ u5 H locs hF hH => ?_)
      refine lv_iload_n hx hb dX2_readSetting_36 rfl (lv_at hl 1 rfl) ?_
      refine lv_iconst hx hb dX2_readSetting_37 k_iconst_3 ?_
      refine lv_icmp_ne hx hb dX2_readSetting_38 (tgt := 57) rfl (fun h => ?_) (fun h => ?_)
      · have hF := wx_f h hF
        refine lv_iload_n hx hb dX2_readSetting_57 rfl (lv_at hl 1 rfl) ?_
        refine lv_iconst hx hb dX2_readSetting_58 k_iconst_4 ?_
        refine lv_icmp_ne hx hb dX2_readSetting_59 (tgt := 79) rfl (fun h => ?_) (fun h => ?_)
        · have hF := wx_f h hF
          refine lv_aload_n hx hb dX2_readSetting_79 rfl (lv_at hl 0 rfl) ?_
          refine wx_getR hC hH h_o1 rfl f_X2_46 dX2_readSetting_80 hF (fun o6 h_o6 hF => ?_)
          refine lv_aload_n hx hb dX2_readSetting_83 rfl (lv_at hl 0 rfl) ?_
          refine lv_iconst hx hb dX2_readSetting_84 k_iconst_0 ?_
          refine lv_ldc hx hb hC.1.2.2.2.1 (hC.1.2.2.2.2 _ l_X2_153) dX2_readSetting_85 ?_
          refine wx_evi hC hH hl (c_X2_takeNumber o1 (0 : Int32) (99999 : Int32) h_o1) y_X2_takeNumber v_X2_takeNumber h_o1 rfl m_X2_109 rfl ⟨Nat.le_of_ble_eq_true rfl, Nat.le_of_ble_eq_true rfl⟩ ⟨Nat.le_refl _, Nat.le_refl _⟩ rfl (Nat.le_of_ble_eq_true rfl) dX2_readSetting_87 hF (fun i8 u7 H locs hF hH => ?_)
          refine wx_putI hC hH h_o6 rfl f_X2_154 g_6_6 dX2_readSetting_90 hF (fun u9 H locs hF hH => ?_)
          exact wx_vret hC hH hr hlk dX2_readSetting_93 hF
        have hF := wx_t h hF
        refine lv_aload_n hx hb dX2_readSetting_62 rfl (lv_at hl 0 rfl) ?_
        refine wx_getR hC hH h_o1 rfl f_X2_46 dX2_readSetting_63 hF (fun o10 h_o10 hF => ?_)
        refine lv_aload_n hx hb dX2_readSetting_66 rfl (lv_at hl 0 rfl) ?_
        refine lv_iconst hx hb dX2_readSetting_67 k_iconst_0 ?_
        refine lv_bipush hx hb dX2_readSetting_68 k_bipush_100 ?_
        refine wx_evi hC hH hl (c_X2_takeNumber o1 (0 : Int32) (100 : Int32) h_o1) y_X2_takeNumber v_X2_takeNumber h_o1 rfl m_X2_109 rfl ⟨Nat.le_of_ble_eq_true rfl, Nat.le_of_ble_eq_true rfl⟩ ⟨Nat.le_refl _, Nat.le_refl _⟩ rfl (Nat.le_of_ble_eq_true rfl) dX2_readSetting_70 hF (fun i12 u11 H locs hF hH => ?_)
        refine wx_putI hC hH h_o10 rfl f_X2_150 g_6_5 dX2_readSetting_73 hF (fun u13 H locs hF hH => ?_)
        refine lv_goto hx hb dX2_readSetting_76 (tgt := 93) rfl ?_
        exact wx_vret hC hH hr hlk dX2_readSetting_93 hF
      have hF := wx_t h hF
      refine lv_aload_n hx hb dX2_readSetting_41 rfl (lv_at hl 0 rfl) ?_
      refine wx_getR hC hH h_o1 rfl f_X2_46 dX2_readSetting_42 hF (fun o14 h_o14 hF => ?_)
      refine lv_aload_n hx hb dX2_readSetting_45 rfl (lv_at hl 0 rfl) ?_
      refine lv_iconst hx hb dX2_readSetting_46 k_iconst_1 ?_
      refine lv_iconst hx hb dX2_readSetting_47 k_iconst_5 ?_
      refine wx_evi hC hH hl (c_X2_takeNumber o1 (1 : Int32) (5 : Int32) h_o1) y_X2_takeNumber v_X2_takeNumber h_o1 rfl m_X2_109 rfl ⟨Nat.le_of_ble_eq_true rfl, Nat.le_of_ble_eq_true rfl⟩ ⟨Nat.le_refl _, Nat.le_refl _⟩ rfl (Nat.le_of_ble_eq_true rfl) dX2_readSetting_48 hF (fun i16 u15 H locs hF hH => ?_)
      refine wx_putI hC hH h_o14 rfl f_X2_147 g_6_4 dX2_readSetting_51 hF (fun u17 H locs hF hH => ?_)
      refine lv_goto hx hb dX2_readSetting_54 (tgt := 93) rfl ?_
      exact wx_vret hC hH hr hlk dX2_readSetting_93 hF
    have hF := wx_f h hF
    refine lv_aload_n hx hb dX2_readSetting_11 rfl (lv_at hl 0 rfl) ?_
    refine lv_iconst hx hb dX2_readSetting_12 k_iconst_3 ?_
    refine wx_evv hC hH hl (c_X2_blame o1 (3 : Int32) h_o1) y_X2_blame v_X2_blame h_o1 rfl m_X2_81 rfl ⟨Nat.le_of_ble_eq_true rfl, Nat.le_of_ble_eq_true rfl⟩ ⟨Nat.le_refl _, Nat.le_refl _⟩ rfl (Nat.le_of_ble_eq_true rfl) dX2_readSetting_13 hF (fun _ u18 H locs hF hH => ?_)
    exact wx_vret hC hH hr hlk dX2_readSetting_16 hF
  exact key _ _ hH
def F_X2_countKnot (o1 : Nat) (u0 : wSt) : Option (Unit × wSt) :=
  if (u0.1 o1 6) < (64 : Int32) then (wB (w_sI u0 o1 6 ((u0.1 o1 6) + (1 : Int32))) (fun (u2 : wSt) => some ((), u2))) else (wC (F_X2_blame o1 (2 : Int32) u0) (fun _ (u3 : wSt) => some ((), u3)))
set_option maxRecDepth 100000 in
set_option maxHeartbeats 4000000 in
theorem c_X2_countKnot {l : Launch} {D : va_G} {κ : Nat → ClassId} {ρ : Nat → Nat} (o1 : Nat) (h_o1 : (w_sh o1).1 = 2) : wMV l yX2_countKnot cX2_countKnot 1 (wRm 1 21) [.ref (ρ o1)] D κ ρ 0 (fun u => F_X2_countKnot o1 u) := by
  refine wMV_of (F := fun u => F_X2_countKnot o1 u) rfl (Nat.le_of_ble_eq_true rfl) (fun u0 z p e s m args below meth c ls A hF hC hr hlk hH hl => ?_)
  have hl : lv_has ls 1 [(0, .ref (ρ o1))] := hl
  have hx := hC.1.1
  have hb := hC.1.2.1
  have hF : F_X2_countKnot o1 u0 = some z := hF
  unfold F_X2_countKnot at hF
  change W p l e (wRm 1 21) s m args below meth c s.heap [] 0 0 (wQV below args s A D κ ρ 0 z) (F0 m 0 ls [])
  have key : ∀ (H : Heap) (locs : List Loc), wHp D κ ρ 0 A s.heap H locs u0 → W p l e (wRm 1 21) s m args below meth c H locs 0 0 (wQV below args s A D κ ρ 0 z) (F0 m 0 ls []) := by
    intro H locs hH
    refine lv_aload_n hx hb dX2_countKnot_0 rfl (lv_at hl 0 rfl) ?_
    refine wx_getI hC hH h_o1 rfl f_X2_24 dX2_countKnot_1 ?_
    refine lv_bipush hx hb dX2_countKnot_4 k_bipush_64 ?_
    refine lv_icmp_lt hx hb dX2_countKnot_6 (tgt := 17) rfl (fun h => ?_) (fun h => ?_)
    · have hF := wx_t h hF
      refine lv_aload_n hx hb dX2_countKnot_17 rfl (lv_at hl 0 rfl) ?_
      refine lv_dup hx hb dX2_countKnot_18 rfl ?_
      refine wx_getI hC hH h_o1 rfl f_X2_24 dX2_countKnot_19 ?_
      refine lv_iconst hx hb dX2_countKnot_22 k_iconst_1 ?_
      refine lv_iadd hx hb dX2_countKnot_23 ?_
      refine wx_putI hC hH h_o1 rfl f_X2_24 g_2_6 dX2_countKnot_24 hF (fun u2 H locs hF hH => ?_)
      exact wx_vret hC hH hr hlk dX2_countKnot_27 hF
    have hF := wx_f h hF
    refine lv_aload_n hx hb dX2_countKnot_9 rfl (lv_at hl 0 rfl) ?_
    refine lv_iconst hx hb dX2_countKnot_10 k_iconst_2 ?_
    refine wx_evv hC hH hl (c_X2_blame o1 (2 : Int32) h_o1) y_X2_blame v_X2_blame h_o1 rfl m_X2_81 rfl ⟨Nat.le_of_ble_eq_true rfl, Nat.le_of_ble_eq_true rfl⟩ ⟨Nat.le_refl _, Nat.le_refl _⟩ rfl (Nat.le_of_ble_eq_true rfl) dX2_countKnot_11 hF (fun _ u3 H locs hF hH => ?_)
    refine lv_goto hx hb dX2_countKnot_14 (tgt := 27) rfl ?_
    exact wx_vret hC hH hr hlk dX2_countKnot_27 hF
  exact key _ _ hH
def F_X2_await (o1 : Nat) (i2 : Int32) (u0 : wSt) : Option (Unit × wSt) :=
  wR (u0.2.2 o1 9) 10 (fun o3 => if (Int32.ofNat (w_sh o3).2) ≤ (u0.1 o1 8) then (some ((), u0)) else (wR (u0.2.2 o1 9) 10 (fun o4 => wSI u0 o4 (u0.1 o1 8) i2 (fun (u5 : wSt) => wB (w_sI u5 o1 8 ((u5.1 o1 8) + (1 : Int32))) (fun (u6 : wSt) => some ((), u6))))))
set_option maxRecDepth 100000 in
set_option maxHeartbeats 4000000 in
theorem c_X2_await {l : Launch} {D : va_G} {κ : Nat → ClassId} {ρ : Nat → Nat} (o1 : Nat) (i2 : Int32) (h_o1 : (w_sh o1).1 = 2) : wMV l yX2_await cX2_await 2 (wRm 0 0) [.ref (ρ o1), .int i2] D κ ρ 0 (fun u => F_X2_await o1 i2 u) := by
  refine wMV_of (F := fun u => F_X2_await o1 i2 u) rfl (Nat.le_of_ble_eq_true rfl) (fun u0 z p e s m args below meth c ls A hF hC hr hlk hH hl => ?_)
  have hl : lv_has ls 2 [(0, .ref (ρ o1)), (1, .int i2)] := hl
  have hx := hC.1.1
  have hb := hC.1.2.1
  have hF : F_X2_await o1 i2 u0 = some z := hF
  unfold F_X2_await at hF
  change W p l e (wRm 0 0) s m args below meth c s.heap [] 0 0 (wQV below args s A D κ ρ 0 z) (F0 m 0 ls [])
  have key : ∀ (H : Heap) (locs : List Loc), wHp D κ ρ 0 A s.heap H locs u0 → W p l e (wRm 0 0) s m args below meth c H locs 0 0 (wQV below args s A D κ ρ 0 z) (F0 m 0 ls []) := by
    intro H locs hH
    refine lv_aload_n hx hb dX2_await_0 rfl (lv_at hl 0 rfl) ?_
    refine wx_getI hC hH h_o1 rfl f_X2_30 dX2_await_1 ?_
    refine lv_aload_n hx hb dX2_await_4 rfl (lv_at hl 0 rfl) ?_
    refine wx_getR hC hH h_o1 rfl f_X2_33 dX2_await_5 hF (fun o3 h_o3 hF => ?_)
    refine wx_alen (t := 0) hC hH h_o3 ⟨rfl, rfl⟩ (by decide) dX2_await_8 ?_
    refine lv_icmp_ge hx hb dX2_await_9 (tgt := 32) rfl (fun h => ?_) (fun h => ?_)
    · have hF := wx_t h hF
      exact wx_vret hC hH hr hlk dX2_await_32 hF
    have hF := wx_f h hF
    refine lv_aload_n hx hb dX2_await_12 rfl (lv_at hl 0 rfl) ?_
    refine wx_getR hC hH h_o1 rfl f_X2_33 dX2_await_13 hF (fun o4 h_o4 hF => ?_)
    refine lv_aload_n hx hb dX2_await_16 rfl (lv_at hl 0 rfl) ?_
    refine wx_getI hC hH h_o1 rfl f_X2_30 dX2_await_17 ?_
    refine lv_iload_n hx hb dX2_await_20 rfl (lv_at hl 1 rfl) ?_
    refine wx_iast hC hH h_o4 ⟨rfl, rfl⟩ dX2_await_21 hF (fun u5 H locs hF hH => ?_)
    refine lv_aload_n hx hb dX2_await_22 rfl (lv_at hl 0 rfl) ?_
    refine lv_dup hx hb dX2_await_23 rfl ?_
    refine wx_getI hC hH h_o1 rfl f_X2_30 dX2_await_24 ?_
    refine lv_iconst hx hb dX2_await_27 k_iconst_1 ?_
    refine lv_iadd hx hb dX2_await_28 ?_
    refine wx_putI hC hH h_o1 rfl f_X2_30 g_2_8 dX2_await_29 hF (fun u6 H locs hF hH => ?_)
    exact wx_vret hC hH hr hlk dX2_await_32 hF
  exact key _ _ hH
def F_X2_openOne (o1 : Nat) (u0 : wSt) : Option (Unit × wSt) :=
  if (u0.1 o1 7) < (8 : Int32) then (wB (w_sI u0 o1 7 ((u0.1 o1 7) + (1 : Int32))) (fun (u2 : wSt) => wC (F_X2_await o1 (30 : Int32) u2) (fun _ (u3 : wSt) => some ((), u3)))) else (wC (F_X2_blame o1 (2 : Int32) u0) (fun _ (u4 : wSt) => some ((), u4)))
set_option maxRecDepth 100000 in
set_option maxHeartbeats 4000000 in
theorem c_X2_openOne {l : Launch} {D : va_G} {κ : Nat → ClassId} {ρ : Nat → Nat} (o1 : Nat) (h_o1 : (w_sh o1).1 = 2) : wMV l yX2_openOne cX2_openOne 1 (wRm 1 21) [.ref (ρ o1)] D κ ρ 0 (fun u => F_X2_openOne o1 u) := by
  refine wMV_of (F := fun u => F_X2_openOne o1 u) rfl (Nat.le_of_ble_eq_true rfl) (fun u0 z p e s m args below meth c ls A hF hC hr hlk hH hl => ?_)
  have hl : lv_has ls 1 [(0, .ref (ρ o1))] := hl
  have hx := hC.1.1
  have hb := hC.1.2.1
  have hF : F_X2_openOne o1 u0 = some z := hF
  unfold F_X2_openOne at hF
  change W p l e (wRm 1 21) s m args below meth c s.heap [] 0 0 (wQV below args s A D κ ρ 0 z) (F0 m 0 ls [])
  have key : ∀ (H : Heap) (locs : List Loc), wHp D κ ρ 0 A s.heap H locs u0 → W p l e (wRm 1 21) s m args below meth c H locs 0 0 (wQV below args s A D κ ρ 0 z) (F0 m 0 ls []) := by
    intro H locs hH
    refine lv_aload_n hx hb dX2_openOne_0 rfl (lv_at hl 0 rfl) ?_
    refine wx_getI hC hH h_o1 rfl f_X2_27 dX2_openOne_1 ?_
    refine lv_bipush hx hb dX2_openOne_4 k_bipush_8 ?_
    refine lv_icmp_lt hx hb dX2_openOne_6 (tgt := 17) rfl (fun h => ?_) (fun h => ?_)
    · have hF := wx_t h hF
      refine lv_aload_n hx hb dX2_openOne_17 rfl (lv_at hl 0 rfl) ?_
      refine lv_dup hx hb dX2_openOne_18 rfl ?_
      refine wx_getI hC hH h_o1 rfl f_X2_27 dX2_openOne_19 ?_
      refine lv_iconst hx hb dX2_openOne_22 k_iconst_1 ?_
      refine lv_iadd hx hb dX2_openOne_23 ?_
      refine wx_putI hC hH h_o1 rfl f_X2_27 g_2_7 dX2_openOne_24 hF (fun u2 H locs hF hH => ?_)
      refine lv_aload_n hx hb dX2_openOne_27 rfl (lv_at hl 0 rfl) ?_
      refine lv_bipush hx hb dX2_openOne_28 k_bipush_30 ?_
      refine wx_evv hC hH hl (c_X2_await o1 (30 : Int32) h_o1) y_X2_await v_X2_await h_o1 rfl m_X2_198 rfl ⟨Nat.le_of_ble_eq_true rfl, Nat.le_of_ble_eq_true rfl⟩ ⟨Nat.le_refl _, Nat.le_refl _⟩ rfl (Nat.le_of_ble_eq_true rfl) dX2_openOne_30 hF (fun _ u3 H locs hF hH => ?_)
      exact wx_vret hC hH hr hlk dX2_openOne_33 hF
    have hF := wx_f h hF
    refine lv_aload_n hx hb dX2_openOne_9 rfl (lv_at hl 0 rfl) ?_
    refine lv_iconst hx hb dX2_openOne_10 k_iconst_2 ?_
    refine wx_evv hC hH hl (c_X2_blame o1 (2 : Int32) h_o1) y_X2_blame v_X2_blame h_o1 rfl m_X2_81 rfl ⟨Nat.le_of_ble_eq_true rfl, Nat.le_of_ble_eq_true rfl⟩ ⟨Nat.le_refl _, Nat.le_refl _⟩ rfl (Nat.le_of_ble_eq_true rfl) dX2_openOne_11 hF (fun _ u4 H locs hF hH => ?_)
    refine lv_goto hx hb dX2_openOne_14 (tgt := 33) rfl ?_
    exact wx_vret hC hH hr hlk dX2_openOne_33 hF
  exact key _ _ hH
def F_X2_lastWaiting (o1 : Nat) (u0 : wSt) : Option Int32 :=
  if (u0.1 o1 8) ≤ 0 then (some ((30 : Int32))) else (wR (u0.2.2 o1 9) 10 (fun o2 => if (Int32.ofNat (w_sh o2).2) < (u0.1 o1 8) then (some ((30 : Int32))) else (wR (u0.2.2 o1 9) 10 (fun o3 => wN ((u0.1 o1 8) - (1 : Int32)) o3 (fun j4 => some ((u0.1 o3 j4)))))))
set_option maxRecDepth 100000 in
set_option maxHeartbeats 4000000 in
theorem c_X2_lastWaiting {l : Launch} {D : va_G} {κ : Nat → ClassId} {ρ : Nat → Nat} (o1 : Nat) (h_o1 : (w_sh o1).1 = 2) : wMI l yX2_lastWaiting cX2_lastWaiting 1 .int (wRm 0 0) [.ref (ρ o1)] D κ ρ 0 (fun u => wPu (F_X2_lastWaiting o1 u) u) := by
  refine wMP_of (F := fun u => F_X2_lastWaiting o1 u) rfl (Nat.le_of_ble_eq_true rfl) (fun u0 z p e s m args below meth c ls A hF hC hr hlk hH hl => ?_)
  have hl : lv_has ls 1 [(0, .ref (ρ o1))] := hl
  have hx := hC.1.1
  have hb := hC.1.2.1
  have hF : F_X2_lastWaiting o1 u0 = some z := hF
  unfold F_X2_lastWaiting at hF
  change W p l e (wRm 0 0) s m args below meth c s.heap [] 0 0 (wQI below args s A D κ ρ 0 (z, u0)) (F0 m 0 ls [])
  have key : ∀ (H : Heap) (locs : List Loc), wHp D κ ρ 0 A s.heap H locs u0 → W p l e (wRm 0 0) s m args below meth c H locs 0 0 (wQI below args s A D κ ρ 0 (z, u0)) (F0 m 0 ls []) := by
    intro H locs hH
    refine lv_aload_n hx hb dX2_lastWaiting_0 rfl (lv_at hl 0 rfl) ?_
    refine wx_getI hC hH h_o1 rfl f_X2_30 dX2_lastWaiting_1 ?_
    refine lv_if_le hx hb dX2_lastWaiting_4 (tgt := 33) rfl (fun h => ?_) (fun h => ?_)
    · have hF := wx_t h hF
      refine lv_bipush hx hb dX2_lastWaiting_33 k_bipush_30 ?_
      exact wx_iret hC hH hr hlk dX2_lastWaiting_35 (wx_pr hF)
    have hF := wx_f h hF
    refine lv_aload_n hx hb dX2_lastWaiting_7 rfl (lv_at hl 0 rfl) ?_
    refine wx_getI hC hH h_o1 rfl f_X2_30 dX2_lastWaiting_8 ?_
    refine lv_aload_n hx hb dX2_lastWaiting_11 rfl (lv_at hl 0 rfl) ?_
    refine wx_getR hC hH h_o1 rfl f_X2_33 dX2_lastWaiting_12 hF (fun o2 h_o2 hF => ?_)
    refine wx_alen (t := 0) hC hH h_o2 ⟨rfl, rfl⟩ (by decide) dX2_lastWaiting_15 ?_
    refine lv_icmp_gt hx hb dX2_lastWaiting_16 (tgt := 33) rfl (fun h => ?_) (fun h => ?_)
    · have hF := wx_t h hF
      refine lv_bipush hx hb dX2_lastWaiting_33 k_bipush_30 ?_
      exact wx_iret hC hH hr hlk dX2_lastWaiting_35 (wx_pr hF)
    have hF := wx_f h hF
    refine lv_aload_n hx hb dX2_lastWaiting_19 rfl (lv_at hl 0 rfl) ?_
    refine wx_getR hC hH h_o1 rfl f_X2_33 dX2_lastWaiting_20 hF (fun o3 h_o3 hF => ?_)
    refine lv_aload_n hx hb dX2_lastWaiting_23 rfl (lv_at hl 0 rfl) ?_
    refine wx_getI hC hH h_o1 rfl f_X2_30 dX2_lastWaiting_24 ?_
    refine lv_iconst hx hb dX2_lastWaiting_27 k_iconst_1 ?_
    refine lv_isub hx hb dX2_lastWaiting_28 ?_
    refine wx_iald hC hH h_o3 ⟨rfl, rfl⟩ dX2_lastWaiting_29 hF (fun j4 hF => ?_)
    refine lv_goto hx hb dX2_lastWaiting_30 (tgt := 35) rfl ?_
    exact wx_iret hC hH hr hlk dX2_lastWaiting_35 (wx_pr hF)
  exact key _ _ hH
def F_X2_bindingOf (i1 : Int32) (u0 : wSt) : Option Int32 :=
  if i1 = 10 then (some ((1 : Int32))) else (if i1 = 11 then (some ((2 : Int32))) else (if i1 = 12 then (some ((3 : Int32))) else (if i1 = 20 ∨ i1 = 21 ∨ i1 = 22 ∨ i1 = 23 ∨ i1 = 24 ∨ i1 = 25 then (some ((4 : Int32))) else (if i1 = 26 ∨ i1 = 27 then (some ((5 : Int32))) else (if i1 = 28 ∨ i1 = 29 then (some ((6 : Int32))) else (some ((0 : Int32))))))))
set_option maxRecDepth 100000 in
set_option maxHeartbeats 4000000 in
theorem c_X2_bindingOf {l : Launch} {D : va_G} {κ : Nat → ClassId} {ρ : Nat → Nat} (i1 : Int32) : wMI l yX2_bindingOf cX2_bindingOf 1 .int (wRm 0 0) [.int i1] D κ ρ 0 (fun u => wPu (F_X2_bindingOf i1 u) u) := by
  refine wMP_of (F := fun u => F_X2_bindingOf i1 u) rfl (Nat.le_of_ble_eq_true rfl) (fun u0 z p e s m args below meth c ls A hF hC hr hlk hH hl => ?_)
  have hl : lv_has ls 1 [(0, .int i1)] := hl
  have hx := hC.1.1
  have hb := hC.1.2.1
  have hF : F_X2_bindingOf i1 u0 = some z := hF
  unfold F_X2_bindingOf at hF
  change W p l e (wRm 0 0) s m args below meth c s.heap [] 0 0 (wQI below args s A D κ ρ 0 (z, u0)) (F0 m 0 ls [])
  have key : ∀ (H : Heap) (locs : List Loc), wHp D κ ρ 0 A s.heap H locs u0 → W p l e (wRm 0 0) s m args below meth c H locs 0 0 (wQI below args s A D κ ρ 0 (z, u0)) (F0 m 0 ls []) := by
    intro H locs hH
    refine lv_iload_n hx hb dX2_bindingOf_0 rfl (lv_at hl 0 rfl) ?_
    by_cases hs0 : i1 = 10
    · have hF := wx_t hs0 hF
      refine wx_sw hx hb dX2_bindingOf_1 (by decide) (tgt := 96) (by rw [hs0]; decide) ?_
      refine lv_iconst hx hb dX2_bindingOf_96 k_iconst_1 ?_
      exact wx_iret hC hH hr hlk dX2_bindingOf_97 (wx_pr hF)
    have hF := wx_f hs0 hF
    by_cases hs1 : i1 = 11
    · have hF := wx_t hs1 hF
      refine wx_sw hx hb dX2_bindingOf_1 (by decide) (tgt := 98) (by rw [hs1]; decide) ?_
      refine lv_iconst hx hb dX2_bindingOf_98 k_iconst_2 ?_
      exact wx_iret hC hH hr hlk dX2_bindingOf_99 (wx_pr hF)
    have hF := wx_f hs1 hF
    by_cases hs2 : i1 = 12
    · have hF := wx_t hs2 hF
      refine wx_sw hx hb dX2_bindingOf_1 (by decide) (tgt := 100) (by rw [hs2]; decide) ?_
      refine lv_iconst hx hb dX2_bindingOf_100 k_iconst_3 ?_
      exact wx_iret hC hH hr hlk dX2_bindingOf_101 (wx_pr hF)
    have hF := wx_f hs2 hF
    by_cases hs3 : i1 = 20 ∨ i1 = 21 ∨ i1 = 22 ∨ i1 = 23 ∨ i1 = 24 ∨ i1 = 25
    · have hF := wx_t hs3 hF
      refine wx_sw hx hb dX2_bindingOf_1 (by decide) (tgt := 102) (by rcases hs3 with hh | hh | hh | hh | hh | hh <;> rw [hh] <;> decide) ?_
      refine lv_iconst hx hb dX2_bindingOf_102 k_iconst_4 ?_
      exact wx_iret hC hH hr hlk dX2_bindingOf_103 (wx_pr hF)
    have hF := wx_f hs3 hF
    by_cases hs4 : i1 = 26 ∨ i1 = 27
    · have hF := wx_t hs4 hF
      refine wx_sw hx hb dX2_bindingOf_1 (by decide) (tgt := 104) (by rcases hs4 with hh | hh <;> rw [hh] <;> decide) ?_
      refine lv_iconst hx hb dX2_bindingOf_104 k_iconst_5 ?_
      exact wx_iret hC hH hr hlk dX2_bindingOf_105 (wx_pr hF)
    have hF := wx_f hs4 hF
    by_cases hs5 : i1 = 28 ∨ i1 = 29
    · have hF := wx_t hs5 hF
      refine wx_sw hx hb dX2_bindingOf_1 (by decide) (tgt := 106) (by rcases hs5 with hh | hh <;> rw [hh] <;> decide) ?_
      refine lv_bipush hx hb dX2_bindingOf_106 k_bipush_6 ?_
      exact wx_iret hC hH hr hlk dX2_bindingOf_108 (wx_pr hF)
    have hF := wx_f hs5 hF
    have htg : ((1 : Nat) : Int) + wTg (108) (10) (29) #[95, 97, 99, 108, 108, 108, 108, 108, 108, 108, 101, 101, 101, 101, 101, 101, 103, 103, 105, 105] i1 = ((109 : Nat) : Int) := by
      by_cases e0 : i1 = 13
      · rw [e0]; decide
      by_cases e1 : i1 = 14
      · rw [e1]; decide
      by_cases e2 : i1 = 15
      · rw [e2]; decide
      by_cases e3 : i1 = 16
      · rw [e3]; decide
      by_cases e4 : i1 = 17
      · rw [e4]; decide
      by_cases e5 : i1 = 18
      · rw [e5]; decide
      by_cases e6 : i1 = 19
      · rw [e6]; decide
      have n0 : ¬ (i1).toInt = 10 := lv_neT (k := 10) (a := 10) (fun q => hs0 (q)) (by decide)
      have n1 : ¬ (i1).toInt = 11 := lv_neT (k := 11) (a := 11) (fun q => hs1 (q)) (by decide)
      have n2 : ¬ (i1).toInt = 12 := lv_neT (k := 12) (a := 12) (fun q => hs2 (q)) (by decide)
      have n3 : ¬ (i1).toInt = 20 := lv_neT (k := 20) (a := 20) (fun q => hs3 (Or.inl q)) (by decide)
      have n4 : ¬ (i1).toInt = 21 := lv_neT (k := 21) (a := 21) (fun q => hs3 (Or.inr (Or.inl q))) (by decide)
      have n5 : ¬ (i1).toInt = 22 := lv_neT (k := 22) (a := 22) (fun q => hs3 (Or.inr (Or.inr (Or.inl q)))) (by decide)
      have n6 : ¬ (i1).toInt = 23 := lv_neT (k := 23) (a := 23) (fun q => hs3 (Or.inr (Or.inr (Or.inr (Or.inl q))))) (by decide)
      have n7 : ¬ (i1).toInt = 24 := lv_neT (k := 24) (a := 24) (fun q => hs3 (Or.inr (Or.inr (Or.inr (Or.inr (Or.inl q)))))) (by decide)
      have n8 : ¬ (i1).toInt = 25 := lv_neT (k := 25) (a := 25) (fun q => hs3 (Or.inr (Or.inr (Or.inr (Or.inr (Or.inr (q))))))) (by decide)
      have n9 : ¬ (i1).toInt = 26 := lv_neT (k := 26) (a := 26) (fun q => hs4 (Or.inl q)) (by decide)
      have n10 : ¬ (i1).toInt = 27 := lv_neT (k := 27) (a := 27) (fun q => hs4 (Or.inr (q))) (by decide)
      have n11 : ¬ (i1).toInt = 28 := lv_neT (k := 28) (a := 28) (fun q => hs5 (Or.inl q)) (by decide)
      have n12 : ¬ (i1).toInt = 29 := lv_neT (k := 29) (a := 29) (fun q => hs5 (Or.inr (q))) (by decide)
      have w0 : ¬ (i1).toInt = 13 := lv_neT (k := 13) (a := 13) e0 (by decide)
      have w1 : ¬ (i1).toInt = 14 := lv_neT (k := 14) (a := 14) e1 (by decide)
      have w2 : ¬ (i1).toInt = 15 := lv_neT (k := 15) (a := 15) e2 (by decide)
      have w3 : ¬ (i1).toInt = 16 := lv_neT (k := 16) (a := 16) e3 (by decide)
      have w4 : ¬ (i1).toInt = 17 := lv_neT (k := 17) (a := 17) e4 (by decide)
      have w5 : ¬ (i1).toInt = 18 := lv_neT (k := 18) (a := 18) e5 (by decide)
      have w6 : ¬ (i1).toInt = 19 := lv_neT (k := 19) (a := 19) e6 (by decide)
      rw [wTg_lo (by omega)]; rfl
    refine wx_sw hx hb dX2_bindingOf_1 (by decide) (tgt := 109) htg ?_
    refine lv_iconst hx hb dX2_bindingOf_109 k_iconst_0 ?_
    exact wx_iret hC hH hr hlk dX2_bindingOf_110 (wx_pr hF)
  exact key _ _ hH

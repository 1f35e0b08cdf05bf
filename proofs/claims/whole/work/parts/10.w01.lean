def F_X0_bite_j113 (i15 : Int32) (u20 : wSt) : Option ((Int32 × wSt) ⊕ (Unit × wSt)) :=
  wB (i15 + (1 : Int32)) (fun (i21 : Int32) => some (.inl (i21, u20)))
def F_X0_bite_b63 (o1 : Nat) (o2 : Nat) (i3 : Int32) (i4 : Int32) (i15 : Int32) (u16 : wSt) : Option ((Int32 × wSt) ⊕ (Unit × wSt)) :=
  wR (u16.2.2 o1 8) 6 (fun o17 => if (u16.1 o17 1) ≤ i15 then (some (.inr ((), u16))) else (wP (F_X0_hears o1 o2 i15 i3 u16) (fun (i18 : Int32) => wJ (X := wSt) (if i18 = 0 then (some (.inl u16)) else (wR (u16.2.2 o2 5) 10 (fun o22 => wR (u16.2.2 o2 5) 10 (fun o23 => wN i15 o23 (fun j24 => wC (F_X0_shockOf o1 o2 i15 i4 u16) (fun (i26 : Int32) (u25 : wSt) => wSI u25 o22 i15 (w_max (0 : Int32) ((u16.1 o23 j24) - i26)) (fun (u27 : wSt) => some (.inl u27)))))))) (fun x => F_X0_bite_j113 i15 x))))
def F_X0_bite_j60 (o1 : Nat) (o2 : Nat) (i3 : Int32) (i4 : Int32) (u13 : wSt) : Option (Unit × wSt) :=
  wL (S := Int32 × wSt) (fun x => F_X0_bite_b63 o1 o2 i3 i4 x.1 x.2) wFu ((0 : Int32), u13)
def F_X0_bite_j40 (o2 : Nat) (i4 : Int32) (i3 : Int32) (u28 : wSt) : Option ((wSt) ⊕ (Unit × wSt)) :=
  wP (F_X3_isEaten o2 i4 u28) (fun (i29 : Int32) => if i29 = 0 then (wC (F_X3_eat o2 i4 u28) (fun _ (u30 : wSt) => wR (u30.2.2 o2 6) 10 (fun o31 => wSI u30 o31 i3 (0 : Int32) (fun (u32 : wSt) => some (.inl u32))))) else (some (.inl u28)))
def F_X0_bite (o1 : Nat) (o2 : Nat) (i3 : Int32) (i4 : Int32) (u0 : wSt) : Option (Unit × wSt) :=
  wR (u0.2.2 o2 7) 10 (fun o5 => wN i3 o5 (fun j6 => wSI u0 o5 i3 ((u0.1 o5 j6) + (1 : Int32)) (fun (u7 : wSt) => wR (u7.2.2 o2 8) 10 (fun o8 => wN i4 o8 (fun j9 => wSI u7 o8 i4 ((u7.1 o8 j9) + (1 : Int32)) (fun (u10 : wSt) => wJ (X := wSt) (wJ (X := wSt) (if (u10.1 o1 2) = 0 then (wR (u10.2.2 o1 8) 6 (fun o33 => wR (u10.2.2 o33 13) 10 (fun o34 => wN i4 o34 (fun j35 => if (u10.1 o34 j35) = (1 : Int32) then (some (.inl u10)) else (some (.inr (.inl u10))))))) else (some (.inl u10))) (fun x => F_X0_bite_j40 o2 i4 i3 x)) (fun x => F_X0_bite_j60 o1 o2 i3 i4 x)))))))
set_option maxRecDepth 100000 in
set_option maxHeartbeats 4000000 in
theorem c_X0_bite {l : Launch} {D : va_G} {κ : Nat → ClassId} {ρ : Nat → Nat} (o1 : Nat) (o2 : Nat) (i3 : Int32) (i4 : Int32) (h_o1 : (w_sh o1).1 = 0) (h_o2 : (w_sh o2).1 = 3) : wMV l yX0_bite cX0_bite 5 (wRm 4 105) [.ref (ρ o1), .ref (ρ o2), .int i3, .int i4] D κ ρ 0 (fun u => F_X0_bite o1 o2 i3 i4 u) := by
  refine wMV_of (F := fun u => F_X0_bite o1 o2 i3 i4 u) rfl (Nat.le_of_ble_eq_true rfl) (fun u0 z p e s m args below meth c ls A hF hC hr hlk hH hl => ?_)
  have hl : lv_has ls 5 [(0, .ref (ρ o1)), (1, .ref (ρ o2)), (2, .int i3), (3, .int i4)] := hl
  have hx := hC.1.1
  have hb := hC.1.2.1
  have hF : F_X0_bite o1 o2 i3 i4 u0 = some z := hF
  unfold F_X0_bite at hF
  change W p l e (wRm 4 105) s m args below meth c s.heap [] 0 0 (wQV below args s A D κ ρ 0 z) (F0 m 0 ls [])
  have key : ∀ (H : Heap) (locs : List Loc), wHp D κ ρ 0 A s.heap H locs u0 → W p l e (wRm 4 105) s m args below meth c H locs 0 0 (wQV below args s A D κ ρ 0 z) (F0 m 0 ls []) := by
    intro H locs hH
    refine lv_aload_n hx hb dX0_bite_0 rfl (lv_at hl 1 rfl) ?_
    refine wx_getR hC hH h_o2 rfl f_X0_166 dX0_bite_1 hF (fun o5 h_o5 hF => ?_)
    refine lv_iload_n hx hb dX0_bite_4 rfl (lv_at hl 2 rfl) ?_
    refine lv_dup2_11 hx hb dX0_bite_5 rfl rfl ?_
    refine wx_iald hC hH h_o5 ⟨rfl, rfl⟩ dX0_bite_6 hF (fun j6 hF => ?_)
    refine lv_iconst hx hb dX0_bite_7 k_iconst_1 ?_
    refine lv_iadd hx hb dX0_bite_8 ?_
    refine wx_iast hC hH h_o5 ⟨rfl, rfl⟩ dX0_bite_9 hF (fun u7 H locs hF hH => ?_)
    refine lv_aload_n hx hb dX0_bite_10 rfl (lv_at hl 1 rfl) ?_
    refine wx_getR hC hH h_o2 rfl f_X0_140 dX0_bite_11 hF (fun o8 h_o8 hF => ?_)
    refine lv_iload_n hx hb dX0_bite_14 rfl (lv_at hl 3 rfl) ?_
    refine lv_dup2_11 hx hb dX0_bite_15 rfl rfl ?_
    refine wx_iald hC hH h_o8 ⟨rfl, rfl⟩ dX0_bite_16 hF (fun j9 hF => ?_)
    refine lv_iconst hx hb dX0_bite_17 k_iconst_1 ?_
    refine lv_iadd hx hb dX0_bite_18 ?_
    refine wx_iast hC hH h_o8 ⟨rfl, rfl⟩ dX0_bite_19 hF (fun u10 H locs hF hH => ?_)
    refine lv_aload_n hx hb dX0_bite_20 rfl (lv_at hl 0 rfl) ?_
    refine wx_getI hC hH h_o1 rfl f_X0_19 dX0_bite_21 ?_
    obtain ⟨q11_, hF, hq11⟩ := wJ_some hF
    obtain ⟨q12_, hF, hq12⟩ := wJ_some hF
    have hJ60 : ∀ (u13 : wSt) (H : Heap) (locs : List Loc) (ls : Array Slot), F_X0_bite_j60 o1 o2 i3 i4 u13 = some z → wHp D κ ρ 0 A s.heap H locs u13 → lv_has ls 5 [(0, .ref (ρ o1)), (1, .ref (ρ o2)), (2, .int i3), (3, .int i4)] → W p l e (wRm 4 105) s m args below meth c H locs 0 0 (wQV below args s A D κ ρ 0 z) (F0 m 60 ls []) := by
      intro u13 H locs ls hF hH hl
      unfold F_X0_bite_j60 at hF
      refine lv_iconst hx hb dX0_bite_60 k_iconst_0 ?_
      refine wx_istore hx hb dX0_bite_61 hl (by decide) (fun ls hl => ?_)
      have hl : lv_has ls 5 [(4, .int (0 : Int32)), (0, .ref (ρ o1)), (1, .ref (ρ o2)), (2, .int i3), (3, .int i4)] := hl
      have hL63 : ∀ (k14_ : Nat) (i15 : Int32) (u16 : wSt) (H : Heap) (locs : List Loc) (ls : Array Slot), wL (S := Int32 × wSt) (fun x => F_X0_bite_b63 o1 o2 i3 i4 x.1 x.2) k14_ (i15, u16) = some z → wHp D κ ρ 0 A s.heap H locs u16 → lv_has ls 5 [(0, .ref (ρ o1)), (1, .ref (ρ o2)), (2, .int i3), (3, .int i4), (4, .int i15)] → W p l e (wRm 4 105) s m args below meth c H locs 0 0 (wQV below args s A D κ ρ 0 z) (F0 m 63 ls []) := by
        intro k14_
        induction k14_ with
        | zero => intro i15 u16 H locs ls hF; exact wL_zero hF
        | succ k14_ ih14 =>
          intro i15 u16 H locs ls hF hH hl
          obtain ⟨q14_, hF, hq14⟩ := wL_some hF
          have hF : F_X0_bite_b63 o1 o2 i3 i4 i15 u16 = some q14_ := hF
          unfold F_X0_bite_b63 at hF
          refine lv_iload hx hb dX0_bite_63 (lv_at hl 4 rfl) ?_
          refine lv_aload_n hx hb dX0_bite_65 rfl (lv_at hl 0 rfl) ?_
          refine wx_getR hC hH h_o1 rfl f_X0_41 dX0_bite_66 hF (fun o17 h_o17 hF => ?_)
          refine wx_getI hC hH h_o17 rfl f_X0_78 dX0_bite_69 ?_
          refine lv_icmp_ge hx hb dX0_bite_72 (tgt := 119) rfl (fun h => ?_) (fun h => ?_)
          · have hF := wx_t h hF
            have hF := wJ_r hq14 hF
            exact wx_vret hC hH hr hlk dX0_bite_119 hF
          have hF := wx_f h hF
          refine lv_aload_n hx hb dX0_bite_75 rfl (lv_at hl 0 rfl) ?_
          refine lv_aload_n hx hb dX0_bite_76 rfl (lv_at hl 1 rfl) ?_
          refine lv_iload hx hb dX0_bite_77 (lv_at hl 4 rfl) ?_
          refine lv_iload_n hx hb dX0_bite_79 rfl (lv_at hl 2 rfl) ?_
          refine wx_pvi hC hH hl (c_X0_hears o1 o2 i15 i3 h_o1 h_o2) y_X0_hears v_X0_hears h_o1 rfl m_X0_113 rfl ⟨Nat.le_of_ble_eq_true rfl, Nat.le_of_ble_eq_true rfl⟩ ⟨Nat.le_refl _, Nat.le_refl _⟩ rfl (Nat.le_of_ble_eq_true rfl) dX0_bite_80 hF (fun i18 H locs hF hH => ?_)
          obtain ⟨q19_, hF, hq19⟩ := wJ_some hF
          have hJ113 : ∀ (u20 : wSt) (H : Heap) (locs : List Loc) (ls : Array Slot), F_X0_bite_j113 i15 u20 = some q14_ → wHp D κ ρ 0 A s.heap H locs u20 → lv_has ls 5 [(0, .ref (ρ o1)), (1, .ref (ρ o2)), (2, .int i3), (3, .int i4), (4, .int i15)] → W p l e (wRm 4 105) s m args below meth c H locs 0 0 (wQV below args s A D κ ρ 0 z) (F0 m 113 ls []) := by
            intro u20 H locs ls hF hH hl
            unfold F_X0_bite_j113 at hF
            refine wx_iinc hx hb dX0_bite_113 k_iconst_1 hl (k := 4) rfl (by decide) hF (fun i21 ls hF hl => ?_)
            have hl : lv_has ls 5 [(4, .int i21), (0, .ref (ρ o1)), (1, .ref (ρ o2)), (2, .int i3), (3, .int i4)] := hl
            refine lv_goto hx hb dX0_bite_116 (tgt := 63) rfl ?_
            have hF := wJ_l hq14 hF
            exact ih14 i21 u20 H locs ls hF hH (lv_sub hl [1, 2, 3, 4, 0] rfl)
          refine lv_if_eq hx hb dX0_bite_83 (tgt := 113) rfl (fun h => ?_) (fun h => ?_)
          · have hF := wx_t h hF
            have hF := wJ_l hq19 hF
            exact hJ113 u16 H locs ls hF hH (lv_sub hl [0, 1, 2, 3, 4] rfl)
          have hF := wx_f h hF
          refine lv_aload_n hx hb dX0_bite_86 rfl (lv_at hl 1 rfl) ?_
          refine wx_getR hC hH h_o2 rfl f_X0_128 dX0_bite_87 hF (fun o22 h_o22 hF => ?_)
          refine lv_iload hx hb dX0_bite_90 (lv_at hl 4 rfl) ?_
          refine lv_iconst hx hb dX0_bite_92 k_iconst_0 ?_
          refine lv_aload_n hx hb dX0_bite_93 rfl (lv_at hl 1 rfl) ?_
          refine wx_getR hC hH h_o2 rfl f_X0_128 dX0_bite_94 hF (fun o23 h_o23 hF => ?_)
          refine lv_iload hx hb dX0_bite_97 (lv_at hl 4 rfl) ?_
          refine wx_iald hC hH h_o23 ⟨rfl, rfl⟩ dX0_bite_99 hF (fun j24 hF => ?_)
          refine lv_aload_n hx hb dX0_bite_100 rfl (lv_at hl 0 rfl) ?_
          refine lv_aload_n hx hb dX0_bite_101 rfl (lv_at hl 1 rfl) ?_
          refine lv_iload hx hb dX0_bite_102 (lv_at hl 4 rfl) ?_
          refine lv_iload_n hx hb dX0_bite_104 rfl (lv_at hl 3 rfl) ?_
          refine wx_evi hC hH hl (c_X0_shockOf o1 o2 i15 i4 h_o1 h_o2) y_X0_shockOf v_X0_shockOf h_o1 rfl m_X0_179 rfl ⟨Nat.le_of_ble_eq_true rfl, Nat.le_of_ble_eq_true rfl⟩ ⟨Nat.le_refl _, Nat.le_refl _⟩ rfl (Nat.le_of_ble_eq_true rfl) dX0_bite_105 hF (fun i26 u25 H locs hF hH => ?_)
          refine lv_isub hx hb dX0_bite_108 ?_
          refine wx_max hC hl.1 m_X0_182 ⟨Nat.le_of_ble_eq_true rfl, Nat.le_of_ble_eq_true rfl⟩ ⟨Nat.le_refl _, Nat.le_refl _⟩ dX0_bite_109 ?_
          refine wx_iast hC hH h_o22 ⟨rfl, rfl⟩ dX0_bite_112 hF (fun u27 H locs hF hH => ?_)
          have hF := wJ_l hq19 hF
          exact hJ113 u27 H locs ls hF hH (lv_sub hl [0, 1, 2, 3, 4] rfl)
      exact hL63 wFu (0 : Int32) u13 H locs ls hF hH (lv_sub hl [1, 2, 3, 4, 0] rfl)
    have hJ40 : ∀ (u28 : wSt) (H : Heap) (locs : List Loc) (ls : Array Slot), F_X0_bite_j40 o2 i4 i3 u28 = some q11_ → wHp D κ ρ 0 A s.heap H locs u28 → lv_has ls 5 [(0, .ref (ρ o1)), (1, .ref (ρ o2)), (2, .int i3), (3, .int i4)] → W p l e (wRm 4 105) s m args below meth c H locs 0 0 (wQV below args s A D κ ρ 0 z) (F0 m 40 ls []) := by
      intro u28 H locs ls hF hH hl
      unfold F_X0_bite_j40 at hF
      refine lv_aload_n hx hb dX0_bite_40 rfl (lv_at hl 1 rfl) ?_
      refine lv_iload_n hx hb dX0_bite_41 rfl (lv_at hl 3 rfl) ?_
      refine wx_pvi hC hH hl (c_X3_isEaten o2 i4 h_o2) y_X3_isEaten v_X3_isEaten h_o2 rfl m_X0_172 rfl ⟨Nat.le_of_ble_eq_true rfl, Nat.le_of_ble_eq_true rfl⟩ ⟨Nat.le_refl _, Nat.le_refl _⟩ rfl (Nat.le_of_ble_eq_true rfl) dX0_bite_42 hF (fun i29 H locs hF hH => ?_)
      refine lv_if_ne hx hb dX0_bite_45 (tgt := 60) rfl (fun h => ?_) (fun h => ?_)
      · have hF := wx_f h hF
        have hF := wJ_l hq11 hF
        exact hJ60 u28 H locs ls hF hH (lv_sub hl [0, 1, 2, 3] rfl)
      have hF := wx_t h hF
      refine lv_aload_n hx hb dX0_bite_48 rfl (lv_at hl 1 rfl) ?_
      refine lv_iload_n hx hb dX0_bite_49 rfl (lv_at hl 3 rfl) ?_
      refine wx_evv hC hH hl (c_X3_eat o2 i4 h_o2) y_X3_eat v_X3_eat h_o2 rfl m_X0_175 rfl ⟨Nat.le_of_ble_eq_true rfl, Nat.le_of_ble_eq_true rfl⟩ ⟨Nat.le_refl _, Nat.le_refl _⟩ rfl (Nat.le_of_ble_eq_true rfl) dX0_bite_50 hF (fun _ u30 H locs hF hH => ?_)
      refine lv_aload_n hx hb dX0_bite_53 rfl (lv_at hl 1 rfl) ?_
      refine wx_getR hC hH h_o2 rfl f_X0_131 dX0_bite_54 hF (fun o31 h_o31 hF => ?_)
      refine lv_iload_n hx hb dX0_bite_57 rfl (lv_at hl 2 rfl) ?_
      refine lv_iconst hx hb dX0_bite_58 k_iconst_0 ?_
      refine wx_iast hC hH h_o31 ⟨rfl, rfl⟩ dX0_bite_59 hF (fun u32 H locs hF hH => ?_)
      have hF := wJ_l hq11 hF
      exact hJ60 u32 H locs ls hF hH (lv_sub hl [0, 1, 2, 3] rfl)
    refine lv_if_ne hx hb dX0_bite_24 (tgt := 40) rfl (fun h => ?_) (fun h => ?_)
    · have hF := wx_f h hF
      have hF := wJ_l hq12 hF
      exact hJ40 u10 H locs ls hF hH (lv_sub hl [0, 1, 2, 3] rfl)
    have hF := wx_t h hF
    refine lv_aload_n hx hb dX0_bite_27 rfl (lv_at hl 0 rfl) ?_
    refine wx_getR hC hH h_o1 rfl f_X0_41 dX0_bite_28 hF (fun o33 h_o33 hF => ?_)
    refine wx_getR hC hH h_o33 rfl f_X0_169 dX0_bite_31 hF (fun o34 h_o34 hF => ?_)
    refine lv_iload_n hx hb dX0_bite_34 rfl (lv_at hl 3 rfl) ?_
    refine wx_iald hC hH h_o34 ⟨rfl, rfl⟩ dX0_bite_35 hF (fun j35 hF => ?_)
    refine lv_iconst hx hb dX0_bite_36 k_iconst_1 ?_
    refine lv_icmp_ne hx hb dX0_bite_37 (tgt := 60) rfl (fun h => ?_) (fun h => ?_)
    · have hF := wx_f h hF
      have hF := wJ_r hq12 hF
      have hF := wJ_l hq11 hF
      exact hJ60 u10 H locs ls hF hH (lv_sub hl [0, 1, 2, 3] rfl)
    have hF := wx_t h hF
    have hF := wJ_l hq12 hF
    exact hJ40 u10 H locs ls hF hH (lv_sub hl [0, 1, 2, 3] rfl)
  exact key _ _ hH
def F_X0_praiseOf (o1 : Nat) (o2 : Nat) (i3 : Int32) (i4 : Int32) (u0 : wSt) : Option (Int32 × wSt) :=
  wC (F_X0_workOut o1 (0 : Int32) o2 i3 i4 u0) (fun (q6 : Int64) (u5 : wSt) => if (lg_cmp q6 (-9223372036854775808 : Int64)) = 0 then (wR (u5.2.2 o1 8) 6 (fun o8 => wR (u5.2.2 o8 10) 10 (fun o9 => wN i3 o9 (fun j10 => wP (F_X0_sweetOf o1 i4 u5) (fun (i11 : Int32) => wR (u5.2.2 o2 8) 10 (fun o12 => wN i4 o12 (fun j13 => some ((w_max (0 : Int32) (((u5.1 o9 j10) + i11) - (u5.1 o12 j13))), u5)))))))) else (wP (F_X0_within99 q6 u5) (fun (i7 : Int32) => some (i7, u5))))
set_option maxRecDepth 100000 in
set_option maxHeartbeats 4000000 in
theorem c_X0_praiseOf {l : Launch} {D : va_G} {κ : Nat → ClassId} {ρ : Nat → Nat} (o1 : Nat) (o2 : Nat) (i3 : Int32) (i4 : Int32) (h_o1 : (w_sh o1).1 = 0) (h_o2 : (w_sh o2).1 = 3) : wMI l yX0_praiseOf cX0_praiseOf 6 .int (wRm 3 80) [.ref (ρ o1), .ref (ρ o2), .int i3, .int i4] D κ ρ 0 (fun u => F_X0_praiseOf o1 o2 i3 i4 u) := by
  refine wMI_of (F := fun u => F_X0_praiseOf o1 o2 i3 i4 u) rfl (Nat.le_of_ble_eq_true rfl) (fun u0 z p e s m args below meth c ls A hF hC hr hlk hH hl => ?_)
  have hl : lv_has ls 6 [(0, .ref (ρ o1)), (1, .ref (ρ o2)), (2, .int i3), (3, .int i4)] := hl
  have hx := hC.1.1
  have hb := hC.1.2.1
  have hF : F_X0_praiseOf o1 o2 i3 i4 u0 = some z := hF
  unfold F_X0_praiseOf at hF
  change W p l e (wRm 3 80) s m args below meth c s.heap [] 0 0 (wQI below args s A D κ ρ 0 z) (F0 m 0 ls [])
  have key : ∀ (H : Heap) (locs : List Loc), wHp D κ ρ 0 A s.heap H locs u0 → W p l e (wRm 3 80) s m args below meth c H locs 0 0 (wQI below args s A D κ ρ 0 z) (F0 m 0 ls []) := by
    intro H locs hH
    refine lv_aload_n hx hb dX0_praiseOf_0 rfl (lv_at hl 0 rfl) ?_
    refine lv_iconst hx hb dX0_praiseOf_1 k_iconst_0 ?_
    refine lv_aload_n hx hb dX0_praiseOf_2 rfl (lv_at hl 1 rfl) ?_
    refine lv_iload_n hx hb dX0_praiseOf_3 rfl (lv_at hl 2 rfl) ?_
    refine lv_iload_n hx hb dX0_praiseOf_4 rfl (lv_at hl 3 rfl) ?_
    refine wx_evl hC hH hl (c_X0_workOut o1 (0 : Int32) o2 i3 i4 h_o1 h_o2) y_X0_workOut v_X0_workOut h_o1 rfl m_X0_162 rfl ⟨Nat.le_of_ble_eq_true rfl, Nat.le_of_ble_eq_true rfl⟩ ⟨Nat.le_refl _, Nat.le_refl _⟩ rfl (Nat.le_of_ble_eq_true rfl) dX0_praiseOf_5 hF (fun q6 u5 H locs hF hH => ?_)
    refine wx_lstore hx hb dX0_praiseOf_8 hl (by decide) (fun ls hl => ?_)
    have hl : lv_has ls 6 [(4, .long q6), (0, .ref (ρ o1)), (1, .ref (ρ o2)), (2, .int i3), (3, .int i4)] := hl
    refine lv_lload hx hb dX0_praiseOf_10 (lv_at hl 0 rfl) ?_
    refine lv_ldc2 hx hb hC.1.2.2.2.1 (hC.1.2.2.2.2 _ l_X0_126) dX0_praiseOf_12 ?_
    refine W.lcmp hx hb dX0_praiseOf_15 ?_
    refine lv_if_ne hx hb dX0_praiseOf_16 (tgt := 46) rfl (fun h => ?_) (fun h => ?_)
    · have hF := wx_f h hF
      refine lv_lload hx hb dX0_praiseOf_46 (lv_at hl 0 rfl) ?_
      refine wx_psi hC hH hl (c_X0_within99 q6) y_X0_within99 v_X0_within99 m_X0_185 rfl ⟨Nat.le_of_ble_eq_true rfl, Nat.le_of_ble_eq_true rfl⟩ ⟨Nat.le_refl _, Nat.le_refl _⟩ rfl (Nat.le_of_ble_eq_true rfl) dX0_praiseOf_48 hF (fun i7 H locs hF hH => ?_)
      exact wx_iret hC hH hr hlk dX0_praiseOf_51 hF
    have hF := wx_t h hF
    refine lv_iconst hx hb dX0_praiseOf_19 k_iconst_0 ?_
    refine lv_aload_n hx hb dX0_praiseOf_20 rfl (lv_at hl 1 rfl) ?_
    refine wx_getR hC hH h_o1 rfl f_X0_41 dX0_praiseOf_21 hF (fun o8 h_o8 hF => ?_)
    refine wx_getR hC hH h_o8 rfl f_X0_134 dX0_praiseOf_24 hF (fun o9 h_o9 hF => ?_)
    refine lv_iload_n hx hb dX0_praiseOf_27 rfl (lv_at hl 3 rfl) ?_
    refine wx_iald hC hH h_o9 ⟨rfl, rfl⟩ dX0_praiseOf_28 hF (fun j10 hF => ?_)
    refine lv_aload_n hx hb dX0_praiseOf_29 rfl (lv_at hl 1 rfl) ?_
    refine lv_iload_n hx hb dX0_praiseOf_30 rfl (lv_at hl 4 rfl) ?_
    refine wx_pvi hC hH hl (c_X0_sweetOf o1 i4 h_o1) y_X0_sweetOf v_X0_sweetOf h_o1 rfl m_X0_137 rfl ⟨Nat.le_of_ble_eq_true rfl, Nat.le_of_ble_eq_true rfl⟩ ⟨Nat.le_refl _, Nat.le_refl _⟩ rfl (Nat.le_of_ble_eq_true rfl) dX0_praiseOf_31 hF (fun i11 H locs hF hH => ?_)
    refine lv_iadd hx hb dX0_praiseOf_34 ?_
    refine lv_aload_n hx hb dX0_praiseOf_35 rfl (lv_at hl 2 rfl) ?_
    refine wx_getR hC hH h_o2 rfl f_X0_140 dX0_praiseOf_36 hF (fun o12 h_o12 hF => ?_)
    refine lv_iload_n hx hb dX0_praiseOf_39 rfl (lv_at hl 4 rfl) ?_
    refine wx_iald hC hH h_o12 ⟨rfl, rfl⟩ dX0_praiseOf_40 hF (fun j13 hF => ?_)
    refine lv_isub hx hb dX0_praiseOf_41 ?_
    refine wx_max hC hl.1 m_X0_182 ⟨Nat.le_of_ble_eq_true rfl, Nat.le_of_ble_eq_true rfl⟩ ⟨Nat.le_refl _, Nat.le_refl _⟩ dX0_praiseOf_42 ?_
    exact wx_iret hC hH hr hlk dX0_praiseOf_45 hF
  exact key _ _ hH
def F_X0_praise_j72 (i8 : Int32) (u13 : wSt) : Option ((Int32 × wSt) ⊕ (Unit × wSt)) :=
  wB (i8 + (1 : Int32)) (fun (i14 : Int32) => some (.inl (i14, u13)))
def F_X0_praise_b12 (o1 : Nat) (o2 : Nat) (i3 : Int32) (i6 : Int32) (i4 : Int32) (i8 : Int32) (u9 : wSt) : Option ((Int32 × wSt) ⊕ (Unit × wSt)) :=
  wR (u9.2.2 o1 8) 6 (fun o10 => if (u9.1 o10 1) ≤ i8 then (some (.inr ((), u9))) else (wP (F_X0_hears o1 o2 i8 i3 u9) (fun (i11 : Int32) => wJ (X := wSt) (if i11 = 0 then (some (.inl u9)) else (wR (u9.2.2 o2 6) 10 (fun o15 => wN i8 o15 (fun j16 => wB (w_min i6 (u9.1 o15 j16)) (fun (i17 : Int32) => wR (u9.2.2 o2 6) 10 (fun o18 => wN i8 o18 (fun j19 => wSI u9 o18 i8 ((u9.1 o18 j19) - i17) (fun (u20 : wSt) => wR (u20.2.2 o2 9) 10 (fun o21 => wN i4 o21 (fun j22 => wSI u20 o21 i4 ((u20.1 o21 j22) + i17) (fun (u23 : wSt) => some (.inl u23)))))))))))) (fun x => F_X0_praise_j72 i8 x))))
def F_X0_praise (o1 : Nat) (o2 : Nat) (i3 : Int32) (i4 : Int32) (u0 : wSt) : Option (Unit × wSt) :=
  wC (F_X0_praiseOf o1 o2 i3 i4 u0) (fun (i6 : Int32) (u5 : wSt) => wL (S := Int32 × wSt) (fun x => F_X0_praise_b12 o1 o2 i3 i6 i4 x.1 x.2) wFu ((0 : Int32), u5))
set_option maxRecDepth 100000 in
set_option maxHeartbeats 4000000 in
theorem c_X0_praise {l : Launch} {D : va_G} {κ : Nat → ClassId} {ρ : Nat → Nat} (o1 : Nat) (o2 : Nat) (i3 : Int32) (i4 : Int32) (h_o1 : (w_sh o1).1 = 0) (h_o2 : (w_sh o2).1 = 3) : wMV l yX0_praise cX0_praise 7 (wRm 4 105) [.ref (ρ o1), .ref (ρ o2), .int i3, .int i4] D κ ρ 0 (fun u => F_X0_praise o1 o2 i3 i4 u) := by
  refine wMV_of (F := fun u => F_X0_praise o1 o2 i3 i4 u) rfl (Nat.le_of_ble_eq_true rfl) (fun u0 z p e s m args below meth c ls A hF hC hr hlk hH hl => ?_)
  have hl : lv_has ls 7 [(0, .ref (ρ o1)), (1, .ref (ρ o2)), (2, .int i3), (3, .int i4)] := hl
  have hx := hC.1.1
  have hb := hC.1.2.1
  have hF : F_X0_praise o1 o2 i3 i4 u0 = some z := hF
  unfold F_X0_praise at hF
  change W p l e (wRm 4 105) s m args below meth c s.heap [] 0 0 (wQV below args s A D κ ρ 0 z) (F0 m 0 ls [])
  have key : ∀ (H : Heap) (locs : List Loc), wHp D κ ρ 0 A s.heap H locs u0 → W p l e (wRm 4 105) s m args below meth c H locs 0 0 (wQV below args s A D κ ρ 0 z) (F0 m 0 ls []) := by
    intro H locs hH
    refine lv_aload_n hx hb dX0_praise_0 rfl (lv_at hl 0 rfl) ?_
    refine lv_aload_n hx hb dX0_praise_1 rfl (lv_at hl 1 rfl) ?_
    refine lv_iload_n hx hb dX0_praise_2 rfl (lv_at hl 2 rfl) ?_
    refine lv_iload_n hx hb dX0_praise_3 rfl (lv_at hl 3 rfl) ?_
    refine wx_evi hC hH hl (c_X0_praiseOf o1 o2 i3 i4 h_o1 h_o2) y_X0_praiseOf v_X0_praiseOf h_o1 rfl m_X0_196 rfl ⟨Nat.le_of_ble_eq_true rfl, Nat.le_of_ble_eq_true rfl⟩ ⟨Nat.le_refl _, Nat.le_refl _⟩ rfl (Nat.le_of_ble_eq_true rfl) dX0_praise_4 hF (fun i6 u5 H locs hF hH => ?_)
    refine wx_istore hx hb dX0_praise_7 hl (by decide) (fun ls hl => ?_)
    have hl : lv_has ls 7 [(4, .int i6), (0, .ref (ρ o1)), (1, .ref (ρ o2)), (2, .int i3), (3, .int i4)] := hl
    refine lv_iconst hx hb dX0_praise_9 k_iconst_0 ?_
    refine wx_istore hx hb dX0_praise_10 hl (by decide) (fun ls hl => ?_)
    have hl : lv_has ls 7 [(5, .int (0 : Int32)), (4, .int i6), (0, .ref (ρ o1)), (1, .ref (ρ o2)), (2, .int i3), (3, .int i4)] := hl
    have hL12 : ∀ (k7_ : Nat) (i8 : Int32) (u9 : wSt) (H : Heap) (locs : List Loc) (ls : Array Slot), wL (S := Int32 × wSt) (fun x => F_X0_praise_b12 o1 o2 i3 i6 i4 x.1 x.2) k7_ (i8, u9) = some z → wHp D κ ρ 0 A s.heap H locs u9 → lv_has ls 7 [(0, .ref (ρ o1)), (1, .ref (ρ o2)), (2, .int i3), (3, .int i4), (4, .int i6), (5, .int i8)] → W p l e (wRm 4 105) s m args below meth c H locs 0 0 (wQV below args s A D κ ρ 0 z) (F0 m 12 ls []) := by
      intro k7_
      induction k7_ with
      | zero => intro i8 u9 H locs ls hF; exact wL_zero hF
      | succ k7_ ih7 =>
        intro i8 u9 H locs ls hF hH hl
        obtain ⟨q7_, hF, hq7⟩ := wL_some hF
        have hF : F_X0_praise_b12 o1 o2 i3 i6 i4 i8 u9 = some q7_ := hF
        unfold F_X0_praise_b12 at hF
        refine lv_iload hx hb dX0_praise_12 (lv_at hl 5 rfl) ?_
        refine lv_aload_n hx hb dX0_praise_14 rfl (lv_at hl 0 rfl) ?_
        refine wx_getR hC hH h_o1 rfl f_X0_41 dX0_praise_15 hF (fun o10 h_o10 hF => ?_)
        refine wx_getI hC hH h_o10 rfl f_X0_78 dX0_praise_18 ?_
        refine lv_icmp_ge hx hb dX0_praise_21 (tgt := 78) rfl (fun h => ?_) (fun h => ?_)
        · have hF := wx_t h hF
          have hF := wJ_r hq7 hF
          exact wx_vret hC hH hr hlk dX0_praise_78 hF
        have hF := wx_f h hF
        refine lv_aload_n hx hb dX0_praise_24 rfl (lv_at hl 0 rfl) ?_
        refine lv_aload_n hx hb dX0_praise_25 rfl (lv_at hl 1 rfl) ?_
        refine lv_iload hx hb dX0_praise_26 (lv_at hl 5 rfl) ?_
        refine lv_iload_n hx hb dX0_praise_28 rfl (lv_at hl 2 rfl) ?_
        refine wx_pvi hC hH hl (c_X0_hears o1 o2 i8 i3 h_o1 h_o2) y_X0_hears v_X0_hears h_o1 rfl m_X0_113 rfl ⟨Nat.le_of_ble_eq_true rfl, Nat.le_of_ble_eq_true rfl⟩ ⟨Nat.le_refl _, Nat.le_refl _⟩ rfl (Nat.le_of_ble_eq_true rfl) dX0_praise_29 hF (fun i11 H locs hF hH => ?_)
        obtain ⟨q12_, hF, hq12⟩ := wJ_some hF
        have hJ72 : ∀ (u13 : wSt) (H : Heap) (locs : List Loc) (ls : Array Slot), F_X0_praise_j72 i8 u13 = some q7_ → wHp D κ ρ 0 A s.heap H locs u13 → lv_has ls 7 [(0, .ref (ρ o1)), (1, .ref (ρ o2)), (2, .int i3), (3, .int i4), (4, .int i6), (5, .int i8)] → W p l e (wRm 4 105) s m args below meth c H locs 0 0 (wQV below args s A D κ ρ 0 z) (F0 m 72 ls []) := by
          intro u13 H locs ls hF hH hl
          unfold F_X0_praise_j72 at hF
          refine wx_iinc hx hb dX0_praise_72 k_iconst_1 hl (k := 5) rfl (by decide) hF (fun i14 ls hF hl => ?_)
          have hl : lv_has ls 7 [(5, .int i14), (0, .ref (ρ o1)), (1, .ref (ρ o2)), (2, .int i3), (3, .int i4), (4, .int i6)] := hl
          refine lv_goto hx hb dX0_praise_75 (tgt := 12) rfl ?_
          have hF := wJ_l hq7 hF
          exact ih7 i14 u13 H locs ls hF hH (lv_sub hl [1, 2, 3, 4, 5, 0] rfl)
        refine lv_if_eq hx hb dX0_praise_32 (tgt := 72) rfl (fun h => ?_) (fun h => ?_)
        · have hF := wx_t h hF
          have hF := wJ_l hq12 hF
          exact hJ72 u9 H locs ls hF hH (lv_sub hl [0, 1, 2, 3, 4, 5] rfl)
        have hF := wx_f h hF
        refine lv_iload hx hb dX0_praise_35 (lv_at hl 4 rfl) ?_
        refine lv_aload_n hx hb dX0_praise_37 rfl (lv_at hl 1 rfl) ?_
        refine wx_getR hC hH h_o2 rfl f_X0_131 dX0_praise_38 hF (fun o15 h_o15 hF => ?_)
        refine lv_iload hx hb dX0_praise_41 (lv_at hl 5 rfl) ?_
        refine wx_iald hC hH h_o15 ⟨rfl, rfl⟩ dX0_praise_43 hF (fun j16 hF => ?_)
        refine wx_min hC hl.1 m_X0_102 ⟨Nat.le_of_ble_eq_true rfl, Nat.le_of_ble_eq_true rfl⟩ ⟨Nat.le_refl _, Nat.le_refl _⟩ dX0_praise_44 ?_
        refine wx_leti hF (fun i17 hF => ?_)
        refine wx_istore hx hb dX0_praise_47 hl (by decide) (fun ls hl => ?_)
        have hl : lv_has ls 7 [(6, .int i17), (0, .ref (ρ o1)), (1, .ref (ρ o2)), (2, .int i3), (3, .int i4), (4, .int i6), (5, .int i8)] := hl
        refine lv_aload_n hx hb dX0_praise_49 rfl (lv_at hl 2 rfl) ?_
        refine wx_getR hC hH h_o2 rfl f_X0_131 dX0_praise_50 hF (fun o18 h_o18 hF => ?_)
        refine lv_iload hx hb dX0_praise_53 (lv_at hl 6 rfl) ?_
        refine lv_dup2_11 hx hb dX0_praise_55 rfl rfl ?_
        refine wx_iald hC hH h_o18 ⟨rfl, rfl⟩ dX0_praise_56 hF (fun j19 hF => ?_)
        refine lv_iload hx hb dX0_praise_57 (lv_at hl 0 rfl) ?_
        refine lv_isub hx hb dX0_praise_59 ?_
        refine wx_iast hC hH h_o18 ⟨rfl, rfl⟩ dX0_praise_60 hF (fun u20 H locs hF hH => ?_)
        refine lv_aload_n hx hb dX0_praise_61 rfl (lv_at hl 2 rfl) ?_
        refine wx_getR hC hH h_o2 rfl f_X0_199 dX0_praise_62 hF (fun o21 h_o21 hF => ?_)
        refine lv_iload_n hx hb dX0_praise_65 rfl (lv_at hl 4 rfl) ?_
        refine lv_dup2_11 hx hb dX0_praise_66 rfl rfl ?_
        refine wx_iald hC hH h_o21 ⟨rfl, rfl⟩ dX0_praise_67 hF (fun j22 hF => ?_)
        refine lv_iload hx hb dX0_praise_68 (lv_at hl 0 rfl) ?_
        refine lv_iadd hx hb dX0_praise_70 ?_
        refine wx_iast hC hH h_o21 ⟨rfl, rfl⟩ dX0_praise_71 hF (fun u23 H locs hF hH => ?_)
        have hF := wJ_l hq12 hF
        exact hJ72 u23 H locs ls hF hH (lv_sub hl [1, 2, 3, 4, 5, 6] rfl)
    exact hL12 wFu (0 : Int32) u5 H locs ls hF hH (lv_sub hl [2, 3, 4, 5, 1, 0] rfl)
  exact key _ _ hH
def F_X3_nextNumber (o1 : Nat) (u0 : wSt) : Option (Int32 × wSt) :=
  wB (w_sI u0 o1 1 ((((((u0.1 o1 1).toInt64) * (1103515245 : Int64)) + (12345 : Int64)) &&& (2147483647 : Int64)).toInt32)) (fun (u2 : wSt) => some (((u2.1 o1 1) / (65536 : Int32)), u2))
set_option maxRecDepth 100000 in
set_option maxHeartbeats 4000000 in
theorem c_X3_nextNumber {l : Launch} {D : va_G} {κ : Nat → ClassId} {ρ : Nat → Nat} (o1 : Nat) (h_o1 : (w_sh o1).1 = 3) : wMI l yX3_nextNumber cX3_nextNumber 1 .int (wRm 0 0) [.ref (ρ o1)] D κ ρ 0 (fun u => F_X3_nextNumber o1 u) := by
  refine wMI_of (F := fun u => F_X3_nextNumber o1 u) rfl (Nat.le_of_ble_eq_true rfl) (fun u0 z p e s m args below meth c ls A hF hC hr hlk hH hl => ?_)
  have hl : lv_has ls 1 [(0, .ref (ρ o1))] := hl
  have hx := hC.1.1
  have hb := hC.1.2.1
  have hF : F_X3_nextNumber o1 u0 = some z := hF
  unfold F_X3_nextNumber at hF
  change W p l e (wRm 0 0) s m args below meth c s.heap [] 0 0 (wQI below args s A D κ ρ 0 z) (F0 m 0 ls [])
  have key : ∀ (H : Heap) (locs : List Loc), wHp D κ ρ 0 A s.heap H locs u0 → W p l e (wRm 0 0) s m args below meth c H locs 0 0 (wQI below args s A D κ ρ 0 z) (F0 m 0 ls []) := by
    intro H locs hH
    refine lv_aload_n hx hb dX3_nextNumber_0 rfl (lv_at hl 0 rfl) ?_
    refine lv_aload_n hx hb dX3_nextNumber_1 rfl (lv_at hl 0 rfl) ?_
    refine wx_getI hC hH h_o1 rfl f_X3_15 dX3_nextNumber_2 ?_
    refine lv_i2l hx hb dX3_nextNumber_5 rfl ?_
    refine lv_ldc2 hx hb hC.1.2.2.2.1 (hC.1.2.2.2.2 _ l_X3_56) dX3_nextNumber_6 ?_
    refine lv_lmul hx hb dX3_nextNumber_9 ?_
    refine lv_ldc2 hx hb hC.1.2.2.2.1 (hC.1.2.2.2.2 _ l_X3_58) dX3_nextNumber_10 ?_
    refine lv_ladd hx hb dX3_nextNumber_13 ?_
    refine lv_ldc2 hx hb hC.1.2.2.2.1 (hC.1.2.2.2.2 _ l_X3_60) dX3_nextNumber_14 ?_
    refine lv_land hx hb dX3_nextNumber_17 ?_
    refine lv_l2i hx hb dX3_nextNumber_18 rfl ?_
    refine wx_putI hC hH h_o1 rfl f_X3_15 g_3_1 dX3_nextNumber_19 hF (fun u2 H locs hF hH => ?_)
    refine lv_aload_n hx hb dX3_nextNumber_22 rfl (lv_at hl 0 rfl) ?_
    refine wx_getI hC hH h_o1 rfl f_X3_15 dX3_nextNumber_23 ?_
    refine lv_ldc hx hb hC.1.2.2.2.1 (hC.1.2.2.2.2 _ l_X3_62) dX3_nextNumber_26 ?_
    refine lv_idiv hx hb dX3_nextNumber_28 (by decide) ?_
    exact wx_iret hC hH hr hlk dX3_nextNumber_29 hF
  exact key _ _ hH
def F_X0_feelsDraught_j57 (u0 : wSt) (o1 : Nat) : Option (Int32 × wSt) :=
  wR (u0.2.2 o1 8) 6 (fun o5 => if (u0.1 o5 5) = (100 : Int32) then (some ((1 : Int32), u0)) else (some ((0 : Int32), u0)))
def F_X0_feelsDraught (o1 : Nat) (o2 : Nat) (u0 : wSt) : Option (Int32 × wSt) :=
  if (u0.1 o1 0) = (2 : Int32) then (some ((0 : Int32), u0)) else (if (u0.1 o1 0) = 0 then (wR (u0.2.2 o1 8) 6 (fun o10 => if (u0.1 o10 5) < (50 : Int32) then (some ((0 : Int32), u0)) else (some ((1 : Int32), u0)))) else (wR (u0.2.2 o1 8) 6 (fun o3 => wJ (X := Unit) (if (u0.1 o3 5) = 0 then (some (.inl ())) else (wR (u0.2.2 o1 8) 6 (fun o6 => if (u0.1 o6 5) = (100 : Int32) then (some (.inl ())) else (wC (F_X3_nextNumber o2 u0) (fun (i8 : Int32) (u7 : wSt) => wR (u7.2.2 o1 8) 6 (fun o9 => if (u7.1 o9 5) ≤ (w_rem i8 (100 : Int32)) then (some (.inr ((0 : Int32), u7))) else (some (.inr ((1 : Int32), u7))))))))) (fun x => F_X0_feelsDraught_j57 u0 o1))))
set_option maxRecDepth 100000 in
set_option maxHeartbeats 4000000 in
theorem c_X0_feelsDraught {l : Launch} {D : va_G} {κ : Nat → ClassId} {ρ : Nat → Nat} (o1 : Nat) (o2 : Nat) (h_o1 : (w_sh o1).1 = 0) (h_o2 : (w_sh o2).1 = 3) : wMI l yX0_feelsDraught cX0_feelsDraught 2 .boolean (wRm 1 20) [.ref (ρ o1), .ref (ρ o2)] D κ ρ 0 (fun u => F_X0_feelsDraught o1 o2 u) := by
  refine wMI_of (F := fun u => F_X0_feelsDraught o1 o2 u) rfl (Nat.le_of_ble_eq_true rfl) (fun u0 z p e s m args below meth c ls A hF hC hr hlk hH hl => ?_)
  have hl : lv_has ls 2 [(0, .ref (ρ o1)), (1, .ref (ρ o2))] := hl
  have hx := hC.1.1
  have hb := hC.1.2.1
  have hF : F_X0_feelsDraught o1 o2 u0 = some z := hF
  unfold F_X0_feelsDraught at hF
  change W p l e (wRm 1 20) s m args below meth c s.heap [] 0 0 (wQI below args s A D κ ρ 0 z) (F0 m 0 ls [])
  have key : ∀ (H : Heap) (locs : List Loc), wHp D κ ρ 0 A s.heap H locs u0 → W p l e (wRm 1 20) s m args below meth c H locs 0 0 (wQI below args s A D κ ρ 0 z) (F0 m 0 ls []) := by
    intro H locs hH
    refine lv_aload_n hx hb dX0_feelsDraught_0 rfl (lv_at hl 0 rfl) ?_
    refine wx_getI hC hH h_o1 rfl f_X0_9 dX0_feelsDraught_1 ?_
    refine lv_iconst hx hb dX0_feelsDraught_4 k_iconst_2 ?_
    refine lv_icmp_ne hx hb dX0_feelsDraught_5 (tgt := 10) rfl (fun h => ?_) (fun h => ?_)
    · have hF := wx_f h hF
      refine lv_aload_n hx hb dX0_feelsDraught_10 rfl (lv_at hl 0 rfl) ?_
      refine wx_getI hC hH h_o1 rfl f_X0_9 dX0_feelsDraught_11 ?_
      refine lv_if_ne hx hb dX0_feelsDraught_14 (tgt := 35) rfl (fun h => ?_) (fun h => ?_)
      · have hF := wx_f h hF
        refine lv_aload_n hx hb dX0_feelsDraught_35 rfl (lv_at hl 0 rfl) ?_
        refine wx_getR hC hH h_o1 rfl f_X0_41 dX0_feelsDraught_36 hF (fun o3 h_o3 hF => ?_)
        refine wx_getI hC hH h_o3 rfl f_X0_206 dX0_feelsDraught_39 ?_
        obtain ⟨q4_, hF, hq4⟩ := wJ_some hF
        have hJ57 : ∀ (H : Heap) (locs : List Loc) (ls : Array Slot), F_X0_feelsDraught_j57 u0 o1 = some z → wHp D κ ρ 0 A s.heap H locs u0 → lv_has ls 2 [(0, .ref (ρ o1))] → W p l e (wRm 1 20) s m args below meth c H locs 0 0 (wQI below args s A D κ ρ 0 z) (F0 m 57 ls []) := by
          intro H locs ls hF hH hl
          unfold F_X0_feelsDraught_j57 at hF
          refine lv_aload_n hx hb dX0_feelsDraught_57 rfl (lv_at hl 0 rfl) ?_
          refine wx_getR hC hH h_o1 rfl f_X0_41 dX0_feelsDraught_58 hF (fun o5 h_o5 hF => ?_)
          refine wx_getI hC hH h_o5 rfl f_X0_206 dX0_feelsDraught_61 ?_
          refine lv_bipush hx hb dX0_feelsDraught_64 k_bipush_100 ?_
          refine lv_icmp_ne hx hb dX0_feelsDraught_66 (tgt := 73) rfl (fun h => ?_) (fun h => ?_)
          · have hF := wx_f h hF
            refine lv_iconst hx hb dX0_feelsDraught_73 k_iconst_0 ?_
            exact wx_zret hC hH hr hlk dX0_feelsDraught_74 (Or.inl rfl) hF
          have hF := wx_t h hF
          refine lv_iconst hx hb dX0_feelsDraught_69 k_iconst_1 ?_
          refine lv_goto hx hb dX0_feelsDraught_70 (tgt := 74) rfl ?_
          exact wx_zret hC hH hr hlk dX0_feelsDraught_74 (Or.inr rfl) hF
        refine lv_if_eq hx hb dX0_feelsDraught_42 (tgt := 57) rfl (fun h => ?_) (fun h => ?_)
        · have hF := wx_t h hF
          have hF := wJ_l hq4 hF
          exact hJ57 H locs ls hF hH (lv_sub hl [0] rfl)
        have hF := wx_f h hF
        refine lv_aload_n hx hb dX0_feelsDraught_45 rfl (lv_at hl 0 rfl) ?_
        refine wx_getR hC hH h_o1 rfl f_X0_41 dX0_feelsDraught_46 hF (fun o6 h_o6 hF => ?_)
        refine wx_getI hC hH h_o6 rfl f_X0_206 dX0_feelsDraught_49 ?_
        refine lv_bipush hx hb dX0_feelsDraught_52 k_bipush_100 ?_
        refine lv_icmp_ne hx hb dX0_feelsDraught_54 (tgt := 75) rfl (fun h => ?_) (fun h => ?_)
        · have hF := wx_f h hF
          refine lv_aload_n hx hb dX0_feelsDraught_75 rfl (lv_at hl 1 rfl) ?_
          refine wx_evi hC hH hl (c_X3_nextNumber o2 h_o2) y_X3_nextNumber v_X3_nextNumber h_o2 rfl m_X0_209 rfl ⟨Nat.le_of_ble_eq_true rfl, Nat.le_of_ble_eq_true rfl⟩ ⟨Nat.le_refl _, Nat.le_refl _⟩ rfl (Nat.le_of_ble_eq_true rfl) dX0_feelsDraught_76 hF (fun i8 u7 H locs hF hH => ?_)
          refine lv_bipush hx hb dX0_feelsDraught_79 k_bipush_100 ?_
          refine wx_irem hx hb dX0_feelsDraught_81 (by decide) ?_
          refine lv_aload_n hx hb dX0_feelsDraught_82 rfl (lv_at hl 0 rfl) ?_
          refine wx_getR hC hH h_o1 rfl f_X0_41 dX0_feelsDraught_83 hF (fun o9 h_o9 hF => ?_)
          refine wx_getI hC hH h_o9 rfl f_X0_206 dX0_feelsDraught_86 ?_
          refine lv_icmp_ge hx hb dX0_feelsDraught_89 (tgt := 96) rfl (fun h => ?_) (fun h => ?_)
          · have hF := wx_t h hF
            refine lv_iconst hx hb dX0_feelsDraught_96 k_iconst_0 ?_
            have hF := wJ_r hq4 hF
            exact wx_zret hC hH hr hlk dX0_feelsDraught_97 (Or.inl rfl) hF
          have hF := wx_f h hF
          refine lv_iconst hx hb dX0_feelsDraught_92 k_iconst_1 ?_
          refine lv_goto hx hb dX0_feelsDraught_93 (tgt := 97) rfl ?_
          have hF := wJ_r hq4 hF
          exact wx_zret hC hH hr hlk dX0_feelsDraught_97 (Or.inr rfl) hF
        have hF := wx_t h hF
        have hF := wJ_l hq4 hF
        exact hJ57 H locs ls hF hH (lv_sub hl [0] rfl)
      have hF := wx_t h hF
      refine lv_aload_n hx hb dX0_feelsDraught_17 rfl (lv_at hl 0 rfl) ?_
      refine wx_getR hC hH h_o1 rfl f_X0_41 dX0_feelsDraught_18 hF (fun o10 h_o10 hF => ?_)
      refine wx_getI hC hH h_o10 rfl f_X0_206 dX0_feelsDraught_21 ?_
      refine lv_bipush hx hb dX0_feelsDraught_24 k_bipush_50 ?_
      refine lv_icmp_lt hx hb dX0_feelsDraught_26 (tgt := 33) rfl (fun h => ?_) (fun h => ?_)
      · have hF := wx_t h hF
        refine lv_iconst hx hb dX0_feelsDraught_33 k_iconst_0 ?_
        exact wx_zret hC hH hr hlk dX0_feelsDraught_34 (Or.inl rfl) hF
      have hF := wx_f h hF
      refine lv_iconst hx hb dX0_feelsDraught_29 k_iconst_1 ?_
      refine lv_goto hx hb dX0_feelsDraught_30 (tgt := 34) rfl ?_
      exact wx_zret hC hH hr hlk dX0_feelsDraught_34 (Or.inr rfl) hF
    have hF := wx_t h hF
    refine lv_iconst hx hb dX0_feelsDraught_8 k_iconst_0 ?_
    exact wx_zret hC hH hr hlk dX0_feelsDraught_9 (Or.inl rfl) hF
  exact key _ _ hH
def F_X0_growHungry_j44 (i4 : Int32) (u9 : wSt) : Option ((Int32 × wSt) ⊕ (Unit × wSt)) :=
  wB (i4 + (1 : Int32)) (fun (i10 : Int32) => some (.inl (i10, u9)))
def F_X0_growHungry_j42 (o11 : Nat) (i4 : Int32) (u5 : wSt) (j12 : Nat) (i16 : Int32) (u17 : wSt) : Option ((wSt) ⊕ ((Int32 × wSt) ⊕ (Unit × wSt))) :=
  wSI u17 o11 i4 ((u5.1 o11 j12) + i16) (fun (u18 : wSt) => some (.inl u18))
def F_X0_growHungry_b2 (o1 : Nat) (o2 : Nat) (i4 : Int32) (u5 : wSt) : Option ((Int32 × wSt) ⊕ (Unit × wSt)) :=
  wR (u5.2.2 o1 8) 6 (fun o6 => if (u5.1 o6 1) ≤ i4 then (some (.inr ((), u5))) else (wP (F_X0_sits o1 o2 i4 u5) (fun (i7 : Int32) => wJ (X := wSt) (if i7 = 0 then (some (.inl u5)) else (wR (u5.2.2 o2 6) 10 (fun o11 => wN i4 o11 (fun j12 => wC (F_X0_feelsDraught o1 o2 u5) (fun (i14 : Int32) (u13 : wSt) => wJ (X := Int32 × wSt) (if i14 = 0 then (some (.inl ((1 : Int32), u13))) else (some (.inl ((3 : Int32), u13)))) (fun x => F_X0_growHungry_j42 o11 i4 u5 j12 x.1 x.2)))))) (fun x => F_X0_growHungry_j44 i4 x))))
def F_X0_growHungry (o1 : Nat) (o2 : Nat) (u0 : wSt) : Option (Unit × wSt) :=
  wL (S := Int32 × wSt) (fun x => F_X0_growHungry_b2 o1 o2 x.1 x.2) wFu ((0 : Int32), u0)
set_option maxRecDepth 100000 in
set_option maxHeartbeats 4000000 in
theorem c_X0_growHungry {l : Launch} {D : va_G} {κ : Nat → ClassId} {ρ : Nat → Nat} (o1 : Nat) (o2 : Nat) (h_o1 : (w_sh o1).1 = 0) (h_o2 : (w_sh o2).1 = 3) : wMV l yX0_growHungry cX0_growHungry 3 (wRm 2 41) [.ref (ρ o1), .ref (ρ o2)] D κ ρ 0 (fun u => F_X0_growHungry o1 o2 u) := by
  refine wMV_of (F := fun u => F_X0_growHungry o1 o2 u) rfl (Nat.le_of_ble_eq_true rfl) (fun u0 z p e s m args below meth c ls A hF hC hr hlk hH hl => ?_)
  have hl : lv_has ls 3 [(0, .ref (ρ o1)), (1, .ref (ρ o2))] := hl
  have hx := hC.1.1
  have hb := hC.1.2.1
  have hF : F_X0_growHungry o1 o2 u0 = some z := hF
  unfold F_X0_growHungry at hF
  change W p l e (wRm 2 41) s m args below meth c s.heap [] 0 0 (wQV below args s A D κ ρ 0 z) (F0 m 0 ls [])
  have key : ∀ (H : Heap) (locs : List Loc), wHp D κ ρ 0 A s.heap H locs u0 → W p l e (wRm 2 41) s m args below meth c H locs 0 0 (wQV below args s A D κ ρ 0 z) (F0 m 0 ls []) := by
    intro H locs hH
    refine lv_iconst hx hb dX0_growHungry_0 k_iconst_0 ?_
    refine wx_istore_n hx hb dX0_growHungry_1 rfl hl (by decide) (fun ls hl => ?_)
    have hl : lv_has ls 3 [(2, .int (0 : Int32)), (0, .ref (ρ o1)), (1, .ref (ρ o2))] := hl
    have hL2 : ∀ (k3_ : Nat) (i4 : Int32) (u5 : wSt) (H : Heap) (locs : List Loc) (ls : Array Slot), wL (S := Int32 × wSt) (fun x => F_X0_growHungry_b2 o1 o2 x.1 x.2) k3_ (i4, u5) = some z → wHp D κ ρ 0 A s.heap H locs u5 → lv_has ls 3 [(0, .ref (ρ o1)), (1, .ref (ρ o2)), (2, .int i4)] → W p l e (wRm 2 41) s m args below meth c H locs 0 0 (wQV below args s A D κ ρ 0 z) (F0 m 2 ls []) := by
      intro k3_
      induction k3_ with
      | zero => intro i4 u5 H locs ls hF; exact wL_zero hF
      | succ k3_ ih3 =>
        intro i4 u5 H locs ls hF hH hl
        obtain ⟨q3_, hF, hq3⟩ := wL_some hF
        have hF : F_X0_growHungry_b2 o1 o2 i4 u5 = some q3_ := hF
        unfold F_X0_growHungry_b2 at hF
        refine lv_iload_n hx hb dX0_growHungry_2 rfl (lv_at hl 2 rfl) ?_
        refine lv_aload_n hx hb dX0_growHungry_3 rfl (lv_at hl 0 rfl) ?_
        refine wx_getR hC hH h_o1 rfl f_X0_41 dX0_growHungry_4 hF (fun o6 h_o6 hF => ?_)
        refine wx_getI hC hH h_o6 rfl f_X0_78 dX0_growHungry_7 ?_
        refine lv_icmp_ge hx hb dX0_growHungry_10 (tgt := 50) rfl (fun h => ?_) (fun h => ?_)
        · have hF := wx_t h hF
          have hF := wJ_r hq3 hF
          exact wx_vret hC hH hr hlk dX0_growHungry_50 hF
        have hF := wx_f h hF
        refine lv_aload_n hx hb dX0_growHungry_13 rfl (lv_at hl 0 rfl) ?_
        refine lv_aload_n hx hb dX0_growHungry_14 rfl (lv_at hl 1 rfl) ?_
        refine lv_iload_n hx hb dX0_growHungry_15 rfl (lv_at hl 2 rfl) ?_
        refine wx_pvi hC hH hl (c_X0_sits o1 o2 i4 h_o1 h_o2) y_X0_sits v_X0_sits h_o1 rfl m_X0_86 rfl ⟨Nat.le_of_ble_eq_true rfl, Nat.le_of_ble_eq_true rfl⟩ ⟨Nat.le_refl _, Nat.le_refl _⟩ rfl (Nat.le_of_ble_eq_true rfl) dX0_growHungry_16 hF (fun i7 H locs hF hH => ?_)
        obtain ⟨q8_, hF, hq8⟩ := wJ_some hF
        have hJ44 : ∀ (u9 : wSt) (H : Heap) (locs : List Loc) (ls : Array Slot), F_X0_growHungry_j44 i4 u9 = some q3_ → wHp D κ ρ 0 A s.heap H locs u9 → lv_has ls 3 [(0, .ref (ρ o1)), (1, .ref (ρ o2)), (2, .int i4)] → W p l e (wRm 2 41) s m args below meth c H locs 0 0 (wQV below args s A D κ ρ 0 z) (F0 m 44 ls []) := by
          intro u9 H locs ls hF hH hl
          unfold F_X0_growHungry_j44 at hF
          refine wx_iinc hx hb dX0_growHungry_44 k_iconst_1 hl (k := 2) rfl (by decide) hF (fun i10 ls hF hl => ?_)
          have hl : lv_has ls 3 [(2, .int i10), (0, .ref (ρ o1)), (1, .ref (ρ o2))] := hl
          refine lv_goto hx hb dX0_growHungry_47 (tgt := 2) rfl ?_
          have hF := wJ_l hq3 hF
          exact ih3 i10 u9 H locs ls hF hH (lv_sub hl [1, 2, 0] rfl)
        refine lv_if_eq hx hb dX0_growHungry_19 (tgt := 44) rfl (fun h => ?_) (fun h => ?_)
        · have hF := wx_t h hF
          have hF := wJ_l hq8 hF
          exact hJ44 u5 H locs ls hF hH (lv_sub hl [0, 1, 2] rfl)
        have hF := wx_f h hF
        refine lv_aload_n hx hb dX0_growHungry_22 rfl (lv_at hl 1 rfl) ?_
        refine wx_getR hC hH h_o2 rfl f_X0_131 dX0_growHungry_23 hF (fun o11 h_o11 hF => ?_)
        refine lv_iload_n hx hb dX0_growHungry_26 rfl (lv_at hl 2 rfl) ?_
        refine lv_dup2_11 hx hb dX0_growHungry_27 rfl rfl ?_
        refine wx_iald hC hH h_o11 ⟨rfl, rfl⟩ dX0_growHungry_28 hF (fun j12 hF => ?_)
        refine lv_aload_n hx hb dX0_growHungry_29 rfl (lv_at hl 0 rfl) ?_
        refine lv_aload_n hx hb dX0_growHungry_30 rfl (lv_at hl 1 rfl) ?_
        refine wx_evi hC hH hl (c_X0_feelsDraught o1 o2 h_o1 h_o2) y_X0_feelsDraught v_X0_feelsDraught h_o1 rfl m_X0_202 rfl ⟨Nat.le_of_ble_eq_true rfl, Nat.le_of_ble_eq_true rfl⟩ ⟨Nat.le_refl _, Nat.le_refl _⟩ rfl (Nat.le_of_ble_eq_true rfl) dX0_growHungry_31 hF (fun i14 u13 H locs hF hH => ?_)
        obtain ⟨q15_, hF, hq15⟩ := wJ_some hF
        have hJ42 : ∀ (i16 : Int32) (u17 : wSt) (H : Heap) (locs : List Loc) (ls : Array Slot), F_X0_growHungry_j42 o11 i4 u5 j12 i16 u17 = some q8_ → wHp D κ ρ 0 A s.heap H locs u17 → lv_has ls 3 [(0, .ref (ρ o1)), (1, .ref (ρ o2)), (2, .int i4)] → W p l e (wRm 2 41) s m args below meth c H locs 0 0 (wQV below args s A D κ ρ 0 z) (F0 m 42 ls [.int i16, .int (u5.1 o11 j12), .int i4, .ref (ρ o11)]) := by
          intro i16 u17 H locs ls hF hH hl
          unfold F_X0_growHungry_j42 at hF
          refine lv_iadd hx hb dX0_growHungry_42 ?_
          refine wx_iast hC hH h_o11 ⟨rfl, rfl⟩ dX0_growHungry_43 hF (fun u18 H locs hF hH => ?_)
          have hF := wJ_l hq8 hF
          exact hJ44 u18 H locs ls hF hH (lv_sub hl [0, 1, 2] rfl)
        refine lv_if_eq hx hb dX0_growHungry_34 (tgt := 41) rfl (fun h => ?_) (fun h => ?_)
        · have hF := wx_t h hF
          refine lv_iconst hx hb dX0_growHungry_41 k_iconst_1 ?_
          have hF := wJ_l hq15 hF
          exact hJ42 (1 : Int32) u13 H locs ls hF hH (lv_sub hl [0, 1, 2] rfl)
        have hF := wx_f h hF
        refine lv_iconst hx hb dX0_growHungry_37 k_iconst_3 ?_
        refine lv_goto hx hb dX0_growHungry_38 (tgt := 42) rfl ?_
        have hF := wJ_l hq15 hF
        exact hJ42 (3 : Int32) u13 H locs ls hF hH (lv_sub hl [0, 1, 2] rfl)
    exact hL2 wFu (0 : Int32) u0 H locs ls hF hH (lv_sub hl [1, 2, 0] rfl)
  exact key _ _ hH
def F_X3_faint (o1 : Nat) (i2 : Int32) (u0 : wSt) : Option (Unit × wSt) :=
  wB (w_sI u0 o1 2 ((u0.1 o1 2) ||| ((1 : Int32) <<< (i2 &&& 31)))) (fun (u3 : wSt) => some ((), u3))
set_option maxRecDepth 100000 in
set_option maxHeartbeats 4000000 in
theorem c_X3_faint {l : Launch} {D : va_G} {κ : Nat → ClassId} {ρ : Nat → Nat} (o1 : Nat) (i2 : Int32) (h_o1 : (w_sh o1).1 = 3) : wMV l yX3_faint cX3_faint 2 (wRm 0 0) [.ref (ρ o1), .int i2] D κ ρ 0 (fun u => F_X3_faint o1 i2 u) := by
  refine wMV_of (F := fun u => F_X3_faint o1 i2 u) rfl (Nat.le_of_ble_eq_true rfl) (fun u0 z p e s m args below meth c ls A hF hC hr hlk hH hl => ?_)
  have hl : lv_has ls 2 [(0, .ref (ρ o1)), (1, .int i2)] := hl
  have hx := hC.1.1
  have hb := hC.1.2.1
  have hF : F_X3_faint o1 i2 u0 = some z := hF
  unfold F_X3_faint at hF
  change W p l e (wRm 0 0) s m args below meth c s.heap [] 0 0 (wQV below args s A D κ ρ 0 z) (F0 m 0 ls [])
  have key : ∀ (H : Heap) (locs : List Loc), wHp D κ ρ 0 A s.heap H locs u0 → W p l e (wRm 0 0) s m args below meth c H locs 0 0 (wQV below args s A D κ ρ 0 z) (F0 m 0 ls []) := by
    intro H locs hH
    refine lv_aload_n hx hb dX3_faint_0 rfl (lv_at hl 0 rfl) ?_
    refine lv_dup hx hb dX3_faint_1 rfl ?_
    refine wx_getI hC hH h_o1 rfl f_X3_18 dX3_faint_2 ?_
    refine lv_iconst hx hb dX3_faint_5 k_iconst_1 ?_
    refine lv_iload_n hx hb dX3_faint_6 rfl (lv_at hl 1 rfl) ?_
    refine lv_ishl hx hb dX3_faint_7 ?_
    refine lv_ior hx hb dX3_faint_8 ?_
    refine wx_putI hC hH h_o1 rfl f_X3_18 g_3_2 dX3_faint_9 hF (fun u3 H locs hF hH => ?_)
    exact wx_vret hC hH hr hlk dX3_faint_12 hF
  exact key _ _ hH
def F_X0_fall_j38 (i4 : Int32) (u9 : wSt) : Option ((Int32 × wSt) ⊕ (Unit × wSt)) :=
  wB (i4 + (1 : Int32)) (fun (i10 : Int32) => some (.inl (i10, u9)))
def F_X0_fall_b2 (o1 : Nat) (o2 : Nat) (i4 : Int32) (u5 : wSt) : Option ((Int32 × wSt) ⊕ (Unit × wSt)) :=
  wR (u5.2.2 o1 8) 6 (fun o6 => if (u5.1 o6 1) ≤ i4 then (some (.inr ((), u5))) else (wP (F_X0_sits o1 o2 i4 u5) (fun (i7 : Int32) => wJ (X := wSt) (if i7 = 0 then (some (.inl u5)) else (wR (u5.2.2 o2 6) 10 (fun o11 => wN i4 o11 (fun j12 => if (u5.1 o11 j12) < (99 : Int32) then (some (.inl u5)) else (wC (F_X3_faint o2 i4 u5) (fun _ (u13 : wSt) => some (.inl u13))))))) (fun x => F_X0_fall_j38 i4 x))))
def F_X0_fall (o1 : Nat) (o2 : Nat) (u0 : wSt) : Option (Unit × wSt) :=
  wL (S := Int32 × wSt) (fun x => F_X0_fall_b2 o1 o2 x.1 x.2) wFu ((0 : Int32), u0)
set_option maxRecDepth 100000 in
set_option maxHeartbeats 4000000 in
theorem c_X0_fall {l : Launch} {D : va_G} {κ : Nat → ClassId} {ρ : Nat → Nat} (o1 : Nat) (o2 : Nat) (h_o1 : (w_sh o1).1 = 0) (h_o2 : (w_sh o2).1 = 3) : wMV l yX0_fall cX0_fall 3 (wRm 1 22) [.ref (ρ o1), .ref (ρ o2)] D κ ρ 0 (fun u => F_X0_fall o1 o2 u) := by
  refine wMV_of (F := fun u => F_X0_fall o1 o2 u) rfl (Nat.le_of_ble_eq_true rfl) (fun u0 z p e s m args below meth c ls A hF hC hr hlk hH hl => ?_)
  have hl : lv_has ls 3 [(0, .ref (ρ o1)), (1, .ref (ρ o2))] := hl
  have hx := hC.1.1
  have hb := hC.1.2.1
  have hF : F_X0_fall o1 o2 u0 = some z := hF
  unfold F_X0_fall at hF
  change W p l e (wRm 1 22) s m args below meth c s.heap [] 0 0 (wQV below args s A D κ ρ 0 z) (F0 m 0 ls [])
  have key : ∀ (H : Heap) (locs : List Loc), wHp D κ ρ 0 A s.heap H locs u0 → W p l e (wRm 1 22) s m args below meth c H locs 0 0 (wQV below args s A D κ ρ 0 z) (F0 m 0 ls []) := by
    intro H locs hH
    refine lv_iconst hx hb dX0_fall_0 k_iconst_0 ?_
    refine wx_istore_n hx hb dX0_fall_1 rfl hl (by decide) (fun ls hl => ?_)
    have hl : lv_has ls 3 [(2, .int (0 : Int32)), (0, .ref (ρ o1)), (1, .ref (ρ o2))] := hl
    have hL2 : ∀ (k3_ : Nat) (i4 : Int32) (u5 : wSt) (H : Heap) (locs : List Loc) (ls : Array Slot), wL (S := Int32 × wSt) (fun x => F_X0_fall_b2 o1 o2 x.1 x.2) k3_ (i4, u5) = some z → wHp D κ ρ 0 A s.heap H locs u5 → lv_has ls 3 [(0, .ref (ρ o1)), (1, .ref (ρ o2)), (2, .int i4)] → W p l e (wRm 1 22) s m args below meth c H locs 0 0 (wQV below args s A D κ ρ 0 z) (F0 m 2 ls []) := by
      intro k3_
      induction k3_ with
      | zero => intro i4 u5 H locs ls hF; exact wL_zero hF
      | succ k3_ ih3 =>
        intro i4 u5 H locs ls hF hH hl
        obtain ⟨q3_, hF, hq3⟩ := wL_some hF
        have hF : F_X0_fall_b2 o1 o2 i4 u5 = some q3_ := hF
        unfold F_X0_fall_b2 at hF
        refine lv_iload_n hx hb dX0_fall_2 rfl (lv_at hl 2 rfl) ?_
        refine lv_aload_n hx hb dX0_fall_3 rfl (lv_at hl 0 rfl) ?_
        refine wx_getR hC hH h_o1 rfl f_X0_41 dX0_fall_4 hF (fun o6 h_o6 hF => ?_)
        refine wx_getI hC hH h_o6 rfl f_X0_78 dX0_fall_7 ?_
        refine lv_icmp_ge hx hb dX0_fall_10 (tgt := 44) rfl (fun h => ?_) (fun h => ?_)
        · have hF := wx_t h hF
          have hF := wJ_r hq3 hF
          exact wx_vret hC hH hr hlk dX0_fall_44 hF
        have hF := wx_f h hF
        refine lv_aload_n hx hb dX0_fall_13 rfl (lv_at hl 0 rfl) ?_
        refine lv_aload_n hx hb dX0_fall_14 rfl (lv_at hl 1 rfl) ?_
        refine lv_iload_n hx hb dX0_fall_15 rfl (lv_at hl 2 rfl) ?_
        refine wx_pvi hC hH hl (c_X0_sits o1 o2 i4 h_o1 h_o2) y_X0_sits v_X0_sits h_o1 rfl m_X0_86 rfl ⟨Nat.le_of_ble_eq_true rfl, Nat.le_of_ble_eq_true rfl⟩ ⟨Nat.le_refl _, Nat.le_refl _⟩ rfl (Nat.le_of_ble_eq_true rfl) dX0_fall_16 hF (fun i7 H locs hF hH => ?_)
        obtain ⟨q8_, hF, hq8⟩ := wJ_some hF
        have hJ38 : ∀ (u9 : wSt) (H : Heap) (locs : List Loc) (ls : Array Slot), F_X0_fall_j38 i4 u9 = some q3_ → wHp D κ ρ 0 A s.heap H locs u9 → lv_has ls 3 [(0, .ref (ρ o1)), (1, .ref (ρ o2)), (2, .int i4)] → W p l e (wRm 1 22) s m args below meth c H locs 0 0 (wQV below args s A D κ ρ 0 z) (F0 m 38 ls []) := by
          intro u9 H locs ls hF hH hl
          unfold F_X0_fall_j38 at hF
          refine wx_iinc hx hb dX0_fall_38 k_iconst_1 hl (k := 2) rfl (by decide) hF (fun i10 ls hF hl => ?_)
          have hl : lv_has ls 3 [(2, .int i10), (0, .ref (ρ o1)), (1, .ref (ρ o2))] := hl
          refine lv_goto hx hb dX0_fall_41 (tgt := 2) rfl ?_
          have hF := wJ_l hq3 hF
          exact ih3 i10 u9 H locs ls hF hH (lv_sub hl [1, 2, 0] rfl)
        refine lv_if_eq hx hb dX0_fall_19 (tgt := 38) rfl (fun h => ?_) (fun h => ?_)
        · have hF := wx_t h hF
          have hF := wJ_l hq8 hF
          exact hJ38 u5 H locs ls hF hH (lv_sub hl [0, 1, 2] rfl)
        have hF := wx_f h hF
        refine lv_aload_n hx hb dX0_fall_22 rfl (lv_at hl 1 rfl) ?_
        refine wx_getR hC hH h_o2 rfl f_X0_131 dX0_fall_23 hF (fun o11 h_o11 hF => ?_)
        refine lv_iload_n hx hb dX0_fall_26 rfl (lv_at hl 2 rfl) ?_
        refine wx_iald hC hH h_o11 ⟨rfl, rfl⟩ dX0_fall_27 hF (fun j12 hF => ?_)
        refine lv_bipush hx hb dX0_fall_28 k_bipush_99 ?_
        refine lv_icmp_lt hx hb dX0_fall_30 (tgt := 38) rfl (fun h => ?_) (fun h => ?_)
        · have hF := wx_t h hF
          have hF := wJ_l hq8 hF
          exact hJ38 u5 H locs ls hF hH (lv_sub hl [0, 1, 2] rfl)
        have hF := wx_f h hF
        refine lv_aload_n hx hb dX0_fall_33 rfl (lv_at hl 1 rfl) ?_
        refine lv_iload_n hx hb dX0_fall_34 rfl (lv_at hl 2 rfl) ?_
        refine wx_evv hC hH hl (c_X3_faint o2 i4 h_o2) y_X3_faint v_X3_faint h_o2 rfl m_X0_213 rfl ⟨Nat.le_of_ble_eq_true rfl, Nat.le_of_ble_eq_true rfl⟩ ⟨Nat.le_refl _, Nat.le_refl _⟩ rfl (Nat.le_of_ble_eq_true rfl) dX0_fall_35 hF (fun _ u13 H locs hF hH => ?_)
        have hF := wJ_l hq8 hF
        exact hJ38 u13 H locs ls hF hH (lv_sub hl [0, 1, 2] rfl)
    exact hL2 wFu (0 : Int32) u0 H locs ls hF hH (lv_sub hl [1, 2, 0] rfl)
  exact key _ _ hH
def F_X0_goOn_j63 (o1 : Nat) (o2 : Nat) (i6 : Int32) (u7 : wSt) : Option (Int32 × wSt) :=
  wC (F_X0_growHungry o1 o2 u7) (fun _ (u8 : wSt) => wC (F_X0_fall o1 o2 u8) (fun _ (u9 : wSt) => wB (w_sI u9 o2 0 ((u9.1 o2 0) + (1 : Int32))) (fun (u10 : wSt) => some (i6, u10))))
def F_X0_goOn (o1 : Nat) (o2 : Nat) (u0 : wSt) : Option (Int32 × wSt) :=
  wP (F_X0_guestAtBowl o1 o2 u0) (fun (i3 : Int32) => wP (F_X0_fruitOnTop o1 o2 u0) (fun (i4 : Int32) => wJ (X := Int32 × wSt) (if i3 = (-1 : Int32) then (some (.inl ((-1 : Int32), u0))) else (if i4 = (-1 : Int32) then (some (.inl ((-1 : Int32), u0))) else (wC (F_X0_bites o1 o2 i3 i4 u0) (fun (i12 : Int32) (u11 : wSt) => if i12 = 0 then (if i3 = (u11.1 o1 4) then (some (.inl ((-1 : Int32), u11))) else (wC (F_X0_praise o1 o2 i3 i4 u11) (fun _ (u13 : wSt) => some (.inl ((-1 : Int32), u13))))) else (wC (F_X0_bite o1 o2 i3 i4 u11) (fun _ (u14 : wSt) => some (.inl (i3, u14)))))))) (fun x => F_X0_goOn_j63 o1 o2 x.1 x.2)))
set_option maxRecDepth 100000 in
set_option maxHeartbeats 4000000 in
theorem c_X0_goOn {l : Launch} {D : va_G} {κ : Nat → ClassId} {ρ : Nat → Nat} (o1 : Nat) (o2 : Nat) (h_o1 : (w_sh o1).1 = 0) (h_o2 : (w_sh o2).1 = 3) : wMI l yX0_goOn cX0_goOn 5 .int (wRm 5 131) [.ref (ρ o1), .ref (ρ o2)] D κ ρ 0 (fun u => F_X0_goOn o1 o2 u) := by
  refine wMI_of (F := fun u => F_X0_goOn o1 o2 u) rfl (Nat.le_of_ble_eq_true rfl) (fun u0 z p e s m args below meth c ls A hF hC hr hlk hH hl => ?_)
  have hl : lv_has ls 5 [(0, .ref (ρ o1)), (1, .ref (ρ o2))] := hl
  have hx := hC.1.1
  have hb := hC.1.2.1
  have hF : F_X0_goOn o1 o2 u0 = some z := hF
  unfold F_X0_goOn at hF
  change W p l e (wRm 5 131) s m args below meth c s.heap [] 0 0 (wQI below args s A D κ ρ 0 z) (F0 m 0 ls [])
  have key : ∀ (H : Heap) (locs : List Loc), wHp D κ ρ 0 A s.heap H locs u0 → W p l e (wRm 5 131) s m args below meth c H locs 0 0 (wQI below args s A D κ ρ 0 z) (F0 m 0 ls []) := by
    intro H locs hH
    refine lv_aload_n hx hb dX0_goOn_0 rfl (lv_at hl 0 rfl) ?_
    refine lv_aload_n hx hb dX0_goOn_1 rfl (lv_at hl 1 rfl) ?_
    refine wx_pvi hC hH hl (c_X0_guestAtBowl o1 o2 h_o1 h_o2) y_X0_guestAtBowl v_X0_guestAtBowl h_o1 rfl m_X0_49 rfl ⟨Nat.le_of_ble_eq_true rfl, Nat.le_of_ble_eq_true rfl⟩ ⟨Nat.le_refl _, Nat.le_refl _⟩ rfl (Nat.le_of_ble_eq_true rfl) dX0_goOn_2 hF (fun i3 H locs hF hH => ?_)
    refine wx_istore_n hx hb dX0_goOn_5 rfl hl (by decide) (fun ls hl => ?_)
    have hl : lv_has ls 5 [(2, .int i3), (0, .ref (ρ o1)), (1, .ref (ρ o2))] := hl
    refine lv_aload_n hx hb dX0_goOn_6 rfl (lv_at hl 1 rfl) ?_
    refine lv_aload_n hx hb dX0_goOn_7 rfl (lv_at hl 2 rfl) ?_
    refine wx_pvi hC hH hl (c_X0_fruitOnTop o1 o2 h_o1 h_o2) y_X0_fruitOnTop v_X0_fruitOnTop h_o1 rfl m_X0_52 rfl ⟨Nat.le_of_ble_eq_true rfl, Nat.le_of_ble_eq_true rfl⟩ ⟨Nat.le_refl _, Nat.le_refl _⟩ rfl (Nat.le_of_ble_eq_true rfl) dX0_goOn_8 hF (fun i4 H locs hF hH => ?_)
    refine wx_istore_n hx hb dX0_goOn_11 rfl hl (by decide) (fun ls hl => ?_)
    have hl : lv_has ls 5 [(3, .int i4), (2, .int i3), (0, .ref (ρ o1)), (1, .ref (ρ o2))] := hl
    refine lv_iconst hx hb dX0_goOn_12 k_iconst_m1 ?_
    refine wx_istore hx hb dX0_goOn_13 hl (by decide) (fun ls hl => ?_)
    have hl : lv_has ls 5 [(4, .int (-1 : Int32)), (3, .int i4), (2, .int i3), (0, .ref (ρ o1)), (1, .ref (ρ o2))] := hl
    refine lv_iload_n hx hb dX0_goOn_15 rfl (lv_at hl 2 rfl) ?_
    refine lv_iconst hx hb dX0_goOn_16 k_iconst_m1 ?_
    obtain ⟨q5_, hF, hq5⟩ := wJ_some hF
    have hJ63 : ∀ (i6 : Int32) (u7 : wSt) (H : Heap) (locs : List Loc) (ls : Array Slot), F_X0_goOn_j63 o1 o2 i6 u7 = some z → wHp D κ ρ 0 A s.heap H locs u7 → lv_has ls 5 [(0, .ref (ρ o1)), (1, .ref (ρ o2)), (4, .int i6)] → W p l e (wRm 5 131) s m args below meth c H locs 0 0 (wQI below args s A D κ ρ 0 z) (F0 m 63 ls []) := by
      intro i6 u7 H locs ls hF hH hl
      unfold F_X0_goOn_j63 at hF
      refine lv_aload_n hx hb dX0_goOn_63 rfl (lv_at hl 0 rfl) ?_
      refine lv_aload_n hx hb dX0_goOn_64 rfl (lv_at hl 1 rfl) ?_
      refine wx_evv hC hH hl (c_X0_growHungry o1 o2 h_o1 h_o2) y_X0_growHungry v_X0_growHungry h_o1 rfl m_X0_66 rfl ⟨Nat.le_of_ble_eq_true rfl, Nat.le_of_ble_eq_true rfl⟩ ⟨Nat.le_refl _, Nat.le_refl _⟩ rfl (Nat.le_of_ble_eq_true rfl) dX0_goOn_65 hF (fun _ u8 H locs hF hH => ?_)
      refine lv_aload_n hx hb dX0_goOn_68 rfl (lv_at hl 0 rfl) ?_
      refine lv_aload_n hx hb dX0_goOn_69 rfl (lv_at hl 1 rfl) ?_
      refine wx_evv hC hH hl (c_X0_fall o1 o2 h_o1 h_o2) y_X0_fall v_X0_fall h_o1 rfl m_X0_70 rfl ⟨Nat.le_of_ble_eq_true rfl, Nat.le_of_ble_eq_true rfl⟩ ⟨Nat.le_refl _, Nat.le_refl _⟩ rfl (Nat.le_of_ble_eq_true rfl) dX0_goOn_70 hF (fun _ u9 H locs hF hH => ?_)
      refine lv_aload_n hx hb dX0_goOn_73 rfl (lv_at hl 1 rfl) ?_
      refine lv_dup hx hb dX0_goOn_74 rfl ?_
      refine wx_getI hC hH h_o2 rfl f_X0_73 dX0_goOn_75 ?_
      refine lv_iconst hx hb dX0_goOn_78 k_iconst_1 ?_
      refine lv_iadd hx hb dX0_goOn_79 ?_
      refine wx_putI hC hH h_o2 rfl f_X0_73 g_3_0 dX0_goOn_80 hF (fun u10 H locs hF hH => ?_)
      refine lv_iload hx hb dX0_goOn_83 (lv_at hl 2 rfl) ?_
      exact wx_iret hC hH hr hlk dX0_goOn_85 hF
    refine lv_icmp_eq hx hb dX0_goOn_17 (tgt := 63) rfl (fun h => ?_) (fun h => ?_)
    · have hF := wx_t h hF
      have hF := wJ_l hq5 hF
      exact hJ63 (-1 : Int32) u0 H locs ls hF hH (lv_sub hl [3, 4, 0] rfl)
    have hF := wx_f h hF
    refine lv_iload_n hx hb dX0_goOn_20 rfl (lv_at hl 1 rfl) ?_
    refine lv_iconst hx hb dX0_goOn_21 k_iconst_m1 ?_
    refine lv_icmp_eq hx hb dX0_goOn_22 (tgt := 63) rfl (fun h => ?_) (fun h => ?_)
    · have hF := wx_t h hF
      have hF := wJ_l hq5 hF
      exact hJ63 (-1 : Int32) u0 H locs ls hF hH (lv_sub hl [3, 4, 0] rfl)
    have hF := wx_f h hF
    refine lv_aload_n hx hb dX0_goOn_25 rfl (lv_at hl 3 rfl) ?_
    refine lv_aload_n hx hb dX0_goOn_26 rfl (lv_at hl 4 rfl) ?_
    refine lv_iload_n hx hb dX0_goOn_27 rfl (lv_at hl 2 rfl) ?_
    refine lv_iload_n hx hb dX0_goOn_28 rfl (lv_at hl 1 rfl) ?_
    refine wx_evi hC hH hl (c_X0_bites o1 o2 i3 i4 h_o1 h_o2) y_X0_bites v_X0_bites h_o1 rfl m_X0_55 rfl ⟨Nat.le_of_ble_eq_true rfl, Nat.le_of_ble_eq_true rfl⟩ ⟨Nat.le_refl _, Nat.le_refl _⟩ rfl (Nat.le_of_ble_eq_true rfl) dX0_goOn_29 hF (fun i12 u11 H locs hF hH => ?_)
    refine lv_if_eq hx hb dX0_goOn_32 (tgt := 48) rfl (fun h => ?_) (fun h => ?_)
    · have hF := wx_t h hF
      refine lv_iload_n hx hb dX0_goOn_48 rfl (lv_at hl 2 rfl) ?_
      refine lv_aload_n hx hb dX0_goOn_49 rfl (lv_at hl 3 rfl) ?_
      refine wx_getI hC hH h_o1 rfl f_X0_25 dX0_goOn_50 ?_
      refine lv_icmp_eq hx hb dX0_goOn_53 (tgt := 63) rfl (fun h => ?_) (fun h => ?_)
      · have hF := wx_t h hF
        have hF := wJ_l hq5 hF
        exact hJ63 (-1 : Int32) u11 H locs ls hF hH (lv_sub hl [3, 4, 0] rfl)
      have hF := wx_f h hF
      refine lv_aload_n hx hb dX0_goOn_56 rfl (lv_at hl 3 rfl) ?_
      refine lv_aload_n hx hb dX0_goOn_57 rfl (lv_at hl 4 rfl) ?_
      refine lv_iload_n hx hb dX0_goOn_58 rfl (lv_at hl 2 rfl) ?_
      refine lv_iload_n hx hb dX0_goOn_59 rfl (lv_at hl 1 rfl) ?_
      refine wx_evv hC hH hl (c_X0_praise o1 o2 i3 i4 h_o1 h_o2) y_X0_praise v_X0_praise h_o1 rfl m_X0_63 rfl ⟨Nat.le_of_ble_eq_true rfl, Nat.le_of_ble_eq_true rfl⟩ ⟨Nat.le_refl _, Nat.le_refl _⟩ rfl (Nat.le_of_ble_eq_true rfl) dX0_goOn_60 hF (fun _ u13 H locs hF hH => ?_)
      have hF := wJ_l hq5 hF
      exact hJ63 (-1 : Int32) u13 H locs ls hF hH (lv_sub hl [3, 4, 0] rfl)
    have hF := wx_f h hF
    refine lv_aload_n hx hb dX0_goOn_35 rfl (lv_at hl 3 rfl) ?_
    refine lv_aload_n hx hb dX0_goOn_36 rfl (lv_at hl 4 rfl) ?_
    refine lv_iload_n hx hb dX0_goOn_37 rfl (lv_at hl 2 rfl) ?_
    refine lv_iload_n hx hb dX0_goOn_38 rfl (lv_at hl 1 rfl) ?_
    refine wx_evv hC hH hl (c_X0_bite o1 o2 i3 i4 h_o1 h_o2) y_X0_bite v_X0_bite h_o1 rfl m_X0_59 rfl ⟨Nat.le_of_ble_eq_true rfl, Nat.le_of_ble_eq_true rfl⟩ ⟨Nat.le_refl _, Nat.le_refl _⟩ rfl (Nat.le_of_ble_eq_true rfl) dX0_goOn_39 hF (fun _ u14 H locs hF hH => ?_)
    refine lv_iload_n hx hb dX0_goOn_42 rfl (lv_at hl 2 rfl) ?_
    refine wx_istore hx hb dX0_goOn_43 hl (by decide) (fun ls hl => ?_)
    have hl : lv_has ls 5 [(4, .int i3), (3, .int i4), (2, .int i3), (0, .ref (ρ o1)), (1, .ref (ρ o2))] := hl
    refine lv_goto hx hb dX0_goOn_45 (tgt := 63) rfl ?_
    have hF := wJ_l hq5 hF
    exact hJ63 i3 u14 H locs ls hF hH (lv_sub hl [3, 4, 0] rfl)
  exact key _ _ hH
def F_X0_run_b2 (i3 : Int32) (o1 : Nat) (o2 : Nat) (i5 : Int32) (u6 : wSt) : Option ((Int32 × wSt) ⊕ (Unit × wSt)) :=
  if i3 ≤ i5 then (some (.inr ((), u6))) else (wC (F_X0_goOn o1 o2 u6) (fun (i8 : Int32) (u7 : wSt) => wB (i5 + (1 : Int32)) (fun (i9 : Int32) => some (.inl (i9, u7)))))
def F_X0_run (o1 : Nat) (o2 : Nat) (i3 : Int32) (u0 : wSt) : Option (Unit × wSt) :=
  wL (S := Int32 × wSt) (fun x => F_X0_run_b2 i3 o1 o2 x.1 x.2) wFu ((0 : Int32), u0)
set_option maxRecDepth 100000 in
set_option maxHeartbeats 4000000 in
theorem c_X0_run {l : Launch} {D : va_G} {κ : Nat → ClassId} {ρ : Nat → Nat} (o1 : Nat) (o2 : Nat) (i3 : Int32) (h_o1 : (w_sh o1).1 = 0) (h_o2 : (w_sh o2).1 = 3) : wMV l yX0_run cX0_run 4 (wRm 6 155) [.ref (ρ o1), .ref (ρ o2), .int i3] D κ ρ 0 (fun u => F_X0_run o1 o2 i3 u) := by
  refine wMV_of (F := fun u => F_X0_run o1 o2 i3 u) rfl (Nat.le_of_ble_eq_true rfl) (fun u0 z p e s m args below meth c ls A hF hC hr hlk hH hl => ?_)
  have hl : lv_has ls 4 [(0, .ref (ρ o1)), (1, .ref (ρ o2)), (2, .int i3)] := hl
  have hx := hC.1.1
  have hb := hC.1.2.1
  have hF : F_X0_run o1 o2 i3 u0 = some z := hF
  unfold F_X0_run at hF
  change W p l e (wRm 6 155) s m args below meth c s.heap [] 0 0 (wQV below args s A D κ ρ 0 z) (F0 m 0 ls [])
  have key : ∀ (H : Heap) (locs : List Loc), wHp D κ ρ 0 A s.heap H locs u0 → W p l e (wRm 6 155) s m args below meth c H locs 0 0 (wQV below args s A D κ ρ 0 z) (F0 m 0 ls []) := by
    intro H locs hH
    refine lv_iconst hx hb dX0_run_0 k_iconst_0 ?_
    refine wx_istore_n hx hb dX0_run_1 rfl hl (by decide) (fun ls hl => ?_)
    have hl : lv_has ls 4 [(3, .int (0 : Int32)), (0, .ref (ρ o1)), (1, .ref (ρ o2)), (2, .int i3)] := hl
    have hL2 : ∀ (k4_ : Nat) (i5 : Int32) (u6 : wSt) (H : Heap) (locs : List Loc) (ls : Array Slot), wL (S := Int32 × wSt) (fun x => F_X0_run_b2 i3 o1 o2 x.1 x.2) k4_ (i5, u6) = some z → wHp D κ ρ 0 A s.heap H locs u6 → lv_has ls 4 [(0, .ref (ρ o1)), (1, .ref (ρ o2)), (2, .int i3), (3, .int i5)] → W p l e (wRm 6 155) s m args below meth c H locs 0 0 (wQV below args s A D κ ρ 0 z) (F0 m 2 ls []) := by
      intro k4_
      induction k4_ with
      | zero => intro i5 u6 H locs ls hF; exact wL_zero hF
      | succ k4_ ih4 =>
        intro i5 u6 H locs ls hF hH hl
        obtain ⟨q4_, hF, hq4⟩ := wL_some hF
        have hF : F_X0_run_b2 i3 o1 o2 i5 u6 = some q4_ := hF
        unfold F_X0_run_b2 at hF
        refine lv_iload_n hx hb dX0_run_2 rfl (lv_at hl 3 rfl) ?_
        refine lv_iload_n hx hb dX0_run_3 rfl (lv_at hl 2 rfl) ?_
        refine lv_icmp_ge hx hb dX0_run_4 (tgt := 19) rfl (fun h => ?_) (fun h => ?_)
        · have hF := wx_t h hF
          have hF := wJ_r hq4 hF
          exact wx_vret hC hH hr hlk dX0_run_19 hF
        have hF := wx_f h hF
        refine lv_aload_n hx hb dX0_run_7 rfl (lv_at hl 0 rfl) ?_
        refine lv_aload_n hx hb dX0_run_8 rfl (lv_at hl 1 rfl) ?_
        refine wx_evi hC hH hl (c_X0_goOn o1 o2 h_o1 h_o2) y_X0_goOn v_X0_goOn h_o1 rfl m_X0_45 rfl ⟨Nat.le_of_ble_eq_true rfl, Nat.le_of_ble_eq_true rfl⟩ ⟨Nat.le_refl _, Nat.le_refl _⟩ rfl (Nat.le_of_ble_eq_true rfl) dX0_run_9 hF (fun i8 u7 H locs hF hH => ?_)
        refine lv_pop hx hb dX0_run_12 rfl ?_
        refine wx_iinc hx hb dX0_run_13 k_iconst_1 hl (k := 3) rfl (by decide) hF (fun i9 ls hF hl => ?_)
        have hl : lv_has ls 4 [(3, .int i9), (0, .ref (ρ o1)), (1, .ref (ρ o2)), (2, .int i3)] := hl
        refine lv_goto hx hb dX0_run_16 (tgt := 2) rfl ?_
        have hF := wJ_l hq4 hF
        exact ih4 i9 u7 H locs ls hF hH (lv_sub hl [1, 2, 3, 0] rfl)
    exact hL2 wFu (0 : Int32) u0 H locs ls hF hH (lv_sub hl [1, 2, 3, 0] rfl)
  exact key _ _ hH
def F_X0_hearers_j35 (i6 : Int32) (i10 : Int32) : Option ((Int32 × Int32) ⊕ Int32) :=
  wB (i6 + (1 : Int32)) (fun (i11 : Int32) => some (.inl (i10, i11)))
def F_X0_hearers_b5 (u0 : wSt) (o1 : Nat) (o2 : Nat) (i3 : Int32) (i5 : Int32) (i6 : Int32) : Option ((Int32 × Int32) ⊕ Int32) :=
  wR (u0.2.2 o1 8) 6 (fun o7 => if (u0.1 o7 1) ≤ i6 then (some (.inr (i5))) else (wP (F_X0_hears o1 o2 i6 i3 u0) (fun (i8 : Int32) => wJ (X := Int32) (if i8 = 0 then (some (.inl i5)) else (wB (i5 ||| ((1 : Int32) <<< (i6 &&& 31))) (fun (i12 : Int32) => some (.inl i12)))) (fun x => F_X0_hearers_j35 i6 x))))
def F_X0_hearers (o1 : Nat) (o2 : Nat) (i3 : Int32) (u0 : wSt) : Option Int32 :=
  wL (S := Int32 × Int32) (fun x => F_X0_hearers_b5 u0 o1 o2 i3 x.1 x.2) wFu ((0 : Int32), (0 : Int32))
set_option maxRecDepth 100000 in
set_option maxHeartbeats 4000000 in
theorem c_X0_hearers {l : Launch} {D : va_G} {κ : Nat → ClassId} {ρ : Nat → Nat} (o1 : Nat) (o2 : Nat) (i3 : Int32) (h_o1 : (w_sh o1).1 = 0) (h_o2 : (w_sh o2).1 = 3) : wMI l yX0_hearers cX0_hearers 5 .int (wRm 3 73) [.ref (ρ o1), .ref (ρ o2), .int i3] D κ ρ 0 (fun u => wPu (F_X0_hearers o1 o2 i3 u) u) := by
  refine wMP_of (F := fun u => F_X0_hearers o1 o2 i3 u) rfl (Nat.le_of_ble_eq_true rfl) (fun u0 z p e s m args below meth c ls A hF hC hr hlk hH hl => ?_)
  have hl : lv_has ls 5 [(0, .ref (ρ o1)), (1, .ref (ρ o2)), (2, .int i3)] := hl
  have hx := hC.1.1
  have hb := hC.1.2.1
  have hF : F_X0_hearers o1 o2 i3 u0 = some z := hF
  unfold F_X0_hearers at hF
  change W p l e (wRm 3 73) s m args below meth c s.heap [] 0 0 (wQI below args s A D κ ρ 0 (z, u0)) (F0 m 0 ls [])
  have key : ∀ (H : Heap) (locs : List Loc), wHp D κ ρ 0 A s.heap H locs u0 → W p l e (wRm 3 73) s m args below meth c H locs 0 0 (wQI below args s A D κ ρ 0 (z, u0)) (F0 m 0 ls []) := by
    intro H locs hH
    refine lv_iconst hx hb dX0_hearers_0 k_iconst_0 ?_
    refine wx_istore_n hx hb dX0_hearers_1 rfl hl (by decide) (fun ls hl => ?_)
    have hl : lv_has ls 5 [(3, .int (0 : Int32)), (0, .ref (ρ o1)), (1, .ref (ρ o2)), (2, .int i3)] := hl
    refine lv_iconst hx hb dX0_hearers_2 k_iconst_0 ?_
    refine wx_istore hx hb dX0_hearers_3 hl (by decide) (fun ls hl => ?_)
    have hl : lv_has ls 5 [(4, .int (0 : Int32)), (3, .int (0 : Int32)), (0, .ref (ρ o1)), (1, .ref (ρ o2)), (2, .int i3)] := hl
    have hL5 : ∀ (k4_ : Nat) (i5 : Int32) (i6 : Int32) (H : Heap) (locs : List Loc) (ls : Array Slot), wL (S := Int32 × Int32) (fun x => F_X0_hearers_b5 u0 o1 o2 i3 x.1 x.2) k4_ (i5, i6) = some z → wHp D κ ρ 0 A s.heap H locs u0 → lv_has ls 5 [(0, .ref (ρ o1)), (1, .ref (ρ o2)), (2, .int i3), (3, .int i5), (4, .int i6)] → W p l e (wRm 3 73) s m args below meth c H locs 0 0 (wQI below args s A D κ ρ 0 (z, u0)) (F0 m 5 ls []) := by
      intro k4_
      induction k4_ with
      | zero => intro i5 i6 H locs ls hF; exact wL_zero hF
      | succ k4_ ih4 =>
        intro i5 i6 H locs ls hF hH hl
        obtain ⟨q4_, hF, hq4⟩ := wL_some hF
        have hF : F_X0_hearers_b5 u0 o1 o2 i3 i5 i6 = some q4_ := hF
        unfold F_X0_hearers_b5 at hF
        refine lv_iload hx hb dX0_hearers_5 (lv_at hl 4 rfl) ?_
        refine lv_aload_n hx hb dX0_hearers_7 rfl (lv_at hl 0 rfl) ?_
        refine wx_getR hC hH h_o1 rfl f_X0_41 dX0_hearers_8 hF (fun o7 h_o7 hF => ?_)
        refine wx_getI hC hH h_o7 rfl f_X0_78 dX0_hearers_11 ?_
        refine lv_icmp_ge hx hb dX0_hearers_14 (tgt := 41) rfl (fun h => ?_) (fun h => ?_)
        · have hF := wx_t h hF
          refine lv_iload_n hx hb dX0_hearers_41 rfl (lv_at hl 3 rfl) ?_
          have hF := wJ_r hq4 hF
          exact wx_iret hC hH hr hlk dX0_hearers_42 (wx_pr hF)
        have hF := wx_f h hF
        refine lv_aload_n hx hb dX0_hearers_17 rfl (lv_at hl 0 rfl) ?_
        refine lv_aload_n hx hb dX0_hearers_18 rfl (lv_at hl 1 rfl) ?_
        refine lv_iload hx hb dX0_hearers_19 (lv_at hl 4 rfl) ?_
        refine lv_iload_n hx hb dX0_hearers_21 rfl (lv_at hl 2 rfl) ?_
        refine wx_pvi hC hH hl (c_X0_hears o1 o2 i6 i3 h_o1 h_o2) y_X0_hears v_X0_hears h_o1 rfl m_X0_113 rfl ⟨Nat.le_of_ble_eq_true rfl, Nat.le_of_ble_eq_true rfl⟩ ⟨Nat.le_refl _, Nat.le_refl _⟩ rfl (Nat.le_of_ble_eq_true rfl) dX0_hearers_22 hF (fun i8 H locs hF hH => ?_)
        obtain ⟨q9_, hF, hq9⟩ := wJ_some hF
        have hJ35 : ∀ (i10 : Int32) (H : Heap) (locs : List Loc) (ls : Array Slot), F_X0_hearers_j35 i6 i10 = some q4_ → wHp D κ ρ 0 A s.heap H locs u0 → lv_has ls 5 [(0, .ref (ρ o1)), (1, .ref (ρ o2)), (2, .int i3), (3, .int i10), (4, .int i6)] → W p l e (wRm 3 73) s m args below meth c H locs 0 0 (wQI below args s A D κ ρ 0 (z, u0)) (F0 m 35 ls []) := by
          intro i10 H locs ls hF hH hl
          unfold F_X0_hearers_j35 at hF
          refine wx_iinc hx hb dX0_hearers_35 k_iconst_1 hl (k := 4) rfl (by decide) hF (fun i11 ls hF hl => ?_)
          have hl : lv_has ls 5 [(4, .int i11), (0, .ref (ρ o1)), (1, .ref (ρ o2)), (2, .int i3), (3, .int i10)] := hl
          refine lv_goto hx hb dX0_hearers_38 (tgt := 5) rfl ?_
          have hF := wJ_l hq4 hF
          exact ih4 i10 i11 H locs ls hF hH (lv_sub hl [1, 2, 3, 4, 0] rfl)
        refine lv_if_eq hx hb dX0_hearers_25 (tgt := 35) rfl (fun h => ?_) (fun h => ?_)
        · have hF := wx_t h hF
          have hF := wJ_l hq9 hF
          exact hJ35 i5 H locs ls hF hH (lv_sub hl [0, 1, 2, 3, 4] rfl)
        have hF := wx_f h hF
        refine lv_iload_n hx hb dX0_hearers_28 rfl (lv_at hl 3 rfl) ?_
        refine lv_iconst hx hb dX0_hearers_29 k_iconst_1 ?_
        refine lv_iload hx hb dX0_hearers_30 (lv_at hl 4 rfl) ?_
        refine lv_ishl hx hb dX0_hearers_32 ?_
        refine lv_ior hx hb dX0_hearers_33 ?_
        refine wx_leti hF (fun i12 hF => ?_)
        refine wx_istore_n hx hb dX0_hearers_34 rfl hl (by decide) (fun ls hl => ?_)
        have hl : lv_has ls 5 [(3, .int i12), (0, .ref (ρ o1)), (1, .ref (ρ o2)), (2, .int i3), (4, .int i6)] := hl
        have hF := wJ_l hq9 hF
        exact hJ35 i12 H locs ls hF hH (lv_sub hl [1, 2, 3, 0, 4] rfl)
    exact hL5 wFu (0 : Int32) (0 : Int32) H locs ls hF hH (lv_sub hl [2, 3, 4, 1, 0] rfl)
  exact key _ _ hH
def F_X0_wouldFeed_j55 (i9 : Int32) (i13 : Int32) : Option ((Int32 × Int32) ⊕ (Int32 × wSt)) :=
  wB (i9 + (1 : Int32)) (fun (i14 : Int32) => some (.inl (i13, i14)))
def F_X0_wouldFeed_b15 (u5 : wSt) (o1 : Nat) (o2 : Nat) (i3 : Int32) (i6 : Int32) (i8 : Int32) (i9 : Int32) : Option ((Int32 × Int32) ⊕ (Int32 × wSt)) :=
  wR (u5.2.2 o1 8) 6 (fun o10 => if (u5.1 o10 1) ≤ i9 then (some (.inr (i8, u5))) else (wP (F_X0_hears o1 o2 i9 i3 u5) (fun (i11 : Int32) => wJ (X := Int32) (if i11 = 0 then (some (.inl i8)) else (wR (u5.2.2 o2 6) 10 (fun o15 => wN i9 o15 (fun j16 => wB (i8 + (w_min i6 (u5.1 o15 j16))) (fun (i17 : Int32) => some (.inl i17)))))) (fun x => F_X0_wouldFeed_j55 i9 x))))
def F_X0_wouldFeed (o1 : Nat) (o2 : Nat) (i3 : Int32) (i4 : Int32) (u0 : wSt) : Option (Int32 × wSt) :=
  wC (F_X0_praiseOf o1 o2 i3 i4 u0) (fun (i6 : Int32) (u5 : wSt) => wL (S := Int32 × Int32) (fun x => F_X0_wouldFeed_b15 u5 o1 o2 i3 i6 x.1 x.2) wFu ((0 : Int32), (0 : Int32)))
set_option maxRecDepth 100000 in
set_option maxHeartbeats 4000000 in
theorem c_X0_wouldFeed {l : Launch} {D : va_G} {κ : Nat → ClassId} {ρ : Nat → Nat} (o1 : Nat) (o2 : Nat) (i3 : Int32) (i4 : Int32) (h_o1 : (w_sh o1).1 = 0) (h_o2 : (w_sh o2).1 = 3) : wMI l yX0_wouldFeed cX0_wouldFeed 7 .int (wRm 4 105) [.ref (ρ o1), .ref (ρ o2), .int i3, .int i4] D κ ρ 0 (fun u => F_X0_wouldFeed o1 o2 i3 i4 u) := by
  refine wMI_of (F := fun u => F_X0_wouldFeed o1 o2 i3 i4 u) rfl (Nat.le_of_ble_eq_true rfl) (fun u0 z p e s m args below meth c ls A hF hC hr hlk hH hl => ?_)
  have hl : lv_has ls 7 [(0, .ref (ρ o1)), (1, .ref (ρ o2)), (2, .int i3), (3, .int i4)] := hl
  have hx := hC.1.1
  have hb := hC.1.2.1
  have hF : F_X0_wouldFeed o1 o2 i3 i4 u0 = some z := hF
  unfold F_X0_wouldFeed at hF
  change W p l e (wRm 4 105) s m args below meth c s.heap [] 0 0 (wQI below args s A D κ ρ 0 z) (F0 m 0 ls [])
  have key : ∀ (H : Heap) (locs : List Loc), wHp D κ ρ 0 A s.heap H locs u0 → W p l e (wRm 4 105) s m args below meth c H locs 0 0 (wQI below args s A D κ ρ 0 z) (F0 m 0 ls []) := by
    intro H locs hH
    refine lv_aload_n hx hb dX0_wouldFeed_0 rfl (lv_at hl 0 rfl) ?_
    refine lv_aload_n hx hb dX0_wouldFeed_1 rfl (lv_at hl 1 rfl) ?_
    refine lv_iload_n hx hb dX0_wouldFeed_2 rfl (lv_at hl 2 rfl) ?_
    refine lv_iload_n hx hb dX0_wouldFeed_3 rfl (lv_at hl 3 rfl) ?_
    refine wx_evi hC hH hl (c_X0_praiseOf o1 o2 i3 i4 h_o1 h_o2) y_X0_praiseOf v_X0_praiseOf h_o1 rfl m_X0_196 rfl ⟨Nat.le_of_ble_eq_true rfl, Nat.le_of_ble_eq_true rfl⟩ ⟨Nat.le_refl _, Nat.le_refl _⟩ rfl (Nat.le_of_ble_eq_true rfl) dX0_wouldFeed_4 hF (fun i6 u5 H locs hF hH => ?_)
    refine wx_istore hx hb dX0_wouldFeed_7 hl (by decide) (fun ls hl => ?_)
    have hl : lv_has ls 7 [(4, .int i6), (0, .ref (ρ o1)), (1, .ref (ρ o2)), (2, .int i3), (3, .int i4)] := hl
    refine lv_iconst hx hb dX0_wouldFeed_9 k_iconst_0 ?_
    refine wx_istore hx hb dX0_wouldFeed_10 hl (by decide) (fun ls hl => ?_)
    have hl : lv_has ls 7 [(5, .int (0 : Int32)), (4, .int i6), (0, .ref (ρ o1)), (1, .ref (ρ o2)), (2, .int i3), (3, .int i4)] := hl
    refine lv_iconst hx hb dX0_wouldFeed_12 k_iconst_0 ?_
    refine wx_istore hx hb dX0_wouldFeed_13 hl (by decide) (fun ls hl => ?_)
    have hl : lv_has ls 7 [(6, .int (0 : Int32)), (5, .int (0 : Int32)), (4, .int i6), (0, .ref (ρ o1)), (1, .ref (ρ o2)), (2, .int i3), (3, .int i4)] := hl
    have hL15 : ∀ (k7_ : Nat) (i8 : Int32) (i9 : Int32) (H : Heap) (locs : List Loc) (ls : Array Slot), wL (S := Int32 × Int32) (fun x => F_X0_wouldFeed_b15 u5 o1 o2 i3 i6 x.1 x.2) k7_ (i8, i9) = some z → wHp D κ ρ 0 A s.heap H locs u5 → lv_has ls 7 [(0, .ref (ρ o1)), (1, .ref (ρ o2)), (2, .int i3), (4, .int i6), (5, .int i8), (6, .int i9)] → W p l e (wRm 4 105) s m args below meth c H locs 0 0 (wQI below args s A D κ ρ 0 z) (F0 m 15 ls []) := by
      intro k7_
      induction k7_ with
      | zero => intro i8 i9 H locs ls hF; exact wL_zero hF
      | succ k7_ ih7 =>
        intro i8 i9 H locs ls hF hH hl
        obtain ⟨q7_, hF, hq7⟩ := wL_some hF
        have hF : F_X0_wouldFeed_b15 u5 o1 o2 i3 i6 i8 i9 = some q7_ := hF
        unfold F_X0_wouldFeed_b15 at hF
        refine lv_iload hx hb dX0_wouldFeed_15 (lv_at hl 5 rfl) ?_
        refine lv_aload_n hx hb dX0_wouldFeed_17 rfl (lv_at hl 0 rfl) ?_
        refine wx_getR hC hH h_o1 rfl f_X0_41 dX0_wouldFeed_18 hF (fun o10 h_o10 hF => ?_)
        refine wx_getI hC hH h_o10 rfl f_X0_78 dX0_wouldFeed_21 ?_
        refine lv_icmp_ge hx hb dX0_wouldFeed_24 (tgt := 61) rfl (fun h => ?_) (fun h => ?_)
        · have hF := wx_t h hF
          refine lv_iload hx hb dX0_wouldFeed_61 (lv_at hl 4 rfl) ?_
          have hF := wJ_r hq7 hF
          exact wx_iret hC hH hr hlk dX0_wouldFeed_63 hF
        have hF := wx_f h hF
        refine lv_aload_n hx hb dX0_wouldFeed_27 rfl (lv_at hl 0 rfl) ?_
        refine lv_aload_n hx hb dX0_wouldFeed_28 rfl (lv_at hl 1 rfl) ?_
        refine lv_iload hx hb dX0_wouldFeed_29 (lv_at hl 5 rfl) ?_
        refine lv_iload_n hx hb dX0_wouldFeed_31 rfl (lv_at hl 2 rfl) ?_
        refine wx_pvi hC hH hl (c_X0_hears o1 o2 i9 i3 h_o1 h_o2) y_X0_hears v_X0_hears h_o1 rfl m_X0_113 rfl ⟨Nat.le_of_ble_eq_true rfl, Nat.le_of_ble_eq_true rfl⟩ ⟨Nat.le_refl _, Nat.le_refl _⟩ rfl (Nat.le_of_ble_eq_true rfl) dX0_wouldFeed_32 hF (fun i11 H locs hF hH => ?_)
        obtain ⟨q12_, hF, hq12⟩ := wJ_some hF
        have hJ55 : ∀ (i13 : Int32) (H : Heap) (locs : List Loc) (ls : Array Slot), F_X0_wouldFeed_j55 i9 i13 = some q7_ → wHp D κ ρ 0 A s.heap H locs u5 → lv_has ls 7 [(0, .ref (ρ o1)), (1, .ref (ρ o2)), (2, .int i3), (4, .int i6), (5, .int i13), (6, .int i9)] → W p l e (wRm 4 105) s m args below meth c H locs 0 0 (wQI below args s A D κ ρ 0 z) (F0 m 55 ls []) := by
          intro i13 H locs ls hF hH hl
          unfold F_X0_wouldFeed_j55 at hF
          refine wx_iinc hx hb dX0_wouldFeed_55 k_iconst_1 hl (k := 5) rfl (by decide) hF (fun i14 ls hF hl => ?_)
          have hl : lv_has ls 7 [(6, .int i14), (0, .ref (ρ o1)), (1, .ref (ρ o2)), (2, .int i3), (4, .int i6), (5, .int i13)] := hl
          refine lv_goto hx hb dX0_wouldFeed_58 (tgt := 15) rfl ?_
          have hF := wJ_l hq7 hF
          exact ih7 i13 i14 H locs ls hF hH (lv_sub hl [1, 2, 3, 4, 5, 0] rfl)
        refine lv_if_eq hx hb dX0_wouldFeed_35 (tgt := 55) rfl (fun h => ?_) (fun h => ?_)
        · have hF := wx_t h hF
          have hF := wJ_l hq12 hF
          exact hJ55 i8 H locs ls hF hH (lv_sub hl [0, 1, 2, 3, 4, 5] rfl)
        have hF := wx_f h hF
        refine lv_iload hx hb dX0_wouldFeed_38 (lv_at hl 4 rfl) ?_
        refine lv_iload hx hb dX0_wouldFeed_40 (lv_at hl 3 rfl) ?_
        refine lv_aload_n hx hb dX0_wouldFeed_42 rfl (lv_at hl 1 rfl) ?_
        refine wx_getR hC hH h_o2 rfl f_X0_131 dX0_wouldFeed_43 hF (fun o15 h_o15 hF => ?_)
        refine lv_iload hx hb dX0_wouldFeed_46 (lv_at hl 5 rfl) ?_
        refine wx_iald hC hH h_o15 ⟨rfl, rfl⟩ dX0_wouldFeed_48 hF (fun j16 hF => ?_)
        refine wx_min hC hl.1 m_X0_102 ⟨Nat.le_of_ble_eq_true rfl, Nat.le_of_ble_eq_true rfl⟩ ⟨Nat.le_refl _, Nat.le_refl _⟩ dX0_wouldFeed_49 ?_
        refine lv_iadd hx hb dX0_wouldFeed_52 ?_
        refine wx_leti hF (fun i17 hF => ?_)
        refine wx_istore hx hb dX0_wouldFeed_53 hl (by decide) (fun ls hl => ?_)
        have hl : lv_has ls 7 [(5, .int i17), (0, .ref (ρ o1)), (1, .ref (ρ o2)), (2, .int i3), (4, .int i6), (6, .int i9)] := hl
        have hF := wJ_l hq12 hF
        exact hJ55 i17 H locs ls hF hH (lv_sub hl [1, 2, 3, 4, 0, 5] rfl)
    exact hL15 wFu (0 : Int32) (0 : Int32) H locs ls hF hH (lv_sub hl [3, 4, 5, 2, 1, 0] rfl)
  exact key _ _ hH
def F_X1_clear_b7 (o1 : Nat) (i4 : Int32) (u5 : wSt) : Option ((Int32 × wSt) ⊕ (Unit × wSt)) :=
  if (3 : Int32) ≤ i4 then (some (.inr ((), u5))) else (wR (u5.2.2 o1 1) 12 (fun o6 => wSZ u5 o6 i4 (0 : Int32) (fun (u7 : wSt) => wB (i4 + (1 : Int32)) (fun (i8 : Int32) => some (.inl (i8, u7))))))
def F_X1_clear (o1 : Nat) (u0 : wSt) : Option (Unit × wSt) :=
  wB (w_sI u0 o1 0 (0 : Int32)) (fun (u2 : wSt) => wL (S := Int32 × wSt) (fun x => F_X1_clear_b7 o1 x.1 x.2) wFu ((0 : Int32), u2))
set_option maxRecDepth 100000 in
set_option maxHeartbeats 4000000 in
theorem c_X1_clear {l : Launch} {D : va_G} {κ : Nat → ClassId} {ρ : Nat → Nat} (o1 : Nat) (h_o1 : (w_sh o1).1 = 1) : wMV l yX1_clear cX1_clear 2 (wRm 0 0) [.ref (ρ o1)] D κ ρ 0 (fun u => F_X1_clear o1 u) := by
  refine wMV_of (F := fun u => F_X1_clear o1 u) rfl (Nat.le_of_ble_eq_true rfl) (fun u0 z p e s m args below meth c ls A hF hC hr hlk hH hl => ?_)
  have hl : lv_has ls 2 [(0, .ref (ρ o1))] := hl
  have hx := hC.1.1
  have hb := hC.1.2.1
  have hF : F_X1_clear o1 u0 = some z := hF
  unfold F_X1_clear at hF
  change W p l e (wRm 0 0) s m args below meth c s.heap [] 0 0 (wQV below args s A D κ ρ 0 z) (F0 m 0 ls [])
  have key : ∀ (H : Heap) (locs : List Loc), wHp D κ ρ 0 A s.heap H locs u0 → W p l e (wRm 0 0) s m args below meth c H locs 0 0 (wQV below args s A D κ ρ 0 z) (F0 m 0 ls []) := by
    intro H locs hH
    refine lv_aload_n hx hb dX1_clear_0 rfl (lv_at hl 0 rfl) ?_
    refine lv_iconst hx hb dX1_clear_1 k_iconst_0 ?_
    refine wx_putI hC hH h_o1 rfl f_X1_9 g_1_0 dX1_clear_2 hF (fun u2 H locs hF hH => ?_)
    refine lv_iconst hx hb dX1_clear_5 k_iconst_0 ?_
    refine wx_istore_n hx hb dX1_clear_6 rfl hl (by decide) (fun ls hl => ?_)
    have hl : lv_has ls 2 [(1, .int (0 : Int32)), (0, .ref (ρ o1))] := hl
    have hL7 : ∀ (k3_ : Nat) (i4 : Int32) (u5 : wSt) (H : Heap) (locs : List Loc) (ls : Array Slot), wL (S := Int32 × wSt) (fun x => F_X1_clear_b7 o1 x.1 x.2) k3_ (i4, u5) = some z → wHp D κ ρ 0 A s.heap H locs u5 → lv_has ls 2 [(0, .ref (ρ o1)), (1, .int i4)] → W p l e (wRm 0 0) s m args below meth c H locs 0 0 (wQV below args s A D κ ρ 0 z) (F0 m 7 ls []) := by
      intro k3_
      induction k3_ with
      | zero => intro i4 u5 H locs ls hF; exact wL_zero hF
      | succ k3_ ih3 =>
        intro i4 u5 H locs ls hF hH hl
        obtain ⟨q3_, hF, hq3⟩ := wL_some hF
        have hF : F_X1_clear_b7 o1 i4 u5 = some q3_ := hF
        unfold F_X1_clear_b7 at hF
        refine lv_iload_n hx hb dX1_clear_7 rfl (lv_at hl 1 rfl) ?_
        refine lv_iconst hx hb dX1_clear_8 k_iconst_3 ?_
        refine lv_icmp_ge hx hb dX1_clear_9 (tgt := 25) rfl (fun h => ?_) (fun h => ?_)
        · have hF := wx_t h hF
          have hF := wJ_r hq3 hF
          exact wx_vret hC hH hr hlk dX1_clear_25 hF
        have hF := wx_f h hF
        refine lv_aload_n hx hb dX1_clear_12 rfl (lv_at hl 0 rfl) ?_
        refine wx_getR hC hH h_o1 rfl f_X1_15 dX1_clear_13 hF (fun o6 h_o6 hF => ?_)
        refine lv_iload_n hx hb dX1_clear_16 rfl (lv_at hl 1 rfl) ?_
        refine lv_iconst hx hb dX1_clear_17 k_iconst_0 ?_
        refine wx_zast hC hH h_o6 ⟨rfl, rfl⟩ dX1_clear_18 hF (fun u7 H locs hF hH => ?_)
        refine wx_iinc hx hb dX1_clear_19 k_iconst_1 hl (k := 1) rfl (by decide) hF (fun i8 ls hF hl => ?_)
        have hl : lv_has ls 2 [(1, .int i8), (0, .ref (ρ o1))] := hl
        refine lv_goto hx hb dX1_clear_22 (tgt := 7) rfl ?_
        have hF := wJ_l hq3 hF
        exact ih3 i8 u7 H locs ls hF hH (lv_sub hl [1, 0] rfl)
    exact hL7 wFu (0 : Int32) u2 H locs ls hF hH (lv_sub hl [1, 0] rfl)
  exact key _ _ hH
def F_X1_open (o1 : Nat) (i2 : Int32) (u0 : wSt) : Option (Unit × wSt) :=
  wR (u0.2.2 o1 1) 12 (fun o3 => wSZ u0 o3 i2 (1 : Int32) (fun (u4 : wSt) => wR (u4.2.2 o1 2) 10 (fun o5 => wSI u4 o5 i2 (u4.1 o1 0) (fun (u6 : wSt) => wR (u6.2.2 o1 3) 10 (fun o7 => wSI u6 o7 i2 (u6.1 o1 0) (fun (u8 : wSt) => some ((), u8)))))))
set_option maxRecDepth 100000 in
set_option maxHeartbeats 4000000 in
theorem c_X1_open {l : Launch} {D : va_G} {κ : Nat → ClassId} {ρ : Nat → Nat} (o1 : Nat) (i2 : Int32) (h_o1 : (w_sh o1).1 = 1) : wMV l yX1_open cX1_open 2 (wRm 0 0) [.ref (ρ o1), .int i2] D κ ρ 0 (fun u => F_X1_open o1 i2 u) := by
  refine wMV_of (F := fun u => F_X1_open o1 i2 u) rfl (Nat.le_of_ble_eq_true rfl) (fun u0 z p e s m args below meth c ls A hF hC hr hlk hH hl => ?_)
  have hl : lv_has ls 2 [(0, .ref (ρ o1)), (1, .int i2)] := hl
  have hx := hC.1.1
  have hb := hC.1.2.1
  have hF : F_X1_open o1 i2 u0 = some z := hF
  unfold F_X1_open at hF
  change W p l e (wRm 0 0) s m args below meth c s.heap [] 0 0 (wQV below args s A D κ ρ 0 z) (F0 m 0 ls [])
  have key : ∀ (H : Heap) (locs : List Loc), wHp D κ ρ 0 A s.heap H locs u0 → W p l e (wRm 0 0) s m args below meth c H locs 0 0 (wQV below args s A D κ ρ 0 z) (F0 m 0 ls []) := by
    intro H locs hH
    refine lv_aload_n hx hb dX1_open_0 rfl (lv_at hl 0 rfl) ?_
    refine wx_getR hC hH h_o1 rfl f_X1_15 dX1_open_1 hF (fun o3 h_o3 hF => ?_)
    refine lv_iload_n hx hb dX1_open_4 rfl (lv_at hl 1 rfl) ?_
    refine lv_iconst hx hb dX1_open_5 k_iconst_1 ?_
    refine wx_zast hC hH h_o3 ⟨rfl, rfl⟩ dX1_open_6 hF (fun u4 H locs hF hH => ?_)
    refine lv_aload_n hx hb dX1_open_7 rfl (lv_at hl 0 rfl) ?_
    refine wx_getR hC hH h_o1 rfl f_X1_19 dX1_open_8 hF (fun o5 h_o5 hF => ?_)
    refine lv_iload_n hx hb dX1_open_11 rfl (lv_at hl 1 rfl) ?_
    refine lv_aload_n hx hb dX1_open_12 rfl (lv_at hl 0 rfl) ?_
    refine wx_getI hC hH h_o1 rfl f_X1_9 dX1_open_13 ?_
    refine wx_iast hC hH h_o5 ⟨rfl, rfl⟩ dX1_open_16 hF (fun u6 H locs hF hH => ?_)
    refine lv_aload_n hx hb dX1_open_17 rfl (lv_at hl 0 rfl) ?_
    refine wx_getR hC hH h_o1 rfl f_X1_23 dX1_open_18 hF (fun o7 h_o7 hF => ?_)
    refine lv_iload_n hx hb dX1_open_21 rfl (lv_at hl 1 rfl) ?_
    refine lv_aload_n hx hb dX1_open_22 rfl (lv_at hl 0 rfl) ?_
    refine wx_getI hC hH h_o1 rfl f_X1_9 dX1_open_23 ?_
    refine wx_iast hC hH h_o7 ⟨rfl, rfl⟩ dX1_open_26 hF (fun u8 H locs hF hH => ?_)
    exact wx_vret hC hH hr hlk dX1_open_27 hF
  exact key _ _ hH
def F_X1_add (o1 : Nat) (i2 : Int32) (i3 : Int32) (i4 : Int32) (u0 : wSt) : Option (Unit × wSt) :=
  if (64 : Int32) ≤ (u0.1 o1 0) then (some ((), u0)) else (wR (u0.2.2 o1 4) 10 (fun o5 => wSI u0 o5 (u0.1 o1 0) i3 (fun (u6 : wSt) => wR (u6.2.2 o1 5) 10 (fun o7 => wSI u6 o7 (u6.1 o1 0) i4 (fun (u8 : wSt) => wB (w_sI u8 o1 0 ((u8.1 o1 0) + (1 : Int32))) (fun (u9 : wSt) => wR (u9.2.2 o1 3) 10 (fun o10 => wSI u9 o10 i2 (u9.1 o1 0) (fun (u11 : wSt) => some ((), u11)))))))))
set_option maxRecDepth 100000 in
set_option maxHeartbeats 4000000 in
theorem c_X1_add {l : Launch} {D : va_G} {κ : Nat → ClassId} {ρ : Nat → Nat} (o1 : Nat) (i2 : Int32) (i3 : Int32) (i4 : Int32) (h_o1 : (w_sh o1).1 = 1) : wMV l yX1_add cX1_add 4 (wRm 0 0) [.ref (ρ o1), .int i2, .int i3, .int i4] D κ ρ 0 (fun u => F_X1_add o1 i2 i3 i4 u) := by
  refine wMV_of (F := fun u => F_X1_add o1 i2 i3 i4 u) rfl (Nat.le_of_ble_eq_true rfl) (fun u0 z p e s m args below meth c ls A hF hC hr hlk hH hl => ?_)
  have hl : lv_has ls 4 [(0, .ref (ρ o1)), (1, .int i2), (2, .int i3), (3, .int i4)] := hl
  have hx := hC.1.1
  have hb := hC.1.2.1
  have hF : F_X1_add o1 i2 i3 i4 u0 = some z := hF
  unfold F_X1_add at hF
  change W p l e (wRm 0 0) s m args below meth c s.heap [] 0 0 (wQV below args s A D κ ρ 0 z) (F0 m 0 ls [])
  have key : ∀ (H : Heap) (locs : List Loc), wHp D κ ρ 0 A s.heap H locs u0 → W p l e (wRm 0 0) s m args below meth c H locs 0 0 (wQV below args s A D κ ρ 0 z) (F0 m 0 ls []) := by
    intro H locs hH
    refine lv_aload_n hx hb dX1_add_0 rfl (lv_at hl 0 rfl) ?_
    refine wx_getI hC hH h_o1 rfl f_X1_9 dX1_add_1 ?_
    refine lv_bipush hx hb dX1_add_4 k_bipush_64 ?_
    refine lv_icmp_ge hx hb dX1_add_6 (tgt := 49) rfl (fun h => ?_) (fun h => ?_)
    · have hF := wx_t h hF
      exact wx_vret hC hH hr hlk dX1_add_49 hF
    have hF := wx_f h hF
    refine lv_aload_n hx hb dX1_add_9 rfl (lv_at hl 0 rfl) ?_
    refine wx_getR hC hH h_o1 rfl f_X1_26 dX1_add_10 hF (fun o5 h_o5 hF => ?_)
    refine lv_aload_n hx hb dX1_add_13 rfl (lv_at hl 0 rfl) ?_
    refine wx_getI hC hH h_o1 rfl f_X1_9 dX1_add_14 ?_
    refine lv_iload_n hx hb dX1_add_17 rfl (lv_at hl 2 rfl) ?_
    refine wx_iast hC hH h_o5 ⟨rfl, rfl⟩ dX1_add_18 hF (fun u6 H locs hF hH => ?_)
    refine lv_aload_n hx hb dX1_add_19 rfl (lv_at hl 0 rfl) ?_
    refine wx_getR hC hH h_o1 rfl f_X1_29 dX1_add_20 hF (fun o7 h_o7 hF => ?_)
    refine lv_aload_n hx hb dX1_add_23 rfl (lv_at hl 0 rfl) ?_
    refine wx_getI hC hH h_o1 rfl f_X1_9 dX1_add_24 ?_
    refine lv_iload_n hx hb dX1_add_27 rfl (lv_at hl 3 rfl) ?_
    refine wx_iast hC hH h_o7 ⟨rfl, rfl⟩ dX1_add_28 hF (fun u8 H locs hF hH => ?_)
    refine lv_aload_n hx hb dX1_add_29 rfl (lv_at hl 0 rfl) ?_
    refine lv_dup hx hb dX1_add_30 rfl ?_
    refine wx_getI hC hH h_o1 rfl f_X1_9 dX1_add_31 ?_
    refine lv_iconst hx hb dX1_add_34 k_iconst_1 ?_
    refine lv_iadd hx hb dX1_add_35 ?_
    refine wx_putI hC hH h_o1 rfl f_X1_9 g_1_0 dX1_add_36 hF (fun u9 H locs hF hH => ?_)
    refine lv_aload_n hx hb dX1_add_39 rfl (lv_at hl 0 rfl) ?_
    refine wx_getR hC hH h_o1 rfl f_X1_23 dX1_add_40 hF (fun o10 h_o10 hF => ?_)
    refine lv_iload_n hx hb dX1_add_43 rfl (lv_at hl 1 rfl) ?_
    refine lv_aload_n hx hb dX1_add_44 rfl (lv_at hl 0 rfl) ?_
    refine wx_getI hC hH h_o1 rfl f_X1_9 dX1_add_45 ?_
    refine wx_iast hC hH h_o10 ⟨rfl, rfl⟩ dX1_add_48 hF (fun u11 H locs hF hH => ?_)
    exact wx_vret hC hH hr hlk dX1_add_49 hF
  exact key _ _ hH
def F_X6_clear (o1 : Nat) (u0 : wSt) : Option (Unit × wSt) :=
  wB (w_sI u0 o1 0 (0 : Int32)) (fun (u2 : wSt) => wB (w_sI u2 o1 1 (0 : Int32)) (fun (u3 : wSt) => wB (w_sI u3 o1 2 (0 : Int32)) (fun (u4 : wSt) => wB (w_sI u4 o1 3 (0 : Int32)) (fun (u5 : wSt) => wB (w_sI u5 o1 4 (1 : Int32)) (fun (u6 : wSt) => wB (w_sI u6 o1 5 (0 : Int32)) (fun (u7 : wSt) => wB (w_sI u7 o1 6 (0 : Int32)) (fun (u8 : wSt) => wR (u8.2.2 o1 16) 1 (fun o9 => wC (F_X1_clear o9 u8) (fun _ (u10 : wSt) => some ((), u10))))))))))
set_option maxRecDepth 100000 in
set_option maxHeartbeats 4000000 in
theorem c_X6_clear {l : Launch} {D : va_G} {κ : Nat → ClassId} {ρ : Nat → Nat} (o1 : Nat) (h_o1 : (w_sh o1).1 = 6) : wMV l yX6_clear cX6_clear 1 (wRm 1 21) [.ref (ρ o1)] D κ ρ 0 (fun u => F_X6_clear o1 u) := by
  refine wMV_of (F := fun u => F_X6_clear o1 u) rfl (Nat.le_of_ble_eq_true rfl) (fun u0 z p e s m args below meth c ls A hF hC hr hlk hH hl => ?_)
  have hl : lv_has ls 1 [(0, .ref (ρ o1))] := hl
  have hx := hC.1.1
  have hb := hC.1.2.1
  have hF : F_X6_clear o1 u0 = some z := hF
  unfold F_X6_clear at hF
  change W p l e (wRm 1 21) s m args below meth c s.heap [] 0 0 (wQV below args s A D κ ρ 0 z) (F0 m 0 ls [])
  have key : ∀ (H : Heap) (locs : List Loc), wHp D κ ρ 0 A s.heap H locs u0 → W p l e (wRm 1 21) s m args below meth c H locs 0 0 (wQV below args s A D κ ρ 0 z) (F0 m 0 ls []) := by
    intro H locs hH
    refine lv_aload_n hx hb dX6_clear_0 rfl (lv_at hl 0 rfl) ?_
    refine lv_iconst hx hb dX6_clear_1 k_iconst_0 ?_
    refine wx_putI hC hH h_o1 rfl f_X6_9 g_6_0 dX6_clear_2 hF (fun u2 H locs hF hH => ?_)
    refine lv_aload_n hx hb dX6_clear_5 rfl (lv_at hl 0 rfl) ?_
    refine lv_iconst hx hb dX6_clear_6 k_iconst_0 ?_
    refine wx_putI hC hH h_o1 rfl f_X6_15 g_6_1 dX6_clear_7 hF (fun u3 H locs hF hH => ?_)
    refine lv_aload_n hx hb dX6_clear_10 rfl (lv_at hl 0 rfl) ?_
    refine lv_iconst hx hb dX6_clear_11 k_iconst_0 ?_
    refine wx_putI hC hH h_o1 rfl f_X6_18 g_6_2 dX6_clear_12 hF (fun u4 H locs hF hH => ?_)
    refine lv_aload_n hx hb dX6_clear_15 rfl (lv_at hl 0 rfl) ?_
    refine lv_iconst hx hb dX6_clear_16 k_iconst_0 ?_
    refine wx_putI hC hH h_o1 rfl f_X6_21 g_6_3 dX6_clear_17 hF (fun u5 H locs hF hH => ?_)
    refine lv_aload_n hx hb dX6_clear_20 rfl (lv_at hl 0 rfl) ?_
    refine lv_iconst hx hb dX6_clear_21 k_iconst_1 ?_
    refine wx_putI hC hH h_o1 rfl f_X6_24 g_6_4 dX6_clear_22 hF (fun u6 H locs hF hH => ?_)
    refine lv_aload_n hx hb dX6_clear_25 rfl (lv_at hl 0 rfl) ?_
    refine lv_iconst hx hb dX6_clear_26 k_iconst_0 ?_
    refine wx_putI hC hH h_o1 rfl f_X6_27 g_6_5 dX6_clear_27 hF (fun u7 H locs hF hH => ?_)
    refine lv_aload_n hx hb dX6_clear_30 rfl (lv_at hl 0 rfl) ?_
    refine lv_iconst hx hb dX6_clear_31 k_iconst_0 ?_
    refine wx_putI hC hH h_o1 rfl f_X6_30 g_6_6 dX6_clear_32 hF (fun u8 H locs hF hH => ?_)
    refine lv_aload_n hx hb dX6_clear_35 rfl (lv_at hl 0 rfl) ?_
    refine wx_getR hC hH h_o1 rfl f_X6_64 dX6_clear_36 hF (fun o9 h_o9 hF => ?_)
    refine wx_evv hC hH hl (c_X1_clear o9 h_o9) y_X1_clear v_X1_clear h_o9 rfl m_X6_68 rfl ⟨Nat.le_of_ble_eq_true rfl, Nat.le_of_ble_eq_true rfl⟩ ⟨Nat.le_refl _, Nat.le_refl _⟩ rfl (Nat.le_of_ble_eq_true rfl) dX6_clear_39 hF (fun _ u10 H locs hF hH => ?_)
    exact wx_vret hC hH hr hlk dX6_clear_42 hF
  exact key _ _ hH
def F_X5_signAt (o1 : Nat) (i2 : Int32) (u0 : wSt) : Option Int32 :=
  if i2 < 0 then (some ((-1 : Int32))) else (if (u0.1 o1 4) ≤ i2 then (some ((-1 : Int32))) else (wR (u0.2.2 o1 3) 11 (fun o3 => wN i2 o3 (fun j4 => some (((u0.1 o3 j4) &&& (255 : Int32)))))))
set_option maxRecDepth 100000 in
set_option maxHeartbeats 4000000 in
theorem c_X5_signAt {l : Launch} {D : va_G} {κ : Nat → ClassId} {ρ : Nat → Nat} (o1 : Nat) (i2 : Int32) (h_o1 : (w_sh o1).1 = 5) : wMI l yX5_signAt cX5_signAt 2 .int (wRm 0 0) [.ref (ρ o1), .int i2] D κ ρ 0 (fun u => wPu (F_X5_signAt o1 i2 u) u) := by
  refine wMP_of (F := fun u => F_X5_signAt o1 i2 u) rfl (Nat.le_of_ble_eq_true rfl) (fun u0 z p e s m args below meth c ls A hF hC hr hlk hH hl => ?_)
  have hl : lv_has ls 2 [(0, .ref (ρ o1)), (1, .int i2)] := hl
  have hx := hC.1.1
  have hb := hC.1.2.1
  have hF : F_X5_signAt o1 i2 u0 = some z := hF
  unfold F_X5_signAt at hF
  change W p l e (wRm 0 0) s m args below meth c s.heap [] 0 0 (wQI below args s A D κ ρ 0 (z, u0)) (F0 m 0 ls [])
  have key : ∀ (H : Heap) (locs : List Loc), wHp D κ ρ 0 A s.heap H locs u0 → W p l e (wRm 0 0) s m args below meth c H locs 0 0 (wQI below args s A D κ ρ 0 (z, u0)) (F0 m 0 ls []) := by
    intro H locs hH
    refine lv_iload_n hx hb dX5_signAt_0 rfl (lv_at hl 1 rfl) ?_
    refine lv_if_lt hx hb dX5_signAt_1 (tgt := 25) rfl (fun h => ?_) (fun h => ?_)
    · have hF := wx_t h hF
      refine lv_iconst hx hb dX5_signAt_25 k_iconst_m1 ?_
      exact wx_iret hC hH hr hlk dX5_signAt_26 (wx_pr hF)
    have hF := wx_f h hF
    refine lv_iload_n hx hb dX5_signAt_4 rfl (lv_at hl 1 rfl) ?_
    refine lv_aload_n hx hb dX5_signAt_5 rfl (lv_at hl 0 rfl) ?_
    refine wx_getI hC hH h_o1 rfl f_X5_21 dX5_signAt_6 ?_
    refine lv_icmp_ge hx hb dX5_signAt_9 (tgt := 25) rfl (fun h => ?_) (fun h => ?_)
    · have hF := wx_t h hF
      refine lv_iconst hx hb dX5_signAt_25 k_iconst_m1 ?_
      exact wx_iret hC hH hr hlk dX5_signAt_26 (wx_pr hF)
    have hF := wx_f h hF
    refine lv_aload_n hx hb dX5_signAt_12 rfl (lv_at hl 0 rfl) ?_
    refine wx_getR hC hH h_o1 rfl f_X5_46 dX5_signAt_13 hF (fun o3 h_o3 hF => ?_)
    refine lv_iload_n hx hb dX5_signAt_16 rfl (lv_at hl 1 rfl) ?_
    refine wx_bald hC hH h_o3 ⟨rfl, rfl⟩ dX5_signAt_17 hF (fun j4 hF => ?_)
    refine lv_sipush hx hb dX5_signAt_18 k_sipush_255 ?_
    refine lv_iand hx hb dX5_signAt_21 ?_
    refine lv_goto hx hb dX5_signAt_22 (tgt := 26) rfl ?_
    exact wx_iret hC hH hr hlk dX5_signAt_26 (wx_pr hF)
  exact key _ _ hH
def F_X5_isLetter (i1 : Int32) (u0 : wSt) : Option Int32 :=
  if i1 < (97 : Int32) then (some ((0 : Int32))) else (if (122 : Int32) < i1 then (some ((0 : Int32))) else (some ((1 : Int32))))
set_option maxRecDepth 100000 in
set_option maxHeartbeats 4000000 in
theorem c_X5_isLetter {l : Launch} {D : va_G} {κ : Nat → ClassId} {ρ : Nat → Nat} (i1 : Int32) : wMI l yX5_isLetter cX5_isLetter 1 .boolean (wRm 0 0) [.int i1] D κ ρ 0 (fun u => wPu (F_X5_isLetter i1 u) u) := by
  refine wMP_of (F := fun u => F_X5_isLetter i1 u) rfl (Nat.le_of_ble_eq_true rfl) (fun u0 z p e s m args below meth c ls A hF hC hr hlk hH hl => ?_)
  have hl : lv_has ls 1 [(0, .int i1)] := hl
  have hx := hC.1.1
  have hb := hC.1.2.1
  have hF : F_X5_isLetter i1 u0 = some z := hF
  unfold F_X5_isLetter at hF
  change W p l e (wRm 0 0) s m args below meth c s.heap [] 0 0 (wQI below args s A D κ ρ 0 (z, u0)) (F0 m 0 ls [])
  have key : ∀ (H : Heap) (locs : List Loc), wHp D κ ρ 0 A s.heap H locs u0 → W p l e (wRm 0 0) s m args below meth c H locs 0 0 (wQI below args s A D κ ρ 0 (z, u0)) (F0 m 0 ls []) := by
    intro H locs hH
    refine lv_iload_n hx hb dX5_isLetter_0 rfl (lv_at hl 0 rfl) ?_
    refine lv_bipush hx hb dX5_isLetter_1 k_bipush_97 ?_
    refine lv_icmp_lt hx hb dX5_isLetter_3 (tgt := 16) rfl (fun h => ?_) (fun h => ?_)
    · have hF := wx_t h hF
      refine lv_iconst hx hb dX5_isLetter_16 k_iconst_0 ?_
      exact wx_zret hC hH hr hlk dX5_isLetter_17 (Or.inl rfl) (wx_pr hF)
    have hF := wx_f h hF
    refine lv_iload_n hx hb dX5_isLetter_6 rfl (lv_at hl 0 rfl) ?_
    refine lv_bipush hx hb dX5_isLetter_7 k_bipush_122 ?_
    refine lv_icmp_gt hx hb dX5_isLetter_9 (tgt := 16) rfl (fun h => ?_) (fun h => ?_)
    · have hF := wx_t h hF
      refine lv_iconst hx hb dX5_isLetter_16 k_iconst_0 ?_
      exact wx_zret hC hH hr hlk dX5_isLetter_17 (Or.inl rfl) (wx_pr hF)
    have hF := wx_f h hF
    refine lv_iconst hx hb dX5_isLetter_12 k_iconst_1 ?_
    refine lv_goto hx hb dX5_isLetter_13 (tgt := 17) rfl ?_
    exact wx_zret hC hH hr hlk dX5_isLetter_17 (Or.inr rfl) (wx_pr hF)
  exact key _ _ hH
def F_X5_kindOfWord_b2 (u0 : wSt) (o1 : Nat) (i2 : Int32) (i4 : Int32) : Option ((Int32) ⊕ Int32) :=
  if (20 : Int32) ≤ i4 then (some (.inr ((34 : Int32)))) else (wR (u0.2.2 o1 8) 10 (fun o5 => wN i4 o5 (fun j6 => if (u0.1 o5 j6) = i2 then (some (.inr (i4))) else (wB (i4 + (1 : Int32)) (fun (i7 : Int32) => some (.inl i7))))))
def F_X5_kindOfWord (o1 : Nat) (i2 : Int32) (u0 : wSt) : Option Int32 :=
  wL (S := Int32) (fun x => F_X5_kindOfWord_b2 u0 o1 i2 x) wFu (0 : Int32)
set_option maxRecDepth 100000 in
set_option maxHeartbeats 4000000 in
theorem c_X5_kindOfWord {l : Launch} {D : va_G} {κ : Nat → ClassId} {ρ : Nat → Nat} (o1 : Nat) (i2 : Int32) (h_o1 : (w_sh o1).1 = 5) : wMI l yX5_kindOfWord cX5_kindOfWord 3 .int (wRm 0 0) [.ref (ρ o1), .int i2] D κ ρ 0 (fun u => wPu (F_X5_kindOfWord o1 i2 u) u) := by
  refine wMP_of (F := fun u => F_X5_kindOfWord o1 i2 u) rfl (Nat.le_of_ble_eq_true rfl) (fun u0 z p e s m args below meth c ls A hF hC hr hlk hH hl => ?_)
  have hl : lv_has ls 3 [(0, .ref (ρ o1)), (1, .int i2)] := hl
  have hx := hC.1.1
  have hb := hC.1.2.1
  have hF : F_X5_kindOfWord o1 i2 u0 = some z := hF
  unfold F_X5_kindOfWord at hF
  change W p l e (wRm 0 0) s m args below meth c s.heap [] 0 0 (wQI below args s A D κ ρ 0 (z, u0)) (F0 m 0 ls [])
  have key : ∀ (H : Heap) (locs : List Loc), wHp D κ ρ 0 A s.heap H locs u0 → W p l e (wRm 0 0) s m args below meth c H locs 0 0 (wQI below args s A D κ ρ 0 (z, u0)) (F0 m 0 ls []) := by
    intro H locs hH
    refine lv_iconst hx hb dX5_kindOfWord_0 k_iconst_0 ?_
    refine wx_istore_n hx hb dX5_kindOfWord_1 rfl hl (by decide) (fun ls hl => ?_)
    have hl : lv_has ls 3 [(2, .int (0 : Int32)), (0, .ref (ρ o1)), (1, .int i2)] := hl
    have hL2 : ∀ (k3_ : Nat) (i4 : Int32) (H : Heap) (locs : List Loc) (ls : Array Slot), wL (S := Int32) (fun x => F_X5_kindOfWord_b2 u0 o1 i2 x) k3_ i4 = some z → wHp D κ ρ 0 A s.heap H locs u0 → lv_has ls 3 [(0, .ref (ρ o1)), (1, .int i2), (2, .int i4)] → W p l e (wRm 0 0) s m args below meth c H locs 0 0 (wQI below args s A D κ ρ 0 (z, u0)) (F0 m 2 ls []) := by
      intro k3_
      induction k3_ with
      | zero => intro i4 H locs ls hF; exact wL_zero hF
      | succ k3_ ih3 =>
        intro i4 H locs ls hF hH hl
        obtain ⟨q3_, hF, hq3⟩ := wL_some hF
        have hF : F_X5_kindOfWord_b2 u0 o1 i2 i4 = some q3_ := hF
        unfold F_X5_kindOfWord_b2 at hF
        refine lv_iload_n hx hb dX5_kindOfWord_2 rfl (lv_at hl 2 rfl) ?_
        refine lv_bipush hx hb dX5_kindOfWord_3 k_bipush_20 ?_
        refine lv_icmp_ge hx hb dX5_kindOfWord_5 (tgt := 26) rfl (fun h => ?_) (fun h => ?_)
        · have hF := wx_t h hF
          refine lv_bipush hx hb dX5_kindOfWord_26 k_bipush_34 ?_
          have hF := wJ_r hq3 hF
          exact wx_iret hC hH hr hlk dX5_kindOfWord_28 (wx_pr hF)
        have hF := wx_f h hF
        refine lv_aload_n hx hb dX5_kindOfWord_8 rfl (lv_at hl 0 rfl) ?_
        refine wx_getR hC hH h_o1 rfl f_X5_33 dX5_kindOfWord_9 hF (fun o5 h_o5 hF => ?_)
        refine lv_iload_n hx hb dX5_kindOfWord_12 rfl (lv_at hl 2 rfl) ?_
        refine wx_iald hC hH h_o5 ⟨rfl, rfl⟩ dX5_kindOfWord_13 hF (fun j6 hF => ?_)
        refine lv_iload_n hx hb dX5_kindOfWord_14 rfl (lv_at hl 1 rfl) ?_
        refine lv_icmp_ne hx hb dX5_kindOfWord_15 (tgt := 20) rfl (fun h => ?_) (fun h => ?_)
        · have hF := wx_f h hF
          refine wx_iinc hx hb dX5_kindOfWord_20 k_iconst_1 hl (k := 2) rfl (by decide) hF (fun i7 ls hF hl => ?_)
          have hl : lv_has ls 3 [(2, .int i7), (0, .ref (ρ o1)), (1, .int i2)] := hl
          refine lv_goto hx hb dX5_kindOfWord_23 (tgt := 2) rfl ?_
          have hF := wJ_l hq3 hF
          exact ih3 i7 H locs ls hF hH (lv_sub hl [1, 2, 0] rfl)
        have hF := wx_t h hF
        refine lv_iload_n hx hb dX5_kindOfWord_18 rfl (lv_at hl 2 rfl) ?_
        have hF := wJ_r hq3 hF
        exact wx_iret hC hH hr hlk dX5_kindOfWord_19 (wx_pr hF)
    exact hL2 wFu (0 : Int32) H locs ls hF hH (lv_sub hl [1, 2, 0] rfl)
  exact key _ _ hH
def F_X5_readWord_j74 (o1 : Nat) (i3 : Int32) (i4 : Int32) (u5 : wSt) : Option (Unit × wSt) :=
  wB (w_sI u5 o1 0 (36 : Int32)) (fun (u6 : wSt) => if (6 : Int32) < i3 then (some ((), u6)) else (wB (w_sI u6 o1 2 (i4 <<< (((5 : Int32) * ((6 : Int32) - i3)) &&& 31))) (fun (u7 : wSt) => wP (F_X5_kindOfWord o1 (u7.1 o1 2) u7) (fun (i8 : Int32) => wB (w_sI u7 o1 0 i8) (fun (u9 : wSt) => some ((), u9))))))
def F_X5_readWord_j57 (i11 : Int32) (u13 : wSt) (o1 : Nat) (i17 : Int32) : Option ((Int32 × Int32 × wSt) ⊕ ((Int32 × Int32 × wSt) ⊕ (Unit × wSt))) :=
  wB (i11 + (1 : Int32)) (fun (i18 : Int32) => wB (w_sI u13 o1 5 ((u13.1 o1 5) + (1 : Int32))) (fun (u19 : wSt) => some (.inl (i18, i17, u19))))
def F_X5_readWord_b4 (o1 : Nat) (i11 : Int32) (i12 : Int32) (u13 : wSt) : Option ((Int32 × Int32 × wSt) ⊕ ((Int32 × Int32 × wSt) ⊕ (Unit × wSt))) :=
  if (u13.1 o1 4) ≤ (u13.1 o1 5) then (some (.inr (.inl (i11, i12, u13)))) else (wP (F_X5_signAt o1 (u13.1 o1 5) u13) (fun (i14 : Int32) => wP (F_X5_isLetter i14 u13) (fun (i15 : Int32) => if i15 = 0 then (some (.inr (.inl (i11, i12, u13)))) else (wJ (X := Int32) (if (6 : Int32) ≤ i11 then (some (.inl i12)) else (wP (F_X5_signAt o1 (u13.1 o1 5) u13) (fun (i20 : Int32) => some (.inl ((i12 * (32 : Int32)) + ((i20 - (97 : Int32)) + (1 : Int32))))))) (fun x => F_X5_readWord_j57 i11 u13 o1 x)))))
def F_X5_readWord (o1 : Nat) (u0 : wSt) : Option (Unit × wSt) :=
  wJ (X := Int32 × Int32 × wSt) (wL (S := Int32 × Int32 × wSt) (fun x => F_X5_readWord_b4 o1 x.1 x.2.1 x.2.2) wFu ((0 : Int32), (0 : Int32), u0)) (fun x => F_X5_readWord_j74 o1 x.1 x.2.1 x.2.2)
set_option maxRecDepth 100000 in
set_option maxHeartbeats 4000000 in
theorem c_X5_readWord {l : Launch} {D : va_G} {κ : Nat → ClassId} {ρ : Nat → Nat} (o1 : Nat) (h_o1 : (w_sh o1).1 = 5) : wMV l yX5_readWord cX5_readWord 3 (wRm 1 22) [.ref (ρ o1)] D κ ρ 0 (fun u => F_X5_readWord o1 u) := by
  refine wMV_of (F := fun u => F_X5_readWord o1 u) rfl (Nat.le_of_ble_eq_true rfl) (fun u0 z p e s m args below meth c ls A hF hC hr hlk hH hl => ?_)
  have hl : lv_has ls 3 [(0, .ref (ρ o1))] := hl
  have hx := hC.1.1
  have hb := hC.1.2.1
  have hF : F_X5_readWord o1 u0 = some z := hF
  unfold F_X5_readWord at hF
  change W p l e (wRm 1 22) s m args below meth c s.heap [] 0 0 (wQV below args s A D κ ρ 0 z) (F0 m 0 ls [])
  have key : ∀ (H : Heap) (locs : List Loc), wHp D κ ρ 0 A s.heap H locs u0 → W p l e (wRm 1 22) s m args below meth c H locs 0 0 (wQV below args s A D κ ρ 0 z) (F0 m 0 ls []) := by
    intro H locs hH
    refine lv_iconst hx hb dX5_readWord_0 k_iconst_0 ?_
    refine wx_istore_n hx hb dX5_readWord_1 rfl hl (by decide) (fun ls hl => ?_)
    have hl : lv_has ls 3 [(1, .int (0 : Int32)), (0, .ref (ρ o1))] := hl
    refine lv_iconst hx hb dX5_readWord_2 k_iconst_0 ?_
    refine wx_istore_n hx hb dX5_readWord_3 rfl hl (by decide) (fun ls hl => ?_)
    have hl : lv_has ls 3 [(2, .int (0 : Int32)), (1, .int (0 : Int32)), (0, .ref (ρ o1))] := hl
    obtain ⟨q2_, hF, hq2⟩ := wJ_some hF
    have hJ74 : ∀ (i3 : Int32) (i4 : Int32) (u5 : wSt) (H : Heap) (locs : List Loc) (ls : Array Slot), F_X5_readWord_j74 o1 i3 i4 u5 = some z → wHp D κ ρ 0 A s.heap H locs u5 → lv_has ls 3 [(0, .ref (ρ o1)), (1, .int i3), (2, .int i4)] → W p l e (wRm 1 22) s m args below meth c H locs 0 0 (wQV below args s A D κ ρ 0 z) (F0 m 74 ls []) := by
      intro i3 i4 u5 H locs ls hF hH hl
      unfold F_X5_readWord_j74 at hF
      refine lv_aload_n hx hb dX5_readWord_74 rfl (lv_at hl 0 rfl) ?_
      refine lv_bipush hx hb dX5_readWord_75 k_bipush_36 ?_
      refine wx_putI hC hH h_o1 rfl f_X5_9 g_5_0 dX5_readWord_77 hF (fun u6 H locs hF hH => ?_)
      refine lv_iload_n hx hb dX5_readWord_80 rfl (lv_at hl 1 rfl) ?_
      refine lv_bipush hx hb dX5_readWord_81 k_bipush_6 ?_
      refine lv_icmp_gt hx hb dX5_readWord_83 (tgt := 110) rfl (fun h => ?_) (fun h => ?_)
      · have hF := wx_t h hF
        exact wx_vret hC hH hr hlk dX5_readWord_110 hF
      have hF := wx_f h hF
      refine lv_aload_n hx hb dX5_readWord_86 rfl (lv_at hl 0 rfl) ?_
      refine lv_iload_n hx hb dX5_readWord_87 rfl (lv_at hl 2 rfl) ?_
      refine lv_iconst hx hb dX5_readWord_88 k_iconst_5 ?_
      refine lv_bipush hx hb dX5_readWord_89 k_bipush_6 ?_
      refine lv_iload_n hx hb dX5_readWord_91 rfl (lv_at hl 1 rfl) ?_
      refine lv_isub hx hb dX5_readWord_92 ?_
      refine lv_imul hx hb dX5_readWord_93 ?_
      refine lv_ishl hx hb dX5_readWord_94 ?_
      refine wx_putI hC hH h_o1 rfl f_X5_18 g_5_2 dX5_readWord_95 hF (fun u7 H locs hF hH => ?_)
      refine lv_aload_n hx hb dX5_readWord_98 rfl (lv_at hl 0 rfl) ?_
      refine lv_aload_n hx hb dX5_readWord_99 rfl (lv_at hl 0 rfl) ?_
      refine lv_aload_n hx hb dX5_readWord_100 rfl (lv_at hl 0 rfl) ?_
      refine wx_getI hC hH h_o1 rfl f_X5_18 dX5_readWord_101 ?_
      refine wx_pvi hC hH hl (c_X5_kindOfWord o1 (u7.1 o1 2) h_o1) y_X5_kindOfWord v_X5_kindOfWord h_o1 rfl m_X5_94 rfl ⟨Nat.le_of_ble_eq_true rfl, Nat.le_of_ble_eq_true rfl⟩ ⟨Nat.le_refl _, Nat.le_refl _⟩ rfl (Nat.le_of_ble_eq_true rfl) dX5_readWord_104 hF (fun i8 H locs hF hH => ?_)
      refine wx_putI hC hH h_o1 rfl f_X5_9 g_5_0 dX5_readWord_107 hF (fun u9 H locs hF hH => ?_)
      exact wx_vret hC hH hr hlk dX5_readWord_110 hF
    have hL4 : ∀ (k10_ : Nat) (i11 : Int32) (i12 : Int32) (u13 : wSt) (H : Heap) (locs : List Loc) (ls : Array Slot), wL (S := Int32 × Int32 × wSt) (fun x => F_X5_readWord_b4 o1 x.1 x.2.1 x.2.2) k10_ (i11, i12, u13) = some q2_ → wHp D κ ρ 0 A s.heap H locs u13 → lv_has ls 3 [(0, .ref (ρ o1)), (1, .int i11), (2, .int i12)] → W p l e (wRm 1 22) s m args below meth c H locs 0 0 (wQV below args s A D κ ρ 0 z) (F0 m 4 ls []) := by
      intro k10_
      induction k10_ with
      | zero => intro i11 i12 u13 H locs ls hF; exact wL_zero hF
      | succ k10_ ih10 =>
        intro i11 i12 u13 H locs ls hF hH hl
        obtain ⟨q10_, hF, hq10⟩ := wL_some hF
        have hF : F_X5_readWord_b4 o1 i11 i12 u13 = some q10_ := hF
        unfold F_X5_readWord_b4 at hF
        refine lv_aload_n hx hb dX5_readWord_4 rfl (lv_at hl 0 rfl) ?_
        refine wx_getI hC hH h_o1 rfl f_X5_24 dX5_readWord_5 ?_
        refine lv_aload_n hx hb dX5_readWord_8 rfl (lv_at hl 0 rfl) ?_
        refine wx_getI hC hH h_o1 rfl f_X5_21 dX5_readWord_9 ?_
        refine lv_icmp_ge hx hb dX5_readWord_12 (tgt := 74) rfl (fun h => ?_) (fun h => ?_)
        · have hF := wx_t h hF
          have hF := wJ_r hq10 hF
          have hF := wJ_l hq2 hF
          exact hJ74 i11 i12 u13 H locs ls hF hH (lv_sub hl [0, 1, 2] rfl)
        have hF := wx_f h hF
        refine lv_aload_n hx hb dX5_readWord_15 rfl (lv_at hl 0 rfl) ?_
        refine lv_aload_n hx hb dX5_readWord_16 rfl (lv_at hl 0 rfl) ?_
        refine wx_getI hC hH h_o1 rfl f_X5_24 dX5_readWord_17 ?_
        refine wx_pvi hC hH hl (c_X5_signAt o1 (u13.1 o1 5) h_o1) y_X5_signAt v_X5_signAt h_o1 rfl m_X5_73 rfl ⟨Nat.le_of_ble_eq_true rfl, Nat.le_of_ble_eq_true rfl⟩ ⟨Nat.le_refl _, Nat.le_refl _⟩ rfl (Nat.le_of_ble_eq_true rfl) dX5_readWord_20 hF (fun i14 H locs hF hH => ?_)
        refine wx_psi hC hH hl (c_X5_isLetter i14) y_X5_isLetter v_X5_isLetter m_X5_77 rfl ⟨Nat.le_of_ble_eq_true rfl, Nat.le_of_ble_eq_true rfl⟩ ⟨Nat.le_refl _, Nat.le_refl _⟩ rfl (Nat.le_of_ble_eq_true rfl) dX5_readWord_23 hF (fun i15 H locs hF hH => ?_)
        refine lv_if_eq hx hb dX5_readWord_26 (tgt := 74) rfl (fun h => ?_) (fun h => ?_)
        · have hF := wx_t h hF
          have hF := wJ_r hq10 hF
          have hF := wJ_l hq2 hF
          exact hJ74 i11 i12 u13 H locs ls hF hH (lv_sub hl [0, 1, 2] rfl)
        have hF := wx_f h hF
        refine lv_iload_n hx hb dX5_readWord_29 rfl (lv_at hl 1 rfl) ?_
        refine lv_bipush hx hb dX5_readWord_30 k_bipush_6 ?_
        obtain ⟨q16_, hF, hq16⟩ := wJ_some hF
        have hJ57 : ∀ (i17 : Int32) (H : Heap) (locs : List Loc) (ls : Array Slot), F_X5_readWord_j57 i11 u13 o1 i17 = some q10_ → wHp D κ ρ 0 A s.heap H locs u13 → lv_has ls 3 [(0, .ref (ρ o1)), (1, .int i11)] → W p l e (wRm 1 22) s m args below meth c H locs 0 0 (wQV below args s A D κ ρ 0 z) (F0 m 57 ls [.int i17]) := by
          intro i17 H locs ls hF hH hl
          unfold F_X5_readWord_j57 at hF
          refine wx_istore_n hx hb dX5_readWord_57 rfl hl (by decide) (fun ls hl => ?_)
          have hl : lv_has ls 3 [(2, .int i17), (0, .ref (ρ o1)), (1, .int i11)] := hl
          refine wx_iinc hx hb dX5_readWord_58 k_iconst_1 hl (k := 2) rfl (by decide) hF (fun i18 ls hF hl => ?_)
          have hl : lv_has ls 3 [(1, .int i18), (2, .int i17), (0, .ref (ρ o1))] := hl
          refine lv_aload_n hx hb dX5_readWord_61 rfl (lv_at hl 2 rfl) ?_
          refine lv_dup hx hb dX5_readWord_62 rfl ?_
          refine wx_getI hC hH h_o1 rfl f_X5_24 dX5_readWord_63 ?_
          refine lv_iconst hx hb dX5_readWord_66 k_iconst_1 ?_
          refine lv_iadd hx hb dX5_readWord_67 ?_
          refine wx_putI hC hH h_o1 rfl f_X5_24 g_5_5 dX5_readWord_68 hF (fun u19 H locs hF hH => ?_)
          refine lv_goto hx hb dX5_readWord_71 (tgt := 4) rfl ?_
          have hF := wJ_l hq10 hF
          exact ih10 i18 i17 u19 H locs ls hF hH (lv_sub hl [2, 0, 1] rfl)
        refine lv_icmp_ge hx hb dX5_readWord_32 (tgt := 56) rfl (fun h => ?_) (fun h => ?_)
        · have hF := wx_t h hF
          refine lv_iload_n hx hb dX5_readWord_56 rfl (lv_at hl 2 rfl) ?_
          have hF := wJ_l hq16 hF
          exact hJ57 i12 H locs ls hF hH (lv_sub hl [0, 1] rfl)
        have hF := wx_f h hF
        refine lv_iload_n hx hb dX5_readWord_35 rfl (lv_at hl 2 rfl) ?_
        refine lv_bipush hx hb dX5_readWord_36 k_bipush_32 ?_
        refine lv_imul hx hb dX5_readWord_38 ?_
        refine lv_aload_n hx hb dX5_readWord_39 rfl (lv_at hl 0 rfl) ?_
        refine lv_aload_n hx hb dX5_readWord_40 rfl (lv_at hl 0 rfl) ?_
        refine wx_getI hC hH h_o1 rfl f_X5_24 dX5_readWord_41 ?_
        refine wx_pvi hC hH hl (c_X5_signAt o1 (u13.1 o1 5) h_o1) y_X5_signAt v_X5_signAt h_o1 rfl m_X5_73 rfl ⟨Nat.le_of_ble_eq_true rfl, Nat.le_of_ble_eq_true rfl⟩ ⟨Nat.le_refl _, Nat.le_refl _⟩ rfl (Nat.le_of_ble_eq_true rfl) dX5_readWord_44 hF (fun i20 H locs hF hH => ?_)
        refine lv_bipush hx hb dX5_readWord_47 k_bipush_97 ?_
        refine lv_isub hx hb dX5_readWord_49 ?_
        refine lv_iconst hx hb dX5_readWord_50 k_iconst_1 ?_
        refine lv_iadd hx hb dX5_readWord_51 ?_
        refine lv_iadd hx hb dX5_readWord_52 ?_
        refine lv_goto hx hb dX5_readWord_53 (tgt := 57) rfl ?_
        have hF := wJ_l hq16 hF
        exact hJ57 ((i12 * (32 : Int32)) + ((i20 - (97 : Int32)) + (1 : Int32))) H locs ls hF hH (lv_sub hl [0, 1] rfl)
    exact hL4 wFu (0 : Int32) (0 : Int32) u0 H locs ls hF hH (lv_sub hl [2, 1, 0] rfl)
  exact key _ _ hH
def F_X5_isDigit (i1 : Int32) (u0 : wSt) : Option Int32 :=
  if i1 < (48 : Int32) then (some ((0 : Int32))) else (if (57 : Int32) < i1 then (some ((0 : Int32))) else (some ((1 : Int32))))
set_option maxRecDepth 100000 in
set_option maxHeartbeats 4000000 in
theorem c_X5_isDigit {l : Launch} {D : va_G} {κ : Nat → ClassId} {ρ : Nat → Nat} (i1 : Int32) : wMI l yX5_isDigit cX5_isDigit 1 .boolean (wRm 0 0) [.int i1] D κ ρ 0 (fun u => wPu (F_X5_isDigit i1 u) u) := by
  refine wMP_of (F := fun u => F_X5_isDigit i1 u) rfl (Nat.le_of_ble_eq_true rfl) (fun u0 z p e s m args below meth c ls A hF hC hr hlk hH hl => ?_)
  have hl : lv_has ls 1 [(0, .int i1)] := hl
  have hx := hC.1.1
  have hb := hC.1.2.1
  have hF : F_X5_isDigit i1 u0 = some z := hF
  unfold F_X5_isDigit at hF
  change W p l e (wRm 0 0) s m args below meth c s.heap [] 0 0 (wQI below args s A D κ ρ 0 (z, u0)) (F0 m 0 ls [])
  have key : ∀ (H : Heap) (locs : List Loc), wHp D κ ρ 0 A s.heap H locs u0 → W p l e (wRm 0 0) s m args below meth c H locs 0 0 (wQI below args s A D κ ρ 0 (z, u0)) (F0 m 0 ls []) := by
    intro H locs hH
    refine lv_iload_n hx hb dX5_isDigit_0 rfl (lv_at hl 0 rfl) ?_
    refine lv_bipush hx hb dX5_isDigit_1 k_bipush_48 ?_
    refine lv_icmp_lt hx hb dX5_isDigit_3 (tgt := 16) rfl (fun h => ?_) (fun h => ?_)
    · have hF := wx_t h hF
      refine lv_iconst hx hb dX5_isDigit_16 k_iconst_0 ?_
      exact wx_zret hC hH hr hlk dX5_isDigit_17 (Or.inl rfl) (wx_pr hF)
    have hF := wx_f h hF
    refine lv_iload_n hx hb dX5_isDigit_6 rfl (lv_at hl 0 rfl) ?_
    refine lv_bipush hx hb dX5_isDigit_7 k_bipush_57 ?_
    refine lv_icmp_gt hx hb dX5_isDigit_9 (tgt := 16) rfl (fun h => ?_) (fun h => ?_)
    · have hF := wx_t h hF
      refine lv_iconst hx hb dX5_isDigit_16 k_iconst_0 ?_
      exact wx_zret hC hH hr hlk dX5_isDigit_17 (Or.inl rfl) (wx_pr hF)
    have hF := wx_f h hF
    refine lv_iconst hx hb dX5_isDigit_12 k_iconst_1 ?_
    refine lv_goto hx hb dX5_isDigit_13 (tgt := 17) rfl ?_
    exact wx_zret hC hH hr hlk dX5_isDigit_17 (Or.inr rfl) (wx_pr hF)
  exact key _ _ hH
def F_X5_readNumber_j66 (o1 : Nat) (u3 : wSt) : Option (Unit × wSt) :=
  wB (w_sI u3 o1 0 (33 : Int32)) (fun (u4 : wSt) => some ((), u4))
def F_X5_readNumber_b0 (o1 : Nat) (u6 : wSt) : Option ((wSt) ⊕ ((wSt) ⊕ (Unit × wSt))) :=
  if (u6.1 o1 4) ≤ (u6.1 o1 5) then (some (.inr (.inl u6))) else (wP (F_X5_signAt o1 (u6.1 o1 5) u6) (fun (i7 : Int32) => wP (F_X5_isDigit i7 u6) (fun (i8 : Int32) => if i8 = 0 then (some (.inr (.inl u6))) else (wP (F_X5_signAt o1 (u6.1 o1 5) u6) (fun (i9 : Int32) => wB (w_sI u6 o1 2 (w_min (1000000 : Int32) (((u6.1 o1 2) * (10 : Int32)) + (i9 - (48 : Int32))))) (fun (u10 : wSt) => wB (w_sI u10 o1 5 ((u10.1 o1 5) + (1 : Int32))) (fun (u11 : wSt) => some (.inl u11))))))))
def F_X5_readNumber (o1 : Nat) (u0 : wSt) : Option (Unit × wSt) :=
  wJ (X := wSt) (wL (S := wSt) (fun x => F_X5_readNumber_b0 o1 x) wFu u0) (fun x => F_X5_readNumber_j66 o1 x)
set_option maxRecDepth 100000 in
set_option maxHeartbeats 4000000 in
theorem c_X5_readNumber {l : Launch} {D : va_G} {κ : Nat → ClassId} {ρ : Nat → Nat} (o1 : Nat) (h_o1 : (w_sh o1).1 = 5) : wMV l yX5_readNumber cX5_readNumber 1 (wRm 1 26) [.ref (ρ o1)] D κ ρ 0 (fun u => F_X5_readNumber o1 u) := by
  refine wMV_of (F := fun u => F_X5_readNumber o1 u) rfl (Nat.le_of_ble_eq_true rfl) (fun u0 z p e s m args below meth c ls A hF hC hr hlk hH hl => ?_)
  have hl : lv_has ls 1 [(0, .ref (ρ o1))] := hl
  have hx := hC.1.1
  have hb := hC.1.2.1
  have hF : F_X5_readNumber o1 u0 = some z := hF
  unfold F_X5_readNumber at hF
  change W p l e (wRm 1 26) s m args below meth c s.heap [] 0 0 (wQV below args s A D κ ρ 0 z) (F0 m 0 ls [])
  have key : ∀ (H : Heap) (locs : List Loc), wHp D κ ρ 0 A s.heap H locs u0 → W p l e (wRm 1 26) s m args below meth c H locs 0 0 (wQV below args s A D κ ρ 0 z) (F0 m 0 ls []) := by
    intro H locs hH
    obtain ⟨q2_, hF, hq2⟩ := wJ_some hF
    have hJ66 : ∀ (u3 : wSt) (H : Heap) (locs : List Loc) (ls : Array Slot), F_X5_readNumber_j66 o1 u3 = some z → wHp D κ ρ 0 A s.heap H locs u3 → lv_has ls 1 [(0, .ref (ρ o1))] → W p l e (wRm 1 26) s m args below meth c H locs 0 0 (wQV below args s A D κ ρ 0 z) (F0 m 66 ls []) := by
      intro u3 H locs ls hF hH hl
      unfold F_X5_readNumber_j66 at hF
      refine lv_aload_n hx hb dX5_readNumber_66 rfl (lv_at hl 0 rfl) ?_
      refine lv_bipush hx hb dX5_readNumber_67 k_bipush_33 ?_
      refine wx_putI hC hH h_o1 rfl f_X5_9 g_5_0 dX5_readNumber_69 hF (fun u4 H locs hF hH => ?_)
      exact wx_vret hC hH hr hlk dX5_readNumber_72 hF
    have hL0 : ∀ (k5_ : Nat) (u6 : wSt) (H : Heap) (locs : List Loc) (ls : Array Slot), wL (S := wSt) (fun x => F_X5_readNumber_b0 o1 x) k5_ u6 = some q2_ → wHp D κ ρ 0 A s.heap H locs u6 → lv_has ls 1 [(0, .ref (ρ o1))] → W p l e (wRm 1 26) s m args below meth c H locs 0 0 (wQV below args s A D κ ρ 0 z) (F0 m 0 ls []) := by
      intro k5_
      induction k5_ with
      | zero => intro u6 H locs ls hF; exact wL_zero hF
      | succ k5_ ih5 =>
        intro u6 H locs ls hF hH hl
        obtain ⟨q5_, hF, hq5⟩ := wL_some hF
        have hF : F_X5_readNumber_b0 o1 u6 = some q5_ := hF
        unfold F_X5_readNumber_b0 at hF
        refine lv_aload_n hx hb dX5_readNumber_0 rfl (lv_at hl 0 rfl) ?_
        refine wx_getI hC hH h_o1 rfl f_X5_24 dX5_readNumber_1 ?_
        refine lv_aload_n hx hb dX5_readNumber_4 rfl (lv_at hl 0 rfl) ?_
        refine wx_getI hC hH h_o1 rfl f_X5_21 dX5_readNumber_5 ?_
        refine lv_icmp_ge hx hb dX5_readNumber_8 (tgt := 66) rfl (fun h => ?_) (fun h => ?_)
        · have hF := wx_t h hF
          have hF := wJ_r hq5 hF
          have hF := wJ_l hq2 hF
          exact hJ66 u6 H locs ls hF hH (lv_sub hl [0] rfl)
        have hF := wx_f h hF
        refine lv_aload_n hx hb dX5_readNumber_11 rfl (lv_at hl 0 rfl) ?_
        refine lv_aload_n hx hb dX5_readNumber_12 rfl (lv_at hl 0 rfl) ?_
        refine wx_getI hC hH h_o1 rfl f_X5_24 dX5_readNumber_13 ?_
        refine wx_pvi hC hH hl (c_X5_signAt o1 (u6.1 o1 5) h_o1) y_X5_signAt v_X5_signAt h_o1 rfl m_X5_73 rfl ⟨Nat.le_of_ble_eq_true rfl, Nat.le_of_ble_eq_true rfl⟩ ⟨Nat.le_refl _, Nat.le_refl _⟩ rfl (Nat.le_of_ble_eq_true rfl) dX5_readNumber_16 hF (fun i7 H locs hF hH => ?_)
        refine wx_psi hC hH hl (c_X5_isDigit i7) y_X5_isDigit v_X5_isDigit m_X5_84 rfl ⟨Nat.le_of_ble_eq_true rfl, Nat.le_of_ble_eq_true rfl⟩ ⟨Nat.le_refl _, Nat.le_refl _⟩ rfl (Nat.le_of_ble_eq_true rfl) dX5_readNumber_19 hF (fun i8 H locs hF hH => ?_)
        refine lv_if_eq hx hb dX5_readNumber_22 (tgt := 66) rfl (fun h => ?_) (fun h => ?_)
        · have hF := wx_t h hF
          have hF := wJ_r hq5 hF
          have hF := wJ_l hq2 hF
          exact hJ66 u6 H locs ls hF hH (lv_sub hl [0] rfl)
        have hF := wx_f h hF
        refine lv_aload_n hx hb dX5_readNumber_25 rfl (lv_at hl 0 rfl) ?_
        refine lv_ldc hx hb hC.1.2.2.2.1 (hC.1.2.2.2.2 _ l_X5_97) dX5_readNumber_26 ?_
        refine lv_aload_n hx hb dX5_readNumber_28 rfl (lv_at hl 0 rfl) ?_
        refine wx_getI hC hH h_o1 rfl f_X5_18 dX5_readNumber_29 ?_
        refine lv_bipush hx hb dX5_readNumber_32 k_bipush_10 ?_
        refine lv_imul hx hb dX5_readNumber_34 ?_
        refine lv_aload_n hx hb dX5_readNumber_35 rfl (lv_at hl 0 rfl) ?_
        refine lv_aload_n hx hb dX5_readNumber_36 rfl (lv_at hl 0 rfl) ?_
        refine wx_getI hC hH h_o1 rfl f_X5_24 dX5_readNumber_37 ?_
        refine wx_pvi hC hH hl (c_X5_signAt o1 (u6.1 o1 5) h_o1) y_X5_signAt v_X5_signAt h_o1 rfl m_X5_73 rfl ⟨Nat.le_of_ble_eq_true rfl, Nat.le_of_ble_eq_true rfl⟩ ⟨Nat.le_refl _, Nat.le_refl _⟩ rfl (Nat.le_of_ble_eq_true rfl) dX5_readNumber_40 hF (fun i9 H locs hF hH => ?_)
        refine lv_bipush hx hb dX5_readNumber_43 k_bipush_48 ?_
        refine lv_isub hx hb dX5_readNumber_45 ?_
        refine lv_iadd hx hb dX5_readNumber_46 ?_
        refine wx_min hC hl.1 m_X5_61 ⟨Nat.le_of_ble_eq_true rfl, Nat.le_of_ble_eq_true rfl⟩ ⟨Nat.le_refl _, Nat.le_refl _⟩ dX5_readNumber_47 ?_
        refine wx_putI hC hH h_o1 rfl f_X5_18 g_5_2 dX5_readNumber_50 hF (fun u10 H locs hF hH => ?_)
        refine lv_aload_n hx hb dX5_readNumber_53 rfl (lv_at hl 0 rfl) ?_
        refine lv_dup hx hb dX5_readNumber_54 rfl ?_
        refine wx_getI hC hH h_o1 rfl f_X5_24 dX5_readNumber_55 ?_
        refine lv_iconst hx hb dX5_readNumber_58 k_iconst_1 ?_
        refine lv_iadd hx hb dX5_readNumber_59 ?_
        refine wx_putI hC hH h_o1 rfl f_X5_24 g_5_5 dX5_readNumber_60 hF (fun u11 H locs hF hH => ?_)
        refine lv_goto hx hb dX5_readNumber_63 (tgt := 0) rfl ?_
        have hF := wJ_l hq5 hF
        exact ih5 u11 H locs ls hF hH (lv_sub hl [0] rfl)
    exact hL0 wFu u0 H locs ls hF hH (lv_sub hl [0] rfl)
  exact key _ _ hH
def F_X5_kindOfSign (i1 : Int32) (u0 : wSt) : Option Int32 :=
  if i1 = 40 then (some ((30 : Int32))) else (if i1 = 41 then (some ((31 : Int32))) else (if i1 = 42 then (some ((28 : Int32))) else (if i1 = 43 then (some ((26 : Int32))) else (if i1 = 45 then (some ((27 : Int32))) else (if i1 = 47 then (some ((29 : Int32))) else (if i1 = 59 then (some ((32 : Int32))) else (if i1 = 60 then (some ((20 : Int32))) else (if i1 = 61 then (some ((22 : Int32))) else (if i1 = 62 then (some ((25 : Int32))) else (some ((36 : Int32))))))))))))
set_option maxRecDepth 100000 in
set_option maxHeartbeats 4000000 in
theorem c_X5_kindOfSign {l : Launch} {D : va_G} {κ : Nat → ClassId} {ρ : Nat → Nat} (i1 : Int32) : wMI l yX5_kindOfSign cX5_kindOfSign 1 .int (wRm 0 0) [.int i1] D κ ρ 0 (fun u => wPu (F_X5_kindOfSign i1 u) u) := by
  refine wMP_of (F := fun u => F_X5_kindOfSign i1 u) rfl (Nat.le_of_ble_eq_true rfl) (fun u0 z p e s m args below meth c ls A hF hC hr hlk hH hl => ?_)
  have hl : lv_has ls 1 [(0, .int i1)] := hl
  have hx := hC.1.1
  have hb := hC.1.2.1
  have hF : F_X5_kindOfSign i1 u0 = some z := hF
  unfold F_X5_kindOfSign at hF
  change W p l e (wRm 0 0) s m args below meth c s.heap [] 0 0 (wQI below args s A D κ ρ 0 (z, u0)) (F0 m 0 ls [])
  have key : ∀ (H : Heap) (locs : List Loc), wHp D κ ρ 0 A s.heap H locs u0 → W p l e (wRm 0 0) s m args below meth c H locs 0 0 (wQI below args s A D κ ρ 0 (z, u0)) (F0 m 0 ls []) := by
    intro H locs hH
    refine lv_iload_n hx hb dX5_kindOfSign_0 rfl (lv_at hl 0 rfl) ?_
    by_cases hs0 : i1 = 40
    · have hF := wx_t hs0 hF
      refine wx_sw hx hb dX5_kindOfSign_1 (by decide) (tgt := 129) (by rw [hs0]; decide) ?_
      refine lv_bipush hx hb dX5_kindOfSign_129 k_bipush_30 ?_
      exact wx_iret hC hH hr hlk dX5_kindOfSign_131 (wx_pr hF)
    have hF := wx_f hs0 hF
    by_cases hs1 : i1 = 41
    · have hF := wx_t hs1 hF
      refine wx_sw hx hb dX5_kindOfSign_1 (by decide) (tgt := 132) (by rw [hs1]; decide) ?_
      refine lv_bipush hx hb dX5_kindOfSign_132 k_bipush_31 ?_
      exact wx_iret hC hH hr hlk dX5_kindOfSign_134 (wx_pr hF)
    have hF := wx_f hs1 hF
    by_cases hs2 : i1 = 42
    · have hF := wx_t hs2 hF
      refine wx_sw hx hb dX5_kindOfSign_1 (by decide) (tgt := 123) (by rw [hs2]; decide) ?_
      refine lv_bipush hx hb dX5_kindOfSign_123 k_bipush_28 ?_
      exact wx_iret hC hH hr hlk dX5_kindOfSign_125 (wx_pr hF)
    have hF := wx_f hs2 hF
    by_cases hs3 : i1 = 43
    · have hF := wx_t hs3 hF
      refine wx_sw hx hb dX5_kindOfSign_1 (by decide) (tgt := 117) (by rw [hs3]; decide) ?_
      refine lv_bipush hx hb dX5_kindOfSign_117 k_bipush_26 ?_
      exact wx_iret hC hH hr hlk dX5_kindOfSign_119 (wx_pr hF)
    have hF := wx_f hs3 hF
    by_cases hs4 : i1 = 45
    · have hF := wx_t hs4 hF
      refine wx_sw hx hb dX5_kindOfSign_1 (by decide) (tgt := 120) (by rw [hs4]; decide) ?_
      refine lv_bipush hx hb dX5_kindOfSign_120 k_bipush_27 ?_
      exact wx_iret hC hH hr hlk dX5_kindOfSign_122 (wx_pr hF)
    have hF := wx_f hs4 hF
    by_cases hs5 : i1 = 47
    · have hF := wx_t hs5 hF
      refine wx_sw hx hb dX5_kindOfSign_1 (by decide) (tgt := 126) (by rw [hs5]; decide) ?_
      refine lv_bipush hx hb dX5_kindOfSign_126 k_bipush_29 ?_
      exact wx_iret hC hH hr hlk dX5_kindOfSign_128 (wx_pr hF)
    have hF := wx_f hs5 hF
    by_cases hs6 : i1 = 59
    · have hF := wx_t hs6 hF
      refine wx_sw hx hb dX5_kindOfSign_1 (by decide) (tgt := 135) (by rw [hs6]; decide) ?_
      refine lv_bipush hx hb dX5_kindOfSign_135 k_bipush_32 ?_
      exact wx_iret hC hH hr hlk dX5_kindOfSign_137 (wx_pr hF)
    have hF := wx_f hs6 hF
    by_cases hs7 : i1 = 60
    · have hF := wx_t hs7 hF
      refine wx_sw hx hb dX5_kindOfSign_1 (by decide) (tgt := 108) (by rw [hs7]; decide) ?_
      refine lv_bipush hx hb dX5_kindOfSign_108 k_bipush_20 ?_
      exact wx_iret hC hH hr hlk dX5_kindOfSign_110 (wx_pr hF)
    have hF := wx_f hs7 hF
    by_cases hs8 : i1 = 61
    · have hF := wx_t hs8 hF
      refine wx_sw hx hb dX5_kindOfSign_1 (by decide) (tgt := 114) (by rw [hs8]; decide) ?_
      refine lv_bipush hx hb dX5_kindOfSign_114 k_bipush_22 ?_
      exact wx_iret hC hH hr hlk dX5_kindOfSign_116 (wx_pr hF)
    have hF := wx_f hs8 hF
    by_cases hs9 : i1 = 62
    · have hF := wx_t hs9 hF
      refine wx_sw hx hb dX5_kindOfSign_1 (by decide) (tgt := 111) (by rw [hs9]; decide) ?_
      refine lv_bipush hx hb dX5_kindOfSign_111 k_bipush_25 ?_
      exact wx_iret hC hH hr hlk dX5_kindOfSign_113 (wx_pr hF)
    have hF := wx_f hs9 hF
    have htg : ((1 : Nat) : Int) + wTg (137) (40) (62) #[128, 131, 122, 116, 137, 119, 137, 125, 137, 137, 137, 137, 137, 137, 137, 137, 137, 137, 137, 134, 107, 113, 110] i1 = ((138 : Nat) : Int) := by
      by_cases e0 : i1 = 44
      · rw [e0]; decide
      by_cases e1 : i1 = 46
      · rw [e1]; decide
      by_cases e2 : i1 = 48
      · rw [e2]; decide
      by_cases e3 : i1 = 49
      · rw [e3]; decide
      by_cases e4 : i1 = 50
      · rw [e4]; decide
      by_cases e5 : i1 = 51
      · rw [e5]; decide
      by_cases e6 : i1 = 52
      · rw [e6]; decide
      by_cases e7 : i1 = 53
      · rw [e7]; decide
      by_cases e8 : i1 = 54
      · rw [e8]; decide
      by_cases e9 : i1 = 55
      · rw [e9]; decide
      by_cases e10 : i1 = 56
      · rw [e10]; decide
      by_cases e11 : i1 = 57
      · rw [e11]; decide
      by_cases e12 : i1 = 58
      · rw [e12]; decide
      have n0 : ¬ (i1).toInt = 40 := lv_neT (k := 40) (a := 40) (fun q => hs0 (q)) (by decide)
      have n1 : ¬ (i1).toInt = 41 := lv_neT (k := 41) (a := 41) (fun q => hs1 (q)) (by decide)
      have n2 : ¬ (i1).toInt = 42 := lv_neT (k := 42) (a := 42) (fun q => hs2 (q)) (by decide)
      have n3 : ¬ (i1).toInt = 43 := lv_neT (k := 43) (a := 43) (fun q => hs3 (q)) (by decide)
      have n4 : ¬ (i1).toInt = 45 := lv_neT (k := 45) (a := 45) (fun q => hs4 (q)) (by decide)
      have n5 : ¬ (i1).toInt = 47 := lv_neT (k := 47) (a := 47) (fun q => hs5 (q)) (by decide)
      have n6 : ¬ (i1).toInt = 59 := lv_neT (k := 59) (a := 59) (fun q => hs6 (q)) (by decide)
      have n7 : ¬ (i1).toInt = 60 := lv_neT (k := 60) (a := 60) (fun q => hs7 (q)) (by decide)
      have n8 : ¬ (i1).toInt = 61 := lv_neT (k := 61) (a := 61) (fun q => hs8 (q)) (by decide)
      have n9 : ¬ (i1).toInt = 62 := lv_neT (k := 62) (a := 62) (fun q => hs9 (q)) (by decide)
      have w0 : ¬ (i1).toInt = 44 := lv_neT (k := 44) (a := 44) e0 (by decide)
      have w1 : ¬ (i1).toInt = 46 := lv_neT (k := 46) (a := 46) e1 (by decide)
      have w2 : ¬ (i1).toInt = 48 := lv_neT (k := 48) (a := 48) e2 (by decide)
      have w3 : ¬ (i1).toInt = 49 := lv_neT (k := 49) (a := 49) e3 (by decide)
      have w4 : ¬ (i1).toInt = 50 := lv_neT (k := 50) (a := 50) e4 (by decide)
      have w5 : ¬ (i1).toInt = 51 := lv_neT (k := 51) (a := 51) e5 (by decide)
      have w6 : ¬ (i1).toInt = 52 := lv_neT (k := 52) (a := 52) e6 (by decide)
      have w7 : ¬ (i1).toInt = 53 := lv_neT (k := 53) (a := 53) e7 (by decide)
      have w8 : ¬ (i1).toInt = 54 := lv_neT (k := 54) (a := 54) e8 (by decide)
      have w9 : ¬ (i1).toInt = 55 := lv_neT (k := 55) (a := 55) e9 (by decide)
      have w10 : ¬ (i1).toInt = 56 := lv_neT (k := 56) (a := 56) e10 (by decide)
      have w11 : ¬ (i1).toInt = 57 := lv_neT (k := 57) (a := 57) e11 (by decide)
      have w12 : ¬ (i1).toInt = 58 := lv_neT (k := 58) (a := 58) e12 (by decide)
      rw [wTg_lo (by omega)]; rfl
    refine wx_sw hx hb dX5_kindOfSign_1 (by decide) (tgt := 138) htg ?_
    refine lv_bipush hx hb dX5_kindOfSign_138 k_bipush_36 ?_
    exact wx_iret hC hH hr hlk dX5_kindOfSign_140 (wx_pr hF)
  exact key _ _ hH

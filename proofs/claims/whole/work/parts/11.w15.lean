def F_X9_keep_j127 (o1 : Nat) (u9 : wSt) : Option (Int32 × wSt) :=
  wR (u9.2.2 o1 78) 14 (fun o10 => wR (u9.2.2 o1 57) 14 (fun o11 => wN (0 : Int32) o11 (fun j12 => wSI u9 o10 (36 : Int32) (u9.1 o11 j12) (fun (u13 : wSt) => wB (w_sL u13 o1 79 (u13.2.1 o1 58)) (fun (u14 : wSt) => wR (u14.2.2 o1 57) 14 (fun o15 => wN (0 : Int32) o15 (fun j16 => some ((u14.1 o15 j16), u14))))))))
def F_X9_keep_j105 (o24 : Nat) (i18 : Int32) (o1 : Nat) (i28 : Int32) (u29 : wSt) : Option ((Int32 × wSt) ⊕ ((wSt) ⊕ (Int32 × wSt))) :=
  wSI u29 o24 ((20 : Int32) + i18) i28 (fun (u30 : wSt) => wR (u30.2.2 o1 78) 14 (fun o31 => wR (u30.2.2 o1 56) 14 (fun o32 => wN i18 o32 (fun j33 => wSI u30 o31 ((28 : Int32) + i18) (u30.1 o32 j33) (fun (u34 : wSt) => wB (i18 + (1 : Int32)) (fun (i35 : Int32) => some (.inl (i35, u34))))))))
def F_X9_keep_b62 (o1 : Nat) (i18 : Int32) (u19 : wSt) : Option ((Int32 × wSt) ⊕ ((wSt) ⊕ (Int32 × wSt))) :=
  if (8 : Int32) ≤ i18 then (some (.inr (.inl u19))) else (wR (u19.2.2 o1 78) 14 (fun o20 => wR (u19.2.2 o1 54) 14 (fun o21 => wN i18 o21 (fun j22 => wSI u19 o20 ((12 : Int32) + i18) (u19.1 o21 j22) (fun (u23 : wSt) => wR (u23.2.2 o1 78) 14 (fun o24 => wR (u23.2.2 o1 55) 15 (fun o25 => wN i18 o25 (fun j26 => wJ (X := Int32 × wSt) (if (u23.1 o25 j26) = 0 then (some (.inl ((0 : Int32), u23))) else (some (.inl ((1 : Int32), u23)))) (fun x => F_X9_keep_j105 o24 i18 o1 x.1 x.2)))))))))
def F_X9_keep_j60 (o1 : Nat) (u7 : wSt) : Option (Int32 × wSt) :=
  wJ (X := wSt) (wL (S := Int32 × wSt) (fun x => F_X9_keep_b62 o1 x.1 x.2) wFu ((0 : Int32), u7)) (fun x => F_X9_keep_j127 o1 x)
def F_X9_keep_b21 (o1 : Nat) (i37 : Int32) (u38 : wSt) : Option ((Int32 × wSt) ⊕ ((wSt) ⊕ (Int32 × wSt))) :=
  if (6 : Int32) ≤ i37 then (some (.inr (.inl u38))) else (wR (u38.2.2 o1 78) 14 (fun o39 => wR (u38.2.2 o1 49) 14 (fun o40 => wN i37 o40 (fun j41 => wSI u38 o39 i37 (u38.1 o40 j41) (fun (u42 : wSt) => wR (u42.2.2 o1 78) 14 (fun o43 => wR (u42.2.2 o1 53) 14 (fun o44 => wN i37 o44 (fun j45 => wSI u42 o43 ((6 : Int32) + i37) (u42.1 o44 j45) (fun (u46 : wSt) => wB (i37 + (1 : Int32)) (fun (i47 : Int32) => some (.inl (i47, u46))))))))))))
def F_X9_keep (o1 : Nat) (u0 : wSt) : Option (Int32 × wSt) :=
  wB (w_sI u0 o1 2 (0 : Int32)) (fun (u2 : wSt) => wB (w_sI u2 o1 76 (1 : Int32)) (fun (u3 : wSt) => wR (u3.2.2 o1 77) 14 (fun o4 => wC (F_X9_put o1 o4 (0 : Int32) u3) (fun _ (u5 : wSt) => wJ (X := wSt) (wL (S := Int32 × wSt) (fun x => F_X9_keep_b21 o1 x.1 x.2) wFu ((0 : Int32), u5)) (fun x => F_X9_keep_j60 o1 x)))))
set_option maxRecDepth 100000 in
set_option maxHeartbeats 4000000 in
theorem c_X9_keep {l : Launch} {D : va_G} {κ : Nat → ClassId} {ρ : Nat → Nat} (o1 : Nat) (h_o1 : (w_sh o1).1 = 9) : wMI l yX9_keep cX9_keep 2 .int (wRm 1 23) [.ref (ρ o1)] D κ ρ 1 (fun u => F_X9_keep o1 u) := by
  refine wMI_of (F := fun u => F_X9_keep o1 u) rfl (Nat.le_of_ble_eq_true rfl) (fun u0 z p e s m args below meth c ls A hF hC hr hlk hH hl => ?_)
  have hl : lv_has ls 2 [(0, .ref (ρ o1))] := hl
  have hx := hC.1.1
  have hb := hC.1.2.1
  have hF : F_X9_keep o1 u0 = some z := hF
  unfold F_X9_keep at hF
  change W p l e (wRm 1 23) s m args below meth c s.heap [] 0 0 (wQI below args s A D κ ρ 1 z) (F0 m 0 ls [])
  have key : ∀ (H : Heap) (locs : List Loc), wHp D κ ρ 1 A s.heap H locs u0 → W p l e (wRm 1 23) s m args below meth c H locs 0 0 (wQI below args s A D κ ρ 1 z) (F0 m 0 ls []) := by
    intro H locs hH
    refine lv_aload_n hx hb dX9_keep_0 rfl (lv_at hl 0 rfl) ?_
    refine lv_iconst hx hb dX9_keep_1 k_iconst_0 ?_
    refine wx_putI hC hH h_o1 rfl f_X9_142 g_9_2 dX9_keep_2 hF (fun u2 H locs hF hH => ?_)
    refine lv_aload_n hx hb dX9_keep_5 rfl (lv_at hl 0 rfl) ?_
    refine lv_iconst hx hb dX9_keep_6 k_iconst_1 ?_
    refine wx_putZ hC hH h_o1 rfl f_X9_350 g_9_76 dX9_keep_7 (Or.inr rfl) hF (fun u3 H locs hF hH => ?_)
    refine lv_aload_n hx hb dX9_keep_10 rfl (lv_at hl 0 rfl) ?_
    refine lv_aload_n hx hb dX9_keep_11 rfl (lv_at hl 0 rfl) ?_
    refine wx_getR hC hH h_o1 rfl f_X9_130 dX9_keep_12 hF (fun o4 h_o4 hF => ?_)
    refine lv_iconst hx hb dX9_keep_15 k_iconst_0 ?_
    refine wx_evv hC hH hl (c_X9_put o1 o4 (0 : Int32) h_o1 h_o4) y_X9_put v_X9_put h_o1 rfl m_X9_537 rfl ⟨Nat.le_of_ble_eq_true rfl, Nat.le_of_ble_eq_true rfl⟩ ⟨Nat.le_refl _, Nat.le_refl _⟩ rfl (Nat.le_of_ble_eq_true rfl) dX9_keep_16 hF (fun _ u5 H locs hF hH => ?_)
    refine lv_iconst hx hb dX9_keep_19 k_iconst_0 ?_
    refine wx_istore_n hx hb dX9_keep_20 rfl hl (by decide) (fun ls hl => ?_)
    have hl : lv_has ls 2 [(1, .int (0 : Int32)), (0, .ref (ρ o1))] := hl
    obtain ⟨q6_, hF, hq6⟩ := wJ_some hF
    have hJ60 : ∀ (u7 : wSt) (H : Heap) (locs : List Loc) (ls : Array Slot), F_X9_keep_j60 o1 u7 = some z → wHp D κ ρ 1 A s.heap H locs u7 → lv_has ls 2 [(0, .ref (ρ o1))] → W p l e (wRm 1 23) s m args below meth c H locs 0 0 (wQI below args s A D κ ρ 1 z) (F0 m 60 ls []) := by
      intro u7 H locs ls hF hH hl
      unfold F_X9_keep_j60 at hF
      refine lv_iconst hx hb dX9_keep_60 k_iconst_0 ?_
      refine wx_istore_n hx hb dX9_keep_61 rfl hl (by decide) (fun ls hl => ?_)
      have hl : lv_has ls 2 [(1, .int (0 : Int32)), (0, .ref (ρ o1))] := hl
      obtain ⟨q8_, hF, hq8⟩ := wJ_some hF
      have hJ127 : ∀ (u9 : wSt) (H : Heap) (locs : List Loc) (ls : Array Slot), F_X9_keep_j127 o1 u9 = some z → wHp D κ ρ 1 A s.heap H locs u9 → lv_has ls 2 [(0, .ref (ρ o1))] → W p l e (wRm 1 23) s m args below meth c H locs 0 0 (wQI below args s A D κ ρ 1 z) (F0 m 127 ls []) := by
        intro u9 H locs ls hF hH hl
        unfold F_X9_keep_j127 at hF
        refine lv_aload_n hx hb dX9_keep_127 rfl (lv_at hl 0 rfl) ?_
        refine wx_getR hC hH h_o1 rfl f_X9_133 dX9_keep_128 hF (fun o10 h_o10 hF => ?_)
        refine lv_bipush hx hb dX9_keep_131 k_bipush_36 ?_
        refine lv_aload_n hx hb dX9_keep_133 rfl (lv_at hl 0 rfl) ?_
        refine wx_getR hC hH h_o1 rfl f_X9_112 dX9_keep_134 hF (fun o11 h_o11 hF => ?_)
        refine lv_iconst hx hb dX9_keep_137 k_iconst_0 ?_
        refine wx_iald hC hH h_o11 ⟨rfl, rfl⟩ dX9_keep_138 hF (fun j12 hF => ?_)
        refine wx_iast hC hH h_o10 ⟨rfl, rfl⟩ dX9_keep_139 hF (fun u13 H locs hF hH => ?_)
        refine lv_aload_n hx hb dX9_keep_140 rfl (lv_at hl 0 rfl) ?_
        refine lv_aload_n hx hb dX9_keep_141 rfl (lv_at hl 0 rfl) ?_
        refine wx_getL hC hH h_o1 rfl f_X9_337 dX9_keep_142 ?_
        refine wx_putL hC hH h_o1 rfl f_X9_543 g_9_79 dX9_keep_145 hF (fun u14 H locs hF hH => ?_)
        refine lv_aload_n hx hb dX9_keep_148 rfl (lv_at hl 0 rfl) ?_
        refine wx_getR hC hH h_o1 rfl f_X9_112 dX9_keep_149 hF (fun o15 h_o15 hF => ?_)
        refine lv_iconst hx hb dX9_keep_152 k_iconst_0 ?_
        refine wx_iald hC hH h_o15 ⟨rfl, rfl⟩ dX9_keep_153 hF (fun j16 hF => ?_)
        exact wx_iret hC hH hr hlk dX9_keep_154 hF
      have hL62 : ∀ (k17_ : Nat) (i18 : Int32) (u19 : wSt) (H : Heap) (locs : List Loc) (ls : Array Slot), wL (S := Int32 × wSt) (fun x => F_X9_keep_b62 o1 x.1 x.2) k17_ (i18, u19) = some q8_ → wHp D κ ρ 1 A s.heap H locs u19 → lv_has ls 2 [(0, .ref (ρ o1)), (1, .int i18)] → W p l e (wRm 1 23) s m args below meth c H locs 0 0 (wQI below args s A D κ ρ 1 z) (F0 m 62 ls []) := by
        intro k17_
        induction k17_ with
        | zero => intro i18 u19 H locs ls hF; exact wL_zero hF
        | succ k17_ ih17 =>
          intro i18 u19 H locs ls hF hH hl
          obtain ⟨q17_, hF, hq17⟩ := wL_some hF
          have hF : F_X9_keep_b62 o1 i18 u19 = some q17_ := hF
          unfold F_X9_keep_b62 at hF
          refine lv_iload_n hx hb dX9_keep_62 rfl (lv_at hl 1 rfl) ?_
          refine lv_bipush hx hb dX9_keep_63 k_bipush_8 ?_
          refine lv_icmp_ge hx hb dX9_keep_65 (tgt := 127) rfl (fun h => ?_) (fun h => ?_)
          · have hF := wx_t h hF
            have hF := wJ_r hq17 hF
            have hF := wJ_l hq8 hF
            exact hJ127 u19 H locs ls hF hH (lv_sub hl [0] rfl)
          have hF := wx_f h hF
          refine lv_aload_n hx hb dX9_keep_68 rfl (lv_at hl 0 rfl) ?_
          refine wx_getR hC hH h_o1 rfl f_X9_133 dX9_keep_69 hF (fun o20 h_o20 hF => ?_)
          refine lv_bipush hx hb dX9_keep_72 k_bipush_12 ?_
          refine lv_iload_n hx hb dX9_keep_74 rfl (lv_at hl 1 rfl) ?_
          refine lv_iadd hx hb dX9_keep_75 ?_
          refine lv_aload_n hx hb dX9_keep_76 rfl (lv_at hl 0 rfl) ?_
          refine wx_getR hC hH h_o1 rfl f_X9_103 dX9_keep_77 hF (fun o21 h_o21 hF => ?_)
          refine lv_iload_n hx hb dX9_keep_80 rfl (lv_at hl 1 rfl) ?_
          refine wx_iald hC hH h_o21 ⟨rfl, rfl⟩ dX9_keep_81 hF (fun j22 hF => ?_)
          refine wx_iast hC hH h_o20 ⟨rfl, rfl⟩ dX9_keep_82 hF (fun u23 H locs hF hH => ?_)
          refine lv_aload_n hx hb dX9_keep_83 rfl (lv_at hl 0 rfl) ?_
          refine wx_getR hC hH h_o1 rfl f_X9_133 dX9_keep_84 hF (fun o24 h_o24 hF => ?_)
          refine lv_bipush hx hb dX9_keep_87 k_bipush_20 ?_
          refine lv_iload_n hx hb dX9_keep_89 rfl (lv_at hl 1 rfl) ?_
          refine lv_iadd hx hb dX9_keep_90 ?_
          refine lv_aload_n hx hb dX9_keep_91 rfl (lv_at hl 0 rfl) ?_
          refine wx_getR hC hH h_o1 rfl f_X9_106 dX9_keep_92 hF (fun o25 h_o25 hF => ?_)
          refine lv_iload_n hx hb dX9_keep_95 rfl (lv_at hl 1 rfl) ?_
          refine wx_zald hC hH h_o25 ⟨rfl, rfl⟩ dX9_keep_96 hF (fun j26 hF => ?_)
          obtain ⟨q27_, hF, hq27⟩ := wJ_some hF
          have hJ105 : ∀ (i28 : Int32) (u29 : wSt) (H : Heap) (locs : List Loc) (ls : Array Slot), F_X9_keep_j105 o24 i18 o1 i28 u29 = some q17_ → wHp D κ ρ 1 A s.heap H locs u29 → lv_has ls 2 [(0, .ref (ρ o1)), (1, .int i18)] → W p l e (wRm 1 23) s m args below meth c H locs 0 0 (wQI below args s A D κ ρ 1 z) (F0 m 105 ls [.int i28, .int ((20 : Int32) + i18), .ref (ρ o24)]) := by
            intro i28 u29 H locs ls hF hH hl
            unfold F_X9_keep_j105 at hF
            refine wx_iast hC hH h_o24 ⟨rfl, rfl⟩ dX9_keep_105 hF (fun u30 H locs hF hH => ?_)
            refine lv_aload_n hx hb dX9_keep_106 rfl (lv_at hl 0 rfl) ?_
            refine wx_getR hC hH h_o1 rfl f_X9_133 dX9_keep_107 hF (fun o31 h_o31 hF => ?_)
            refine lv_bipush hx hb dX9_keep_110 k_bipush_28 ?_
            refine lv_iload_n hx hb dX9_keep_112 rfl (lv_at hl 1 rfl) ?_
            refine lv_iadd hx hb dX9_keep_113 ?_
            refine lv_aload_n hx hb dX9_keep_114 rfl (lv_at hl 0 rfl) ?_
            refine wx_getR hC hH h_o1 rfl f_X9_109 dX9_keep_115 hF (fun o32 h_o32 hF => ?_)
            refine lv_iload_n hx hb dX9_keep_118 rfl (lv_at hl 1 rfl) ?_
            refine wx_iald hC hH h_o32 ⟨rfl, rfl⟩ dX9_keep_119 hF (fun j33 hF => ?_)
            refine wx_iast hC hH h_o31 ⟨rfl, rfl⟩ dX9_keep_120 hF (fun u34 H locs hF hH => ?_)
            refine wx_iinc hx hb dX9_keep_121 k_iconst_1 hl (k := 1) rfl (by decide) hF (fun i35 ls hF hl => ?_)
            have hl : lv_has ls 2 [(1, .int i35), (0, .ref (ρ o1))] := hl
            refine lv_goto hx hb dX9_keep_124 (tgt := 62) rfl ?_
            have hF := wJ_l hq17 hF
            exact ih17 i35 u34 H locs ls hF hH (lv_sub hl [1, 0] rfl)
          refine lv_if_eq hx hb dX9_keep_97 (tgt := 104) rfl (fun h => ?_) (fun h => ?_)
          · have hF := wx_t h hF
            refine lv_iconst hx hb dX9_keep_104 k_iconst_0 ?_
            have hF := wJ_l hq27 hF
            exact hJ105 (0 : Int32) u23 H locs ls hF hH (lv_sub hl [0, 1] rfl)
          have hF := wx_f h hF
          refine lv_iconst hx hb dX9_keep_100 k_iconst_1 ?_
          refine lv_goto hx hb dX9_keep_101 (tgt := 105) rfl ?_
          have hF := wJ_l hq27 hF
          exact hJ105 (1 : Int32) u23 H locs ls hF hH (lv_sub hl [0, 1] rfl)
      exact hL62 wFu (0 : Int32) u7 H locs ls hF hH (lv_sub hl [1, 0] rfl)
    have hL21 : ∀ (k36_ : Nat) (i37 : Int32) (u38 : wSt) (H : Heap) (locs : List Loc) (ls : Array Slot), wL (S := Int32 × wSt) (fun x => F_X9_keep_b21 o1 x.1 x.2) k36_ (i37, u38) = some q6_ → wHp D κ ρ 1 A s.heap H locs u38 → lv_has ls 2 [(0, .ref (ρ o1)), (1, .int i37)] → W p l e (wRm 1 23) s m args below meth c H locs 0 0 (wQI below args s A D κ ρ 1 z) (F0 m 21 ls []) := by
      intro k36_
      induction k36_ with
      | zero => intro i37 u38 H locs ls hF; exact wL_zero hF
      | succ k36_ ih36 =>
        intro i37 u38 H locs ls hF hH hl
        obtain ⟨q36_, hF, hq36⟩ := wL_some hF
        have hF : F_X9_keep_b21 o1 i37 u38 = some q36_ := hF
        unfold F_X9_keep_b21 at hF
        refine lv_iload_n hx hb dX9_keep_21 rfl (lv_at hl 1 rfl) ?_
        refine lv_bipush hx hb dX9_keep_22 k_bipush_6 ?_
        refine lv_icmp_ge hx hb dX9_keep_24 (tgt := 60) rfl (fun h => ?_) (fun h => ?_)
        · have hF := wx_t h hF
          have hF := wJ_r hq36 hF
          have hF := wJ_l hq6 hF
          exact hJ60 u38 H locs ls hF hH (lv_sub hl [0] rfl)
        have hF := wx_f h hF
        refine lv_aload_n hx hb dX9_keep_27 rfl (lv_at hl 0 rfl) ?_
        refine wx_getR hC hH h_o1 rfl f_X9_133 dX9_keep_28 hF (fun o39 h_o39 hF => ?_)
        refine lv_iload_n hx hb dX9_keep_31 rfl (lv_at hl 1 rfl) ?_
        refine lv_aload_n hx hb dX9_keep_32 rfl (lv_at hl 0 rfl) ?_
        refine wx_getR hC hH h_o1 rfl f_X9_88 dX9_keep_33 hF (fun o40 h_o40 hF => ?_)
        refine lv_iload_n hx hb dX9_keep_36 rfl (lv_at hl 1 rfl) ?_
        refine wx_iald hC hH h_o40 ⟨rfl, rfl⟩ dX9_keep_37 hF (fun j41 hF => ?_)
        refine wx_iast hC hH h_o39 ⟨rfl, rfl⟩ dX9_keep_38 hF (fun u42 H locs hF hH => ?_)
        refine lv_aload_n hx hb dX9_keep_39 rfl (lv_at hl 0 rfl) ?_
        refine wx_getR hC hH h_o1 rfl f_X9_133 dX9_keep_40 hF (fun o43 h_o43 hF => ?_)
        refine lv_bipush hx hb dX9_keep_43 k_bipush_6 ?_
        refine lv_iload_n hx hb dX9_keep_45 rfl (lv_at hl 1 rfl) ?_
        refine lv_iadd hx hb dX9_keep_46 ?_
        refine lv_aload_n hx hb dX9_keep_47 rfl (lv_at hl 0 rfl) ?_
        refine wx_getR hC hH h_o1 rfl f_X9_100 dX9_keep_48 hF (fun o44 h_o44 hF => ?_)
        refine lv_iload_n hx hb dX9_keep_51 rfl (lv_at hl 1 rfl) ?_
        refine wx_iald hC hH h_o44 ⟨rfl, rfl⟩ dX9_keep_52 hF (fun j45 hF => ?_)
        refine wx_iast hC hH h_o43 ⟨rfl, rfl⟩ dX9_keep_53 hF (fun u46 H locs hF hH => ?_)
        refine wx_iinc hx hb dX9_keep_54 k_iconst_1 hl (k := 1) rfl (by decide) hF (fun i47 ls hF hl => ?_)
        have hl : lv_has ls 2 [(1, .int i47), (0, .ref (ρ o1))] := hl
        refine lv_goto hx hb dX9_keep_57 (tgt := 21) rfl ?_
        have hF := wJ_l hq36 hF
        exact ih36 i47 u46 H locs ls hF hH (lv_sub hl [1, 0] rfl)
    exact hL21 wFu (0 : Int32) u5 H locs ls hF hH (lv_sub hl [1, 0] rfl)
  exact key _ _ hH
def F_X9_back_j132 (o1 : Nat) (u8 : wSt) : Option (Int32 × wSt) :=
  wR (u8.2.2 o1 57) 14 (fun o9 => wR (u8.2.2 o1 78) 14 (fun o10 => wN (36 : Int32) o10 (fun j11 => wSI u8 o9 (0 : Int32) (u8.1 o10 j11) (fun (u12 : wSt) => wB (w_sL u12 o1 58 (u12.2.1 o1 79)) (fun (u13 : wSt) => wB (w_sI u13 o1 74 (0 : Int32)) (fun (u14 : wSt) => wR (u14.2.2 o1 57) 14 (fun o15 => wN (0 : Int32) o15 (fun j16 => some ((u14.1 o15 j16), u14)))))))))
def F_X9_back_j110 (o24 : Nat) (i18 : Int32) (o1 : Nat) (i28 : Int32) (u29 : wSt) : Option ((Int32 × wSt) ⊕ ((wSt) ⊕ (Int32 × wSt))) :=
  wSZ u29 o24 i18 i28 (fun (u30 : wSt) => wR (u30.2.2 o1 56) 14 (fun o31 => wR (u30.2.2 o1 78) 14 (fun o32 => wN ((28 : Int32) + i18) o32 (fun j33 => wSI u30 o31 i18 (u30.1 o32 j33) (fun (u34 : wSt) => wB (i18 + (1 : Int32)) (fun (i35 : Int32) => some (.inl (i35, u34))))))))
def F_X9_back_b66 (o1 : Nat) (i18 : Int32) (u19 : wSt) : Option ((Int32 × wSt) ⊕ ((wSt) ⊕ (Int32 × wSt))) :=
  if (8 : Int32) ≤ i18 then (some (.inr (.inl u19))) else (wR (u19.2.2 o1 54) 14 (fun o20 => wR (u19.2.2 o1 78) 14 (fun o21 => wN ((12 : Int32) + i18) o21 (fun j22 => wSI u19 o20 i18 (u19.1 o21 j22) (fun (u23 : wSt) => wR (u23.2.2 o1 55) 15 (fun o24 => wR (u23.2.2 o1 78) 14 (fun o25 => wN ((20 : Int32) + i18) o25 (fun j26 => wJ (X := Int32 × wSt) (if (u23.1 o25 j26) = (1 : Int32) then (some (.inl ((1 : Int32), u23))) else (some (.inl ((0 : Int32), u23)))) (fun x => F_X9_back_j110 o24 i18 o1 x.1 x.2)))))))))
def F_X9_back_j64 (o1 : Nat) (u6 : wSt) : Option (Int32 × wSt) :=
  wJ (X := wSt) (wL (S := Int32 × wSt) (fun x => F_X9_back_b66 o1 x.1 x.2) wFu ((0 : Int32), u6)) (fun x => F_X9_back_j132 o1 x)
def F_X9_back_b25 (o1 : Nat) (i37 : Int32) (u38 : wSt) : Option ((Int32 × wSt) ⊕ ((wSt) ⊕ (Int32 × wSt))) :=
  if (6 : Int32) ≤ i37 then (some (.inr (.inl u38))) else (wR (u38.2.2 o1 49) 14 (fun o39 => wR (u38.2.2 o1 78) 14 (fun o40 => wN i37 o40 (fun j41 => wSI u38 o39 i37 (u38.1 o40 j41) (fun (u42 : wSt) => wR (u42.2.2 o1 53) 14 (fun o43 => wR (u42.2.2 o1 78) 14 (fun o44 => wN ((6 : Int32) + i37) o44 (fun j45 => wSI u42 o43 i37 (u42.1 o44 j45) (fun (u46 : wSt) => wB (i37 + (1 : Int32)) (fun (i47 : Int32) => some (.inl (i47, u46))))))))))))
def F_X9_back (o1 : Nat) (u0 : wSt) : Option (Int32 × wSt) :=
  wB (w_sI u0 o1 2 (0 : Int32)) (fun (u2 : wSt) => if (u2.1 o1 76) = 0 then (some ((-1 : Int32), u2)) else (wR (u2.2.2 o1 77) 14 (fun o3 => wC (F_X9_take o1 o3 (0 : Int32) u2) (fun _ (u4 : wSt) => wJ (X := wSt) (wL (S := Int32 × wSt) (fun x => F_X9_back_b25 o1 x.1 x.2) wFu ((0 : Int32), u4)) (fun x => F_X9_back_j64 o1 x)))))
set_option maxRecDepth 100000 in
set_option maxHeartbeats 4000000 in
theorem c_X9_back {l : Launch} {D : va_G} {κ : Nat → ClassId} {ρ : Nat → Nat} (o1 : Nat) (h_o1 : (w_sh o1).1 = 9) : wMI l yX9_back cX9_back 2 .int (wRm 1 23) [.ref (ρ o1)] D κ ρ 1 (fun u => F_X9_back o1 u) := by
  refine wMI_of (F := fun u => F_X9_back o1 u) rfl (Nat.le_of_ble_eq_true rfl) (fun u0 z p e s m args below meth c ls A hF hC hr hlk hH hl => ?_)
  have hl : lv_has ls 2 [(0, .ref (ρ o1))] := hl
  have hx := hC.1.1
  have hb := hC.1.2.1
  have hF : F_X9_back o1 u0 = some z := hF
  unfold F_X9_back at hF
  change W p l e (wRm 1 23) s m args below meth c s.heap [] 0 0 (wQI below args s A D κ ρ 1 z) (F0 m 0 ls [])
  have key : ∀ (H : Heap) (locs : List Loc), wHp D κ ρ 1 A s.heap H locs u0 → W p l e (wRm 1 23) s m args below meth c H locs 0 0 (wQI below args s A D κ ρ 1 z) (F0 m 0 ls []) := by
    intro H locs hH
    refine lv_aload_n hx hb dX9_back_0 rfl (lv_at hl 0 rfl) ?_
    refine lv_iconst hx hb dX9_back_1 k_iconst_0 ?_
    refine wx_putI hC hH h_o1 rfl f_X9_142 g_9_2 dX9_back_2 hF (fun u2 H locs hF hH => ?_)
    refine lv_aload_n hx hb dX9_back_5 rfl (lv_at hl 0 rfl) ?_
    refine wx_getI hC hH h_o1 rfl f_X9_350 dX9_back_6 ?_
    refine lv_if_ne hx hb dX9_back_9 (tgt := 14) rfl (fun h => ?_) (fun h => ?_)
    · have hF := wx_f h hF
      refine lv_aload_n hx hb dX9_back_14 rfl (lv_at hl 0 rfl) ?_
      refine lv_aload_n hx hb dX9_back_15 rfl (lv_at hl 0 rfl) ?_
      refine wx_getR hC hH h_o1 rfl f_X9_130 dX9_back_16 hF (fun o3 h_o3 hF => ?_)
      refine lv_iconst hx hb dX9_back_19 k_iconst_0 ?_
      refine wx_evv hC hH hl (c_X9_take o1 o3 (0 : Int32) h_o1 h_o3) y_X9_take v_X9_take h_o1 rfl m_X9_540 rfl ⟨Nat.le_of_ble_eq_true rfl, Nat.le_of_ble_eq_true rfl⟩ ⟨Nat.le_refl _, Nat.le_refl _⟩ rfl (Nat.le_of_ble_eq_true rfl) dX9_back_20 hF (fun _ u4 H locs hF hH => ?_)
      refine lv_iconst hx hb dX9_back_23 k_iconst_0 ?_
      refine wx_istore_n hx hb dX9_back_24 rfl hl (by decide) (fun ls hl => ?_)
      have hl : lv_has ls 2 [(1, .int (0 : Int32)), (0, .ref (ρ o1))] := hl
      obtain ⟨q5_, hF, hq5⟩ := wJ_some hF
      have hJ64 : ∀ (u6 : wSt) (H : Heap) (locs : List Loc) (ls : Array Slot), F_X9_back_j64 o1 u6 = some z → wHp D κ ρ 1 A s.heap H locs u6 → lv_has ls 2 [(0, .ref (ρ o1))] → W p l e (wRm 1 23) s m args below meth c H locs 0 0 (wQI below args s A D κ ρ 1 z) (F0 m 64 ls []) := by
        intro u6 H locs ls hF hH hl
        unfold F_X9_back_j64 at hF
        refine lv_iconst hx hb dX9_back_64 k_iconst_0 ?_
        refine wx_istore_n hx hb dX9_back_65 rfl hl (by decide) (fun ls hl => ?_)
        have hl : lv_has ls 2 [(1, .int (0 : Int32)), (0, .ref (ρ o1))] := hl
        obtain ⟨q7_, hF, hq7⟩ := wJ_some hF
        have hJ132 : ∀ (u8 : wSt) (H : Heap) (locs : List Loc) (ls : Array Slot), F_X9_back_j132 o1 u8 = some z → wHp D κ ρ 1 A s.heap H locs u8 → lv_has ls 2 [(0, .ref (ρ o1))] → W p l e (wRm 1 23) s m args below meth c H locs 0 0 (wQI below args s A D κ ρ 1 z) (F0 m 132 ls []) := by
          intro u8 H locs ls hF hH hl
          unfold F_X9_back_j132 at hF
          refine lv_aload_n hx hb dX9_back_132 rfl (lv_at hl 0 rfl) ?_
          refine wx_getR hC hH h_o1 rfl f_X9_112 dX9_back_133 hF (fun o9 h_o9 hF => ?_)
          refine lv_iconst hx hb dX9_back_136 k_iconst_0 ?_
          refine lv_aload_n hx hb dX9_back_137 rfl (lv_at hl 0 rfl) ?_
          refine wx_getR hC hH h_o1 rfl f_X9_133 dX9_back_138 hF (fun o10 h_o10 hF => ?_)
          refine lv_bipush hx hb dX9_back_141 k_bipush_36 ?_
          refine wx_iald hC hH h_o10 ⟨rfl, rfl⟩ dX9_back_143 hF (fun j11 hF => ?_)
          refine wx_iast hC hH h_o9 ⟨rfl, rfl⟩ dX9_back_144 hF (fun u12 H locs hF hH => ?_)
          refine lv_aload_n hx hb dX9_back_145 rfl (lv_at hl 0 rfl) ?_
          refine lv_aload_n hx hb dX9_back_146 rfl (lv_at hl 0 rfl) ?_
          refine wx_getL hC hH h_o1 rfl f_X9_543 dX9_back_147 ?_
          refine wx_putL hC hH h_o1 rfl f_X9_337 g_9_58 dX9_back_150 hF (fun u13 H locs hF hH => ?_)
          refine lv_aload_n hx hb dX9_back_153 rfl (lv_at hl 0 rfl) ?_
          refine lv_iconst hx hb dX9_back_154 k_iconst_0 ?_
          refine wx_putI hC hH h_o1 rfl f_X9_347 g_9_74 dX9_back_155 hF (fun u14 H locs hF hH => ?_)
          refine lv_aload_n hx hb dX9_back_158 rfl (lv_at hl 0 rfl) ?_
          refine wx_getR hC hH h_o1 rfl f_X9_112 dX9_back_159 hF (fun o15 h_o15 hF => ?_)
          refine lv_iconst hx hb dX9_back_162 k_iconst_0 ?_
          refine wx_iald hC hH h_o15 ⟨rfl, rfl⟩ dX9_back_163 hF (fun j16 hF => ?_)
          exact wx_iret hC hH hr hlk dX9_back_164 hF
        have hL66 : ∀ (k17_ : Nat) (i18 : Int32) (u19 : wSt) (H : Heap) (locs : List Loc) (ls : Array Slot), wL (S := Int32 × wSt) (fun x => F_X9_back_b66 o1 x.1 x.2) k17_ (i18, u19) = some q7_ → wHp D κ ρ 1 A s.heap H locs u19 → lv_has ls 2 [(0, .ref (ρ o1)), (1, .int i18)] → W p l e (wRm 1 23) s m args below meth c H locs 0 0 (wQI below args s A D κ ρ 1 z) (F0 m 66 ls []) := by
          intro k17_
          induction k17_ with
          | zero => intro i18 u19 H locs ls hF; exact wL_zero hF
          | succ k17_ ih17 =>
            intro i18 u19 H locs ls hF hH hl
            obtain ⟨q17_, hF, hq17⟩ := wL_some hF
            have hF : F_X9_back_b66 o1 i18 u19 = some q17_ := hF
            unfold F_X9_back_b66 at hF
            refine lv_iload_n hx hb dX9_back_66 rfl (lv_at hl 1 rfl) ?_
            refine lv_bipush hx hb dX9_back_67 k_bipush_8 ?_
            refine lv_icmp_ge hx hb dX9_back_69 (tgt := 132) rfl (fun h => ?_) (fun h => ?_)
            · have hF := wx_t h hF
              have hF := wJ_r hq17 hF
              have hF := wJ_l hq7 hF
              exact hJ132 u19 H locs ls hF hH (lv_sub hl [0] rfl)
            have hF := wx_f h hF
            refine lv_aload_n hx hb dX9_back_72 rfl (lv_at hl 0 rfl) ?_
            refine wx_getR hC hH h_o1 rfl f_X9_103 dX9_back_73 hF (fun o20 h_o20 hF => ?_)
            refine lv_iload_n hx hb dX9_back_76 rfl (lv_at hl 1 rfl) ?_
            refine lv_aload_n hx hb dX9_back_77 rfl (lv_at hl 0 rfl) ?_
            refine wx_getR hC hH h_o1 rfl f_X9_133 dX9_back_78 hF (fun o21 h_o21 hF => ?_)
            refine lv_bipush hx hb dX9_back_81 k_bipush_12 ?_
            refine lv_iload_n hx hb dX9_back_83 rfl (lv_at hl 1 rfl) ?_
            refine lv_iadd hx hb dX9_back_84 ?_
            refine wx_iald hC hH h_o21 ⟨rfl, rfl⟩ dX9_back_85 hF (fun j22 hF => ?_)
            refine wx_iast hC hH h_o20 ⟨rfl, rfl⟩ dX9_back_86 hF (fun u23 H locs hF hH => ?_)
            refine lv_aload_n hx hb dX9_back_87 rfl (lv_at hl 0 rfl) ?_
            refine wx_getR hC hH h_o1 rfl f_X9_106 dX9_back_88 hF (fun o24 h_o24 hF => ?_)
            refine lv_iload_n hx hb dX9_back_91 rfl (lv_at hl 1 rfl) ?_
            refine lv_aload_n hx hb dX9_back_92 rfl (lv_at hl 0 rfl) ?_
            refine wx_getR hC hH h_o1 rfl f_X9_133 dX9_back_93 hF (fun o25 h_o25 hF => ?_)
            refine lv_bipush hx hb dX9_back_96 k_bipush_20 ?_
            refine lv_iload_n hx hb dX9_back_98 rfl (lv_at hl 1 rfl) ?_
            refine lv_iadd hx hb dX9_back_99 ?_
            refine wx_iald hC hH h_o25 ⟨rfl, rfl⟩ dX9_back_100 hF (fun j26 hF => ?_)
            refine lv_iconst hx hb dX9_back_101 k_iconst_1 ?_
            obtain ⟨q27_, hF, hq27⟩ := wJ_some hF
            have hJ110 : ∀ (i28 : Int32) (u29 : wSt) (H : Heap) (locs : List Loc) (ls : Array Slot), F_X9_back_j110 o24 i18 o1 i28 u29 = some q17_ → wHp D κ ρ 1 A s.heap H locs u29 → lv_has ls 2 [(0, .ref (ρ o1)), (1, .int i18)] → W p l e (wRm 1 23) s m args below meth c H locs 0 0 (wQI below args s A D κ ρ 1 z) (F0 m 110 ls [.int i28, .int i18, .ref (ρ o24)]) := by
              intro i28 u29 H locs ls hF hH hl
              unfold F_X9_back_j110 at hF
              refine wx_zast hC hH h_o24 ⟨rfl, rfl⟩ dX9_back_110 hF (fun u30 H locs hF hH => ?_)
              refine lv_aload_n hx hb dX9_back_111 rfl (lv_at hl 0 rfl) ?_
              refine wx_getR hC hH h_o1 rfl f_X9_109 dX9_back_112 hF (fun o31 h_o31 hF => ?_)
              refine lv_iload_n hx hb dX9_back_115 rfl (lv_at hl 1 rfl) ?_
              refine lv_aload_n hx hb dX9_back_116 rfl (lv_at hl 0 rfl) ?_
              refine wx_getR hC hH h_o1 rfl f_X9_133 dX9_back_117 hF (fun o32 h_o32 hF => ?_)
              refine lv_bipush hx hb dX9_back_120 k_bipush_28 ?_
              refine lv_iload_n hx hb dX9_back_122 rfl (lv_at hl 1 rfl) ?_
              refine lv_iadd hx hb dX9_back_123 ?_
              refine wx_iald hC hH h_o32 ⟨rfl, rfl⟩ dX9_back_124 hF (fun j33 hF => ?_)
              refine wx_iast hC hH h_o31 ⟨rfl, rfl⟩ dX9_back_125 hF (fun u34 H locs hF hH => ?_)
              refine wx_iinc hx hb dX9_back_126 k_iconst_1 hl (k := 1) rfl (by decide) hF (fun i35 ls hF hl => ?_)
              have hl : lv_has ls 2 [(1, .int i35), (0, .ref (ρ o1))] := hl
              refine lv_goto hx hb dX9_back_129 (tgt := 66) rfl ?_
              have hF := wJ_l hq17 hF
              exact ih17 i35 u34 H locs ls hF hH (lv_sub hl [1, 0] rfl)
            refine lv_icmp_ne hx hb dX9_back_102 (tgt := 109) rfl (fun h => ?_) (fun h => ?_)
            · have hF := wx_f h hF
              refine lv_iconst hx hb dX9_back_109 k_iconst_0 ?_
              have hF := wJ_l hq27 hF
              exact hJ110 (0 : Int32) u23 H locs ls hF hH (lv_sub hl [0, 1] rfl)
            have hF := wx_t h hF
            refine lv_iconst hx hb dX9_back_105 k_iconst_1 ?_
            refine lv_goto hx hb dX9_back_106 (tgt := 110) rfl ?_
            have hF := wJ_l hq27 hF
            exact hJ110 (1 : Int32) u23 H locs ls hF hH (lv_sub hl [0, 1] rfl)
        exact hL66 wFu (0 : Int32) u6 H locs ls hF hH (lv_sub hl [1, 0] rfl)
      have hL25 : ∀ (k36_ : Nat) (i37 : Int32) (u38 : wSt) (H : Heap) (locs : List Loc) (ls : Array Slot), wL (S := Int32 × wSt) (fun x => F_X9_back_b25 o1 x.1 x.2) k36_ (i37, u38) = some q5_ → wHp D κ ρ 1 A s.heap H locs u38 → lv_has ls 2 [(0, .ref (ρ o1)), (1, .int i37)] → W p l e (wRm 1 23) s m args below meth c H locs 0 0 (wQI below args s A D κ ρ 1 z) (F0 m 25 ls []) := by
        intro k36_
        induction k36_ with
        | zero => intro i37 u38 H locs ls hF; exact wL_zero hF
        | succ k36_ ih36 =>
          intro i37 u38 H locs ls hF hH hl
          obtain ⟨q36_, hF, hq36⟩ := wL_some hF
          have hF : F_X9_back_b25 o1 i37 u38 = some q36_ := hF
          unfold F_X9_back_b25 at hF
          refine lv_iload_n hx hb dX9_back_25 rfl (lv_at hl 1 rfl) ?_
          refine lv_bipush hx hb dX9_back_26 k_bipush_6 ?_
          refine lv_icmp_ge hx hb dX9_back_28 (tgt := 64) rfl (fun h => ?_) (fun h => ?_)
          · have hF := wx_t h hF
            have hF := wJ_r hq36 hF
            have hF := wJ_l hq5 hF
            exact hJ64 u38 H locs ls hF hH (lv_sub hl [0] rfl)
          have hF := wx_f h hF
          refine lv_aload_n hx hb dX9_back_31 rfl (lv_at hl 0 rfl) ?_
          refine wx_getR hC hH h_o1 rfl f_X9_88 dX9_back_32 hF (fun o39 h_o39 hF => ?_)
          refine lv_iload_n hx hb dX9_back_35 rfl (lv_at hl 1 rfl) ?_
          refine lv_aload_n hx hb dX9_back_36 rfl (lv_at hl 0 rfl) ?_
          refine wx_getR hC hH h_o1 rfl f_X9_133 dX9_back_37 hF (fun o40 h_o40 hF => ?_)
          refine lv_iload_n hx hb dX9_back_40 rfl (lv_at hl 1 rfl) ?_
          refine wx_iald hC hH h_o40 ⟨rfl, rfl⟩ dX9_back_41 hF (fun j41 hF => ?_)
          refine wx_iast hC hH h_o39 ⟨rfl, rfl⟩ dX9_back_42 hF (fun u42 H locs hF hH => ?_)
          refine lv_aload_n hx hb dX9_back_43 rfl (lv_at hl 0 rfl) ?_
          refine wx_getR hC hH h_o1 rfl f_X9_100 dX9_back_44 hF (fun o43 h_o43 hF => ?_)
          refine lv_iload_n hx hb dX9_back_47 rfl (lv_at hl 1 rfl) ?_
          refine lv_aload_n hx hb dX9_back_48 rfl (lv_at hl 0 rfl) ?_
          refine wx_getR hC hH h_o1 rfl f_X9_133 dX9_back_49 hF (fun o44 h_o44 hF => ?_)
          refine lv_bipush hx hb dX9_back_52 k_bipush_6 ?_
          refine lv_iload_n hx hb dX9_back_54 rfl (lv_at hl 1 rfl) ?_
          refine lv_iadd hx hb dX9_back_55 ?_
          refine wx_iald hC hH h_o44 ⟨rfl, rfl⟩ dX9_back_56 hF (fun j45 hF => ?_)
          refine wx_iast hC hH h_o43 ⟨rfl, rfl⟩ dX9_back_57 hF (fun u46 H locs hF hH => ?_)
          refine wx_iinc hx hb dX9_back_58 k_iconst_1 hl (k := 1) rfl (by decide) hF (fun i47 ls hF hl => ?_)
          have hl : lv_has ls 2 [(1, .int i47), (0, .ref (ρ o1))] := hl
          refine lv_goto hx hb dX9_back_61 (tgt := 25) rfl ?_
          have hF := wJ_l hq36 hF
          exact ih36 i47 u46 H locs ls hF hH (lv_sub hl [1, 0] rfl)
      exact hL25 wFu (0 : Int32) u4 H locs ls hF hH (lv_sub hl [1, 0] rfl)
    have hF := wx_t h hF
    refine lv_iconst hx hb dX9_back_12 k_iconst_m1 ?_
    exact wx_iret hC hH hr hlk dX9_back_13 hF
  exact key _ _ hH
def F_X9_count_j145 (i9 : Int32) (i10 : Int32) (i14 : Int32) : Option ((Int32 × Int32) ⊕ (Int32 × wSt)) :=
  wB (i9 + i14) (fun (i15 : Int32) => wB (i10 + (1 : Int32)) (fun (i16 : Int32) => some (.inl (i15, i16))))
def F_X9_count_b122 (u3 : wSt) (o1 : Nat) (i9 : Int32) (i10 : Int32) : Option ((Int32 × Int32) ⊕ (Int32 × wSt)) :=
  if (u3.1 o1 13) ≤ i10 then (some (.inr (i9, u3))) else (wR (u3.2.2 o1 55) 15 (fun o11 => wN i10 o11 (fun j12 => wJ (X := Int32) (if (u3.1 o11 j12) = 0 then (some (.inl (0 : Int32))) else (some (.inl (1 : Int32)))) (fun x => F_X9_count_j145 i9 i10 x))))
def F_X9_count_j191 (i19 : Int32) (i20 : Int32) (i24 : Int32) : Option ((Int32 × Int32) ⊕ (Int32 × wSt)) :=
  wB (i19 + i24) (fun (i25 : Int32) => wB (i20 + (1 : Int32)) (fun (i26 : Int32) => some (.inl (i25, i26))))
def F_X9_count_b163 (u3 : wSt) (o1 : Nat) (i19 : Int32) (i20 : Int32) : Option ((Int32 × Int32) ⊕ (Int32 × wSt)) :=
  if (u3.1 o1 12) ≤ i20 then (some (.inr (i19, u3))) else (wR (u3.2.2 o1 52) 15 (fun o21 => wN i20 o21 (fun j22 => wJ (X := Int32) (if (u3.1 o21 j22) = 0 then (some (.inl (0 : Int32))) else (wR (u3.2.2 o1 50) 14 (fun o27 => wN i20 o27 (fun j28 => some (.inl (u3.1 o27 j28)))))) (fun x => F_X9_count_j191 i19 i20 x))))
def F_X9_count (o1 : Nat) (i2 : Int32) (u0 : wSt) : Option (Int32 × wSt) :=
  wB (w_sI u0 o1 2 (0 : Int32)) (fun (u3 : wSt) => if i2 = 0 then (some ((u3.1 o1 12), u3)) else (if i2 = 1 then (some ((u3.1 o1 13), u3)) else (if i2 = 2 then (some ((u3.1 o1 14), u3)) else (if i2 = 3 then (some ((u3.1 o1 15), u3)) else (if i2 = 4 then (wR (u3.2.2 o1 57) 14 (fun o4 => wN (0 : Int32) o4 (fun j5 => some ((u3.1 o4 j5), u3)))) else (if i2 = 5 then (wP (F_X9_fainted o1 (0 : Int32) u3) (fun (i6 : Int32) => some (((u3.1 o1 12) - i6), u3))) else (if i2 = 6 then (wP (F_X9_bitesAll o1 (0 : Int32) u3) (fun (i7 : Int32) => some (i7, u3))) else (if i2 = 7 then (wL (S := Int32 × Int32) (fun x => F_X9_count_b122 u3 o1 x.1 x.2) wFu ((0 : Int32), (0 : Int32))) else (if i2 = 8 then (wP (F_X9_fedAll o1 (0 : Int32) u3) (fun (i17 : Int32) => some (i17, u3))) else (if i2 = 9 then (wL (S := Int32 × Int32) (fun x => F_X9_count_b163 u3 o1 x.1 x.2) wFu ((0 : Int32), (0 : Int32))) else (if i2 = 10 then (some ((u3.1 o1 70), u3)) else (if i2 = 11 then (wP (F_X9_knownBy o1 u3) (fun (i29 : Int32) => some (i29, u3))) else (if i2 = 12 then (some ((u3.1 o1 74), u3)) else (some ((-1 : Int32), u3)))))))))))))))
set_option maxRecDepth 100000 in
set_option maxHeartbeats 4000000 in
theorem c_X9_count {l : Launch} {D : va_G} {κ : Nat → ClassId} {ρ : Nat → Nat} (o1 : Nat) (i2 : Int32) (h_o1 : (w_sh o1).1 = 9) : wMI l yX9_count cX9_count 4 .int (wRm 1 23) [.ref (ρ o1), .int i2] D κ ρ 1 (fun u => F_X9_count o1 i2 u) := by
  refine wMI_of (F := fun u => F_X9_count o1 i2 u) rfl (Nat.le_of_ble_eq_true rfl) (fun u0 z p e s m args below meth c ls A hF hC hr hlk hH hl => ?_)
  have hl : lv_has ls 4 [(0, .ref (ρ o1)), (1, .int i2)] := hl
  have hx := hC.1.1
  have hb := hC.1.2.1
  have hF : F_X9_count o1 i2 u0 = some z := hF
  unfold F_X9_count at hF
  change W p l e (wRm 1 23) s m args below meth c s.heap [] 0 0 (wQI below args s A D κ ρ 1 z) (F0 m 0 ls [])
  have key : ∀ (H : Heap) (locs : List Loc), wHp D κ ρ 1 A s.heap H locs u0 → W p l e (wRm 1 23) s m args below meth c H locs 0 0 (wQI below args s A D κ ρ 1 z) (F0 m 0 ls []) := by
    intro H locs hH
    refine lv_aload_n hx hb dX9_count_0 rfl (lv_at hl 0 rfl) ?_
    refine lv_iconst hx hb dX9_count_1 k_iconst_0 ?_
    refine wx_putI hC hH h_o1 rfl f_X9_142 g_9_2 dX9_count_2 hF (fun u3 H locs hF hH => ?_)
    refine lv_iconst hx hb dX9_count_5 k_iconst_0 ?_
    refine wx_istore_n hx hb dX9_count_6 rfl hl (by decide) (fun ls hl => ?_)
    have hl : lv_has ls 4 [(2, .int (0 : Int32)), (0, .ref (ρ o1)), (1, .int i2)] := hl
    refine lv_iload_n hx hb dX9_count_7 rfl (lv_at hl 2 rfl) ?_
    by_cases hs0 : i2 = 0
    · have hF := wx_t hs0 hF
      refine wx_sw hx hb dX9_count_8 (by decide) (tgt := 76) (by rw [hs0]; decide) ?_
      refine lv_aload_n hx hb dX9_count_76 rfl (lv_at hl 1 rfl) ?_
      refine wx_getI hC hH h_o1 rfl f_X9_219 dX9_count_77 ?_
      exact wx_iret hC hH hr hlk dX9_count_80 hF
    have hF := wx_f hs0 hF
    by_cases hs1 : i2 = 1
    · have hF := wx_t hs1 hF
      refine wx_sw hx hb dX9_count_8 (by decide) (tgt := 81) (by rw [hs1]; decide) ?_
      refine lv_aload_n hx hb dX9_count_81 rfl (lv_at hl 1 rfl) ?_
      refine wx_getI hC hH h_o1 rfl f_X9_222 dX9_count_82 ?_
      exact wx_iret hC hH hr hlk dX9_count_85 hF
    have hF := wx_f hs1 hF
    by_cases hs2 : i2 = 2
    · have hF := wx_t hs2 hF
      refine wx_sw hx hb dX9_count_8 (by decide) (tgt := 86) (by rw [hs2]; decide) ?_
      refine lv_aload_n hx hb dX9_count_86 rfl (lv_at hl 1 rfl) ?_
      refine wx_getI hC hH h_o1 rfl f_X9_225 dX9_count_87 ?_
      exact wx_iret hC hH hr hlk dX9_count_90 hF
    have hF := wx_f hs2 hF
    by_cases hs3 : i2 = 3
    · have hF := wx_t hs3 hF
      refine wx_sw hx hb dX9_count_8 (by decide) (tgt := 91) (by rw [hs3]; decide) ?_
      refine lv_aload_n hx hb dX9_count_91 rfl (lv_at hl 1 rfl) ?_
      refine wx_getI hC hH h_o1 rfl f_X9_228 dX9_count_92 ?_
      exact wx_iret hC hH hr hlk dX9_count_95 hF
    have hF := wx_f hs3 hF
    by_cases hs4 : i2 = 4
    · have hF := wx_t hs4 hF
      refine wx_sw hx hb dX9_count_8 (by decide) (tgt := 96) (by rw [hs4]; decide) ?_
      refine lv_aload_n hx hb dX9_count_96 rfl (lv_at hl 1 rfl) ?_
      refine wx_getR hC hH h_o1 rfl f_X9_112 dX9_count_97 hF (fun o4 h_o4 hF => ?_)
      refine lv_iconst hx hb dX9_count_100 k_iconst_0 ?_
      refine wx_iald hC hH h_o4 ⟨rfl, rfl⟩ dX9_count_101 hF (fun j5 hF => ?_)
      exact wx_iret hC hH hr hlk dX9_count_102 hF
    have hF := wx_f hs4 hF
    by_cases hs5 : i2 = 5
    · have hF := wx_t hs5 hF
      refine wx_sw hx hb dX9_count_8 (by decide) (tgt := 103) (by rw [hs5]; decide) ?_
      refine lv_aload_n hx hb dX9_count_103 rfl (lv_at hl 1 rfl) ?_
      refine wx_getI hC hH h_o1 rfl f_X9_219 dX9_count_104 ?_
      refine lv_aload_n hx hb dX9_count_107 rfl (lv_at hl 1 rfl) ?_
      refine lv_iconst hx hb dX9_count_108 k_iconst_0 ?_
      refine wx_pvi hC hH hl (c_X9_fainted o1 (0 : Int32) h_o1) y_X9_fainted v_X9_fainted h_o1 rfl m_X9_484 rfl ⟨Nat.le_of_ble_eq_true rfl, Nat.le_of_ble_eq_true rfl⟩ ⟨Nat.le_refl _, Nat.le_refl _⟩ rfl (Nat.le_of_ble_eq_true rfl) dX9_count_109 hF (fun i6 H locs hF hH => ?_)
      refine lv_isub hx hb dX9_count_112 ?_
      exact wx_iret hC hH hr hlk dX9_count_113 hF
    have hF := wx_f hs5 hF
    by_cases hs6 : i2 = 6
    · have hF := wx_t hs6 hF
      refine wx_sw hx hb dX9_count_8 (by decide) (tgt := 114) (by rw [hs6]; decide) ?_
      refine lv_aload_n hx hb dX9_count_114 rfl (lv_at hl 1 rfl) ?_
      refine lv_iconst hx hb dX9_count_115 k_iconst_0 ?_
      refine wx_pvi hC hH hl (c_X9_bitesAll o1 (0 : Int32) h_o1) y_X9_bitesAll v_X9_bitesAll h_o1 rfl m_X9_481 rfl ⟨Nat.le_of_ble_eq_true rfl, Nat.le_of_ble_eq_true rfl⟩ ⟨Nat.le_refl _, Nat.le_refl _⟩ rfl (Nat.le_of_ble_eq_true rfl) dX9_count_116 hF (fun i7 H locs hF hH => ?_)
      exact wx_iret hC hH hr hlk dX9_count_119 hF
    have hF := wx_f hs6 hF
    by_cases hs7 : i2 = 7
    · have hF := wx_t hs7 hF
      refine wx_sw hx hb dX9_count_8 (by decide) (tgt := 120) (by rw [hs7]; decide) ?_
      refine lv_iconst hx hb dX9_count_120 k_iconst_0 ?_
      refine wx_istore_n hx hb dX9_count_121 rfl hl (by decide) (fun ls hl => ?_)
      have hl : lv_has ls 4 [(3, .int (0 : Int32)), (2, .int (0 : Int32)), (0, .ref (ρ o1)), (1, .int i2)] := hl
      have hL122 : ∀ (k8_ : Nat) (i9 : Int32) (i10 : Int32) (H : Heap) (locs : List Loc) (ls : Array Slot), wL (S := Int32 × Int32) (fun x => F_X9_count_b122 u3 o1 x.1 x.2) k8_ (i9, i10) = some z → wHp D κ ρ 1 A s.heap H locs u3 → lv_has ls 4 [(0, .ref (ρ o1)), (2, .int i9), (3, .int i10)] → W p l e (wRm 1 23) s m args below meth c H locs 0 0 (wQI below args s A D κ ρ 1 z) (F0 m 122 ls []) := by
        intro k8_
        induction k8_ with
        | zero => intro i9 i10 H locs ls hF; exact wL_zero hF
        | succ k8_ ih8 =>
          intro i9 i10 H locs ls hF hH hl
          obtain ⟨q8_, hF, hq8⟩ := wL_some hF
          have hF : F_X9_count_b122 u3 o1 i9 i10 = some q8_ := hF
          unfold F_X9_count_b122 at hF
          refine lv_iload_n hx hb dX9_count_122 rfl (lv_at hl 2 rfl) ?_
          refine lv_aload_n hx hb dX9_count_123 rfl (lv_at hl 0 rfl) ?_
          refine wx_getI hC hH h_o1 rfl f_X9_222 dX9_count_124 ?_
          refine lv_icmp_ge hx hb dX9_count_127 (tgt := 153) rfl (fun h => ?_) (fun h => ?_)
          · have hF := wx_t h hF
            refine lv_iload_n hx hb dX9_count_153 rfl (lv_at hl 1 rfl) ?_
            have hF := wJ_r hq8 hF
            exact wx_iret hC hH hr hlk dX9_count_154 hF
          have hF := wx_f h hF
          refine lv_iload_n hx hb dX9_count_130 rfl (lv_at hl 1 rfl) ?_
          refine lv_aload_n hx hb dX9_count_131 rfl (lv_at hl 0 rfl) ?_
          refine wx_getR hC hH h_o1 rfl f_X9_106 dX9_count_132 hF (fun o11 h_o11 hF => ?_)
          refine lv_iload_n hx hb dX9_count_135 rfl (lv_at hl 2 rfl) ?_
          refine wx_zald hC hH h_o11 ⟨rfl, rfl⟩ dX9_count_136 hF (fun j12 hF => ?_)
          obtain ⟨q13_, hF, hq13⟩ := wJ_some hF
          have hJ145 : ∀ (i14 : Int32) (H : Heap) (locs : List Loc) (ls : Array Slot), F_X9_count_j145 i9 i10 i14 = some q8_ → wHp D κ ρ 1 A s.heap H locs u3 → lv_has ls 4 [(0, .ref (ρ o1)), (3, .int i10)] → W p l e (wRm 1 23) s m args below meth c H locs 0 0 (wQI below args s A D κ ρ 1 z) (F0 m 145 ls [.int i14, .int i9]) := by
            intro i14 H locs ls hF hH hl
            unfold F_X9_count_j145 at hF
            refine lv_iadd hx hb dX9_count_145 ?_
            refine wx_leti hF (fun i15 hF => ?_)
            refine wx_istore_n hx hb dX9_count_146 rfl hl (by decide) (fun ls hl => ?_)
            have hl : lv_has ls 4 [(2, .int i15), (0, .ref (ρ o1)), (3, .int i10)] := hl
            refine wx_iinc hx hb dX9_count_147 k_iconst_1 hl (k := 2) rfl (by decide) hF (fun i16 ls hF hl => ?_)
            have hl : lv_has ls 4 [(3, .int i16), (2, .int i15), (0, .ref (ρ o1))] := hl
            refine lv_goto hx hb dX9_count_150 (tgt := 122) rfl ?_
            have hF := wJ_l hq8 hF
            exact ih8 i15 i16 H locs ls hF hH (lv_sub hl [2, 1, 0] rfl)
          refine lv_if_eq hx hb dX9_count_137 (tgt := 144) rfl (fun h => ?_) (fun h => ?_)
          · have hF := wx_t h hF
            refine lv_iconst hx hb dX9_count_144 k_iconst_0 ?_
            have hF := wJ_l hq13 hF
            exact hJ145 (0 : Int32) H locs ls hF hH (lv_sub hl [0, 2] rfl)
          have hF := wx_f h hF
          refine lv_iconst hx hb dX9_count_140 k_iconst_1 ?_
          refine lv_goto hx hb dX9_count_141 (tgt := 145) rfl ?_
          have hF := wJ_l hq13 hF
          exact hJ145 (1 : Int32) H locs ls hF hH (lv_sub hl [0, 2] rfl)
      exact hL122 wFu (0 : Int32) (0 : Int32) H locs ls hF hH (lv_sub hl [2, 1, 0] rfl)
    have hF := wx_f hs7 hF
    by_cases hs8 : i2 = 8
    · have hF := wx_t hs8 hF
      refine wx_sw hx hb dX9_count_8 (by decide) (tgt := 155) (by rw [hs8]; decide) ?_
      refine lv_aload_n hx hb dX9_count_155 rfl (lv_at hl 1 rfl) ?_
      refine lv_iconst hx hb dX9_count_156 k_iconst_0 ?_
      refine wx_pvi hC hH hl (c_X9_fedAll o1 (0 : Int32) h_o1) y_X9_fedAll v_X9_fedAll h_o1 rfl m_X9_487 rfl ⟨Nat.le_of_ble_eq_true rfl, Nat.le_of_ble_eq_true rfl⟩ ⟨Nat.le_refl _, Nat.le_refl _⟩ rfl (Nat.le_of_ble_eq_true rfl) dX9_count_157 hF (fun i17 H locs hF hH => ?_)
      exact wx_iret hC hH hr hlk dX9_count_160 hF
    have hF := wx_f hs8 hF
    by_cases hs9 : i2 = 9
    · have hF := wx_t hs9 hF
      refine wx_sw hx hb dX9_count_8 (by decide) (tgt := 161) (by rw [hs9]; decide) ?_
      refine lv_iconst hx hb dX9_count_161 k_iconst_0 ?_
      refine wx_istore_n hx hb dX9_count_162 rfl hl (by decide) (fun ls hl => ?_)
      have hl : lv_has ls 4 [(3, .int (0 : Int32)), (2, .int (0 : Int32)), (0, .ref (ρ o1)), (1, .int i2)] := hl
      have hL163 : ∀ (k18_ : Nat) (i19 : Int32) (i20 : Int32) (H : Heap) (locs : List Loc) (ls : Array Slot), wL (S := Int32 × Int32) (fun x => F_X9_count_b163 u3 o1 x.1 x.2) k18_ (i19, i20) = some z → wHp D κ ρ 1 A s.heap H locs u3 → lv_has ls 4 [(0, .ref (ρ o1)), (2, .int i19), (3, .int i20)] → W p l e (wRm 1 23) s m args below meth c H locs 0 0 (wQI below args s A D κ ρ 1 z) (F0 m 163 ls []) := by
        intro k18_
        induction k18_ with
        | zero => intro i19 i20 H locs ls hF; exact wL_zero hF
        | succ k18_ ih18 =>
          intro i19 i20 H locs ls hF hH hl
          obtain ⟨q18_, hF, hq18⟩ := wL_some hF
          have hF : F_X9_count_b163 u3 o1 i19 i20 = some q18_ := hF
          unfold F_X9_count_b163 at hF
          refine lv_iload_n hx hb dX9_count_163 rfl (lv_at hl 2 rfl) ?_
          refine lv_aload_n hx hb dX9_count_164 rfl (lv_at hl 0 rfl) ?_
          refine wx_getI hC hH h_o1 rfl f_X9_219 dX9_count_165 ?_
          refine lv_icmp_ge hx hb dX9_count_168 (tgt := 199) rfl (fun h => ?_) (fun h => ?_)
          · have hF := wx_t h hF
            refine lv_iload_n hx hb dX9_count_199 rfl (lv_at hl 1 rfl) ?_
            have hF := wJ_r hq18 hF
            exact wx_iret hC hH hr hlk dX9_count_200 hF
          have hF := wx_f h hF
          refine lv_iload_n hx hb dX9_count_171 rfl (lv_at hl 1 rfl) ?_
          refine lv_aload_n hx hb dX9_count_172 rfl (lv_at hl 0 rfl) ?_
          refine wx_getR hC hH h_o1 rfl f_X9_97 dX9_count_173 hF (fun o21 h_o21 hF => ?_)
          refine lv_iload_n hx hb dX9_count_176 rfl (lv_at hl 2 rfl) ?_
          refine wx_zald hC hH h_o21 ⟨rfl, rfl⟩ dX9_count_177 hF (fun j22 hF => ?_)
          obtain ⟨q23_, hF, hq23⟩ := wJ_some hF
          have hJ191 : ∀ (i24 : Int32) (H : Heap) (locs : List Loc) (ls : Array Slot), F_X9_count_j191 i19 i20 i24 = some q18_ → wHp D κ ρ 1 A s.heap H locs u3 → lv_has ls 4 [(0, .ref (ρ o1)), (3, .int i20)] → W p l e (wRm 1 23) s m args below meth c H locs 0 0 (wQI below args s A D κ ρ 1 z) (F0 m 191 ls [.int i24, .int i19]) := by
            intro i24 H locs ls hF hH hl
            unfold F_X9_count_j191 at hF
            refine lv_iadd hx hb dX9_count_191 ?_
            refine wx_leti hF (fun i25 hF => ?_)
            refine wx_istore_n hx hb dX9_count_192 rfl hl (by decide) (fun ls hl => ?_)
            have hl : lv_has ls 4 [(2, .int i25), (0, .ref (ρ o1)), (3, .int i20)] := hl
            refine wx_iinc hx hb dX9_count_193 k_iconst_1 hl (k := 2) rfl (by decide) hF (fun i26 ls hF hl => ?_)
            have hl : lv_has ls 4 [(3, .int i26), (2, .int i25), (0, .ref (ρ o1))] := hl
            refine lv_goto hx hb dX9_count_196 (tgt := 163) rfl ?_
            have hF := wJ_l hq18 hF
            exact ih18 i25 i26 H locs ls hF hH (lv_sub hl [2, 1, 0] rfl)
          refine lv_if_eq hx hb dX9_count_178 (tgt := 190) rfl (fun h => ?_) (fun h => ?_)
          · have hF := wx_t h hF
            refine lv_iconst hx hb dX9_count_190 k_iconst_0 ?_
            have hF := wJ_l hq23 hF
            exact hJ191 (0 : Int32) H locs ls hF hH (lv_sub hl [0, 2] rfl)
          have hF := wx_f h hF
          refine lv_aload_n hx hb dX9_count_181 rfl (lv_at hl 0 rfl) ?_
          refine wx_getR hC hH h_o1 rfl f_X9_91 dX9_count_182 hF (fun o27 h_o27 hF => ?_)
          refine lv_iload_n hx hb dX9_count_185 rfl (lv_at hl 2 rfl) ?_
          refine wx_iald hC hH h_o27 ⟨rfl, rfl⟩ dX9_count_186 hF (fun j28 hF => ?_)
          refine lv_goto hx hb dX9_count_187 (tgt := 191) rfl ?_
          have hF := wJ_l hq23 hF
          exact hJ191 (u3.1 o27 j28) H locs ls hF hH (lv_sub hl [0, 2] rfl)
      exact hL163 wFu (0 : Int32) (0 : Int32) H locs ls hF hH (lv_sub hl [2, 1, 0] rfl)
    have hF := wx_f hs9 hF
    by_cases hs10 : i2 = 10
    · have hF := wx_t hs10 hF
      refine wx_sw hx hb dX9_count_8 (by decide) (tgt := 201) (by rw [hs10]; decide) ?_
      refine lv_aload_n hx hb dX9_count_201 rfl (lv_at hl 1 rfl) ?_
      refine wx_getI hC hH h_o1 rfl f_X9_344 dX9_count_202 ?_
      exact wx_iret hC hH hr hlk dX9_count_205 hF
    have hF := wx_f hs10 hF
    by_cases hs11 : i2 = 11
    · have hF := wx_t hs11 hF
      refine wx_sw hx hb dX9_count_8 (by decide) (tgt := 206) (by rw [hs11]; decide) ?_
      refine lv_aload_n hx hb dX9_count_206 rfl (lv_at hl 1 rfl) ?_
      refine wx_pvi hC hH hl (c_X9_knownBy o1 h_o1) y_X9_knownBy v_X9_knownBy h_o1 rfl m_X9_528 rfl ⟨Nat.le_of_ble_eq_true rfl, Nat.le_of_ble_eq_true rfl⟩ ⟨Nat.le_refl _, Nat.le_refl _⟩ rfl (Nat.le_of_ble_eq_true rfl) dX9_count_207 hF (fun i29 H locs hF hH => ?_)
      exact wx_iret hC hH hr hlk dX9_count_210 hF
    have hF := wx_f hs11 hF
    by_cases hs12 : i2 = 12
    · have hF := wx_t hs12 hF
      refine wx_sw hx hb dX9_count_8 (by decide) (tgt := 211) (by rw [hs12]; decide) ?_
      refine lv_aload_n hx hb dX9_count_211 rfl (lv_at hl 1 rfl) ?_
      refine wx_getI hC hH h_o1 rfl f_X9_347 dX9_count_212 ?_
      exact wx_iret hC hH hr hlk dX9_count_215 hF
    have hF := wx_f hs12 hF
    have htg : ((8 : Nat) : Int) + wTg (208) (0) (12) #[68, 73, 78, 83, 88, 95, 106, 112, 147, 153, 193, 198, 203] i2 = ((216 : Nat) : Int) := by
      have n0 : ¬ (i2).toInt = 0 := lv_neT (k := 0) (a := 0) (fun q => hs0 (q)) (by decide)
      have n1 : ¬ (i2).toInt = 1 := lv_neT (k := 1) (a := 1) (fun q => hs1 (q)) (by decide)
      have n2 : ¬ (i2).toInt = 2 := lv_neT (k := 2) (a := 2) (fun q => hs2 (q)) (by decide)
      have n3 : ¬ (i2).toInt = 3 := lv_neT (k := 3) (a := 3) (fun q => hs3 (q)) (by decide)
      have n4 : ¬ (i2).toInt = 4 := lv_neT (k := 4) (a := 4) (fun q => hs4 (q)) (by decide)
      have n5 : ¬ (i2).toInt = 5 := lv_neT (k := 5) (a := 5) (fun q => hs5 (q)) (by decide)
      have n6 : ¬ (i2).toInt = 6 := lv_neT (k := 6) (a := 6) (fun q => hs6 (q)) (by decide)
      have n7 : ¬ (i2).toInt = 7 := lv_neT (k := 7) (a := 7) (fun q => hs7 (q)) (by decide)
      have n8 : ¬ (i2).toInt = 8 := lv_neT (k := 8) (a := 8) (fun q => hs8 (q)) (by decide)
      have n9 : ¬ (i2).toInt = 9 := lv_neT (k := 9) (a := 9) (fun q => hs9 (q)) (by decide)
      have n10 : ¬ (i2).toInt = 10 := lv_neT (k := 10) (a := 10) (fun q => hs10 (q)) (by decide)
      have n11 : ¬ (i2).toInt = 11 := lv_neT (k := 11) (a := 11) (fun q => hs11 (q)) (by decide)
      have n12 : ¬ (i2).toInt = 12 := lv_neT (k := 12) (a := 12) (fun q => hs12 (q)) (by decide)
      rw [wTg_lo (by omega)]; rfl
    refine wx_sw hx hb dX9_count_8 (by decide) (tgt := 216) htg ?_
    refine lv_iconst hx hb dX9_count_216 k_iconst_m1 ?_
    exact wx_iret hC hH hr hlk dX9_count_217 hF
  exact key _ _ hH

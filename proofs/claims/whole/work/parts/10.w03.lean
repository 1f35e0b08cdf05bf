def F_X2_readTowardsValue_j56 (o1 : Nat) (i6 : Int32) (i9 : Int32) (i12 : Int32) (u13 : wSt) : Option (Int32 × wSt) :=
  wR (u13.2.2 o1 3) 6 (fun o14 => wR (u13.2.2 o14 16) 1 (fun o15 => wC (F_X1_add o15 (u13.1 o1 5) i6 i12 u13) (fun _ (u16 : wSt) => if i9 = 0 then (some ((0 : Int32), u16)) else (wC (F_X2_goOnIfGood o1 u16) (fun _ (u17 : wSt) => some ((0 : Int32), u17))))))
def F_X2_readTowardsValue_j36 (o1 : Nat) (u0 : wSt) (i6 : Int32) (i9 : Int32) : Option (Int32 × wSt) :=
  wC (F_X2_countKnot o1 u0) (fun _ (u10 : wSt) => wJ (X := Int32 × wSt) (if i9 = 0 then (wC (F_X2_takeNumber o1 (0 : Int32) (9999 : Int32) u10) (fun (i19 : Int32) (u18 : wSt) => some (.inl (i19, u18)))) else (some (.inl ((0 : Int32), u10)))) (fun x => F_X2_readTowardsValue_j56 o1 i6 i9 x.1 x.2))
def F_X2_readTowardsValue_j131 (o1 : Nat) (u21 : wSt) : Option ((Int32) ⊕ (Int32 × wSt)) :=
  wC (F_X2_goOnIfGood o1 u21) (fun _ (u22 : wSt) => some (.inr ((1 : Int32), u22)))
def F_X2_readTowardsValue_j126 (o1 : Nat) (u0 : wSt) : Option ((wSt) ⊕ ((Int32) ⊕ (Int32 × wSt))) :=
  wC (F_X2_blame o1 (1 : Int32) u0) (fun _ (u24 : wSt) => some (.inl u24))
def F_X2_readTowardsValue_j25 (o1 : Nat) (u0 : wSt) (i6 : Int32) (i7 : Int32) : Option (Int32 × wSt) :=
  wJ (X := Int32) (if i6 = (33 : Int32) then (some (.inl i7)) else (if i7 = 0 then (wJ (X := wSt) (if i6 = (30 : Int32) then (wC (F_X2_openOne o1 u0) (fun _ (u29 : wSt) => some (.inl u29))) else (wJ (X := Unit) (if i6 = (12 : Int32) then (wP (F_X2_lastWaiting o1 u0) (fun (i25 : Int32) => wP (F_X2_bindingOf i25 u0) (fun (i26 : Int32) => if (4 : Int32) ≤ i26 then (some (.inl ())) else (wC (F_X2_countKnot o1 u0) (fun _ (u27 : wSt) => wC (F_X2_await o1 (12 : Int32) u27) (fun _ (u28 : wSt) => some (.inr (.inl u28)))))))) else (some (.inl ()))) (fun x => F_X2_readTowardsValue_j126 o1 u0))) (fun x => F_X2_readTowardsValue_j131 o1 x)) else (some (.inl i7)))) (fun x => F_X2_readTowardsValue_j36 o1 u0 i6 x)
def F_X2_readTowardsValue_j24 (i30 : Int32) : Option ((Int32 × Int32) ⊕ (Int32 × wSt)) :=
  some (.inl (i30, (0 : Int32)))
def F_X2_readTowardsValue (o1 : Nat) (u0 : wSt) : Option (Int32 × wSt) :=
  wR (u0.2.2 o1 2) 5 (fun o2 => wB (u0.1 o2 0) (fun (i3 : Int32) => wJ (X := Int32 × Int32) (wJ (X := Int32) (if i3 < (13 : Int32) then (some (.inl i3)) else (if (19 : Int32) < i3 then (some (.inl i3)) else (some (.inr (.inl (i3, (1 : Int32))))))) (fun x => F_X2_readTowardsValue_j24 x)) (fun x => F_X2_readTowardsValue_j25 o1 u0 x.1 x.2)))
set_option maxRecDepth 100000 in
set_option maxHeartbeats 4000000 in
theorem c_X2_readTowardsValue {l : Launch} {D : va_G} {κ : Nat → ClassId} {ρ : Nat → Nat} (o1 : Nat) (h_o1 : (w_sh o1).1 = 2) : wMI l yX2_readTowardsValue cX2_readTowardsValue 4 .boolean (wRm 3 63) [.ref (ρ o1)] D κ ρ 0 (fun u => F_X2_readTowardsValue o1 u) := by
  refine wMI_of (F := fun u => F_X2_readTowardsValue o1 u) rfl (Nat.le_of_ble_eq_true rfl) (fun u0 z p e s m args below meth c ls A hF hC hr hlk hH hl => ?_)
  have hl : lv_has ls 4 [(0, .ref (ρ o1))] := hl
  have hx := hC.1.1
  have hb := hC.1.2.1
  have hF : F_X2_readTowardsValue o1 u0 = some z := hF
  unfold F_X2_readTowardsValue at hF
  change W p l e (wRm 3 63) s m args below meth c s.heap [] 0 0 (wQI below args s A D κ ρ 0 z) (F0 m 0 ls [])
  have key : ∀ (H : Heap) (locs : List Loc), wHp D κ ρ 0 A s.heap H locs u0 → W p l e (wRm 3 63) s m args below meth c H locs 0 0 (wQI below args s A D κ ρ 0 z) (F0 m 0 ls []) := by
    intro H locs hH
    refine lv_aload_n hx hb dX2_readTowardsValue_0 rfl (lv_at hl 0 rfl) ?_
    refine wx_getR hC hH h_o1 rfl f_X2_42 dX2_readTowardsValue_1 hF (fun o2 h_o2 hF => ?_)
    refine wx_getI hC hH h_o2 rfl f_X2_59 dX2_readTowardsValue_4 ?_
    refine wx_leti hF (fun i3 hF => ?_)
    refine wx_istore_n hx hb dX2_readTowardsValue_7 rfl hl (by decide) (fun ls hl => ?_)
    have hl : lv_has ls 4 [(1, .int i3), (0, .ref (ρ o1))] := hl
    refine lv_iload_n hx hb dX2_readTowardsValue_8 rfl (lv_at hl 0 rfl) ?_
    refine lv_bipush hx hb dX2_readTowardsValue_9 k_bipush_13 ?_
    obtain ⟨q4_, hF, hq4⟩ := wJ_some hF
    obtain ⟨q5_, hF, hq5⟩ := wJ_some hF
    have hJ25 : ∀ (i6 : Int32) (i7 : Int32) (H : Heap) (locs : List Loc) (ls : Array Slot), F_X2_readTowardsValue_j25 o1 u0 i6 i7 = some z → wHp D κ ρ 0 A s.heap H locs u0 → lv_has ls 4 [(0, .ref (ρ o1)), (1, .int i6)] → W p l e (wRm 3 63) s m args below meth c H locs 0 0 (wQI below args s A D κ ρ 0 z) (F0 m 25 ls [.int i7]) := by
      intro i6 i7 H locs ls hF hH hl
      unfold F_X2_readTowardsValue_j25 at hF
      refine wx_istore_n hx hb dX2_readTowardsValue_25 rfl hl (by decide) (fun ls hl => ?_)
      have hl : lv_has ls 4 [(2, .int i7), (0, .ref (ρ o1)), (1, .int i6)] := hl
      refine lv_iload_n hx hb dX2_readTowardsValue_26 rfl (lv_at hl 2 rfl) ?_
      refine lv_bipush hx hb dX2_readTowardsValue_27 k_bipush_33 ?_
      obtain ⟨q8_, hF, hq8⟩ := wJ_some hF
      have hJ36 : ∀ (i9 : Int32) (H : Heap) (locs : List Loc) (ls : Array Slot), F_X2_readTowardsValue_j36 o1 u0 i6 i9 = some z → wHp D κ ρ 0 A s.heap H locs u0 → lv_has ls 4 [(0, .ref (ρ o1)), (1, .int i6), (2, .int i9)] → W p l e (wRm 3 63) s m args below meth c H locs 0 0 (wQI below args s A D κ ρ 0 z) (F0 m 36 ls []) := by
        intro i9 H locs ls hF hH hl
        unfold F_X2_readTowardsValue_j36 at hF
        refine lv_aload_n hx hb dX2_readTowardsValue_36 rfl (lv_at hl 0 rfl) ?_
        refine wx_evv hC hH hl (c_X2_countKnot o1 h_o1) y_X2_countKnot v_X2_countKnot h_o1 rfl m_X2_182 rfl ⟨Nat.le_of_ble_eq_true rfl, Nat.le_of_ble_eq_true rfl⟩ ⟨Nat.le_refl _, Nat.le_refl _⟩ rfl (Nat.le_of_ble_eq_true rfl) dX2_readTowardsValue_37 hF (fun _ u10 H locs hF hH => ?_)
        refine lv_iload_n hx hb dX2_readTowardsValue_40 rfl (lv_at hl 2 rfl) ?_
        obtain ⟨q11_, hF, hq11⟩ := wJ_some hF
        have hJ56 : ∀ (i12 : Int32) (u13 : wSt) (H : Heap) (locs : List Loc) (ls : Array Slot), F_X2_readTowardsValue_j56 o1 i6 i9 i12 u13 = some z → wHp D κ ρ 0 A s.heap H locs u13 → lv_has ls 4 [(0, .ref (ρ o1)), (1, .int i6), (2, .int i9)] → W p l e (wRm 3 63) s m args below meth c H locs 0 0 (wQI below args s A D κ ρ 0 z) (F0 m 56 ls [.int i12]) := by
          intro i12 u13 H locs ls hF hH hl
          unfold F_X2_readTowardsValue_j56 at hF
          refine wx_istore_n hx hb dX2_readTowardsValue_56 rfl hl (by decide) (fun ls hl => ?_)
          have hl : lv_has ls 4 [(3, .int i12), (0, .ref (ρ o1)), (1, .int i6), (2, .int i9)] := hl
          refine lv_aload_n hx hb dX2_readTowardsValue_57 rfl (lv_at hl 1 rfl) ?_
          refine wx_getR hC hH h_o1 rfl f_X2_46 dX2_readTowardsValue_58 hF (fun o14 h_o14 hF => ?_)
          refine wx_getR hC hH h_o14 rfl f_X2_157 dX2_readTowardsValue_61 hF (fun o15 h_o15 hF => ?_)
          refine lv_aload_n hx hb dX2_readTowardsValue_64 rfl (lv_at hl 1 rfl) ?_
          refine wx_getI hC hH h_o1 rfl f_X2_21 dX2_readTowardsValue_65 ?_
          refine lv_iload_n hx hb dX2_readTowardsValue_68 rfl (lv_at hl 2 rfl) ?_
          refine lv_iload_n hx hb dX2_readTowardsValue_69 rfl (lv_at hl 0 rfl) ?_
          refine wx_evv hC hH hl (c_X1_add o15 (u13.1 o1 5) i6 i12 h_o15) y_X1_add v_X1_add h_o15 rfl m_X2_185 rfl ⟨Nat.le_of_ble_eq_true rfl, Nat.le_of_ble_eq_true rfl⟩ ⟨Nat.le_refl _, Nat.le_refl _⟩ rfl (Nat.le_of_ble_eq_true rfl) dX2_readTowardsValue_70 hF (fun _ u16 H locs hF hH => ?_)
          refine lv_iload_n hx hb dX2_readTowardsValue_73 rfl (lv_at hl 3 rfl) ?_
          refine lv_if_eq hx hb dX2_readTowardsValue_74 (tgt := 81) rfl (fun h => ?_) (fun h => ?_)
          · have hF := wx_t h hF
            refine lv_iconst hx hb dX2_readTowardsValue_81 k_iconst_0 ?_
            exact wx_zret hC hH hr hlk dX2_readTowardsValue_82 (Or.inl rfl) hF
          have hF := wx_f h hF
          refine lv_aload_n hx hb dX2_readTowardsValue_77 rfl (lv_at hl 1 rfl) ?_
          refine wx_evv hC hH hl (c_X2_goOnIfGood o1 h_o1) y_X2_goOnIfGood v_X2_goOnIfGood h_o1 rfl m_X2_179 rfl ⟨Nat.le_of_ble_eq_true rfl, Nat.le_of_ble_eq_true rfl⟩ ⟨Nat.le_refl _, Nat.le_refl _⟩ rfl (Nat.le_of_ble_eq_true rfl) dX2_readTowardsValue_78 hF (fun _ u17 H locs hF hH => ?_)
          refine lv_iconst hx hb dX2_readTowardsValue_81 k_iconst_0 ?_
          exact wx_zret hC hH hr hlk dX2_readTowardsValue_82 (Or.inl rfl) hF
        refine lv_if_eq hx hb dX2_readTowardsValue_41 (tgt := 48) rfl (fun h => ?_) (fun h => ?_)
        · have hF := wx_t h hF
          refine lv_aload_n hx hb dX2_readTowardsValue_48 rfl (lv_at hl 0 rfl) ?_
          refine lv_iconst hx hb dX2_readTowardsValue_49 k_iconst_0 ?_
          refine lv_sipush hx hb dX2_readTowardsValue_50 k_sipush_9999 ?_
          refine wx_evi hC hH hl (c_X2_takeNumber o1 (0 : Int32) (9999 : Int32) h_o1) y_X2_takeNumber v_X2_takeNumber h_o1 rfl m_X2_109 rfl ⟨Nat.le_of_ble_eq_true rfl, Nat.le_of_ble_eq_true rfl⟩ ⟨Nat.le_refl _, Nat.le_refl _⟩ rfl (Nat.le_of_ble_eq_true rfl) dX2_readTowardsValue_53 hF (fun i19 u18 H locs hF hH => ?_)
          have hF := wJ_l hq11 hF
          exact hJ56 i19 u18 H locs ls hF hH (lv_sub hl [0, 1, 2] rfl)
        have hF := wx_f h hF
        refine lv_iconst hx hb dX2_readTowardsValue_44 k_iconst_0 ?_
        refine lv_goto hx hb dX2_readTowardsValue_45 (tgt := 56) rfl ?_
        have hF := wJ_l hq11 hF
        exact hJ56 (0 : Int32) u10 H locs ls hF hH (lv_sub hl [0, 1, 2] rfl)
      refine lv_icmp_eq hx hb dX2_readTowardsValue_29 (tgt := 36) rfl (fun h => ?_) (fun h => ?_)
      · have hF := wx_t h hF
        have hF := wJ_l hq8 hF
        exact hJ36 i7 H locs ls hF hH (lv_sub hl [1, 2, 0] rfl)
      have hF := wx_f h hF
      refine lv_iload_n hx hb dX2_readTowardsValue_32 rfl (lv_at hl 0 rfl) ?_
      refine lv_if_eq hx hb dX2_readTowardsValue_33 (tgt := 83) rfl (fun h => ?_) (fun h => ?_)
      · have hF := wx_t h hF
        refine lv_iload_n hx hb dX2_readTowardsValue_83 rfl (lv_at hl 2 rfl) ?_
        refine lv_bipush hx hb dX2_readTowardsValue_84 k_bipush_30 ?_
        obtain ⟨q20_, hF, hq20⟩ := wJ_some hF
        have hJ131 : ∀ (u21 : wSt) (H : Heap) (locs : List Loc) (ls : Array Slot), F_X2_readTowardsValue_j131 o1 u21 = some q8_ → wHp D κ ρ 0 A s.heap H locs u21 → lv_has ls 4 [(0, .ref (ρ o1))] → W p l e (wRm 3 63) s m args below meth c H locs 0 0 (wQI below args s A D κ ρ 0 z) (F0 m 131 ls []) := by
          intro u21 H locs ls hF hH hl
          unfold F_X2_readTowardsValue_j131 at hF
          refine lv_aload_n hx hb dX2_readTowardsValue_131 rfl (lv_at hl 0 rfl) ?_
          refine wx_evv hC hH hl (c_X2_goOnIfGood o1 h_o1) y_X2_goOnIfGood v_X2_goOnIfGood h_o1 rfl m_X2_179 rfl ⟨Nat.le_of_ble_eq_true rfl, Nat.le_of_ble_eq_true rfl⟩ ⟨Nat.le_refl _, Nat.le_refl _⟩ rfl (Nat.le_of_ble_eq_true rfl) dX2_readTowardsValue_132 hF (fun _ u22 H locs hF hH => ?_)
          refine lv_iconst hx hb dX2_readTowardsValue_135 k_iconst_1 ?_
          have hF := wJ_r hq8 hF
          exact wx_zret hC hH hr hlk dX2_readTowardsValue_136 (Or.inr rfl) hF
        refine lv_icmp_ne hx hb dX2_readTowardsValue_86 (tgt := 96) rfl (fun h => ?_) (fun h => ?_)
        · have hF := wx_f h hF
          refine lv_iload_n hx hb dX2_readTowardsValue_96 rfl (lv_at hl 2 rfl) ?_
          refine lv_bipush hx hb dX2_readTowardsValue_97 k_bipush_12 ?_
          obtain ⟨q23_, hF, hq23⟩ := wJ_some hF
          have hJ126 : ∀ (H : Heap) (locs : List Loc) (ls : Array Slot), F_X2_readTowardsValue_j126 o1 u0 = some q20_ → wHp D κ ρ 0 A s.heap H locs u0 → lv_has ls 4 [(0, .ref (ρ o1))] → W p l e (wRm 3 63) s m args below meth c H locs 0 0 (wQI below args s A D κ ρ 0 z) (F0 m 126 ls []) := by
            intro H locs ls hF hH hl
            unfold F_X2_readTowardsValue_j126 at hF
            refine lv_aload_n hx hb dX2_readTowardsValue_126 rfl (lv_at hl 0 rfl) ?_
            refine lv_iconst hx hb dX2_readTowardsValue_127 k_iconst_1 ?_
            refine wx_evv hC hH hl (c_X2_blame o1 (1 : Int32) h_o1) y_X2_blame v_X2_blame h_o1 rfl m_X2_81 rfl ⟨Nat.le_of_ble_eq_true rfl, Nat.le_of_ble_eq_true rfl⟩ ⟨Nat.le_refl _, Nat.le_refl _⟩ rfl (Nat.le_of_ble_eq_true rfl) dX2_readTowardsValue_128 hF (fun _ u24 H locs hF hH => ?_)
            have hF := wJ_l hq20 hF
            exact hJ131 u24 H locs ls hF hH (lv_sub hl [0] rfl)
          refine lv_icmp_ne hx hb dX2_readTowardsValue_99 (tgt := 126) rfl (fun h => ?_) (fun h => ?_)
          · have hF := wx_f h hF
            have hF := wJ_l hq23 hF
            exact hJ126 H locs ls hF hH (lv_sub hl [1] rfl)
          have hF := wx_t h hF
          refine lv_aload_n hx hb dX2_readTowardsValue_102 rfl (lv_at hl 1 rfl) ?_
          refine wx_pvi hC hH hl (c_X2_lastWaiting o1 h_o1) y_X2_lastWaiting v_X2_lastWaiting h_o1 rfl m_X2_192 rfl ⟨Nat.le_of_ble_eq_true rfl, Nat.le_of_ble_eq_true rfl⟩ ⟨Nat.le_refl _, Nat.le_refl _⟩ rfl (Nat.le_of_ble_eq_true rfl) dX2_readTowardsValue_103 hF (fun i25 H locs hF hH => ?_)
          refine wx_psi hC hH hl (c_X2_bindingOf i25) y_X2_bindingOf v_X2_bindingOf m_X2_195 rfl ⟨Nat.le_of_ble_eq_true rfl, Nat.le_of_ble_eq_true rfl⟩ ⟨Nat.le_refl _, Nat.le_refl _⟩ rfl (Nat.le_of_ble_eq_true rfl) dX2_readTowardsValue_106 hF (fun i26 H locs hF hH => ?_)
          refine lv_iconst hx hb dX2_readTowardsValue_109 k_iconst_4 ?_
          refine lv_icmp_ge hx hb dX2_readTowardsValue_110 (tgt := 126) rfl (fun h => ?_) (fun h => ?_)
          · have hF := wx_t h hF
            have hF := wJ_l hq23 hF
            exact hJ126 H locs ls hF hH (lv_sub hl [1] rfl)
          have hF := wx_f h hF
          refine lv_aload_n hx hb dX2_readTowardsValue_113 rfl (lv_at hl 1 rfl) ?_
          refine wx_evv hC hH hl (c_X2_countKnot o1 h_o1) y_X2_countKnot v_X2_countKnot h_o1 rfl m_X2_182 rfl ⟨Nat.le_of_ble_eq_true rfl, Nat.le_of_ble_eq_true rfl⟩ ⟨Nat.le_refl _, Nat.le_refl _⟩ rfl (Nat.le_of_ble_eq_true rfl) dX2_readTowardsValue_114 hF (fun _ u27 H locs hF hH => ?_)
          refine lv_aload_n hx hb dX2_readTowardsValue_117 rfl (lv_at hl 1 rfl) ?_
          refine lv_bipush hx hb dX2_readTowardsValue_118 k_bipush_12 ?_
          refine wx_evv hC hH hl (c_X2_await o1 (12 : Int32) h_o1) y_X2_await v_X2_await h_o1 rfl m_X2_198 rfl ⟨Nat.le_of_ble_eq_true rfl, Nat.le_of_ble_eq_true rfl⟩ ⟨Nat.le_refl _, Nat.le_refl _⟩ rfl (Nat.le_of_ble_eq_true rfl) dX2_readTowardsValue_120 hF (fun _ u28 H locs hF hH => ?_)
          refine lv_goto hx hb dX2_readTowardsValue_123 (tgt := 131) rfl ?_
          have hF := wJ_r hq23 hF
          have hF := wJ_l hq20 hF
          exact hJ131 u28 H locs ls hF hH (lv_sub hl [1] rfl)
        have hF := wx_t h hF
        refine lv_aload_n hx hb dX2_readTowardsValue_89 rfl (lv_at hl 1 rfl) ?_
        refine wx_evv hC hH hl (c_X2_openOne o1 h_o1) y_X2_openOne v_X2_openOne h_o1 rfl m_X2_189 rfl ⟨Nat.le_of_ble_eq_true rfl, Nat.le_of_ble_eq_true rfl⟩ ⟨Nat.le_refl _, Nat.le_refl _⟩ rfl (Nat.le_of_ble_eq_true rfl) dX2_readTowardsValue_90 hF (fun _ u29 H locs hF hH => ?_)
        refine lv_goto hx hb dX2_readTowardsValue_93 (tgt := 131) rfl ?_
        have hF := wJ_l hq20 hF
        exact hJ131 u29 H locs ls hF hH (lv_sub hl [1] rfl)
      have hF := wx_f h hF
      have hF := wJ_l hq8 hF
      exact hJ36 i7 H locs ls hF hH (lv_sub hl [1, 2, 0] rfl)
    have hJ24 : ∀ (i30 : Int32) (H : Heap) (locs : List Loc) (ls : Array Slot), F_X2_readTowardsValue_j24 i30 = some q4_ → wHp D κ ρ 0 A s.heap H locs u0 → lv_has ls 4 [(0, .ref (ρ o1)), (1, .int i30)] → W p l e (wRm 3 63) s m args below meth c H locs 0 0 (wQI below args s A D κ ρ 0 z) (F0 m 24 ls []) := by
      intro i30 H locs ls hF hH hl
      unfold F_X2_readTowardsValue_j24 at hF
      refine lv_iconst hx hb dX2_readTowardsValue_24 k_iconst_0 ?_
      have hF := wJ_l hq4 hF
      exact hJ25 i30 (0 : Int32) H locs ls hF hH (lv_sub hl [0, 1] rfl)
    refine lv_icmp_lt hx hb dX2_readTowardsValue_11 (tgt := 24) rfl (fun h => ?_) (fun h => ?_)
    · have hF := wx_t h hF
      have hF := wJ_l hq5 hF
      exact hJ24 i3 H locs ls hF hH (lv_sub hl [1, 0] rfl)
    have hF := wx_f h hF
    refine lv_iload_n hx hb dX2_readTowardsValue_14 rfl (lv_at hl 0 rfl) ?_
    refine lv_bipush hx hb dX2_readTowardsValue_15 k_bipush_19 ?_
    refine lv_icmp_gt hx hb dX2_readTowardsValue_17 (tgt := 24) rfl (fun h => ?_) (fun h => ?_)
    · have hF := wx_t h hF
      have hF := wJ_l hq5 hF
      exact hJ24 i3 H locs ls hF hH (lv_sub hl [1, 0] rfl)
    have hF := wx_f h hF
    refine lv_iconst hx hb dX2_readTowardsValue_20 k_iconst_1 ?_
    refine lv_goto hx hb dX2_readTowardsValue_21 (tgt := 25) rfl ?_
    have hF := wJ_r hq5 hF
    have hF := wJ_l hq4 hF
    exact hJ25 i3 (1 : Int32) H locs ls hF hH (lv_sub hl [1, 0] rfl)
  exact key _ _ hH
def F_X2_putDownFrom_b0 (o1 : Nat) (i2 : Int32) (u4 : wSt) : Option ((wSt) ⊕ (Unit × wSt)) :=
  if (u4.1 o1 8) ≤ 0 then (some (.inr ((), u4))) else (wP (F_X2_lastWaiting o1 u4) (fun (i5 : Int32) => wP (F_X2_bindingOf i5 u4) (fun (i6 : Int32) => if i6 < i2 then (some (.inr ((), u4))) else (wR (u4.2.2 o1 3) 6 (fun o7 => wR (u4.2.2 o7 16) 1 (fun o8 => wP (F_X2_lastWaiting o1 u4) (fun (i9 : Int32) => wC (F_X1_add o8 (u4.1 o1 5) i9 (0 : Int32) u4) (fun _ (u10 : wSt) => wB (w_sI u10 o1 8 ((u10.1 o1 8) - (1 : Int32))) (fun (u11 : wSt) => some (.inl u11))))))))))
def F_X2_putDownFrom (o1 : Nat) (i2 : Int32) (u0 : wSt) : Option (Unit × wSt) :=
  wL (S := wSt) (fun x => F_X2_putDownFrom_b0 o1 i2 x) wFu u0
set_option maxRecDepth 100000 in
set_option maxHeartbeats 4000000 in
theorem c_X2_putDownFrom {l : Launch} {D : va_G} {κ : Nat → ClassId} {ρ : Nat → Nat} (o1 : Nat) (i2 : Int32) (h_o1 : (w_sh o1).1 = 2) : wMV l yX2_putDownFrom cX2_putDownFrom 2 (wRm 1 23) [.ref (ρ o1), .int i2] D κ ρ 0 (fun u => F_X2_putDownFrom o1 i2 u) := by
  refine wMV_of (F := fun u => F_X2_putDownFrom o1 i2 u) rfl (Nat.le_of_ble_eq_true rfl) (fun u0 z p e s m args below meth c ls A hF hC hr hlk hH hl => ?_)
  have hl : lv_has ls 2 [(0, .ref (ρ o1)), (1, .int i2)] := hl
  have hx := hC.1.1
  have hb := hC.1.2.1
  have hF : F_X2_putDownFrom o1 i2 u0 = some z := hF
  unfold F_X2_putDownFrom at hF
  change W p l e (wRm 1 23) s m args below meth c s.heap [] 0 0 (wQV below args s A D κ ρ 0 z) (F0 m 0 ls [])
  have key : ∀ (H : Heap) (locs : List Loc), wHp D κ ρ 0 A s.heap H locs u0 → W p l e (wRm 1 23) s m args below meth c H locs 0 0 (wQV below args s A D κ ρ 0 z) (F0 m 0 ls []) := by
    intro H locs hH
    have hL0 : ∀ (k3_ : Nat) (u4 : wSt) (H : Heap) (locs : List Loc) (ls : Array Slot), wL (S := wSt) (fun x => F_X2_putDownFrom_b0 o1 i2 x) k3_ u4 = some z → wHp D κ ρ 0 A s.heap H locs u4 → lv_has ls 2 [(0, .ref (ρ o1)), (1, .int i2)] → W p l e (wRm 1 23) s m args below meth c H locs 0 0 (wQV below args s A D κ ρ 0 z) (F0 m 0 ls []) := by
      intro k3_
      induction k3_ with
      | zero => intro u4 H locs ls hF; exact wL_zero hF
      | succ k3_ ih3 =>
        intro u4 H locs ls hF hH hl
        obtain ⟨q3_, hF, hq3⟩ := wL_some hF
        have hF : F_X2_putDownFrom_b0 o1 i2 u4 = some q3_ := hF
        unfold F_X2_putDownFrom_b0 at hF
        refine lv_aload_n hx hb dX2_putDownFrom_0 rfl (lv_at hl 0 rfl) ?_
        refine wx_getI hC hH h_o1 rfl f_X2_30 dX2_putDownFrom_1 ?_
        refine lv_if_le hx hb dX2_putDownFrom_4 (tgt := 50) rfl (fun h => ?_) (fun h => ?_)
        · have hF := wx_t h hF
          have hF := wJ_r hq3 hF
          exact wx_vret hC hH hr hlk dX2_putDownFrom_50 hF
        have hF := wx_f h hF
        refine lv_aload_n hx hb dX2_putDownFrom_7 rfl (lv_at hl 0 rfl) ?_
        refine wx_pvi hC hH hl (c_X2_lastWaiting o1 h_o1) y_X2_lastWaiting v_X2_lastWaiting h_o1 rfl m_X2_192 rfl ⟨Nat.le_of_ble_eq_true rfl, Nat.le_of_ble_eq_true rfl⟩ ⟨Nat.le_refl _, Nat.le_refl _⟩ rfl (Nat.le_of_ble_eq_true rfl) dX2_putDownFrom_8 hF (fun i5 H locs hF hH => ?_)
        refine wx_psi hC hH hl (c_X2_bindingOf i5) y_X2_bindingOf v_X2_bindingOf m_X2_195 rfl ⟨Nat.le_of_ble_eq_true rfl, Nat.le_of_ble_eq_true rfl⟩ ⟨Nat.le_refl _, Nat.le_refl _⟩ rfl (Nat.le_of_ble_eq_true rfl) dX2_putDownFrom_11 hF (fun i6 H locs hF hH => ?_)
        refine lv_iload_n hx hb dX2_putDownFrom_14 rfl (lv_at hl 1 rfl) ?_
        refine lv_icmp_lt hx hb dX2_putDownFrom_15 (tgt := 50) rfl (fun h => ?_) (fun h => ?_)
        · have hF := wx_t h hF
          have hF := wJ_r hq3 hF
          exact wx_vret hC hH hr hlk dX2_putDownFrom_50 hF
        have hF := wx_f h hF
        refine lv_aload_n hx hb dX2_putDownFrom_18 rfl (lv_at hl 0 rfl) ?_
        refine wx_getR hC hH h_o1 rfl f_X2_46 dX2_putDownFrom_19 hF (fun o7 h_o7 hF => ?_)
        refine wx_getR hC hH h_o7 rfl f_X2_157 dX2_putDownFrom_22 hF (fun o8 h_o8 hF => ?_)
        refine lv_aload_n hx hb dX2_putDownFrom_25 rfl (lv_at hl 0 rfl) ?_
        refine wx_getI hC hH h_o1 rfl f_X2_21 dX2_putDownFrom_26 ?_
        refine lv_aload_n hx hb dX2_putDownFrom_29 rfl (lv_at hl 0 rfl) ?_
        refine wx_pvi hC hH hl (c_X2_lastWaiting o1 h_o1) y_X2_lastWaiting v_X2_lastWaiting h_o1 rfl m_X2_192 rfl ⟨Nat.le_of_ble_eq_true rfl, Nat.le_of_ble_eq_true rfl⟩ ⟨Nat.le_refl _, Nat.le_refl _⟩ rfl (Nat.le_of_ble_eq_true rfl) dX2_putDownFrom_30 hF (fun i9 H locs hF hH => ?_)
        refine lv_iconst hx hb dX2_putDownFrom_33 k_iconst_0 ?_
        refine wx_evv hC hH hl (c_X1_add o8 (u4.1 o1 5) i9 (0 : Int32) h_o8) y_X1_add v_X1_add h_o8 rfl m_X2_185 rfl ⟨Nat.le_of_ble_eq_true rfl, Nat.le_of_ble_eq_true rfl⟩ ⟨Nat.le_refl _, Nat.le_refl _⟩ rfl (Nat.le_of_ble_eq_true rfl) dX2_putDownFrom_34 hF (fun _ u10 H locs hF hH => ?_)
        refine lv_aload_n hx hb dX2_putDownFrom_37 rfl (lv_at hl 0 rfl) ?_
        refine lv_dup hx hb dX2_putDownFrom_38 rfl ?_
        refine wx_getI hC hH h_o1 rfl f_X2_30 dX2_putDownFrom_39 ?_
        refine lv_iconst hx hb dX2_putDownFrom_42 k_iconst_1 ?_
        refine lv_isub hx hb dX2_putDownFrom_43 ?_
        refine wx_putI hC hH h_o1 rfl f_X2_30 g_2_8 dX2_putDownFrom_44 hF (fun u11 H locs hF hH => ?_)
        refine lv_goto hx hb dX2_putDownFrom_47 (tgt := 0) rfl ?_
        have hF := wJ_l hq3 hF
        exact ih3 u11 H locs ls hF hH (lv_sub hl [0, 1] rfl)
    exact hL0 wFu u0 H locs ls hF hH (lv_sub hl [0, 1] rfl)
  exact key _ _ hH
def F_X2_readBehindValue_j67 (o1 : Nat) (u0 : wSt) : Option (Int32 × wSt) :=
  wC (F_X2_blame o1 (1 : Int32) u0) (fun _ (u8 : wSt) => some ((0 : Int32), u8))
def F_X2_readBehindValue_j109 (o1 : Nat) (i5 : Int32) (u13 : wSt) : Option ((Unit) ⊕ (Int32 × wSt)) :=
  wC (F_X2_countKnot o1 u13) (fun _ (u14 : wSt) => wC (F_X2_await o1 i5 u14) (fun _ (u15 : wSt) => wC (F_X2_goOnIfGood o1 u15) (fun _ (u16 : wSt) => some (.inr ((1 : Int32), u16)))))
def F_X2_readBehindValue_j85 (o1 : Nat) (u0 : wSt) (i6 : Int32) (i5 : Int32) (i10 : Int32) : Option ((Unit) ⊕ (Int32 × wSt)) :=
  wC (F_X2_putDownFrom o1 i10 u0) (fun _ (u11 : wSt) => wJ (X := wSt) (if i6 = (4 : Int32) then (wP (F_X2_lastWaiting o1 u11) (fun (i17 : Int32) => wP (F_X2_bindingOf i17 u11) (fun (i18 : Int32) => if i18 = (4 : Int32) then (wC (F_X2_blame o1 (1 : Int32) u11) (fun _ (u19 : wSt) => some (.inl u19))) else (some (.inl u11))))) else (some (.inl u11))) (fun x => F_X2_readBehindValue_j109 o1 i5 x))
def F_X2_readBehindValue_j52 (u0 : wSt) (o1 : Nat) (i5 : Int32) : Option (Int32 × wSt) :=
  wP (F_X2_bindingOf i5 u0) (fun (i6 : Int32) => wJ (X := Unit) (if i6 = 0 then (some (.inl ())) else (if i5 = (12 : Int32) then (some (.inl ())) else (wJ (X := Int32) (if i6 = (4 : Int32) then (some (.inl (5 : Int32))) else (some (.inl i6))) (fun x => F_X2_readBehindValue_j85 o1 u0 i6 i5 x)))) (fun x => F_X2_readBehindValue_j67 o1 u0))
def F_X2_readBehindValue (o1 : Nat) (u0 : wSt) : Option (Int32 × wSt) :=
  wR (u0.2.2 o1 2) 5 (fun o2 => wB (u0.1 o2 0) (fun (i3 : Int32) => wJ (X := Int32) (if i3 = (31 : Int32) then (if (u0.1 o1 7) ≤ 0 then (some (.inl i3)) else (wC (F_X2_putDownFrom o1 (1 : Int32) u0) (fun _ (u20 : wSt) => wB (w_sI u20 o1 8 ((u20.1 o1 8) - (1 : Int32))) (fun (u21 : wSt) => wB (w_sI u21 o1 7 ((u21.1 o1 7) - (1 : Int32))) (fun (u22 : wSt) => wC (F_X2_goOnIfGood o1 u22) (fun _ (u23 : wSt) => some (.inr ((0 : Int32), u23)))))))) else (some (.inl i3))) (fun x => F_X2_readBehindValue_j52 u0 o1 x)))
set_option maxRecDepth 100000 in
set_option maxHeartbeats 4000000 in
theorem c_X2_readBehindValue {l : Launch} {D : va_G} {κ : Nat → ClassId} {ρ : Nat → Nat} (o1 : Nat) (h_o1 : (w_sh o1).1 = 2) : wMI l yX2_readBehindValue cX2_readBehindValue 3 .boolean (wRm 2 44) [.ref (ρ o1)] D κ ρ 0 (fun u => F_X2_readBehindValue o1 u) := by
  refine wMI_of (F := fun u => F_X2_readBehindValue o1 u) rfl (Nat.le_of_ble_eq_true rfl) (fun u0 z p e s m args below meth c ls A hF hC hr hlk hH hl => ?_)
  have hl : lv_has ls 3 [(0, .ref (ρ o1))] := hl
  have hx := hC.1.1
  have hb := hC.1.2.1
  have hF : F_X2_readBehindValue o1 u0 = some z := hF
  unfold F_X2_readBehindValue at hF
  change W p l e (wRm 2 44) s m args below meth c s.heap [] 0 0 (wQI below args s A D κ ρ 0 z) (F0 m 0 ls [])
  have key : ∀ (H : Heap) (locs : List Loc), wHp D κ ρ 0 A s.heap H locs u0 → W p l e (wRm 2 44) s m args below meth c H locs 0 0 (wQI below args s A D κ ρ 0 z) (F0 m 0 ls []) := by
    intro H locs hH
    refine lv_aload_n hx hb dX2_readBehindValue_0 rfl (lv_at hl 0 rfl) ?_
    refine wx_getR hC hH h_o1 rfl f_X2_42 dX2_readBehindValue_1 hF (fun o2 h_o2 hF => ?_)
    refine wx_getI hC hH h_o2 rfl f_X2_59 dX2_readBehindValue_4 ?_
    refine wx_leti hF (fun i3 hF => ?_)
    refine wx_istore_n hx hb dX2_readBehindValue_7 rfl hl (by decide) (fun ls hl => ?_)
    have hl : lv_has ls 3 [(1, .int i3), (0, .ref (ρ o1))] := hl
    refine lv_iload_n hx hb dX2_readBehindValue_8 rfl (lv_at hl 0 rfl) ?_
    refine lv_bipush hx hb dX2_readBehindValue_9 k_bipush_31 ?_
    obtain ⟨q4_, hF, hq4⟩ := wJ_some hF
    have hJ52 : ∀ (i5 : Int32) (H : Heap) (locs : List Loc) (ls : Array Slot), F_X2_readBehindValue_j52 u0 o1 i5 = some z → wHp D κ ρ 0 A s.heap H locs u0 → lv_has ls 3 [(0, .ref (ρ o1)), (1, .int i5)] → W p l e (wRm 2 44) s m args below meth c H locs 0 0 (wQI below args s A D κ ρ 0 z) (F0 m 52 ls []) := by
      intro i5 H locs ls hF hH hl
      unfold F_X2_readBehindValue_j52 at hF
      refine lv_iload_n hx hb dX2_readBehindValue_52 rfl (lv_at hl 1 rfl) ?_
      refine wx_psi hC hH hl (c_X2_bindingOf i5) y_X2_bindingOf v_X2_bindingOf m_X2_195 rfl ⟨Nat.le_of_ble_eq_true rfl, Nat.le_of_ble_eq_true rfl⟩ ⟨Nat.le_refl _, Nat.le_refl _⟩ rfl (Nat.le_of_ble_eq_true rfl) dX2_readBehindValue_53 hF (fun i6 H locs hF hH => ?_)
      refine wx_istore_n hx hb dX2_readBehindValue_56 rfl hl (by decide) (fun ls hl => ?_)
      have hl : lv_has ls 3 [(2, .int i6), (0, .ref (ρ o1)), (1, .int i5)] := hl
      refine lv_iload_n hx hb dX2_readBehindValue_57 rfl (lv_at hl 0 rfl) ?_
      obtain ⟨q7_, hF, hq7⟩ := wJ_some hF
      have hJ67 : ∀ (H : Heap) (locs : List Loc) (ls : Array Slot), F_X2_readBehindValue_j67 o1 u0 = some z → wHp D κ ρ 0 A s.heap H locs u0 → lv_has ls 3 [(0, .ref (ρ o1))] → W p l e (wRm 2 44) s m args below meth c H locs 0 0 (wQI below args s A D κ ρ 0 z) (F0 m 67 ls []) := by
        intro H locs ls hF hH hl
        unfold F_X2_readBehindValue_j67 at hF
        refine lv_aload_n hx hb dX2_readBehindValue_67 rfl (lv_at hl 0 rfl) ?_
        refine lv_iconst hx hb dX2_readBehindValue_68 k_iconst_1 ?_
        refine wx_evv hC hH hl (c_X2_blame o1 (1 : Int32) h_o1) y_X2_blame v_X2_blame h_o1 rfl m_X2_81 rfl ⟨Nat.le_of_ble_eq_true rfl, Nat.le_of_ble_eq_true rfl⟩ ⟨Nat.le_refl _, Nat.le_refl _⟩ rfl (Nat.le_of_ble_eq_true rfl) dX2_readBehindValue_69 hF (fun _ u8 H locs hF hH => ?_)
        refine lv_iconst hx hb dX2_readBehindValue_72 k_iconst_0 ?_
        exact wx_zret hC hH hr hlk dX2_readBehindValue_73 (Or.inl rfl) hF
      refine lv_if_eq hx hb dX2_readBehindValue_58 (tgt := 67) rfl (fun h => ?_) (fun h => ?_)
      · have hF := wx_t h hF
        have hF := wJ_l hq7 hF
        exact hJ67 H locs ls hF hH (lv_sub hl [1] rfl)
      have hF := wx_f h hF
      refine lv_iload_n hx hb dX2_readBehindValue_61 rfl (lv_at hl 2 rfl) ?_
      refine lv_bipush hx hb dX2_readBehindValue_62 k_bipush_12 ?_
      refine lv_icmp_ne hx hb dX2_readBehindValue_64 (tgt := 74) rfl (fun h => ?_) (fun h => ?_)
      · have hF := wx_f h hF
        refine lv_aload_n hx hb dX2_readBehindValue_74 rfl (lv_at hl 1 rfl) ?_
        refine lv_iload_n hx hb dX2_readBehindValue_75 rfl (lv_at hl 0 rfl) ?_
        refine lv_iconst hx hb dX2_readBehindValue_76 k_iconst_4 ?_
        obtain ⟨q9_, hF, hq9⟩ := wJ_some hF
        have hJ85 : ∀ (i10 : Int32) (H : Heap) (locs : List Loc) (ls : Array Slot), F_X2_readBehindValue_j85 o1 u0 i6 i5 i10 = some q7_ → wHp D κ ρ 0 A s.heap H locs u0 → lv_has ls 3 [(0, .ref (ρ o1)), (1, .int i5), (2, .int i6)] → W p l e (wRm 2 44) s m args below meth c H locs 0 0 (wQI below args s A D κ ρ 0 z) (F0 m 85 ls [.int i10, .ref (ρ o1)]) := by
          intro i10 H locs ls hF hH hl
          unfold F_X2_readBehindValue_j85 at hF
          refine wx_evv hC hH hl (c_X2_putDownFrom o1 i10 h_o1) y_X2_putDownFrom v_X2_putDownFrom h_o1 rfl m_X2_176 rfl ⟨Nat.le_of_ble_eq_true rfl, Nat.le_of_ble_eq_true rfl⟩ ⟨Nat.le_refl _, Nat.le_refl _⟩ rfl (Nat.le_of_ble_eq_true rfl) dX2_readBehindValue_85 hF (fun _ u11 H locs hF hH => ?_)
          refine lv_iload_n hx hb dX2_readBehindValue_88 rfl (lv_at hl 2 rfl) ?_
          refine lv_iconst hx hb dX2_readBehindValue_89 k_iconst_4 ?_
          obtain ⟨q12_, hF, hq12⟩ := wJ_some hF
          have hJ109 : ∀ (u13 : wSt) (H : Heap) (locs : List Loc) (ls : Array Slot), F_X2_readBehindValue_j109 o1 i5 u13 = some q7_ → wHp D κ ρ 0 A s.heap H locs u13 → lv_has ls 3 [(0, .ref (ρ o1)), (1, .int i5)] → W p l e (wRm 2 44) s m args below meth c H locs 0 0 (wQI below args s A D κ ρ 0 z) (F0 m 109 ls []) := by
            intro u13 H locs ls hF hH hl
            unfold F_X2_readBehindValue_j109 at hF
            refine lv_aload_n hx hb dX2_readBehindValue_109 rfl (lv_at hl 0 rfl) ?_
            refine wx_evv hC hH hl (c_X2_countKnot o1 h_o1) y_X2_countKnot v_X2_countKnot h_o1 rfl m_X2_182 rfl ⟨Nat.le_of_ble_eq_true rfl, Nat.le_of_ble_eq_true rfl⟩ ⟨Nat.le_refl _, Nat.le_refl _⟩ rfl (Nat.le_of_ble_eq_true rfl) dX2_readBehindValue_110 hF (fun _ u14 H locs hF hH => ?_)
            refine lv_aload_n hx hb dX2_readBehindValue_113 rfl (lv_at hl 0 rfl) ?_
            refine lv_iload_n hx hb dX2_readBehindValue_114 rfl (lv_at hl 1 rfl) ?_
            refine wx_evv hC hH hl (c_X2_await o1 i5 h_o1) y_X2_await v_X2_await h_o1 rfl m_X2_198 rfl ⟨Nat.le_of_ble_eq_true rfl, Nat.le_of_ble_eq_true rfl⟩ ⟨Nat.le_refl _, Nat.le_refl _⟩ rfl (Nat.le_of_ble_eq_true rfl) dX2_readBehindValue_115 hF (fun _ u15 H locs hF hH => ?_)
            refine lv_aload_n hx hb dX2_readBehindValue_118 rfl (lv_at hl 0 rfl) ?_
            refine wx_evv hC hH hl (c_X2_goOnIfGood o1 h_o1) y_X2_goOnIfGood v_X2_goOnIfGood h_o1 rfl m_X2_179 rfl ⟨Nat.le_of_ble_eq_true rfl, Nat.le_of_ble_eq_true rfl⟩ ⟨Nat.le_refl _, Nat.le_refl _⟩ rfl (Nat.le_of_ble_eq_true rfl) dX2_readBehindValue_119 hF (fun _ u16 H locs hF hH => ?_)
            refine lv_iconst hx hb dX2_readBehindValue_122 k_iconst_1 ?_
            have hF := wJ_r hq7 hF
            exact wx_zret hC hH hr hlk dX2_readBehindValue_123 (Or.inr rfl) hF
          refine lv_icmp_ne hx hb dX2_readBehindValue_90 (tgt := 109) rfl (fun h => ?_) (fun h => ?_)
          · have hF := wx_f h hF
            have hF := wJ_l hq12 hF
            exact hJ109 u11 H locs ls hF hH (lv_sub hl [0, 1] rfl)
          have hF := wx_t h hF
          refine lv_aload_n hx hb dX2_readBehindValue_93 rfl (lv_at hl 0 rfl) ?_
          refine wx_pvi hC hH hl (c_X2_lastWaiting o1 h_o1) y_X2_lastWaiting v_X2_lastWaiting h_o1 rfl m_X2_192 rfl ⟨Nat.le_of_ble_eq_true rfl, Nat.le_of_ble_eq_true rfl⟩ ⟨Nat.le_refl _, Nat.le_refl _⟩ rfl (Nat.le_of_ble_eq_true rfl) dX2_readBehindValue_94 hF (fun i17 H locs hF hH => ?_)
          refine wx_psi hC hH hl (c_X2_bindingOf i17) y_X2_bindingOf v_X2_bindingOf m_X2_195 rfl ⟨Nat.le_of_ble_eq_true rfl, Nat.le_of_ble_eq_true rfl⟩ ⟨Nat.le_refl _, Nat.le_refl _⟩ rfl (Nat.le_of_ble_eq_true rfl) dX2_readBehindValue_97 hF (fun i18 H locs hF hH => ?_)
          refine lv_iconst hx hb dX2_readBehindValue_100 k_iconst_4 ?_
          refine lv_icmp_ne hx hb dX2_readBehindValue_101 (tgt := 109) rfl (fun h => ?_) (fun h => ?_)
          · have hF := wx_f h hF
            have hF := wJ_l hq12 hF
            exact hJ109 u11 H locs ls hF hH (lv_sub hl [0, 1] rfl)
          have hF := wx_t h hF
          refine lv_aload_n hx hb dX2_readBehindValue_104 rfl (lv_at hl 0 rfl) ?_
          refine lv_iconst hx hb dX2_readBehindValue_105 k_iconst_1 ?_
          refine wx_evv hC hH hl (c_X2_blame o1 (1 : Int32) h_o1) y_X2_blame v_X2_blame h_o1 rfl m_X2_81 rfl ⟨Nat.le_of_ble_eq_true rfl, Nat.le_of_ble_eq_true rfl⟩ ⟨Nat.le_refl _, Nat.le_refl _⟩ rfl (Nat.le_of_ble_eq_true rfl) dX2_readBehindValue_106 hF (fun _ u19 H locs hF hH => ?_)
          have hF := wJ_l hq12 hF
          exact hJ109 u19 H locs ls hF hH (lv_sub hl [0, 1] rfl)
        refine lv_icmp_ne hx hb dX2_readBehindValue_77 (tgt := 84) rfl (fun h => ?_) (fun h => ?_)
        · have hF := wx_f h hF
          refine lv_iload_n hx hb dX2_readBehindValue_84 rfl (lv_at hl 0 rfl) ?_
          have hF := wJ_l hq9 hF
          exact hJ85 i6 H locs ls hF hH (lv_sub hl [1, 2, 0] rfl)
        have hF := wx_t h hF
        refine lv_iconst hx hb dX2_readBehindValue_80 k_iconst_5 ?_
        refine lv_goto hx hb dX2_readBehindValue_81 (tgt := 85) rfl ?_
        have hF := wJ_l hq9 hF
        exact hJ85 (5 : Int32) H locs ls hF hH (lv_sub hl [1, 2, 0] rfl)
      have hF := wx_t h hF
      have hF := wJ_l hq7 hF
      exact hJ67 H locs ls hF hH (lv_sub hl [1] rfl)
    refine lv_icmp_ne hx hb dX2_readBehindValue_11 (tgt := 52) rfl (fun h => ?_) (fun h => ?_)
    · have hF := wx_f h hF
      have hF := wJ_l hq4 hF
      exact hJ52 i3 H locs ls hF hH (lv_sub hl [1, 0] rfl)
    have hF := wx_t h hF
    refine lv_aload_n hx hb dX2_readBehindValue_14 rfl (lv_at hl 1 rfl) ?_
    refine wx_getI hC hH h_o1 rfl f_X2_27 dX2_readBehindValue_15 ?_
    refine lv_if_le hx hb dX2_readBehindValue_18 (tgt := 52) rfl (fun h => ?_) (fun h => ?_)
    · have hF := wx_t h hF
      have hF := wJ_l hq4 hF
      exact hJ52 i3 H locs ls hF hH (lv_sub hl [1, 0] rfl)
    have hF := wx_f h hF
    refine lv_aload_n hx hb dX2_readBehindValue_21 rfl (lv_at hl 1 rfl) ?_
    refine lv_iconst hx hb dX2_readBehindValue_22 k_iconst_1 ?_
    refine wx_evv hC hH hl (c_X2_putDownFrom o1 (1 : Int32) h_o1) y_X2_putDownFrom v_X2_putDownFrom h_o1 rfl m_X2_176 rfl ⟨Nat.le_of_ble_eq_true rfl, Nat.le_of_ble_eq_true rfl⟩ ⟨Nat.le_refl _, Nat.le_refl _⟩ rfl (Nat.le_of_ble_eq_true rfl) dX2_readBehindValue_23 hF (fun _ u20 H locs hF hH => ?_)
    refine lv_aload_n hx hb dX2_readBehindValue_26 rfl (lv_at hl 1 rfl) ?_
    refine lv_dup hx hb dX2_readBehindValue_27 rfl ?_
    refine wx_getI hC hH h_o1 rfl f_X2_30 dX2_readBehindValue_28 ?_
    refine lv_iconst hx hb dX2_readBehindValue_31 k_iconst_1 ?_
    refine lv_isub hx hb dX2_readBehindValue_32 ?_
    refine wx_putI hC hH h_o1 rfl f_X2_30 g_2_8 dX2_readBehindValue_33 hF (fun u21 H locs hF hH => ?_)
    refine lv_aload_n hx hb dX2_readBehindValue_36 rfl (lv_at hl 1 rfl) ?_
    refine lv_dup hx hb dX2_readBehindValue_37 rfl ?_
    refine wx_getI hC hH h_o1 rfl f_X2_27 dX2_readBehindValue_38 ?_
    refine lv_iconst hx hb dX2_readBehindValue_41 k_iconst_1 ?_
    refine lv_isub hx hb dX2_readBehindValue_42 ?_
    refine wx_putI hC hH h_o1 rfl f_X2_27 g_2_7 dX2_readBehindValue_43 hF (fun u22 H locs hF hH => ?_)
    refine lv_aload_n hx hb dX2_readBehindValue_46 rfl (lv_at hl 1 rfl) ?_
    refine wx_evv hC hH hl (c_X2_goOnIfGood o1 h_o1) y_X2_goOnIfGood v_X2_goOnIfGood h_o1 rfl m_X2_179 rfl ⟨Nat.le_of_ble_eq_true rfl, Nat.le_of_ble_eq_true rfl⟩ ⟨Nat.le_refl _, Nat.le_refl _⟩ rfl (Nat.le_of_ble_eq_true rfl) dX2_readBehindValue_47 hF (fun _ u23 H locs hF hH => ?_)
    refine lv_iconst hx hb dX2_readBehindValue_50 k_iconst_0 ?_
    have hF := wJ_r hq4 hF
    exact wx_zret hC hH hr hlk dX2_readBehindValue_51 (Or.inl rfl) hF
  exact key _ _ hH
def F_X2_readLaw_j31 (o1 : Nat) (u6 : wSt) : Option (Unit × wSt) :=
  wC (F_X2_blame o1 (1 : Int32) u6) (fun _ (u7 : wSt) => some ((), u7))
def F_X2_readLaw_j176 (o1 : Nat) (u22 : wSt) : Option ((wSt) ⊕ (Unit × wSt)) :=
  wC (F_X2_putDownFrom o1 (1 : Int32) u22) (fun _ (u23 : wSt) => some (.inr ((), u23)))
def F_X2_readLaw_j170 (i27 : Int32) (i30 : Int32) (i31 : Int32) (u32 : wSt) : Option ((Int32 × Int32 × Int32 × wSt) ⊕ ((wSt) ⊕ ((wSt) ⊕ (Unit × wSt)))) :=
  wB (i27 + (1 : Int32)) (fun (i33 : Int32) => some (.inl (i30, i31, i33, u32)))
def F_X2_readLaw_j165 (o1 : Nat) (u28 : wSt) (i26 : Int32) : Option ((Int32 × Int32 × wSt) ⊕ ((Int32 × Int32 × Int32 × wSt) ⊕ ((wSt) ⊕ ((wSt) ⊕ (Unit × wSt))))) :=
  wC (F_X2_readBehindValue o1 u28) (fun (i37 : Int32) (u36 : wSt) => some (.inl (i37, i26, u36)))
def F_X2_readLaw_b111 (o1 : Nat) (i25 : Int32) (i26 : Int32) (i27 : Int32) (u28 : wSt) : Option ((Int32 × Int32 × Int32 × wSt) ⊕ ((wSt) ⊕ ((wSt) ⊕ (Unit × wSt)))) :=
  if (700 : Int32) < i27 then (some (.inr (.inl u28))) else (if (u28.1 o1 0) = 0 then (if i26 = 0 then (wJ (X := Int32 × Int32 × wSt) (if i25 = 0 then (wR (u28.2.2 o1 2) 5 (fun o34 => wJ (X := Unit) (if (u28.1 o34 0) = (32 : Int32) then (if (u28.1 o1 7) = 0 then (some (.inr (.inl (i25, (1 : Int32), u28)))) else (some (.inl ()))) else (some (.inl ()))) (fun x => F_X2_readLaw_j165 o1 u28 i26))) else (wC (F_X2_readTowardsValue o1 u28) (fun (i39 : Int32) (u38 : wSt) => some (.inl (i39, i26, u38))))) (fun x => F_X2_readLaw_j170 i27 x.1 x.2.1 x.2.2)) else (some (.inr (.inl u28)))) else (some (.inr (.inl u28))))
def F_X2_readLaw (o1 : Nat) (u0 : wSt) : Option (Unit × wSt) :=
  wR (u0.2.2 o1 2) 5 (fun o2 => wC (F_X5_next o2 u0) (fun _ (u3 : wSt) => wR (u3.2.2 o1 2) 5 (fun o4 => wJ (X := wSt) (if (u3.1 o4 0) < (7 : Int32) then (some (.inl u3)) else (wR (u3.2.2 o1 2) 5 (fun o8 => if (u3.1 o8 0) ≤ (9 : Int32) then (wR (u3.2.2 o1 2) 5 (fun o9 => wB (w_sI u3 o1 5 ((u3.1 o9 0) - (7 : Int32))) (fun (u10 : wSt) => wR (u10.2.2 o1 3) 6 (fun o11 => wR (u10.2.2 o11 16) 1 (fun o12 => wP (F_X1_has o12 (u10.1 o1 5) u10) (fun (i13 : Int32) => if i13 = 0 then (wR (u10.2.2 o1 3) 6 (fun o14 => wR (u10.2.2 o14 16) 1 (fun o15 => wC (F_X1_open o15 (u10.1 o1 5) u10) (fun _ (u16 : wSt) => wR (u16.2.2 o1 2) 5 (fun o17 => wC (F_X5_next o17 u16) (fun _ (u18 : wSt) => wB (w_sI u18 o1 7 (0 : Int32)) (fun (u19 : wSt) => wB (w_sI u19 o1 8 (0 : Int32)) (fun (u20 : wSt) => wJ (X := wSt) (wL (S := Int32 × Int32 × Int32 × wSt) (fun x => F_X2_readLaw_b111 o1 x.1 x.2.1 x.2.2.1 x.2.2.2) wFu ((1 : Int32), (0 : Int32), (0 : Int32), u20)) (fun x => F_X2_readLaw_j176 o1 x))))))))) else (wC (F_X2_blame o1 (3 : Int32) u10) (fun _ (u40 : wSt) => some (.inr ((), u40)))))))))) else (some (.inl u3))))) (fun x => F_X2_readLaw_j31 o1 x))))
set_option maxRecDepth 100000 in
set_option maxHeartbeats 4000000 in
theorem c_X2_readLaw {l : Launch} {D : va_G} {κ : Nat → ClassId} {ρ : Nat → Nat} (o1 : Nat) (h_o1 : (w_sh o1).1 = 2) : wMV l yX2_readLaw cX2_readLaw 4 (wRm 4 86) [.ref (ρ o1)] D κ ρ 0 (fun u => F_X2_readLaw o1 u) := by
  refine wMV_of (F := fun u => F_X2_readLaw o1 u) rfl (Nat.le_of_ble_eq_true rfl) (fun u0 z p e s m args below meth c ls A hF hC hr hlk hH hl => ?_)
  have hl : lv_has ls 4 [(0, .ref (ρ o1))] := hl
  have hx := hC.1.1
  have hb := hC.1.2.1
  have hF : F_X2_readLaw o1 u0 = some z := hF
  unfold F_X2_readLaw at hF
  change W p l e (wRm 4 86) s m args below meth c s.heap [] 0 0 (wQV below args s A D κ ρ 0 z) (F0 m 0 ls [])
  have key : ∀ (H : Heap) (locs : List Loc), wHp D κ ρ 0 A s.heap H locs u0 → W p l e (wRm 4 86) s m args below meth c H locs 0 0 (wQV below args s A D κ ρ 0 z) (F0 m 0 ls []) := by
    intro H locs hH
    refine lv_aload_n hx hb dX2_readLaw_0 rfl (lv_at hl 0 rfl) ?_
    refine wx_getR hC hH h_o1 rfl f_X2_42 dX2_readLaw_1 hF (fun o2 h_o2 hF => ?_)
    refine wx_evv hC hH hl (c_X5_next o2 h_o2) y_X5_next v_X5_next h_o2 rfl m_X2_87 rfl ⟨Nat.le_of_ble_eq_true rfl, Nat.le_of_ble_eq_true rfl⟩ ⟨Nat.le_refl _, Nat.le_refl _⟩ rfl (Nat.le_of_ble_eq_true rfl) dX2_readLaw_4 hF (fun _ u3 H locs hF hH => ?_)
    refine lv_aload_n hx hb dX2_readLaw_7 rfl (lv_at hl 0 rfl) ?_
    refine wx_getR hC hH h_o1 rfl f_X2_42 dX2_readLaw_8 hF (fun o4 h_o4 hF => ?_)
    refine wx_getI hC hH h_o4 rfl f_X2_59 dX2_readLaw_11 ?_
    refine lv_bipush hx hb dX2_readLaw_14 k_bipush_7 ?_
    obtain ⟨q5_, hF, hq5⟩ := wJ_some hF
    have hJ31 : ∀ (u6 : wSt) (H : Heap) (locs : List Loc) (ls : Array Slot), F_X2_readLaw_j31 o1 u6 = some z → wHp D κ ρ 0 A s.heap H locs u6 → lv_has ls 4 [(0, .ref (ρ o1))] → W p l e (wRm 4 86) s m args below meth c H locs 0 0 (wQV below args s A D κ ρ 0 z) (F0 m 31 ls []) := by
      intro u6 H locs ls hF hH hl
      unfold F_X2_readLaw_j31 at hF
      refine lv_aload_n hx hb dX2_readLaw_31 rfl (lv_at hl 0 rfl) ?_
      refine lv_iconst hx hb dX2_readLaw_32 k_iconst_1 ?_
      refine wx_evv hC hH hl (c_X2_blame o1 (1 : Int32) h_o1) y_X2_blame v_X2_blame h_o1 rfl m_X2_81 rfl ⟨Nat.le_of_ble_eq_true rfl, Nat.le_of_ble_eq_true rfl⟩ ⟨Nat.le_refl _, Nat.le_refl _⟩ rfl (Nat.le_of_ble_eq_true rfl) dX2_readLaw_33 hF (fun _ u7 H locs hF hH => ?_)
      exact wx_vret hC hH hr hlk dX2_readLaw_36 hF
    refine lv_icmp_lt hx hb dX2_readLaw_16 (tgt := 31) rfl (fun h => ?_) (fun h => ?_)
    · have hF := wx_t h hF
      have hF := wJ_l hq5 hF
      exact hJ31 u3 H locs ls hF hH (lv_sub hl [0] rfl)
    have hF := wx_f h hF
    refine lv_aload_n hx hb dX2_readLaw_19 rfl (lv_at hl 0 rfl) ?_
    refine wx_getR hC hH h_o1 rfl f_X2_42 dX2_readLaw_20 hF (fun o8 h_o8 hF => ?_)
    refine wx_getI hC hH h_o8 rfl f_X2_59 dX2_readLaw_23 ?_
    refine lv_bipush hx hb dX2_readLaw_26 k_bipush_9 ?_
    refine lv_icmp_le hx hb dX2_readLaw_28 (tgt := 37) rfl (fun h => ?_) (fun h => ?_)
    · have hF := wx_t h hF
      refine lv_aload_n hx hb dX2_readLaw_37 rfl (lv_at hl 0 rfl) ?_
      refine lv_aload_n hx hb dX2_readLaw_38 rfl (lv_at hl 0 rfl) ?_
      refine wx_getR hC hH h_o1 rfl f_X2_42 dX2_readLaw_39 hF (fun o9 h_o9 hF => ?_)
      refine wx_getI hC hH h_o9 rfl f_X2_59 dX2_readLaw_42 ?_
      refine lv_bipush hx hb dX2_readLaw_45 k_bipush_7 ?_
      refine lv_isub hx hb dX2_readLaw_47 ?_
      refine wx_putI hC hH h_o1 rfl f_X2_21 g_2_5 dX2_readLaw_48 hF (fun u10 H locs hF hH => ?_)
      refine lv_aload_n hx hb dX2_readLaw_51 rfl (lv_at hl 0 rfl) ?_
      refine wx_getR hC hH h_o1 rfl f_X2_46 dX2_readLaw_52 hF (fun o11 h_o11 hF => ?_)
      refine wx_getR hC hH h_o11 rfl f_X2_157 dX2_readLaw_55 hF (fun o12 h_o12 hF => ?_)
      refine lv_aload_n hx hb dX2_readLaw_58 rfl (lv_at hl 0 rfl) ?_
      refine wx_getI hC hH h_o1 rfl f_X2_21 dX2_readLaw_59 ?_
      refine wx_pvi hC hH hl (c_X1_has o12 (u10.1 o1 5) h_o12) y_X1_has v_X1_has h_o12 rfl m_X2_161 rfl ⟨Nat.le_of_ble_eq_true rfl, Nat.le_of_ble_eq_true rfl⟩ ⟨Nat.le_refl _, Nat.le_refl _⟩ rfl (Nat.le_of_ble_eq_true rfl) dX2_readLaw_62 hF (fun i13 H locs hF hH => ?_)
      refine lv_if_eq hx hb dX2_readLaw_65 (tgt := 74) rfl (fun h => ?_) (fun h => ?_)
      · have hF := wx_t h hF
        refine lv_aload_n hx hb dX2_readLaw_74 rfl (lv_at hl 0 rfl) ?_
        refine wx_getR hC hH h_o1 rfl f_X2_46 dX2_readLaw_75 hF (fun o14 h_o14 hF => ?_)
        refine wx_getR hC hH h_o14 rfl f_X2_157 dX2_readLaw_78 hF (fun o15 h_o15 hF => ?_)
        refine lv_aload_n hx hb dX2_readLaw_81 rfl (lv_at hl 0 rfl) ?_
        refine wx_getI hC hH h_o1 rfl f_X2_21 dX2_readLaw_82 ?_
        refine wx_evv hC hH hl (c_X1_open o15 (u10.1 o1 5) h_o15) y_X1_open v_X1_open h_o15 rfl m_X2_167 rfl ⟨Nat.le_of_ble_eq_true rfl, Nat.le_of_ble_eq_true rfl⟩ ⟨Nat.le_refl _, Nat.le_refl _⟩ rfl (Nat.le_of_ble_eq_true rfl) dX2_readLaw_85 hF (fun _ u16 H locs hF hH => ?_)
        refine lv_aload_n hx hb dX2_readLaw_88 rfl (lv_at hl 0 rfl) ?_
        refine wx_getR hC hH h_o1 rfl f_X2_42 dX2_readLaw_89 hF (fun o17 h_o17 hF => ?_)
        refine wx_evv hC hH hl (c_X5_next o17 h_o17) y_X5_next v_X5_next h_o17 rfl m_X2_87 rfl ⟨Nat.le_of_ble_eq_true rfl, Nat.le_of_ble_eq_true rfl⟩ ⟨Nat.le_refl _, Nat.le_refl _⟩ rfl (Nat.le_of_ble_eq_true rfl) dX2_readLaw_92 hF (fun _ u18 H locs hF hH => ?_)
        refine lv_aload_n hx hb dX2_readLaw_95 rfl (lv_at hl 0 rfl) ?_
        refine lv_iconst hx hb dX2_readLaw_96 k_iconst_0 ?_
        refine wx_putI hC hH h_o1 rfl f_X2_27 g_2_7 dX2_readLaw_97 hF (fun u19 H locs hF hH => ?_)
        refine lv_aload_n hx hb dX2_readLaw_100 rfl (lv_at hl 0 rfl) ?_
        refine lv_iconst hx hb dX2_readLaw_101 k_iconst_0 ?_
        refine wx_putI hC hH h_o1 rfl f_X2_30 g_2_8 dX2_readLaw_102 hF (fun u20 H locs hF hH => ?_)
        refine lv_iconst hx hb dX2_readLaw_105 k_iconst_1 ?_
        refine wx_istore_n hx hb dX2_readLaw_106 rfl hl (by decide) (fun ls hl => ?_)
        have hl : lv_has ls 4 [(1, .int (1 : Int32)), (0, .ref (ρ o1))] := hl
        refine lv_iconst hx hb dX2_readLaw_107 k_iconst_0 ?_
        refine wx_istore_n hx hb dX2_readLaw_108 rfl hl (by decide) (fun ls hl => ?_)
        have hl : lv_has ls 4 [(2, .int (0 : Int32)), (1, .int (1 : Int32)), (0, .ref (ρ o1))] := hl
        refine lv_iconst hx hb dX2_readLaw_109 k_iconst_0 ?_
        refine wx_istore_n hx hb dX2_readLaw_110 rfl hl (by decide) (fun ls hl => ?_)
        have hl : lv_has ls 4 [(3, .int (0 : Int32)), (2, .int (0 : Int32)), (1, .int (1 : Int32)), (0, .ref (ρ o1))] := hl
        obtain ⟨q21_, hF, hq21⟩ := wJ_some hF
        have hJ176 : ∀ (u22 : wSt) (H : Heap) (locs : List Loc) (ls : Array Slot), F_X2_readLaw_j176 o1 u22 = some q5_ → wHp D κ ρ 0 A s.heap H locs u22 → lv_has ls 4 [(0, .ref (ρ o1))] → W p l e (wRm 4 86) s m args below meth c H locs 0 0 (wQV below args s A D κ ρ 0 z) (F0 m 176 ls []) := by
          intro u22 H locs ls hF hH hl
          unfold F_X2_readLaw_j176 at hF
          refine lv_aload_n hx hb dX2_readLaw_176 rfl (lv_at hl 0 rfl) ?_
          refine lv_iconst hx hb dX2_readLaw_177 k_iconst_1 ?_
          refine wx_evv hC hH hl (c_X2_putDownFrom o1 (1 : Int32) h_o1) y_X2_putDownFrom v_X2_putDownFrom h_o1 rfl m_X2_176 rfl ⟨Nat.le_of_ble_eq_true rfl, Nat.le_of_ble_eq_true rfl⟩ ⟨Nat.le_refl _, Nat.le_refl _⟩ rfl (Nat.le_of_ble_eq_true rfl) dX2_readLaw_178 hF (fun _ u23 H locs hF hH => ?_)
          have hF := wJ_r hq5 hF
          exact wx_vret hC hH hr hlk dX2_readLaw_181 hF
        have hL111 : ∀ (k24_ : Nat) (i25 : Int32) (i26 : Int32) (i27 : Int32) (u28 : wSt) (H : Heap) (locs : List Loc) (ls : Array Slot), wL (S := Int32 × Int32 × Int32 × wSt) (fun x => F_X2_readLaw_b111 o1 x.1 x.2.1 x.2.2.1 x.2.2.2) k24_ (i25, i26, i27, u28) = some q21_ → wHp D κ ρ 0 A s.heap H locs u28 → lv_has ls 4 [(0, .ref (ρ o1)), (1, .int i25), (2, .int i26), (3, .int i27)] → W p l e (wRm 4 86) s m args below meth c H locs 0 0 (wQV below args s A D κ ρ 0 z) (F0 m 111 ls []) := by
          intro k24_
          induction k24_ with
          | zero => intro i25 i26 i27 u28 H locs ls hF; exact wL_zero hF
          | succ k24_ ih24 =>
            intro i25 i26 i27 u28 H locs ls hF hH hl
            obtain ⟨q24_, hF, hq24⟩ := wL_some hF
            have hF : F_X2_readLaw_b111 o1 i25 i26 i27 u28 = some q24_ := hF
            unfold F_X2_readLaw_b111 at hF
            refine lv_iload_n hx hb dX2_readLaw_111 rfl (lv_at hl 3 rfl) ?_
            refine lv_sipush hx hb dX2_readLaw_112 k_sipush_700 ?_
            refine lv_icmp_gt hx hb dX2_readLaw_115 (tgt := 176) rfl (fun h => ?_) (fun h => ?_)
            · have hF := wx_t h hF
              have hF := wJ_r hq24 hF
              have hF := wJ_l hq21 hF
              exact hJ176 u28 H locs ls hF hH (lv_sub hl [0] rfl)
            have hF := wx_f h hF
            refine lv_aload_n hx hb dX2_readLaw_118 rfl (lv_at hl 0 rfl) ?_
            refine wx_getI hC hH h_o1 rfl f_X2_9 dX2_readLaw_119 ?_
            refine lv_if_ne hx hb dX2_readLaw_122 (tgt := 176) rfl (fun h => ?_) (fun h => ?_)
            · have hF := wx_f h hF
              have hF := wJ_r hq24 hF
              have hF := wJ_l hq21 hF
              exact hJ176 u28 H locs ls hF hH (lv_sub hl [0] rfl)
            have hF := wx_t h hF
            refine lv_iload_n hx hb dX2_readLaw_125 rfl (lv_at hl 2 rfl) ?_
            refine lv_if_ne hx hb dX2_readLaw_126 (tgt := 176) rfl (fun h => ?_) (fun h => ?_)
            · have hF := wx_f h hF
              have hF := wJ_r hq24 hF
              have hF := wJ_l hq21 hF
              exact hJ176 u28 H locs ls hF hH (lv_sub hl [0] rfl)
            have hF := wx_t h hF
            refine lv_iload_n hx hb dX2_readLaw_129 rfl (lv_at hl 1 rfl) ?_
            obtain ⟨q29_, hF, hq29⟩ := wJ_some hF
            have hJ170 : ∀ (i30 : Int32) (i31 : Int32) (u32 : wSt) (H : Heap) (locs : List Loc) (ls : Array Slot), F_X2_readLaw_j170 i27 i30 i31 u32 = some q24_ → wHp D κ ρ 0 A s.heap H locs u32 → lv_has ls 4 [(0, .ref (ρ o1)), (1, .int i30), (2, .int i31), (3, .int i27)] → W p l e (wRm 4 86) s m args below meth c H locs 0 0 (wQV below args s A D κ ρ 0 z) (F0 m 170 ls []) := by
              intro i30 i31 u32 H locs ls hF hH hl
              unfold F_X2_readLaw_j170 at hF
              refine wx_iinc hx hb dX2_readLaw_170 k_iconst_1 hl (k := 3) rfl (by decide) hF (fun i33 ls hF hl => ?_)
              have hl : lv_has ls 4 [(3, .int i33), (0, .ref (ρ o1)), (1, .int i30), (2, .int i31)] := hl
              refine lv_goto hx hb dX2_readLaw_173 (tgt := 111) rfl ?_
              have hF := wJ_l hq24 hF
              exact ih24 i30 i31 i33 u32 H locs ls hF hH (lv_sub hl [1, 2, 3, 0] rfl)
            refine lv_if_eq hx hb dX2_readLaw_130 (tgt := 141) rfl (fun h => ?_) (fun h => ?_)
            · have hF := wx_t h hF
              refine lv_aload_n hx hb dX2_readLaw_141 rfl (lv_at hl 0 rfl) ?_
              refine wx_getR hC hH h_o1 rfl f_X2_42 dX2_readLaw_142 hF (fun o34 h_o34 hF => ?_)
              refine wx_getI hC hH h_o34 rfl f_X2_59 dX2_readLaw_145 ?_
              refine lv_bipush hx hb dX2_readLaw_148 k_bipush_32 ?_
              obtain ⟨q35_, hF, hq35⟩ := wJ_some hF
              have hJ165 : ∀ (H : Heap) (locs : List Loc) (ls : Array Slot), F_X2_readLaw_j165 o1 u28 i26 = some q29_ → wHp D κ ρ 0 A s.heap H locs u28 → lv_has ls 4 [(0, .ref (ρ o1)), (2, .int i26), (3, .int i27)] → W p l e (wRm 4 86) s m args below meth c H locs 0 0 (wQV below args s A D κ ρ 0 z) (F0 m 165 ls []) := by
                intro H locs ls hF hH hl
                unfold F_X2_readLaw_j165 at hF
                refine lv_aload_n hx hb dX2_readLaw_165 rfl (lv_at hl 0 rfl) ?_
                refine wx_evi hC hH hl (c_X2_readBehindValue o1 h_o1) y_X2_readBehindValue v_X2_readBehindValue h_o1 rfl m_X2_173 rfl ⟨Nat.le_of_ble_eq_true rfl, Nat.le_of_ble_eq_true rfl⟩ ⟨Nat.le_refl _, Nat.le_refl _⟩ rfl (Nat.le_of_ble_eq_true rfl) dX2_readLaw_166 hF (fun i37 u36 H locs hF hH => ?_)
                refine wx_istore_n hx hb dX2_readLaw_169 rfl hl (by decide) (fun ls hl => ?_)
                have hl : lv_has ls 4 [(1, .int i37), (0, .ref (ρ o1)), (2, .int i26), (3, .int i27)] := hl
                have hF := wJ_l hq29 hF
                exact hJ170 i37 i26 u36 H locs ls hF hH (lv_sub hl [1, 0, 2, 3] rfl)
              refine lv_icmp_ne hx hb dX2_readLaw_150 (tgt := 165) rfl (fun h => ?_) (fun h => ?_)
              · have hF := wx_f h hF
                have hF := wJ_l hq35 hF
                exact hJ165 H locs ls hF hH (lv_sub hl [0, 2, 3] rfl)
              have hF := wx_t h hF
              refine lv_aload_n hx hb dX2_readLaw_153 rfl (lv_at hl 0 rfl) ?_
              refine wx_getI hC hH h_o1 rfl f_X2_27 dX2_readLaw_154 ?_
              refine lv_if_ne hx hb dX2_readLaw_157 (tgt := 165) rfl (fun h => ?_) (fun h => ?_)
              · have hF := wx_f h hF
                have hF := wJ_l hq35 hF
                exact hJ165 H locs ls hF hH (lv_sub hl [0, 2, 3] rfl)
              have hF := wx_t h hF
              refine lv_iconst hx hb dX2_readLaw_160 k_iconst_1 ?_
              refine wx_istore_n hx hb dX2_readLaw_161 rfl hl (by decide) (fun ls hl => ?_)
              have hl : lv_has ls 4 [(2, .int (1 : Int32)), (0, .ref (ρ o1)), (1, .int i25), (3, .int i27)] := hl
              refine lv_goto hx hb dX2_readLaw_162 (tgt := 170) rfl ?_
              have hF := wJ_r hq35 hF
              have hF := wJ_l hq29 hF
              exact hJ170 i25 (1 : Int32) u28 H locs ls hF hH (lv_sub hl [1, 2, 0, 3] rfl)
            have hF := wx_f h hF
            refine lv_aload_n hx hb dX2_readLaw_133 rfl (lv_at hl 0 rfl) ?_
            refine wx_evi hC hH hl (c_X2_readTowardsValue o1 h_o1) y_X2_readTowardsValue v_X2_readTowardsValue h_o1 rfl m_X2_169 rfl ⟨Nat.le_of_ble_eq_true rfl, Nat.le_of_ble_eq_true rfl⟩ ⟨Nat.le_refl _, Nat.le_refl _⟩ rfl (Nat.le_of_ble_eq_true rfl) dX2_readLaw_134 hF (fun i39 u38 H locs hF hH => ?_)
            refine wx_istore_n hx hb dX2_readLaw_137 rfl hl (by decide) (fun ls hl => ?_)
            have hl : lv_has ls 4 [(1, .int i39), (0, .ref (ρ o1)), (2, .int i26), (3, .int i27)] := hl
            refine lv_goto hx hb dX2_readLaw_138 (tgt := 170) rfl ?_
            have hF := wJ_l hq29 hF
            exact hJ170 i39 i26 u38 H locs ls hF hH (lv_sub hl [1, 0, 2, 3] rfl)
        exact hL111 wFu (1 : Int32) (0 : Int32) (0 : Int32) u20 H locs ls hF hH (lv_sub hl [3, 2, 1, 0] rfl)
      have hF := wx_f h hF
      refine lv_aload_n hx hb dX2_readLaw_68 rfl (lv_at hl 0 rfl) ?_
      refine lv_iconst hx hb dX2_readLaw_69 k_iconst_3 ?_
      refine wx_evv hC hH hl (c_X2_blame o1 (3 : Int32) h_o1) y_X2_blame v_X2_blame h_o1 rfl m_X2_81 rfl ⟨Nat.le_of_ble_eq_true rfl, Nat.le_of_ble_eq_true rfl⟩ ⟨Nat.le_refl _, Nat.le_refl _⟩ rfl (Nat.le_of_ble_eq_true rfl) dX2_readLaw_70 hF (fun _ u40 H locs hF hH => ?_)
      have hF := wJ_r hq5 hF
      exact wx_vret hC hH hr hlk dX2_readLaw_73 hF
    have hF := wx_f h hF
    have hF := wJ_l hq5 hF
    exact hJ31 u3 H locs ls hF hH (lv_sub hl [0] rfl)
  exact key _ _ hH
def F_X2_readLine_j112 (o1 : Nat) (u8 : wSt) : Option (Unit × wSt) :=
  if (u8.1 o1 0) = 0 then (wR (u8.2.2 o1 3) 6 (fun o9 => wB (w_sI u8 o9 0 ((u8.1 o9 0) + (1 : Int32))) (fun (u10 : wSt) => wR (u10.2.2 o1 2) 5 (fun o11 => wC (F_X5_next o11 u10) (fun _ (u12 : wSt) => some ((), u12)))))) else (some ((), u8))
def F_X2_readLine_j95 (o1 : Nat) (u5 : wSt) : Option (Unit × wSt) :=
  wR (u5.2.2 o1 2) 5 (fun o6 => wJ (X := wSt) (if (u5.1 o6 0) = (32 : Int32) then (some (.inl u5)) else (wC (F_X2_blame o1 (1 : Int32) u5) (fun _ (u13 : wSt) => some (.inl u13)))) (fun x => F_X2_readLine_j112 o1 x))
def F_X2_readLine (o1 : Nat) (u0 : wSt) : Option (Unit × wSt) :=
  wR (u0.2.2 o1 2) 5 (fun o2 => wB (u0.1 o2 0) (fun (i3 : Int32) => wJ (X := wSt) (if i3 = 0 then (wC (F_X2_readGuest o1 u0) (fun _ (u14 : wSt) => some (.inl u14))) else (if i3 = 1 then (wC (F_X2_readFruit o1 u0) (fun _ (u15 : wSt) => some (.inl u15))) else (if i3 = 2 then (wC (F_X2_readBite o1 u0) (fun _ (u16 : wSt) => some (.inl u16))) else (if i3 = 3 ∨ i3 = 4 ∨ i3 = 5 then (wR (u0.2.2 o1 2) 5 (fun o17 => wC (F_X2_readSetting o1 (u0.1 o17 0) u0) (fun _ (u18 : wSt) => some (.inl u18)))) else (if i3 = 6 then (wC (F_X2_readLaw o1 u0) (fun _ (u19 : wSt) => some (.inl u19))) else (wC (F_X2_blame o1 (1 : Int32) u0) (fun _ (u20 : wSt) => some (.inl u20)))))))) (fun x => F_X2_readLine_j95 o1 x)))
set_option maxRecDepth 100000 in
set_option maxHeartbeats 4000000 in
theorem c_X2_readLine {l : Launch} {D : va_G} {κ : Nat → ClassId} {ρ : Nat → Nat} (o1 : Nat) (h_o1 : (w_sh o1).1 = 2) : wMV l yX2_readLine cX2_readLine 1 (wRm 5 109) [.ref (ρ o1)] D κ ρ 0 (fun u => F_X2_readLine o1 u) := by
  refine wMV_of (F := fun u => F_X2_readLine o1 u) rfl (Nat.le_of_ble_eq_true rfl) (fun u0 z p e s m args below meth c ls A hF hC hr hlk hH hl => ?_)
  have hl : lv_has ls 1 [(0, .ref (ρ o1))] := hl
  have hx := hC.1.1
  have hb := hC.1.2.1
  have hF : F_X2_readLine o1 u0 = some z := hF
  unfold F_X2_readLine at hF
  change W p l e (wRm 5 109) s m args below meth c s.heap [] 0 0 (wQV below args s A D κ ρ 0 z) (F0 m 0 ls [])
  have key : ∀ (H : Heap) (locs : List Loc), wHp D κ ρ 0 A s.heap H locs u0 → W p l e (wRm 5 109) s m args below meth c H locs 0 0 (wQV below args s A D κ ρ 0 z) (F0 m 0 ls []) := by
    intro H locs hH
    refine lv_aload_n hx hb dX2_readLine_0 rfl (lv_at hl 0 rfl) ?_
    refine wx_getR hC hH h_o1 rfl f_X2_42 dX2_readLine_1 hF (fun o2 h_o2 hF => ?_)
    refine wx_getI hC hH h_o2 rfl f_X2_59 dX2_readLine_4 ?_
    refine wx_leti hF (fun i3 hF => ?_)
    obtain ⟨q4_, hF, hq4⟩ := wJ_some hF
    have hJ95 : ∀ (u5 : wSt) (H : Heap) (locs : List Loc) (ls : Array Slot), F_X2_readLine_j95 o1 u5 = some z → wHp D κ ρ 0 A s.heap H locs u5 → lv_has ls 1 [(0, .ref (ρ o1))] → W p l e (wRm 5 109) s m args below meth c H locs 0 0 (wQV below args s A D κ ρ 0 z) (F0 m 95 ls []) := by
      intro u5 H locs ls hF hH hl
      unfold F_X2_readLine_j95 at hF
      refine lv_aload_n hx hb dX2_readLine_95 rfl (lv_at hl 0 rfl) ?_
      refine wx_getR hC hH h_o1 rfl f_X2_42 dX2_readLine_96 hF (fun o6 h_o6 hF => ?_)
      refine wx_getI hC hH h_o6 rfl f_X2_59 dX2_readLine_99 ?_
      refine lv_bipush hx hb dX2_readLine_102 k_bipush_32 ?_
      obtain ⟨q7_, hF, hq7⟩ := wJ_some hF
      have hJ112 : ∀ (u8 : wSt) (H : Heap) (locs : List Loc) (ls : Array Slot), F_X2_readLine_j112 o1 u8 = some z → wHp D κ ρ 0 A s.heap H locs u8 → lv_has ls 1 [(0, .ref (ρ o1))] → W p l e (wRm 5 109) s m args below meth c H locs 0 0 (wQV below args s A D κ ρ 0 z) (F0 m 112 ls []) := by
        intro u8 H locs ls hF hH hl
        unfold F_X2_readLine_j112 at hF
        refine lv_aload_n hx hb dX2_readLine_112 rfl (lv_at hl 0 rfl) ?_
        refine wx_getI hC hH h_o1 rfl f_X2_9 dX2_readLine_113 ?_
        refine lv_if_ne hx hb dX2_readLine_116 (tgt := 139) rfl (fun h => ?_) (fun h => ?_)
        · have hF := wx_f h hF
          exact wx_vret hC hH hr hlk dX2_readLine_139 hF
        have hF := wx_t h hF
        refine lv_aload_n hx hb dX2_readLine_119 rfl (lv_at hl 0 rfl) ?_
        refine wx_getR hC hH h_o1 rfl f_X2_46 dX2_readLine_120 hF (fun o9 h_o9 hF => ?_)
        refine lv_dup hx hb dX2_readLine_123 rfl ?_
        refine wx_getI hC hH h_o9 rfl f_X2_84 dX2_readLine_124 ?_
        refine lv_iconst hx hb dX2_readLine_127 k_iconst_1 ?_
        refine lv_iadd hx hb dX2_readLine_128 ?_
        refine wx_putI hC hH h_o9 rfl f_X2_84 g_6_0 dX2_readLine_129 hF (fun u10 H locs hF hH => ?_)
        refine lv_aload_n hx hb dX2_readLine_132 rfl (lv_at hl 0 rfl) ?_
        refine wx_getR hC hH h_o1 rfl f_X2_42 dX2_readLine_133 hF (fun o11 h_o11 hF => ?_)
        refine wx_evv hC hH hl (c_X5_next o11 h_o11) y_X5_next v_X5_next h_o11 rfl m_X2_87 rfl ⟨Nat.le_of_ble_eq_true rfl, Nat.le_of_ble_eq_true rfl⟩ ⟨Nat.le_refl _, Nat.le_refl _⟩ rfl (Nat.le_of_ble_eq_true rfl) dX2_readLine_136 hF (fun _ u12 H locs hF hH => ?_)
        exact wx_vret hC hH hr hlk dX2_readLine_139 hF
      refine lv_icmp_eq hx hb dX2_readLine_104 (tgt := 112) rfl (fun h => ?_) (fun h => ?_)
      · have hF := wx_t h hF
        have hF := wJ_l hq7 hF
        exact hJ112 u5 H locs ls hF hH (lv_sub hl [0] rfl)
      have hF := wx_f h hF
      refine lv_aload_n hx hb dX2_readLine_107 rfl (lv_at hl 0 rfl) ?_
      refine lv_iconst hx hb dX2_readLine_108 k_iconst_1 ?_
      refine wx_evv hC hH hl (c_X2_blame o1 (1 : Int32) h_o1) y_X2_blame v_X2_blame h_o1 rfl m_X2_81 rfl ⟨Nat.le_of_ble_eq_true rfl, Nat.le_of_ble_eq_true rfl⟩ ⟨Nat.le_refl _, Nat.le_refl _⟩ rfl (Nat.le_of_ble_eq_true rfl) dX2_readLine_109 hF (fun _ u13 H locs hF hH => ?_)
      have hF := wJ_l hq7 hF
      exact hJ112 u13 H locs ls hF hH (lv_sub hl [0] rfl)
    by_cases hs0 : i3 = 0
    · have hF := wx_t hs0 hF
      refine wx_sw hx hb dX2_readLine_7 (by decide) (tgt := 48) (by rw [hs0]; decide) ?_
      refine lv_aload_n hx hb dX2_readLine_48 rfl (lv_at hl 0 rfl) ?_
      refine wx_evv hC hH hl (c_X2_readGuest o1 h_o1) y_X2_readGuest v_X2_readGuest h_o1 rfl m_X2_66 rfl ⟨Nat.le_of_ble_eq_true rfl, Nat.le_of_ble_eq_true rfl⟩ ⟨Nat.le_refl _, Nat.le_refl _⟩ rfl (Nat.le_of_ble_eq_true rfl) dX2_readLine_49 hF (fun _ u14 H locs hF hH => ?_)
      refine lv_goto hx hb dX2_readLine_52 (tgt := 95) rfl ?_
      have hF := wJ_l hq4 hF
      exact hJ95 u14 H locs ls hF hH (lv_sub hl [0] rfl)
    have hF := wx_f hs0 hF
    by_cases hs1 : i3 = 1
    · have hF := wx_t hs1 hF
      refine wx_sw hx hb dX2_readLine_7 (by decide) (tgt := 55) (by rw [hs1]; decide) ?_
      refine lv_aload_n hx hb dX2_readLine_55 rfl (lv_at hl 0 rfl) ?_
      refine wx_evv hC hH hl (c_X2_readFruit o1 h_o1) y_X2_readFruit v_X2_readFruit h_o1 rfl m_X2_69 rfl ⟨Nat.le_of_ble_eq_true rfl, Nat.le_of_ble_eq_true rfl⟩ ⟨Nat.le_refl _, Nat.le_refl _⟩ rfl (Nat.le_of_ble_eq_true rfl) dX2_readLine_56 hF (fun _ u15 H locs hF hH => ?_)
      refine lv_goto hx hb dX2_readLine_59 (tgt := 95) rfl ?_
      have hF := wJ_l hq4 hF
      exact hJ95 u15 H locs ls hF hH (lv_sub hl [0] rfl)
    have hF := wx_f hs1 hF
    by_cases hs2 : i3 = 2
    · have hF := wx_t hs2 hF
      refine wx_sw hx hb dX2_readLine_7 (by decide) (tgt := 62) (by rw [hs2]; decide) ?_
      refine lv_aload_n hx hb dX2_readLine_62 rfl (lv_at hl 0 rfl) ?_
      refine wx_evv hC hH hl (c_X2_readBite o1 h_o1) y_X2_readBite v_X2_readBite h_o1 rfl m_X2_72 rfl ⟨Nat.le_of_ble_eq_true rfl, Nat.le_of_ble_eq_true rfl⟩ ⟨Nat.le_refl _, Nat.le_refl _⟩ rfl (Nat.le_of_ble_eq_true rfl) dX2_readLine_63 hF (fun _ u16 H locs hF hH => ?_)
      refine lv_goto hx hb dX2_readLine_66 (tgt := 95) rfl ?_
      have hF := wJ_l hq4 hF
      exact hJ95 u16 H locs ls hF hH (lv_sub hl [0] rfl)
    have hF := wx_f hs2 hF
    by_cases hs3 : i3 = 3 ∨ i3 = 4 ∨ i3 = 5
    · have hF := wx_t hs3 hF
      refine wx_sw hx hb dX2_readLine_7 (by decide) (tgt := 69) (by rcases hs3 with hh | hh | hh <;> rw [hh] <;> decide) ?_
      refine lv_aload_n hx hb dX2_readLine_69 rfl (lv_at hl 0 rfl) ?_
      refine lv_aload_n hx hb dX2_readLine_70 rfl (lv_at hl 0 rfl) ?_
      refine wx_getR hC hH h_o1 rfl f_X2_42 dX2_readLine_71 hF (fun o17 h_o17 hF => ?_)
      refine wx_getI hC hH h_o17 rfl f_X2_59 dX2_readLine_74 ?_
      refine wx_evv hC hH hl (c_X2_readSetting o1 (u0.1 o17 0) h_o1) y_X2_readSetting v_X2_readSetting h_o1 rfl m_X2_75 rfl ⟨Nat.le_of_ble_eq_true rfl, Nat.le_of_ble_eq_true rfl⟩ ⟨Nat.le_refl _, Nat.le_refl _⟩ rfl (Nat.le_of_ble_eq_true rfl) dX2_readLine_77 hF (fun _ u18 H locs hF hH => ?_)
      refine lv_goto hx hb dX2_readLine_80 (tgt := 95) rfl ?_
      have hF := wJ_l hq4 hF
      exact hJ95 u18 H locs ls hF hH (lv_sub hl [0] rfl)
    have hF := wx_f hs3 hF
    by_cases hs4 : i3 = 6
    · have hF := wx_t hs4 hF
      refine wx_sw hx hb dX2_readLine_7 (by decide) (tgt := 83) (by rw [hs4]; decide) ?_
      refine lv_aload_n hx hb dX2_readLine_83 rfl (lv_at hl 0 rfl) ?_
      refine wx_evv hC hH hl (c_X2_readLaw o1 h_o1) y_X2_readLaw v_X2_readLaw h_o1 rfl m_X2_78 rfl ⟨Nat.le_of_ble_eq_true rfl, Nat.le_of_ble_eq_true rfl⟩ ⟨Nat.le_refl _, Nat.le_refl _⟩ rfl (Nat.le_of_ble_eq_true rfl) dX2_readLine_84 hF (fun _ u19 H locs hF hH => ?_)
      refine lv_goto hx hb dX2_readLine_87 (tgt := 95) rfl ?_
      have hF := wJ_l hq4 hF
      exact hJ95 u19 H locs ls hF hH (lv_sub hl [0] rfl)
    have hF := wx_f hs4 hF
    have htg : ((7 : Nat) : Int) + wTg (83) (0) (6) #[41, 48, 55, 62, 62, 62, 76] i3 = ((90 : Nat) : Int) := by
      have n0 : ¬ (i3).toInt = 0 := lv_neT (k := 0) (a := 0) (fun q => hs0 (q)) (by decide)
      have n1 : ¬ (i3).toInt = 1 := lv_neT (k := 1) (a := 1) (fun q => hs1 (q)) (by decide)
      have n2 : ¬ (i3).toInt = 2 := lv_neT (k := 2) (a := 2) (fun q => hs2 (q)) (by decide)
      have n3 : ¬ (i3).toInt = 3 := lv_neT (k := 3) (a := 3) (fun q => hs3 (Or.inl q)) (by decide)
      have n4 : ¬ (i3).toInt = 4 := lv_neT (k := 4) (a := 4) (fun q => hs3 (Or.inr (Or.inl q))) (by decide)
      have n5 : ¬ (i3).toInt = 5 := lv_neT (k := 5) (a := 5) (fun q => hs3 (Or.inr (Or.inr (q)))) (by decide)
      have n6 : ¬ (i3).toInt = 6 := lv_neT (k := 6) (a := 6) (fun q => hs4 (q)) (by decide)
      rw [wTg_lo (by omega)]; rfl
    refine wx_sw hx hb dX2_readLine_7 (by decide) (tgt := 90) htg ?_
    refine lv_aload_n hx hb dX2_readLine_90 rfl (lv_at hl 0 rfl) ?_
    refine lv_iconst hx hb dX2_readLine_91 k_iconst_1 ?_
    refine wx_evv hC hH hl (c_X2_blame o1 (1 : Int32) h_o1) y_X2_blame v_X2_blame h_o1 rfl m_X2_81 rfl ⟨Nat.le_of_ble_eq_true rfl, Nat.le_of_ble_eq_true rfl⟩ ⟨Nat.le_refl _, Nat.le_refl _⟩ rfl (Nat.le_of_ble_eq_true rfl) dX2_readLine_92 hF (fun _ u20 H locs hF hH => ?_)
    have hF := wJ_l hq4 hF
    exact hJ95 u20 H locs ls hF hH (lv_sub hl [0] rfl)
  exact key _ _ hH
def F_X2_read_j73 (o1 : Nat) (u13 : wSt) : Option (Int32 × wSt) :=
  if (u13.1 o1 0) = 0 then (some ((1 : Int32), u13)) else (some ((0 : Int32), u13))
def F_X2_read_b37 (o1 : Nat) (i15 : Int32) (u16 : wSt) : Option ((Int32 × wSt) ⊕ ((wSt) ⊕ (Int32 × wSt))) :=
  if (700 : Int32) ≤ i15 then (some (.inr (.inl u16))) else (if (u16.1 o1 0) = 0 then (wR (u16.2.2 o1 2) 5 (fun o17 => if (u16.1 o17 0) = (35 : Int32) then (some (.inr (.inl u16))) else (wC (F_X2_readLine o1 u16) (fun _ (u18 : wSt) => wB (i15 + (1 : Int32)) (fun (i19 : Int32) => some (.inl (i19, u18))))))) else (some (.inr (.inl u16))))
def F_X2_read (o1 : Nat) (i2 : Int32) (o3 : Nat) (u0 : wSt) : Option (Int32 × wSt) :=
  wB (w_sI u0 o1 0 (0 : Int32)) (fun (u4 : wSt) => wB (w_sR u4 o1 3 (o3 + 1)) (fun (u5 : wSt) => wR (u5.2.2 o1 3) 6 (fun o6 => wC (F_X6_clear o6 u5) (fun _ (u7 : wSt) => wB (w_sI u7 o1 4 (0 : Int32)) (fun (u8 : wSt) => wB (w_sI u8 o1 6 (0 : Int32)) (fun (u9 : wSt) => wR (u9.2.2 o1 2) 5 (fun o10 => wC (F_X5_split o10 i2 u9) (fun _ (u11 : wSt) => wJ (X := wSt) (wL (S := Int32 × wSt) (fun x => F_X2_read_b37 o1 x.1 x.2) wFu ((0 : Int32), u11)) (fun x => F_X2_read_j73 o1 x)))))))))
set_option maxRecDepth 100000 in
set_option maxHeartbeats 4000000 in
theorem c_X2_read {l : Launch} {D : va_G} {κ : Nat → ClassId} {ρ : Nat → Nat} (o1 : Nat) (i2 : Int32) (o3 : Nat) (h_o1 : (w_sh o1).1 = 2) (h_o3 : (w_sh o3).1 = 6) : wMI l yX2_read cX2_read 4 .boolean (wRm 6 129) [.ref (ρ o1), .int i2, .ref (ρ o3)] D κ ρ 0 (fun u => F_X2_read o1 i2 o3 u) := by
  refine wMI_of (F := fun u => F_X2_read o1 i2 o3 u) rfl (Nat.le_of_ble_eq_true rfl) (fun u0 z p e s m args below meth c ls A hF hC hr hlk hH hl => ?_)
  have hl : lv_has ls 4 [(0, .ref (ρ o1)), (1, .int i2), (2, .ref (ρ o3))] := hl
  have hx := hC.1.1
  have hb := hC.1.2.1
  have hF : F_X2_read o1 i2 o3 u0 = some z := hF
  unfold F_X2_read at hF
  change W p l e (wRm 6 129) s m args below meth c s.heap [] 0 0 (wQI below args s A D κ ρ 0 z) (F0 m 0 ls [])
  have key : ∀ (H : Heap) (locs : List Loc), wHp D κ ρ 0 A s.heap H locs u0 → W p l e (wRm 6 129) s m args below meth c H locs 0 0 (wQI below args s A D κ ρ 0 z) (F0 m 0 ls []) := by
    intro H locs hH
    refine lv_aload_n hx hb dX2_read_0 rfl (lv_at hl 0 rfl) ?_
    refine lv_iconst hx hb dX2_read_1 k_iconst_0 ?_
    refine wx_putI hC hH h_o1 rfl f_X2_9 g_2_0 dX2_read_2 hF (fun u4 H locs hF hH => ?_)
    refine lv_aload_n hx hb dX2_read_5 rfl (lv_at hl 0 rfl) ?_
    refine lv_aload_n hx hb dX2_read_6 rfl (lv_at hl 2 rfl) ?_
    refine wx_putR hC hH h_o1 rfl f_X2_46 g_2_3 dX2_read_7 hF (fun u5 H locs hF hH => ?_)
    refine lv_aload_n hx hb dX2_read_10 rfl (lv_at hl 0 rfl) ?_
    refine wx_getR hC hH h_o1 rfl f_X2_46 dX2_read_11 hF (fun o6 h_o6 hF => ?_)
    refine wx_evv hC hH hl (c_X6_clear o6 h_o6) y_X6_clear v_X6_clear h_o6 rfl m_X2_50 rfl ⟨Nat.le_of_ble_eq_true rfl, Nat.le_of_ble_eq_true rfl⟩ ⟨Nat.le_refl _, Nat.le_refl _⟩ rfl (Nat.le_of_ble_eq_true rfl) dX2_read_14 hF (fun _ u7 H locs hF hH => ?_)
    refine lv_aload_n hx hb dX2_read_17 rfl (lv_at hl 0 rfl) ?_
    refine lv_iconst hx hb dX2_read_18 k_iconst_0 ?_
    refine wx_putI hC hH h_o1 rfl f_X2_18 g_2_4 dX2_read_19 hF (fun u8 H locs hF hH => ?_)
    refine lv_aload_n hx hb dX2_read_22 rfl (lv_at hl 0 rfl) ?_
    refine lv_iconst hx hb dX2_read_23 k_iconst_0 ?_
    refine wx_putI hC hH h_o1 rfl f_X2_24 g_2_6 dX2_read_24 hF (fun u9 H locs hF hH => ?_)
    refine lv_aload_n hx hb dX2_read_27 rfl (lv_at hl 0 rfl) ?_
    refine wx_getR hC hH h_o1 rfl f_X2_42 dX2_read_28 hF (fun o10 h_o10 hF => ?_)
    refine lv_iload_n hx hb dX2_read_31 rfl (lv_at hl 1 rfl) ?_
    refine wx_evv hC hH hl (c_X5_split o10 i2 h_o10) y_X5_split v_X5_split h_o10 rfl m_X2_55 rfl ⟨Nat.le_of_ble_eq_true rfl, Nat.le_of_ble_eq_true rfl⟩ ⟨Nat.le_refl _, Nat.le_refl _⟩ rfl (Nat.le_of_ble_eq_true rfl) dX2_read_32 hF (fun _ u11 H locs hF hH => ?_)
    refine lv_iconst hx hb dX2_read_35 k_iconst_0 ?_
    refine wx_istore_n hx hb dX2_read_36 rfl hl (by decide) (fun ls hl => ?_)
    have hl : lv_has ls 4 [(3, .int (0 : Int32)), (0, .ref (ρ o1)), (1, .int i2), (2, .ref (ρ o3))] := hl
    obtain ⟨q12_, hF, hq12⟩ := wJ_some hF
    have hJ73 : ∀ (u13 : wSt) (H : Heap) (locs : List Loc) (ls : Array Slot), F_X2_read_j73 o1 u13 = some z → wHp D κ ρ 0 A s.heap H locs u13 → lv_has ls 4 [(0, .ref (ρ o1))] → W p l e (wRm 6 129) s m args below meth c H locs 0 0 (wQI below args s A D κ ρ 0 z) (F0 m 73 ls []) := by
      intro u13 H locs ls hF hH hl
      unfold F_X2_read_j73 at hF
      refine lv_aload_n hx hb dX2_read_73 rfl (lv_at hl 0 rfl) ?_
      refine wx_getI hC hH h_o1 rfl f_X2_9 dX2_read_74 ?_
      refine lv_if_ne hx hb dX2_read_77 (tgt := 84) rfl (fun h => ?_) (fun h => ?_)
      · have hF := wx_f h hF
        refine lv_iconst hx hb dX2_read_84 k_iconst_0 ?_
        exact wx_zret hC hH hr hlk dX2_read_85 (Or.inl rfl) hF
      have hF := wx_t h hF
      refine lv_iconst hx hb dX2_read_80 k_iconst_1 ?_
      refine lv_goto hx hb dX2_read_81 (tgt := 85) rfl ?_
      exact wx_zret hC hH hr hlk dX2_read_85 (Or.inr rfl) hF
    have hL37 : ∀ (k14_ : Nat) (i15 : Int32) (u16 : wSt) (H : Heap) (locs : List Loc) (ls : Array Slot), wL (S := Int32 × wSt) (fun x => F_X2_read_b37 o1 x.1 x.2) k14_ (i15, u16) = some q12_ → wHp D κ ρ 0 A s.heap H locs u16 → lv_has ls 4 [(0, .ref (ρ o1)), (3, .int i15)] → W p l e (wRm 6 129) s m args below meth c H locs 0 0 (wQI below args s A D κ ρ 0 z) (F0 m 37 ls []) := by
      intro k14_
      induction k14_ with
      | zero => intro i15 u16 H locs ls hF; exact wL_zero hF
      | succ k14_ ih14 =>
        intro i15 u16 H locs ls hF hH hl
        obtain ⟨q14_, hF, hq14⟩ := wL_some hF
        have hF : F_X2_read_b37 o1 i15 u16 = some q14_ := hF
        unfold F_X2_read_b37 at hF
        refine lv_iload_n hx hb dX2_read_37 rfl (lv_at hl 1 rfl) ?_
        refine lv_sipush hx hb dX2_read_38 k_sipush_700 ?_
        refine lv_icmp_ge hx hb dX2_read_41 (tgt := 73) rfl (fun h => ?_) (fun h => ?_)
        · have hF := wx_t h hF
          have hF := wJ_r hq14 hF
          have hF := wJ_l hq12 hF
          exact hJ73 u16 H locs ls hF hH (lv_sub hl [0] rfl)
        have hF := wx_f h hF
        refine lv_aload_n hx hb dX2_read_44 rfl (lv_at hl 0 rfl) ?_
        refine wx_getI hC hH h_o1 rfl f_X2_9 dX2_read_45 ?_
        refine lv_if_ne hx hb dX2_read_48 (tgt := 73) rfl (fun h => ?_) (fun h => ?_)
        · have hF := wx_f h hF
          have hF := wJ_r hq14 hF
          have hF := wJ_l hq12 hF
          exact hJ73 u16 H locs ls hF hH (lv_sub hl [0] rfl)
        have hF := wx_t h hF
        refine lv_aload_n hx hb dX2_read_51 rfl (lv_at hl 0 rfl) ?_
        refine wx_getR hC hH h_o1 rfl f_X2_42 dX2_read_52 hF (fun o17 h_o17 hF => ?_)
        refine wx_getI hC hH h_o17 rfl f_X2_59 dX2_read_55 ?_
        refine lv_bipush hx hb dX2_read_58 k_bipush_35 ?_
        refine lv_icmp_eq hx hb dX2_read_60 (tgt := 73) rfl (fun h => ?_) (fun h => ?_)
        · have hF := wx_t h hF
          have hF := wJ_r hq14 hF
          have hF := wJ_l hq12 hF
          exact hJ73 u16 H locs ls hF hH (lv_sub hl [0] rfl)
        have hF := wx_f h hF
        refine lv_aload_n hx hb dX2_read_63 rfl (lv_at hl 0 rfl) ?_
        refine wx_evv hC hH hl (c_X2_readLine o1 h_o1) y_X2_readLine v_X2_readLine h_o1 rfl m_X2_62 rfl ⟨Nat.le_of_ble_eq_true rfl, Nat.le_of_ble_eq_true rfl⟩ ⟨Nat.le_refl _, Nat.le_refl _⟩ rfl (Nat.le_of_ble_eq_true rfl) dX2_read_64 hF (fun _ u18 H locs hF hH => ?_)
        refine wx_iinc hx hb dX2_read_67 k_iconst_1 hl (k := 1) rfl (by decide) hF (fun i19 ls hF hl => ?_)
        have hl : lv_has ls 4 [(3, .int i19), (0, .ref (ρ o1))] := hl
        refine lv_goto hx hb dX2_read_70 (tgt := 37) rfl ?_
        have hF := wJ_l hq14 hF
        exact ih14 i19 u18 H locs ls hF hH (lv_sub hl [1, 0] rfl)
    exact hL37 wFu (0 : Int32) u11 H locs ls hF hH (lv_sub hl [1, 0] rfl)
  exact key _ _ hH
def F_X3_begin_b77 (o1 : Nat) (i10 : Int32) (u11 : wSt) : Option ((Int32 × wSt) ⊕ (Unit × wSt)) :=
  if (8 : Int32) ≤ i10 then (some (.inr ((), u11))) else (wR (u11.2.2 o1 8) 10 (fun o12 => wSI u11 o12 i10 (0 : Int32) (fun (u13 : wSt) => wR (u13.2.2 o1 9) 10 (fun o14 => wSI u13 o14 i10 (0 : Int32) (fun (u15 : wSt) => wB (i10 + (1 : Int32)) (fun (i16 : Int32) => some (.inl (i16, u15))))))))
def F_X3_begin_j75 (o1 : Nat) (u8 : wSt) : Option (Unit × wSt) :=
  wL (S := Int32 × wSt) (fun x => F_X3_begin_b77 o1 x.1 x.2) wFu ((0 : Int32), u8)
def F_X3_begin_b25 (o1 : Nat) (o2 : Nat) (i18 : Int32) (u19 : wSt) : Option ((Int32 × wSt) ⊕ ((wSt) ⊕ (Unit × wSt))) :=
  if (6 : Int32) ≤ i18 then (some (.inr (.inl u19))) else (wR (u19.2.2 o1 4) 10 (fun o20 => wSI u19 o20 i18 i18 (fun (u21 : wSt) => wR (u21.2.2 o1 5) 10 (fun o22 => wR (u21.2.2 o2 8) 10 (fun o23 => wN i18 o23 (fun j24 => wSI u21 o22 i18 (u21.1 o23 j24) (fun (u25 : wSt) => wR (u25.2.2 o1 6) 10 (fun o26 => wR (u25.2.2 o2 9) 10 (fun o27 => wN i18 o27 (fun j28 => wSI u25 o26 i18 (u25.1 o27 j28) (fun (u29 : wSt) => wR (u29.2.2 o1 7) 10 (fun o30 => wSI u29 o30 i18 (0 : Int32) (fun (u31 : wSt) => wB (i18 + (1 : Int32)) (fun (i32 : Int32) => some (.inl (i32, u31))))))))))))))))
def F_X3_begin (o1 : Nat) (o2 : Nat) (u0 : wSt) : Option (Unit × wSt) :=
  wB (w_sI u0 o1 0 (0 : Int32)) (fun (u3 : wSt) => wB (w_sI u3 o1 1 (u3.1 o2 6)) (fun (u4 : wSt) => wB (w_sI u4 o1 2 (0 : Int32)) (fun (u5 : wSt) => wB (w_sI u5 o1 3 (0 : Int32)) (fun (u6 : wSt) => wJ (X := wSt) (wL (S := Int32 × wSt) (fun x => F_X3_begin_b25 o1 o2 x.1 x.2) wFu ((0 : Int32), u6)) (fun x => F_X3_begin_j75 o1 x)))))
set_option maxRecDepth 100000 in
set_option maxHeartbeats 4000000 in
theorem c_X3_begin {l : Launch} {D : va_G} {κ : Nat → ClassId} {ρ : Nat → Nat} (o1 : Nat) (o2 : Nat) (h_o1 : (w_sh o1).1 = 3) (h_o2 : (w_sh o2).1 = 6) : wMV l yX3_begin cX3_begin 3 (wRm 0 0) [.ref (ρ o1), .ref (ρ o2)] D κ ρ 0 (fun u => F_X3_begin o1 o2 u) := by
  refine wMV_of (F := fun u => F_X3_begin o1 o2 u) rfl (Nat.le_of_ble_eq_true rfl) (fun u0 z p e s m args below meth c ls A hF hC hr hlk hH hl => ?_)
  have hl : lv_has ls 3 [(0, .ref (ρ o1)), (1, .ref (ρ o2))] := hl
  have hx := hC.1.1
  have hb := hC.1.2.1
  have hF : F_X3_begin o1 o2 u0 = some z := hF
  unfold F_X3_begin at hF
  change W p l e (wRm 0 0) s m args below meth c s.heap [] 0 0 (wQV below args s A D κ ρ 0 z) (F0 m 0 ls [])
  have key : ∀ (H : Heap) (locs : List Loc), wHp D κ ρ 0 A s.heap H locs u0 → W p l e (wRm 0 0) s m args below meth c H locs 0 0 (wQV below args s A D κ ρ 0 z) (F0 m 0 ls []) := by
    intro H locs hH
    refine lv_aload_n hx hb dX3_begin_0 rfl (lv_at hl 0 rfl) ?_
    refine lv_iconst hx hb dX3_begin_1 k_iconst_0 ?_
    refine wx_putI hC hH h_o1 rfl f_X3_9 g_3_0 dX3_begin_2 hF (fun u3 H locs hF hH => ?_)
    refine lv_aload_n hx hb dX3_begin_5 rfl (lv_at hl 0 rfl) ?_
    refine lv_aload_n hx hb dX3_begin_6 rfl (lv_at hl 1 rfl) ?_
    refine wx_getI hC hH h_o2 rfl f_X3_43 dX3_begin_7 ?_
    refine wx_putI hC hH h_o1 rfl f_X3_15 g_3_1 dX3_begin_10 hF (fun u4 H locs hF hH => ?_)
    refine lv_aload_n hx hb dX3_begin_13 rfl (lv_at hl 0 rfl) ?_
    refine lv_iconst hx hb dX3_begin_14 k_iconst_0 ?_
    refine wx_putI hC hH h_o1 rfl f_X3_18 g_3_2 dX3_begin_15 hF (fun u5 H locs hF hH => ?_)
    refine lv_aload_n hx hb dX3_begin_18 rfl (lv_at hl 0 rfl) ?_
    refine lv_iconst hx hb dX3_begin_19 k_iconst_0 ?_
    refine wx_putI hC hH h_o1 rfl f_X3_21 g_3_3 dX3_begin_20 hF (fun u6 H locs hF hH => ?_)
    refine lv_iconst hx hb dX3_begin_23 k_iconst_0 ?_
    refine wx_istore_n hx hb dX3_begin_24 rfl hl (by decide) (fun ls hl => ?_)
    have hl : lv_has ls 3 [(2, .int (0 : Int32)), (0, .ref (ρ o1)), (1, .ref (ρ o2))] := hl
    obtain ⟨q7_, hF, hq7⟩ := wJ_some hF
    have hJ75 : ∀ (u8 : wSt) (H : Heap) (locs : List Loc) (ls : Array Slot), F_X3_begin_j75 o1 u8 = some z → wHp D κ ρ 0 A s.heap H locs u8 → lv_has ls 3 [(0, .ref (ρ o1))] → W p l e (wRm 0 0) s m args below meth c H locs 0 0 (wQV below args s A D κ ρ 0 z) (F0 m 75 ls []) := by
      intro u8 H locs ls hF hH hl
      unfold F_X3_begin_j75 at hF
      refine lv_iconst hx hb dX3_begin_75 k_iconst_0 ?_
      refine wx_istore_n hx hb dX3_begin_76 rfl hl (by decide) (fun ls hl => ?_)
      have hl : lv_has ls 3 [(2, .int (0 : Int32)), (0, .ref (ρ o1))] := hl
      have hL77 : ∀ (k9_ : Nat) (i10 : Int32) (u11 : wSt) (H : Heap) (locs : List Loc) (ls : Array Slot), wL (S := Int32 × wSt) (fun x => F_X3_begin_b77 o1 x.1 x.2) k9_ (i10, u11) = some z → wHp D κ ρ 0 A s.heap H locs u11 → lv_has ls 3 [(0, .ref (ρ o1)), (2, .int i10)] → W p l e (wRm 0 0) s m args below meth c H locs 0 0 (wQV below args s A D κ ρ 0 z) (F0 m 77 ls []) := by
        intro k9_
        induction k9_ with
        | zero => intro i10 u11 H locs ls hF; exact wL_zero hF
        | succ k9_ ih9 =>
          intro i10 u11 H locs ls hF hH hl
          obtain ⟨q9_, hF, hq9⟩ := wL_some hF
          have hF : F_X3_begin_b77 o1 i10 u11 = some q9_ := hF
          unfold F_X3_begin_b77 at hF
          refine lv_iload_n hx hb dX3_begin_77 rfl (lv_at hl 1 rfl) ?_
          refine lv_bipush hx hb dX3_begin_78 k_bipush_8 ?_
          refine lv_icmp_ge hx hb dX3_begin_80 (tgt := 103) rfl (fun h => ?_) (fun h => ?_)
          · have hF := wx_t h hF
            have hF := wJ_r hq9 hF
            exact wx_vret hC hH hr hlk dX3_begin_103 hF
          have hF := wx_f h hF
          refine lv_aload_n hx hb dX3_begin_83 rfl (lv_at hl 0 rfl) ?_
          refine wx_getR hC hH h_o1 rfl f_X3_37 dX3_begin_84 hF (fun o12 h_o12 hF => ?_)
          refine lv_iload_n hx hb dX3_begin_87 rfl (lv_at hl 1 rfl) ?_
          refine lv_iconst hx hb dX3_begin_88 k_iconst_0 ?_
          refine wx_iast hC hH h_o12 ⟨rfl, rfl⟩ dX3_begin_89 hF (fun u13 H locs hF hH => ?_)
          refine lv_aload_n hx hb dX3_begin_90 rfl (lv_at hl 0 rfl) ?_
          refine wx_getR hC hH h_o1 rfl f_X3_40 dX3_begin_91 hF (fun o14 h_o14 hF => ?_)
          refine lv_iload_n hx hb dX3_begin_94 rfl (lv_at hl 1 rfl) ?_
          refine lv_iconst hx hb dX3_begin_95 k_iconst_0 ?_
          refine wx_iast hC hH h_o14 ⟨rfl, rfl⟩ dX3_begin_96 hF (fun u15 H locs hF hH => ?_)
          refine wx_iinc hx hb dX3_begin_97 k_iconst_1 hl (k := 1) rfl (by decide) hF (fun i16 ls hF hl => ?_)
          have hl : lv_has ls 3 [(2, .int i16), (0, .ref (ρ o1))] := hl
          refine lv_goto hx hb dX3_begin_100 (tgt := 77) rfl ?_
          have hF := wJ_l hq9 hF
          exact ih9 i16 u15 H locs ls hF hH (lv_sub hl [1, 0] rfl)
      exact hL77 wFu (0 : Int32) u8 H locs ls hF hH (lv_sub hl [1, 0] rfl)
    have hL25 : ∀ (k17_ : Nat) (i18 : Int32) (u19 : wSt) (H : Heap) (locs : List Loc) (ls : Array Slot), wL (S := Int32 × wSt) (fun x => F_X3_begin_b25 o1 o2 x.1 x.2) k17_ (i18, u19) = some q7_ → wHp D κ ρ 0 A s.heap H locs u19 → lv_has ls 3 [(0, .ref (ρ o1)), (1, .ref (ρ o2)), (2, .int i18)] → W p l e (wRm 0 0) s m args below meth c H locs 0 0 (wQV below args s A D κ ρ 0 z) (F0 m 25 ls []) := by
      intro k17_
      induction k17_ with
      | zero => intro i18 u19 H locs ls hF; exact wL_zero hF
      | succ k17_ ih17 =>
        intro i18 u19 H locs ls hF hH hl
        obtain ⟨q17_, hF, hq17⟩ := wL_some hF
        have hF : F_X3_begin_b25 o1 o2 i18 u19 = some q17_ := hF
        unfold F_X3_begin_b25 at hF
        refine lv_iload_n hx hb dX3_begin_25 rfl (lv_at hl 2 rfl) ?_
        refine lv_bipush hx hb dX3_begin_26 k_bipush_6 ?_
        refine lv_icmp_ge hx hb dX3_begin_28 (tgt := 75) rfl (fun h => ?_) (fun h => ?_)
        · have hF := wx_t h hF
          have hF := wJ_r hq17 hF
          have hF := wJ_l hq7 hF
          exact hJ75 u19 H locs ls hF hH (lv_sub hl [0] rfl)
        have hF := wx_f h hF
        refine lv_aload_n hx hb dX3_begin_31 rfl (lv_at hl 0 rfl) ?_
        refine wx_getR hC hH h_o1 rfl f_X3_24 dX3_begin_32 hF (fun o20 h_o20 hF => ?_)
        refine lv_iload_n hx hb dX3_begin_35 rfl (lv_at hl 2 rfl) ?_
        refine lv_iload_n hx hb dX3_begin_36 rfl (lv_at hl 2 rfl) ?_
        refine wx_iast hC hH h_o20 ⟨rfl, rfl⟩ dX3_begin_37 hF (fun u21 H locs hF hH => ?_)
        refine lv_aload_n hx hb dX3_begin_38 rfl (lv_at hl 0 rfl) ?_
        refine wx_getR hC hH h_o1 rfl f_X3_28 dX3_begin_39 hF (fun o22 h_o22 hF => ?_)
        refine lv_iload_n hx hb dX3_begin_42 rfl (lv_at hl 2 rfl) ?_
        refine lv_aload_n hx hb dX3_begin_43 rfl (lv_at hl 1 rfl) ?_
        refine wx_getR hC hH h_o2 rfl f_X3_48 dX3_begin_44 hF (fun o23 h_o23 hF => ?_)
        refine lv_iload_n hx hb dX3_begin_47 rfl (lv_at hl 2 rfl) ?_
        refine wx_iald hC hH h_o23 ⟨rfl, rfl⟩ dX3_begin_48 hF (fun j24 hF => ?_)
        refine wx_iast hC hH h_o22 ⟨rfl, rfl⟩ dX3_begin_49 hF (fun u25 H locs hF hH => ?_)
        refine lv_aload_n hx hb dX3_begin_50 rfl (lv_at hl 0 rfl) ?_
        refine wx_getR hC hH h_o1 rfl f_X3_31 dX3_begin_51 hF (fun o26 h_o26 hF => ?_)
        refine lv_iload_n hx hb dX3_begin_54 rfl (lv_at hl 2 rfl) ?_
        refine lv_aload_n hx hb dX3_begin_55 rfl (lv_at hl 1 rfl) ?_
        refine wx_getR hC hH h_o2 rfl f_X3_49 dX3_begin_56 hF (fun o27 h_o27 hF => ?_)
        refine lv_iload_n hx hb dX3_begin_59 rfl (lv_at hl 2 rfl) ?_
        refine wx_iald hC hH h_o27 ⟨rfl, rfl⟩ dX3_begin_60 hF (fun j28 hF => ?_)
        refine wx_iast hC hH h_o26 ⟨rfl, rfl⟩ dX3_begin_61 hF (fun u29 H locs hF hH => ?_)
        refine lv_aload_n hx hb dX3_begin_62 rfl (lv_at hl 0 rfl) ?_
        refine wx_getR hC hH h_o1 rfl f_X3_34 dX3_begin_63 hF (fun o30 h_o30 hF => ?_)
        refine lv_iload_n hx hb dX3_begin_66 rfl (lv_at hl 2 rfl) ?_
        refine lv_iconst hx hb dX3_begin_67 k_iconst_0 ?_
        refine wx_iast hC hH h_o30 ⟨rfl, rfl⟩ dX3_begin_68 hF (fun u31 H locs hF hH => ?_)
        refine wx_iinc hx hb dX3_begin_69 k_iconst_1 hl (k := 2) rfl (by decide) hF (fun i32 ls hF hl => ?_)
        have hl : lv_has ls 3 [(2, .int i32), (0, .ref (ρ o1)), (1, .ref (ρ o2))] := hl
        refine lv_goto hx hb dX3_begin_72 (tgt := 25) rfl ?_
        have hF := wJ_l hq17 hF
        exact ih17 i32 u31 H locs ls hF hH (lv_sub hl [1, 2, 0] rfl)
    exact hL25 wFu (0 : Int32) u6 H locs ls hF hH (lv_sub hl [1, 2, 0] rfl)
  exact key _ _ hH
def F_X3_take (o1 : Nat) (o2 : Nat) (u0 : wSt) : Option (Unit × wSt) :=
  wB (w_sI u0 o1 0 (u0.1 o2 0)) (fun (u3 : wSt) => wB (w_sI u3 o1 1 (u3.1 o2 1)) (fun (u4 : wSt) => wB (w_sI u4 o1 2 (u4.1 o2 2)) (fun (u5 : wSt) => wB (w_sI u5 o1 3 (u5.1 o2 3)) (fun (u6 : wSt) => wR (u6.2.2 o2 4) 10 (fun o7 => wR (u6.2.2 o1 4) 10 (fun o8 => wCP u6 o7 (0 : Int32) o8 (0 : Int32) (6 : Int32) (fun (u9 : wSt) => wR (u9.2.2 o2 5) 10 (fun o10 => wR (u9.2.2 o1 5) 10 (fun o11 => wCP u9 o10 (0 : Int32) o11 (0 : Int32) (6 : Int32) (fun (u12 : wSt) => wR (u12.2.2 o2 6) 10 (fun o13 => wR (u12.2.2 o1 6) 10 (fun o14 => wCP u12 o13 (0 : Int32) o14 (0 : Int32) (6 : Int32) (fun (u15 : wSt) => wR (u15.2.2 o2 7) 10 (fun o16 => wR (u15.2.2 o1 7) 10 (fun o17 => wCP u15 o16 (0 : Int32) o17 (0 : Int32) (6 : Int32) (fun (u18 : wSt) => wR (u18.2.2 o2 8) 10 (fun o19 => wR (u18.2.2 o1 8) 10 (fun o20 => wCP u18 o19 (0 : Int32) o20 (0 : Int32) (8 : Int32) (fun (u21 : wSt) => wR (u21.2.2 o2 9) 10 (fun o22 => wR (u21.2.2 o1 9) 10 (fun o23 => wCP u21 o22 (0 : Int32) o23 (0 : Int32) (8 : Int32) (fun (u24 : wSt) => some ((), u24)))))))))))))))))))))))
set_option maxRecDepth 100000 in
set_option maxHeartbeats 4000000 in
theorem c_X3_take {l : Launch} {D : va_G} {κ : Nat → ClassId} {ρ : Nat → Nat} (o1 : Nat) (o2 : Nat) (h_o1 : (w_sh o1).1 = 3) (h_o2 : (w_sh o2).1 = 3) : wMV l yX3_take cX3_take 2 (wRm 1 26) [.ref (ρ o1), .ref (ρ o2)] D κ ρ 0 (fun u => F_X3_take o1 o2 u) := by
  refine wMV_of (F := fun u => F_X3_take o1 o2 u) rfl (Nat.le_of_ble_eq_true rfl) (fun u0 z p e s m args below meth c ls A hF hC hr hlk hH hl => ?_)
  have hl : lv_has ls 2 [(0, .ref (ρ o1)), (1, .ref (ρ o2))] := hl
  have hx := hC.1.1
  have hb := hC.1.2.1
  have hF : F_X3_take o1 o2 u0 = some z := hF
  unfold F_X3_take at hF
  change W p l e (wRm 1 26) s m args below meth c s.heap [] 0 0 (wQV below args s A D κ ρ 0 z) (F0 m 0 ls [])
  have key : ∀ (H : Heap) (locs : List Loc), wHp D κ ρ 0 A s.heap H locs u0 → W p l e (wRm 1 26) s m args below meth c H locs 0 0 (wQV below args s A D κ ρ 0 z) (F0 m 0 ls []) := by
    intro H locs hH
    refine lv_aload_n hx hb dX3_take_0 rfl (lv_at hl 0 rfl) ?_
    refine lv_aload_n hx hb dX3_take_1 rfl (lv_at hl 1 rfl) ?_
    refine wx_getI hC hH h_o2 rfl f_X3_9 dX3_take_2 ?_
    refine wx_putI hC hH h_o1 rfl f_X3_9 g_3_0 dX3_take_5 hF (fun u3 H locs hF hH => ?_)
    refine lv_aload_n hx hb dX3_take_8 rfl (lv_at hl 0 rfl) ?_
    refine lv_aload_n hx hb dX3_take_9 rfl (lv_at hl 1 rfl) ?_
    refine wx_getI hC hH h_o2 rfl f_X3_15 dX3_take_10 ?_
    refine wx_putI hC hH h_o1 rfl f_X3_15 g_3_1 dX3_take_13 hF (fun u4 H locs hF hH => ?_)
    refine lv_aload_n hx hb dX3_take_16 rfl (lv_at hl 0 rfl) ?_
    refine lv_aload_n hx hb dX3_take_17 rfl (lv_at hl 1 rfl) ?_
    refine wx_getI hC hH h_o2 rfl f_X3_18 dX3_take_18 ?_
    refine wx_putI hC hH h_o1 rfl f_X3_18 g_3_2 dX3_take_21 hF (fun u5 H locs hF hH => ?_)
    refine lv_aload_n hx hb dX3_take_24 rfl (lv_at hl 0 rfl) ?_
    refine lv_aload_n hx hb dX3_take_25 rfl (lv_at hl 1 rfl) ?_
    refine wx_getI hC hH h_o2 rfl f_X3_21 dX3_take_26 ?_
    refine wx_putI hC hH h_o1 rfl f_X3_21 g_3_3 dX3_take_29 hF (fun u6 H locs hF hH => ?_)
    refine lv_aload_n hx hb dX3_take_32 rfl (lv_at hl 1 rfl) ?_
    refine wx_getR hC hH h_o2 rfl f_X3_24 dX3_take_33 hF (fun o7 h_o7 hF => ?_)
    refine lv_iconst hx hb dX3_take_36 k_iconst_0 ?_
    refine lv_aload_n hx hb dX3_take_37 rfl (lv_at hl 0 rfl) ?_
    refine wx_getR hC hH h_o1 rfl f_X3_24 dX3_take_38 hF (fun o8 h_o8 hF => ?_)
    refine lv_iconst hx hb dX3_take_41 k_iconst_0 ?_
    refine lv_bipush hx hb dX3_take_42 k_bipush_6 ?_
    refine wx_copy hC hH hl.1 h_o7 h_o8 rfl m_X3_50 ⟨Nat.le_of_ble_eq_true rfl, Nat.le_of_ble_eq_true rfl⟩ dX3_take_44 hF (fun u9 H locs hF hH => ?_)
    refine lv_aload_n hx hb dX3_take_47 rfl (lv_at hl 1 rfl) ?_
    refine wx_getR hC hH h_o2 rfl f_X3_28 dX3_take_48 hF (fun o10 h_o10 hF => ?_)
    refine lv_iconst hx hb dX3_take_51 k_iconst_0 ?_
    refine lv_aload_n hx hb dX3_take_52 rfl (lv_at hl 0 rfl) ?_
    refine wx_getR hC hH h_o1 rfl f_X3_28 dX3_take_53 hF (fun o11 h_o11 hF => ?_)
    refine lv_iconst hx hb dX3_take_56 k_iconst_0 ?_
    refine lv_bipush hx hb dX3_take_57 k_bipush_6 ?_
    refine wx_copy hC hH hl.1 h_o10 h_o11 rfl m_X3_50 ⟨Nat.le_of_ble_eq_true rfl, Nat.le_of_ble_eq_true rfl⟩ dX3_take_59 hF (fun u12 H locs hF hH => ?_)
    refine lv_aload_n hx hb dX3_take_62 rfl (lv_at hl 1 rfl) ?_
    refine wx_getR hC hH h_o2 rfl f_X3_31 dX3_take_63 hF (fun o13 h_o13 hF => ?_)
    refine lv_iconst hx hb dX3_take_66 k_iconst_0 ?_
    refine lv_aload_n hx hb dX3_take_67 rfl (lv_at hl 0 rfl) ?_
    refine wx_getR hC hH h_o1 rfl f_X3_31 dX3_take_68 hF (fun o14 h_o14 hF => ?_)
    refine lv_iconst hx hb dX3_take_71 k_iconst_0 ?_
    refine lv_bipush hx hb dX3_take_72 k_bipush_6 ?_
    refine wx_copy hC hH hl.1 h_o13 h_o14 rfl m_X3_50 ⟨Nat.le_of_ble_eq_true rfl, Nat.le_of_ble_eq_true rfl⟩ dX3_take_74 hF (fun u15 H locs hF hH => ?_)
    refine lv_aload_n hx hb dX3_take_77 rfl (lv_at hl 1 rfl) ?_
    refine wx_getR hC hH h_o2 rfl f_X3_34 dX3_take_78 hF (fun o16 h_o16 hF => ?_)
    refine lv_iconst hx hb dX3_take_81 k_iconst_0 ?_
    refine lv_aload_n hx hb dX3_take_82 rfl (lv_at hl 0 rfl) ?_
    refine wx_getR hC hH h_o1 rfl f_X3_34 dX3_take_83 hF (fun o17 h_o17 hF => ?_)
    refine lv_iconst hx hb dX3_take_86 k_iconst_0 ?_
    refine lv_bipush hx hb dX3_take_87 k_bipush_6 ?_
    refine wx_copy hC hH hl.1 h_o16 h_o17 rfl m_X3_50 ⟨Nat.le_of_ble_eq_true rfl, Nat.le_of_ble_eq_true rfl⟩ dX3_take_89 hF (fun u18 H locs hF hH => ?_)
    refine lv_aload_n hx hb dX3_take_92 rfl (lv_at hl 1 rfl) ?_
    refine wx_getR hC hH h_o2 rfl f_X3_37 dX3_take_93 hF (fun o19 h_o19 hF => ?_)
    refine lv_iconst hx hb dX3_take_96 k_iconst_0 ?_
    refine lv_aload_n hx hb dX3_take_97 rfl (lv_at hl 0 rfl) ?_
    refine wx_getR hC hH h_o1 rfl f_X3_37 dX3_take_98 hF (fun o20 h_o20 hF => ?_)
    refine lv_iconst hx hb dX3_take_101 k_iconst_0 ?_
    refine lv_bipush hx hb dX3_take_102 k_bipush_8 ?_
    refine wx_copy hC hH hl.1 h_o19 h_o20 rfl m_X3_50 ⟨Nat.le_of_ble_eq_true rfl, Nat.le_of_ble_eq_true rfl⟩ dX3_take_104 hF (fun u21 H locs hF hH => ?_)
    refine lv_aload_n hx hb dX3_take_107 rfl (lv_at hl 1 rfl) ?_
    refine wx_getR hC hH h_o2 rfl f_X3_40 dX3_take_108 hF (fun o22 h_o22 hF => ?_)
    refine lv_iconst hx hb dX3_take_111 k_iconst_0 ?_
    refine lv_aload_n hx hb dX3_take_112 rfl (lv_at hl 0 rfl) ?_
    refine wx_getR hC hH h_o1 rfl f_X3_40 dX3_take_113 hF (fun o23 h_o23 hF => ?_)
    refine lv_iconst hx hb dX3_take_116 k_iconst_0 ?_
    refine lv_bipush hx hb dX3_take_117 k_bipush_8 ?_
    refine wx_copy hC hH hl.1 h_o22 h_o23 rfl m_X3_50 ⟨Nat.le_of_ble_eq_true rfl, Nat.le_of_ble_eq_true rfl⟩ dX3_take_119 hF (fun u24 H locs hF hH => ?_)
    exact wx_vret hC hH hr hlk dX3_take_122 hF
  exact key _ _ hH
def F_X3_hasFainted (o1 : Nat) (i2 : Int32) (u0 : wSt) : Option Int32 :=
  if (((u0.1 o1 2) >>> (i2 &&& 31)) &&& (1 : Int32)) = 0 then (some ((0 : Int32))) else (some ((1 : Int32)))
set_option maxRecDepth 100000 in
set_option maxHeartbeats 4000000 in
theorem c_X3_hasFainted {l : Launch} {D : va_G} {κ : Nat → ClassId} {ρ : Nat → Nat} (o1 : Nat) (i2 : Int32) (h_o1 : (w_sh o1).1 = 3) : wMI l yX3_hasFainted cX3_hasFainted 2 .boolean (wRm 0 0) [.ref (ρ o1), .int i2] D κ ρ 0 (fun u => wPu (F_X3_hasFainted o1 i2 u) u) := by
  refine wMP_of (F := fun u => F_X3_hasFainted o1 i2 u) rfl (Nat.le_of_ble_eq_true rfl) (fun u0 z p e s m args below meth c ls A hF hC hr hlk hH hl => ?_)
  have hl : lv_has ls 2 [(0, .ref (ρ o1)), (1, .int i2)] := hl
  have hx := hC.1.1
  have hb := hC.1.2.1
  have hF : F_X3_hasFainted o1 i2 u0 = some z := hF
  unfold F_X3_hasFainted at hF
  change W p l e (wRm 0 0) s m args below meth c s.heap [] 0 0 (wQI below args s A D κ ρ 0 (z, u0)) (F0 m 0 ls [])
  have key : ∀ (H : Heap) (locs : List Loc), wHp D κ ρ 0 A s.heap H locs u0 → W p l e (wRm 0 0) s m args below meth c H locs 0 0 (wQI below args s A D κ ρ 0 (z, u0)) (F0 m 0 ls []) := by
    intro H locs hH
    refine lv_aload_n hx hb dX3_hasFainted_0 rfl (lv_at hl 0 rfl) ?_
    refine wx_getI hC hH h_o1 rfl f_X3_18 dX3_hasFainted_1 ?_
    refine lv_iload_n hx hb dX3_hasFainted_4 rfl (lv_at hl 1 rfl) ?_
    refine lv_ishr hx hb dX3_hasFainted_5 ?_
    refine lv_iconst hx hb dX3_hasFainted_6 k_iconst_1 ?_
    refine lv_iand hx hb dX3_hasFainted_7 ?_
    refine lv_if_eq hx hb dX3_hasFainted_8 (tgt := 15) rfl (fun h => ?_) (fun h => ?_)
    · have hF := wx_t h hF
      refine lv_iconst hx hb dX3_hasFainted_15 k_iconst_0 ?_
      exact wx_zret hC hH hr hlk dX3_hasFainted_16 (Or.inl rfl) (wx_pr hF)
    have hF := wx_f h hF
    refine lv_iconst hx hb dX3_hasFainted_11 k_iconst_1 ?_
    refine lv_goto hx hb dX3_hasFainted_12 (tgt := 16) rfl ?_
    exact wx_zret hC hH hr hlk dX3_hasFainted_16 (Or.inr rfl) (wx_pr hF)
  exact key _ _ hH
def F_X3_comeTo (o1 : Nat) (i2 : Int32) (u0 : wSt) : Option (Unit × wSt) :=
  wB (w_sI u0 o1 2 ((u0.1 o1 2) &&& (((1 : Int32) <<< (i2 &&& 31)) ^^^ (-1 : Int32)))) (fun (u3 : wSt) => some ((), u3))
set_option maxRecDepth 100000 in
set_option maxHeartbeats 4000000 in
theorem c_X3_comeTo {l : Launch} {D : va_G} {κ : Nat → ClassId} {ρ : Nat → Nat} (o1 : Nat) (i2 : Int32) (h_o1 : (w_sh o1).1 = 3) : wMV l yX3_comeTo cX3_comeTo 2 (wRm 0 0) [.ref (ρ o1), .int i2] D κ ρ 0 (fun u => F_X3_comeTo o1 i2 u) := by
  refine wMV_of (F := fun u => F_X3_comeTo o1 i2 u) rfl (Nat.le_of_ble_eq_true rfl) (fun u0 z p e s m args below meth c ls A hF hC hr hlk hH hl => ?_)
  have hl : lv_has ls 2 [(0, .ref (ρ o1)), (1, .int i2)] := hl
  have hx := hC.1.1
  have hb := hC.1.2.1
  have hF : F_X3_comeTo o1 i2 u0 = some z := hF
  unfold F_X3_comeTo at hF
  change W p l e (wRm 0 0) s m args below meth c s.heap [] 0 0 (wQV below args s A D κ ρ 0 z) (F0 m 0 ls [])
  have key : ∀ (H : Heap) (locs : List Loc), wHp D κ ρ 0 A s.heap H locs u0 → W p l e (wRm 0 0) s m args below meth c H locs 0 0 (wQV below args s A D κ ρ 0 z) (F0 m 0 ls []) := by
    intro H locs hH
    refine lv_aload_n hx hb dX3_comeTo_0 rfl (lv_at hl 0 rfl) ?_
    refine lv_dup hx hb dX3_comeTo_1 rfl ?_
    refine wx_getI hC hH h_o1 rfl f_X3_18 dX3_comeTo_2 ?_
    refine lv_iconst hx hb dX3_comeTo_5 k_iconst_1 ?_
    refine lv_iload_n hx hb dX3_comeTo_6 rfl (lv_at hl 1 rfl) ?_
    refine lv_ishl hx hb dX3_comeTo_7 ?_
    refine lv_iconst hx hb dX3_comeTo_8 k_iconst_m1 ?_
    refine lv_ixor hx hb dX3_comeTo_9 ?_
    refine lv_iand hx hb dX3_comeTo_10 ?_
    refine wx_putI hC hH h_o1 rfl f_X3_18 g_3_2 dX3_comeTo_11 hF (fun u3 H locs hF hH => ?_)
    exact wx_vret hC hH hr hlk dX3_comeTo_14 hF
  exact key _ _ hH
def F_X3_changeSeats (o1 : Nat) (i2 : Int32) (i3 : Int32) (u0 : wSt) : Option (Unit × wSt) :=
  wR (u0.2.2 o1 4) 10 (fun o4 => wN i2 o4 (fun j5 => wB (u0.1 o4 j5) (fun (i6 : Int32) => wR (u0.2.2 o1 4) 10 (fun o7 => wR (u0.2.2 o1 4) 10 (fun o8 => wN i3 o8 (fun j9 => wSI u0 o7 i2 (u0.1 o8 j9) (fun (u10 : wSt) => wR (u10.2.2 o1 4) 10 (fun o11 => wSI u10 o11 i3 i6 (fun (u12 : wSt) => some ((), u12))))))))))
set_option maxRecDepth 100000 in
set_option maxHeartbeats 4000000 in
theorem c_X3_changeSeats {l : Launch} {D : va_G} {κ : Nat → ClassId} {ρ : Nat → Nat} (o1 : Nat) (i2 : Int32) (i3 : Int32) (h_o1 : (w_sh o1).1 = 3) : wMV l yX3_changeSeats cX3_changeSeats 4 (wRm 0 0) [.ref (ρ o1), .int i2, .int i3] D κ ρ 0 (fun u => F_X3_changeSeats o1 i2 i3 u) := by
  refine wMV_of (F := fun u => F_X3_changeSeats o1 i2 i3 u) rfl (Nat.le_of_ble_eq_true rfl) (fun u0 z p e s m args below meth c ls A hF hC hr hlk hH hl => ?_)
  have hl : lv_has ls 4 [(0, .ref (ρ o1)), (1, .int i2), (2, .int i3)] := hl
  have hx := hC.1.1
  have hb := hC.1.2.1
  have hF : F_X3_changeSeats o1 i2 i3 u0 = some z := hF
  unfold F_X3_changeSeats at hF
  change W p l e (wRm 0 0) s m args below meth c s.heap [] 0 0 (wQV below args s A D κ ρ 0 z) (F0 m 0 ls [])
  have key : ∀ (H : Heap) (locs : List Loc), wHp D κ ρ 0 A s.heap H locs u0 → W p l e (wRm 0 0) s m args below meth c H locs 0 0 (wQV below args s A D κ ρ 0 z) (F0 m 0 ls []) := by
    intro H locs hH
    refine lv_aload_n hx hb dX3_changeSeats_0 rfl (lv_at hl 0 rfl) ?_
    refine wx_getR hC hH h_o1 rfl f_X3_24 dX3_changeSeats_1 hF (fun o4 h_o4 hF => ?_)
    refine lv_iload_n hx hb dX3_changeSeats_4 rfl (lv_at hl 1 rfl) ?_
    refine wx_iald hC hH h_o4 ⟨rfl, rfl⟩ dX3_changeSeats_5 hF (fun j5 hF => ?_)
    refine wx_leti hF (fun i6 hF => ?_)
    refine wx_istore_n hx hb dX3_changeSeats_6 rfl hl (by decide) (fun ls hl => ?_)
    have hl : lv_has ls 4 [(3, .int i6), (0, .ref (ρ o1)), (1, .int i2), (2, .int i3)] := hl
    refine lv_aload_n hx hb dX3_changeSeats_7 rfl (lv_at hl 1 rfl) ?_
    refine wx_getR hC hH h_o1 rfl f_X3_24 dX3_changeSeats_8 hF (fun o7 h_o7 hF => ?_)
    refine lv_iload_n hx hb dX3_changeSeats_11 rfl (lv_at hl 2 rfl) ?_
    refine lv_aload_n hx hb dX3_changeSeats_12 rfl (lv_at hl 1 rfl) ?_
    refine wx_getR hC hH h_o1 rfl f_X3_24 dX3_changeSeats_13 hF (fun o8 h_o8 hF => ?_)
    refine lv_iload_n hx hb dX3_changeSeats_16 rfl (lv_at hl 3 rfl) ?_
    refine wx_iald hC hH h_o8 ⟨rfl, rfl⟩ dX3_changeSeats_17 hF (fun j9 hF => ?_)
    refine wx_iast hC hH h_o7 ⟨rfl, rfl⟩ dX3_changeSeats_18 hF (fun u10 H locs hF hH => ?_)
    refine lv_aload_n hx hb dX3_changeSeats_19 rfl (lv_at hl 1 rfl) ?_
    refine wx_getR hC hH h_o1 rfl f_X3_24 dX3_changeSeats_20 hF (fun o11 h_o11 hF => ?_)
    refine lv_iload_n hx hb dX3_changeSeats_23 rfl (lv_at hl 3 rfl) ?_
    refine lv_iload_n hx hb dX3_changeSeats_24 rfl (lv_at hl 0 rfl) ?_
    refine wx_iast hC hH h_o11 ⟨rfl, rfl⟩ dX3_changeSeats_25 hF (fun u12 H locs hF hH => ?_)
    exact wx_vret hC hH hr hlk dX3_changeSeats_26 hF
  exact key _ _ hH
def F_X4_clear (o1 : Nat) (u0 : wSt) : Option (Unit × wSt) :=
  wB (w_sI u0 o1 0 (0 : Int32)) (fun (u2 : wSt) => wB (w_sI u2 o1 1 (-1 : Int32)) (fun (u3 : wSt) => some ((), u3)))
set_option maxRecDepth 100000 in
set_option maxHeartbeats 4000000 in
theorem c_X4_clear {l : Launch} {D : va_G} {κ : Nat → ClassId} {ρ : Nat → Nat} (o1 : Nat) (h_o1 : (w_sh o1).1 = 4) : wMV l yX4_clear cX4_clear 1 (wRm 0 0) [.ref (ρ o1)] D κ ρ 0 (fun u => F_X4_clear o1 u) := by
  refine wMV_of (F := fun u => F_X4_clear o1 u) rfl (Nat.le_of_ble_eq_true rfl) (fun u0 z p e s m args below meth c ls A hF hC hr hlk hH hl => ?_)
  have hl : lv_has ls 1 [(0, .ref (ρ o1))] := hl
  have hx := hC.1.1
  have hb := hC.1.2.1
  have hF : F_X4_clear o1 u0 = some z := hF
  unfold F_X4_clear at hF
  change W p l e (wRm 0 0) s m args below meth c s.heap [] 0 0 (wQV below args s A D κ ρ 0 z) (F0 m 0 ls [])
  have key : ∀ (H : Heap) (locs : List Loc), wHp D κ ρ 0 A s.heap H locs u0 → W p l e (wRm 0 0) s m args below meth c H locs 0 0 (wQV below args s A D κ ρ 0 z) (F0 m 0 ls []) := by
    intro H locs hH
    refine lv_aload_n hx hb dX4_clear_0 rfl (lv_at hl 0 rfl) ?_
    refine lv_iconst hx hb dX4_clear_1 k_iconst_0 ?_
    refine wx_putI hC hH h_o1 rfl f_X4_9 g_4_0 dX4_clear_2 hF (fun u2 H locs hF hH => ?_)
    refine lv_aload_n hx hb dX4_clear_5 rfl (lv_at hl 0 rfl) ?_
    refine lv_iconst hx hb dX4_clear_6 k_iconst_m1 ?_
    refine wx_putI hC hH h_o1 rfl f_X4_15 g_4_1 dX4_clear_7 hF (fun u3 H locs hF hH => ?_)
    exact wx_vret hC hH hr hlk dX4_clear_10 hF
  exact key _ _ hH
def F_X4_knownSize (o1 : Nat) (u0 : wSt) : Option Int32 :=
  if (u0.1 o1 1) = (-1 : Int32) then (some ((u0.1 o1 0))) else (some ((u0.1 o1 1)))
set_option maxRecDepth 100000 in
set_option maxHeartbeats 4000000 in
theorem c_X4_knownSize {l : Launch} {D : va_G} {κ : Nat → ClassId} {ρ : Nat → Nat} (o1 : Nat) (h_o1 : (w_sh o1).1 = 4) : wMI l yX4_knownSize cX4_knownSize 1 .int (wRm 0 0) [.ref (ρ o1)] D κ ρ 0 (fun u => wPu (F_X4_knownSize o1 u) u) := by
  refine wMP_of (F := fun u => F_X4_knownSize o1 u) rfl (Nat.le_of_ble_eq_true rfl) (fun u0 z p e s m args below meth c ls A hF hC hr hlk hH hl => ?_)
  have hl : lv_has ls 1 [(0, .ref (ρ o1))] := hl
  have hx := hC.1.1
  have hb := hC.1.2.1
  have hF : F_X4_knownSize o1 u0 = some z := hF
  unfold F_X4_knownSize at hF
  change W p l e (wRm 0 0) s m args below meth c s.heap [] 0 0 (wQI below args s A D κ ρ 0 (z, u0)) (F0 m 0 ls [])
  have key : ∀ (H : Heap) (locs : List Loc), wHp D κ ρ 0 A s.heap H locs u0 → W p l e (wRm 0 0) s m args below meth c H locs 0 0 (wQI below args s A D κ ρ 0 (z, u0)) (F0 m 0 ls []) := by
    intro H locs hH
    refine lv_aload_n hx hb dX4_knownSize_0 rfl (lv_at hl 0 rfl) ?_
    refine wx_getI hC hH h_o1 rfl f_X4_15 dX4_knownSize_1 ?_
    refine lv_iconst hx hb dX4_knownSize_4 k_iconst_m1 ?_
    refine lv_icmp_ne hx hb dX4_knownSize_5 (tgt := 15) rfl (fun h => ?_) (fun h => ?_)
    · have hF := wx_f h hF
      refine lv_aload_n hx hb dX4_knownSize_15 rfl (lv_at hl 0 rfl) ?_
      refine wx_getI hC hH h_o1 rfl f_X4_15 dX4_knownSize_16 ?_
      exact wx_iret hC hH hr hlk dX4_knownSize_19 (wx_pr hF)
    have hF := wx_t h hF
    refine lv_aload_n hx hb dX4_knownSize_8 rfl (lv_at hl 0 rfl) ?_
    refine wx_getI hC hH h_o1 rfl f_X4_9 dX4_knownSize_9 ?_
    refine lv_goto hx hb dX4_knownSize_12 (tgt := 19) rfl ?_
    exact wx_iret hC hH hr hlk dX4_knownSize_19 (wx_pr hF)
  exact key _ _ hH
def F_X4_put (o1 : Nat) (i2 : Int32) (i3 : Int32) (i4 : Int32) (i5 : Int32) (i6 : Int32) (u0 : wSt) : Option (Int32 × wSt) :=
  if (u0.1 o1 0) < (24 : Int32) then (wR (u0.2.2 o1 2) 10 (fun o7 => wSI u0 o7 (u0.1 o1 0) i2 (fun (u8 : wSt) => wR (u8.2.2 o1 3) 10 (fun o9 => wSI u8 o9 (u8.1 o1 0) i3 (fun (u10 : wSt) => wR (u10.2.2 o1 4) 10 (fun o11 => wSI u10 o11 (u10.1 o1 0) i4 (fun (u12 : wSt) => wR (u12.2.2 o1 5) 12 (fun o13 => wSZ u12 o13 (u12.1 o1 0) i5 (fun (u14 : wSt) => wR (u14.2.2 o1 6) 10 (fun o15 => wSI u14 o15 (u14.1 o1 0) i6 (fun (u16 : wSt) => wB (w_sI u16 o1 0 ((u16.1 o1 0) + (1 : Int32))) (fun (u17 : wSt) => some (((u17.1 o1 0) - (1 : Int32)), u17))))))))))))) else (some ((-1 : Int32), u0))
set_option maxRecDepth 100000 in
set_option maxHeartbeats 4000000 in
theorem c_X4_put {l : Launch} {D : va_G} {κ : Nat → ClassId} {ρ : Nat → Nat} (o1 : Nat) (i2 : Int32) (i3 : Int32) (i4 : Int32) (i5 : Int32) (i6 : Int32) (h_o1 : (w_sh o1).1 = 4) : wMI l yX4_put cX4_put 6 .int (wRm 0 0) [.ref (ρ o1), .int i2, .int i3, .int i4, .int i5, .int i6] D κ ρ 0 (fun u => F_X4_put o1 i2 i3 i4 i5 i6 u) := by
  refine wMI_of (F := fun u => F_X4_put o1 i2 i3 i4 i5 i6 u) rfl (Nat.le_of_ble_eq_true rfl) (fun u0 z p e s m args below meth c ls A hF hC hr hlk hH hl => ?_)
  have hl : lv_has ls 6 [(0, .ref (ρ o1)), (1, .int i2), (2, .int i3), (3, .int i4), (4, .int i5), (5, .int i6)] := hl
  have hx := hC.1.1
  have hb := hC.1.2.1
  have hF : F_X4_put o1 i2 i3 i4 i5 i6 u0 = some z := hF
  unfold F_X4_put at hF
  change W p l e (wRm 0 0) s m args below meth c s.heap [] 0 0 (wQI below args s A D κ ρ 0 z) (F0 m 0 ls [])
  have key : ∀ (H : Heap) (locs : List Loc), wHp D κ ρ 0 A s.heap H locs u0 → W p l e (wRm 0 0) s m args below meth c H locs 0 0 (wQI below args s A D κ ρ 0 z) (F0 m 0 ls []) := by
    intro H locs hH
    refine lv_aload_n hx hb dX4_put_0 rfl (lv_at hl 0 rfl) ?_
    refine wx_getI hC hH h_o1 rfl f_X4_9 dX4_put_1 ?_
    refine lv_bipush hx hb dX4_put_4 k_bipush_24 ?_
    refine lv_icmp_lt hx hb dX4_put_6 (tgt := 11) rfl (fun h => ?_) (fun h => ?_)
    · have hF := wx_t h hF
      refine lv_aload_n hx hb dX4_put_11 rfl (lv_at hl 0 rfl) ?_
      refine wx_getR hC hH h_o1 rfl f_X4_18 dX4_put_12 hF (fun o7 h_o7 hF => ?_)
      refine lv_aload_n hx hb dX4_put_15 rfl (lv_at hl 0 rfl) ?_
      refine wx_getI hC hH h_o1 rfl f_X4_9 dX4_put_16 ?_
      refine lv_iload_n hx hb dX4_put_19 rfl (lv_at hl 1 rfl) ?_
      refine wx_iast hC hH h_o7 ⟨rfl, rfl⟩ dX4_put_20 hF (fun u8 H locs hF hH => ?_)
      refine lv_aload_n hx hb dX4_put_21 rfl (lv_at hl 0 rfl) ?_
      refine wx_getR hC hH h_o1 rfl f_X4_22 dX4_put_22 hF (fun o9 h_o9 hF => ?_)
      refine lv_aload_n hx hb dX4_put_25 rfl (lv_at hl 0 rfl) ?_
      refine wx_getI hC hH h_o1 rfl f_X4_9 dX4_put_26 ?_
      refine lv_iload_n hx hb dX4_put_29 rfl (lv_at hl 2 rfl) ?_
      refine wx_iast hC hH h_o9 ⟨rfl, rfl⟩ dX4_put_30 hF (fun u10 H locs hF hH => ?_)
      refine lv_aload_n hx hb dX4_put_31 rfl (lv_at hl 0 rfl) ?_
      refine wx_getR hC hH h_o1 rfl f_X4_25 dX4_put_32 hF (fun o11 h_o11 hF => ?_)
      refine lv_aload_n hx hb dX4_put_35 rfl (lv_at hl 0 rfl) ?_
      refine wx_getI hC hH h_o1 rfl f_X4_9 dX4_put_36 ?_
      refine lv_iload_n hx hb dX4_put_39 rfl (lv_at hl 3 rfl) ?_
      refine wx_iast hC hH h_o11 ⟨rfl, rfl⟩ dX4_put_40 hF (fun u12 H locs hF hH => ?_)
      refine lv_aload_n hx hb dX4_put_41 rfl (lv_at hl 0 rfl) ?_
      refine wx_getR hC hH h_o1 rfl f_X4_28 dX4_put_42 hF (fun o13 h_o13 hF => ?_)
      refine lv_aload_n hx hb dX4_put_45 rfl (lv_at hl 0 rfl) ?_
      refine wx_getI hC hH h_o1 rfl f_X4_9 dX4_put_46 ?_
      refine lv_iload hx hb dX4_put_49 (lv_at hl 4 rfl) ?_
      refine wx_zast hC hH h_o13 ⟨rfl, rfl⟩ dX4_put_51 hF (fun u14 H locs hF hH => ?_)
      refine lv_aload_n hx hb dX4_put_52 rfl (lv_at hl 0 rfl) ?_
      refine wx_getR hC hH h_o1 rfl f_X4_32 dX4_put_53 hF (fun o15 h_o15 hF => ?_)
      refine lv_aload_n hx hb dX4_put_56 rfl (lv_at hl 0 rfl) ?_
      refine wx_getI hC hH h_o1 rfl f_X4_9 dX4_put_57 ?_
      refine lv_iload hx hb dX4_put_60 (lv_at hl 5 rfl) ?_
      refine wx_iast hC hH h_o15 ⟨rfl, rfl⟩ dX4_put_62 hF (fun u16 H locs hF hH => ?_)
      refine lv_aload_n hx hb dX4_put_63 rfl (lv_at hl 0 rfl) ?_
      refine lv_dup hx hb dX4_put_64 rfl ?_
      refine wx_getI hC hH h_o1 rfl f_X4_9 dX4_put_65 ?_
      refine lv_iconst hx hb dX4_put_68 k_iconst_1 ?_
      refine lv_iadd hx hb dX4_put_69 ?_
      refine wx_putI hC hH h_o1 rfl f_X4_9 g_4_0 dX4_put_70 hF (fun u17 H locs hF hH => ?_)
      refine lv_aload_n hx hb dX4_put_73 rfl (lv_at hl 0 rfl) ?_
      refine wx_getI hC hH h_o1 rfl f_X4_9 dX4_put_74 ?_
      refine lv_iconst hx hb dX4_put_77 k_iconst_1 ?_
      refine lv_isub hx hb dX4_put_78 ?_
      exact wx_iret hC hH hr hlk dX4_put_79 hF
    have hF := wx_f h hF
    refine lv_iconst hx hb dX4_put_9 k_iconst_m1 ?_
    exact wx_iret hC hH hr hlk dX4_put_10 hF
  exact key _ _ hH
def F_X4_sift_j63 (i7 : Int32) (u12 : wSt) : Option ((Int32 × wSt) ⊕ (Unit × wSt)) :=
  wB (i7 + (-1 : Int32)) (fun (i13 : Int32) => some (.inl (i13, u12)))
def F_X4_sift_b28 (o1 : Nat) (i7 : Int32) (u8 : wSt) : Option ((Int32 × wSt) ⊕ (Unit × wSt)) :=
  if i7 < 0 then (some (.inr ((), u8))) else (wR (u8.2.2 o1 7) 12 (fun o9 => wN i7 o9 (fun j10 => wJ (X := wSt) (if (u8.1 o9 j10) = 0 then (wR (u8.2.2 o1 6) 10 (fun o14 => wN i7 o14 (fun j15 => if (u8.1 o14 j15) = (-1 : Int32) then (some (.inl u8)) else (wR (u8.2.2 o1 7) 12 (fun o16 => wR (u8.2.2 o1 6) 10 (fun o17 => wN i7 o17 (fun j18 => wSZ u8 o16 (u8.1 o17 j18) (1 : Int32) (fun (u19 : wSt) => some (.inl u19))))))))) else (some (.inl u8))) (fun x => F_X4_sift_j63 i7 x))))
def F_X4_sift_j21 (o1 : Nat) (u3 : wSt) : Option (Unit × wSt) :=
  wP (F_X4_knownSize o1 u3) (fun (i4 : Int32) => wB (i4 - (1 : Int32)) (fun (i5 : Int32) => wL (S := Int32 × wSt) (fun x => F_X4_sift_b28 o1 x.1 x.2) wFu (i5, u3)))
def F_X4_sift_b2 (o1 : Nat) (i21 : Int32) (u22 : wSt) : Option ((Int32 × wSt) ⊕ ((wSt) ⊕ (Unit × wSt))) :=
  if (24 : Int32) ≤ i21 then (some (.inr (.inl u22))) else (wR (u22.2.2 o1 7) 12 (fun o23 => wSZ u22 o23 i21 (0 : Int32) (fun (u24 : wSt) => wB (i21 + (1 : Int32)) (fun (i25 : Int32) => some (.inl (i25, u24))))))
def F_X4_sift (o1 : Nat) (u0 : wSt) : Option (Unit × wSt) :=
  wJ (X := wSt) (wL (S := Int32 × wSt) (fun x => F_X4_sift_b2 o1 x.1 x.2) wFu ((0 : Int32), u0)) (fun x => F_X4_sift_j21 o1 x)
set_option maxRecDepth 100000 in
set_option maxHeartbeats 4000000 in
theorem c_X4_sift {l : Launch} {D : va_G} {κ : Nat → ClassId} {ρ : Nat → Nat} (o1 : Nat) (h_o1 : (w_sh o1).1 = 4) : wMV l yX4_sift cX4_sift 2 (wRm 1 20) [.ref (ρ o1)] D κ ρ 0 (fun u => F_X4_sift o1 u) := by
  refine wMV_of (F := fun u => F_X4_sift o1 u) rfl (Nat.le_of_ble_eq_true rfl) (fun u0 z p e s m args below meth c ls A hF hC hr hlk hH hl => ?_)
  have hl : lv_has ls 2 [(0, .ref (ρ o1))] := hl
  have hx := hC.1.1
  have hb := hC.1.2.1
  have hF : F_X4_sift o1 u0 = some z := hF
  unfold F_X4_sift at hF
  change W p l e (wRm 1 20) s m args below meth c s.heap [] 0 0 (wQV below args s A D κ ρ 0 z) (F0 m 0 ls [])
  have key : ∀ (H : Heap) (locs : List Loc), wHp D κ ρ 0 A s.heap H locs u0 → W p l e (wRm 1 20) s m args below meth c H locs 0 0 (wQV below args s A D κ ρ 0 z) (F0 m 0 ls []) := by
    intro H locs hH
    refine lv_iconst hx hb dX4_sift_0 k_iconst_0 ?_
    refine wx_istore_n hx hb dX4_sift_1 rfl hl (by decide) (fun ls hl => ?_)
    have hl : lv_has ls 2 [(1, .int (0 : Int32)), (0, .ref (ρ o1))] := hl
    obtain ⟨q2_, hF, hq2⟩ := wJ_some hF
    have hJ21 : ∀ (u3 : wSt) (H : Heap) (locs : List Loc) (ls : Array Slot), F_X4_sift_j21 o1 u3 = some z → wHp D κ ρ 0 A s.heap H locs u3 → lv_has ls 2 [(0, .ref (ρ o1))] → W p l e (wRm 1 20) s m args below meth c H locs 0 0 (wQV below args s A D κ ρ 0 z) (F0 m 21 ls []) := by
      intro u3 H locs ls hF hH hl
      unfold F_X4_sift_j21 at hF
      refine lv_aload_n hx hb dX4_sift_21 rfl (lv_at hl 0 rfl) ?_
      refine wx_pvi hC hH hl (c_X4_knownSize o1 h_o1) y_X4_knownSize v_X4_knownSize h_o1 rfl m_X4_38 rfl ⟨Nat.le_of_ble_eq_true rfl, Nat.le_of_ble_eq_true rfl⟩ ⟨Nat.le_refl _, Nat.le_refl _⟩ rfl (Nat.le_of_ble_eq_true rfl) dX4_sift_22 hF (fun i4 H locs hF hH => ?_)
      refine lv_iconst hx hb dX4_sift_25 k_iconst_1 ?_
      refine lv_isub hx hb dX4_sift_26 ?_
      refine wx_leti hF (fun i5 hF => ?_)
      refine wx_istore_n hx hb dX4_sift_27 rfl hl (by decide) (fun ls hl => ?_)
      have hl : lv_has ls 2 [(1, .int i5), (0, .ref (ρ o1))] := hl
      have hL28 : ∀ (k6_ : Nat) (i7 : Int32) (u8 : wSt) (H : Heap) (locs : List Loc) (ls : Array Slot), wL (S := Int32 × wSt) (fun x => F_X4_sift_b28 o1 x.1 x.2) k6_ (i7, u8) = some z → wHp D κ ρ 0 A s.heap H locs u8 → lv_has ls 2 [(0, .ref (ρ o1)), (1, .int i7)] → W p l e (wRm 1 20) s m args below meth c H locs 0 0 (wQV below args s A D κ ρ 0 z) (F0 m 28 ls []) := by
        intro k6_
        induction k6_ with
        | zero => intro i7 u8 H locs ls hF; exact wL_zero hF
        | succ k6_ ih6 =>
          intro i7 u8 H locs ls hF hH hl
          obtain ⟨q6_, hF, hq6⟩ := wL_some hF
          have hF : F_X4_sift_b28 o1 i7 u8 = some q6_ := hF
          unfold F_X4_sift_b28 at hF
          refine lv_iload_n hx hb dX4_sift_28 rfl (lv_at hl 1 rfl) ?_
          refine lv_if_lt hx hb dX4_sift_29 (tgt := 69) rfl (fun h => ?_) (fun h => ?_)
          · have hF := wx_t h hF
            have hF := wJ_r hq6 hF
            exact wx_vret hC hH hr hlk dX4_sift_69 hF
          have hF := wx_f h hF
          refine lv_aload_n hx hb dX4_sift_32 rfl (lv_at hl 0 rfl) ?_
          refine wx_getR hC hH h_o1 rfl f_X4_35 dX4_sift_33 hF (fun o9 h_o9 hF => ?_)
          refine lv_iload_n hx hb dX4_sift_36 rfl (lv_at hl 1 rfl) ?_
          refine wx_zald hC hH h_o9 ⟨rfl, rfl⟩ dX4_sift_37 hF (fun j10 hF => ?_)
          obtain ⟨q11_, hF, hq11⟩ := wJ_some hF
          have hJ63 : ∀ (u12 : wSt) (H : Heap) (locs : List Loc) (ls : Array Slot), F_X4_sift_j63 i7 u12 = some q6_ → wHp D κ ρ 0 A s.heap H locs u12 → lv_has ls 2 [(0, .ref (ρ o1)), (1, .int i7)] → W p l e (wRm 1 20) s m args below meth c H locs 0 0 (wQV below args s A D κ ρ 0 z) (F0 m 63 ls []) := by
            intro u12 H locs ls hF hH hl
            unfold F_X4_sift_j63 at hF
            refine wx_iinc hx hb dX4_sift_63 k_iconst_m1 hl (k := 1) rfl (by decide) hF (fun i13 ls hF hl => ?_)
            have hl : lv_has ls 2 [(1, .int i13), (0, .ref (ρ o1))] := hl
            refine lv_goto hx hb dX4_sift_66 (tgt := 28) rfl ?_
            have hF := wJ_l hq6 hF
            exact ih6 i13 u12 H locs ls hF hH (lv_sub hl [1, 0] rfl)
          refine lv_if_ne hx hb dX4_sift_38 (tgt := 63) rfl (fun h => ?_) (fun h => ?_)
          · have hF := wx_f h hF
            have hF := wJ_l hq11 hF
            exact hJ63 u8 H locs ls hF hH (lv_sub hl [0, 1] rfl)
          have hF := wx_t h hF
          refine lv_aload_n hx hb dX4_sift_41 rfl (lv_at hl 0 rfl) ?_
          refine wx_getR hC hH h_o1 rfl f_X4_32 dX4_sift_42 hF (fun o14 h_o14 hF => ?_)
          refine lv_iload_n hx hb dX4_sift_45 rfl (lv_at hl 1 rfl) ?_
          refine wx_iald hC hH h_o14 ⟨rfl, rfl⟩ dX4_sift_46 hF (fun j15 hF => ?_)
          refine lv_iconst hx hb dX4_sift_47 k_iconst_m1 ?_
          refine lv_icmp_eq hx hb dX4_sift_48 (tgt := 63) rfl (fun h => ?_) (fun h => ?_)
          · have hF := wx_t h hF
            have hF := wJ_l hq11 hF
            exact hJ63 u8 H locs ls hF hH (lv_sub hl [0, 1] rfl)
          have hF := wx_f h hF
          refine lv_aload_n hx hb dX4_sift_51 rfl (lv_at hl 0 rfl) ?_
          refine wx_getR hC hH h_o1 rfl f_X4_35 dX4_sift_52 hF (fun o16 h_o16 hF => ?_)
          refine lv_aload_n hx hb dX4_sift_55 rfl (lv_at hl 0 rfl) ?_
          refine wx_getR hC hH h_o1 rfl f_X4_32 dX4_sift_56 hF (fun o17 h_o17 hF => ?_)
          refine lv_iload_n hx hb dX4_sift_59 rfl (lv_at hl 1 rfl) ?_
          refine wx_iald hC hH h_o17 ⟨rfl, rfl⟩ dX4_sift_60 hF (fun j18 hF => ?_)
          refine lv_iconst hx hb dX4_sift_61 k_iconst_1 ?_
          refine wx_zast hC hH h_o16 ⟨rfl, rfl⟩ dX4_sift_62 hF (fun u19 H locs hF hH => ?_)
          have hF := wJ_l hq11 hF
          exact hJ63 u19 H locs ls hF hH (lv_sub hl [0, 1] rfl)
      exact hL28 wFu i5 u3 H locs ls hF hH (lv_sub hl [1, 0] rfl)
    have hL2 : ∀ (k20_ : Nat) (i21 : Int32) (u22 : wSt) (H : Heap) (locs : List Loc) (ls : Array Slot), wL (S := Int32 × wSt) (fun x => F_X4_sift_b2 o1 x.1 x.2) k20_ (i21, u22) = some q2_ → wHp D κ ρ 0 A s.heap H locs u22 → lv_has ls 2 [(0, .ref (ρ o1)), (1, .int i21)] → W p l e (wRm 1 20) s m args below meth c H locs 0 0 (wQV below args s A D κ ρ 0 z) (F0 m 2 ls []) := by
      intro k20_
      induction k20_ with
      | zero => intro i21 u22 H locs ls hF; exact wL_zero hF
      | succ k20_ ih20 =>
        intro i21 u22 H locs ls hF hH hl
        obtain ⟨q20_, hF, hq20⟩ := wL_some hF
        have hF : F_X4_sift_b2 o1 i21 u22 = some q20_ := hF
        unfold F_X4_sift_b2 at hF
        refine lv_iload_n hx hb dX4_sift_2 rfl (lv_at hl 1 rfl) ?_
        refine lv_bipush hx hb dX4_sift_3 k_bipush_24 ?_
        refine lv_icmp_ge hx hb dX4_sift_5 (tgt := 21) rfl (fun h => ?_) (fun h => ?_)
        · have hF := wx_t h hF
          have hF := wJ_r hq20 hF
          have hF := wJ_l hq2 hF
          exact hJ21 u22 H locs ls hF hH (lv_sub hl [0] rfl)
        have hF := wx_f h hF
        refine lv_aload_n hx hb dX4_sift_8 rfl (lv_at hl 0 rfl) ?_
        refine wx_getR hC hH h_o1 rfl f_X4_35 dX4_sift_9 hF (fun o23 h_o23 hF => ?_)
        refine lv_iload_n hx hb dX4_sift_12 rfl (lv_at hl 1 rfl) ?_
        refine lv_iconst hx hb dX4_sift_13 k_iconst_0 ?_
        refine wx_zast hC hH h_o23 ⟨rfl, rfl⟩ dX4_sift_14 hF (fun u24 H locs hF hH => ?_)
        refine wx_iinc hx hb dX4_sift_15 k_iconst_1 hl (k := 1) rfl (by decide) hF (fun i25 ls hF hl => ?_)
        have hl : lv_has ls 2 [(1, .int i25), (0, .ref (ρ o1))] := hl
        refine lv_goto hx hb dX4_sift_18 (tgt := 2) rfl ?_
        have hF := wJ_l hq20 hF
        exact ih20 i25 u24 H locs ls hF hH (lv_sub hl [1, 0] rfl)
    exact hL2 wFu (0 : Int32) u0 H locs ls hF hH (lv_sub hl [1, 0] rfl)
  exact key _ _ hH
def F_X4_counts (o1 : Nat) (i2 : Int32) (u0 : wSt) : Option Int32 :=
  wR (u0.2.2 o1 6) 10 (fun o3 => wN i2 o3 (fun j4 => if (u0.1 o3 j4) = (-1 : Int32) then (wR (u0.2.2 o1 7) 12 (fun o5 => wN i2 o5 (fun j6 => if (u0.1 o5 j6) = 0 then (some ((1 : Int32))) else (some ((0 : Int32)))))) else (some ((0 : Int32)))))
set_option maxRecDepth 100000 in
set_option maxHeartbeats 4000000 in
theorem c_X4_counts {l : Launch} {D : va_G} {κ : Nat → ClassId} {ρ : Nat → Nat} (o1 : Nat) (i2 : Int32) (h_o1 : (w_sh o1).1 = 4) : wMI l yX4_counts cX4_counts 2 .boolean (wRm 0 0) [.ref (ρ o1), .int i2] D κ ρ 0 (fun u => wPu (F_X4_counts o1 i2 u) u) := by
  refine wMP_of (F := fun u => F_X4_counts o1 i2 u) rfl (Nat.le_of_ble_eq_true rfl) (fun u0 z p e s m args below meth c ls A hF hC hr hlk hH hl => ?_)
  have hl : lv_has ls 2 [(0, .ref (ρ o1)), (1, .int i2)] := hl
  have hx := hC.1.1
  have hb := hC.1.2.1
  have hF : F_X4_counts o1 i2 u0 = some z := hF
  unfold F_X4_counts at hF
  change W p l e (wRm 0 0) s m args below meth c s.heap [] 0 0 (wQI below args s A D κ ρ 0 (z, u0)) (F0 m 0 ls [])
  have key : ∀ (H : Heap) (locs : List Loc), wHp D κ ρ 0 A s.heap H locs u0 → W p l e (wRm 0 0) s m args below meth c H locs 0 0 (wQI below args s A D κ ρ 0 (z, u0)) (F0 m 0 ls []) := by
    intro H locs hH
    refine lv_aload_n hx hb dX4_counts_0 rfl (lv_at hl 0 rfl) ?_
    refine wx_getR hC hH h_o1 rfl f_X4_32 dX4_counts_1 hF (fun o3 h_o3 hF => ?_)
    refine lv_iload_n hx hb dX4_counts_4 rfl (lv_at hl 1 rfl) ?_
    refine wx_iald hC hH h_o3 ⟨rfl, rfl⟩ dX4_counts_5 hF (fun j4 hF => ?_)
    refine lv_iconst hx hb dX4_counts_6 k_iconst_m1 ?_
    refine lv_icmp_ne hx hb dX4_counts_7 (tgt := 23) rfl (fun h => ?_) (fun h => ?_)
    · have hF := wx_f h hF
      refine lv_iconst hx hb dX4_counts_23 k_iconst_0 ?_
      exact wx_zret hC hH hr hlk dX4_counts_24 (Or.inl rfl) (wx_pr hF)
    have hF := wx_t h hF
    refine lv_aload_n hx hb dX4_counts_10 rfl (lv_at hl 0 rfl) ?_
    refine wx_getR hC hH h_o1 rfl f_X4_35 dX4_counts_11 hF (fun o5 h_o5 hF => ?_)
    refine lv_iload_n hx hb dX4_counts_14 rfl (lv_at hl 1 rfl) ?_
    refine wx_zald hC hH h_o5 ⟨rfl, rfl⟩ dX4_counts_15 hF (fun j6 hF => ?_)
    refine lv_if_ne hx hb dX4_counts_16 (tgt := 23) rfl (fun h => ?_) (fun h => ?_)
    · have hF := wx_f h hF
      refine lv_iconst hx hb dX4_counts_23 k_iconst_0 ?_
      exact wx_zret hC hH hr hlk dX4_counts_24 (Or.inl rfl) (wx_pr hF)
    have hF := wx_t h hF
    refine lv_iconst hx hb dX4_counts_19 k_iconst_1 ?_
    refine lv_goto hx hb dX4_counts_20 (tgt := 24) rfl ?_
    exact wx_zret hC hH hr hlk dX4_counts_24 (Or.inr rfl) (wx_pr hF)
  exact key _ _ hH
def F_X4_lastStep_j31 (i4 : Int32) (i8 : Int32) : Option ((Int32 × Int32) ⊕ Int32) :=
  wB (i4 + (1 : Int32)) (fun (i9 : Int32) => some (.inl (i8, i9)))
def F_X4_lastStep_b4 (o1 : Nat) (u0 : wSt) (i3 : Int32) (i4 : Int32) : Option ((Int32 × Int32) ⊕ Int32) :=
  wP (F_X4_knownSize o1 u0) (fun (i5 : Int32) => if i5 ≤ i4 then (some (.inr (i3))) else (wP (F_X4_counts o1 i4 u0) (fun (i6 : Int32) => wJ (X := Int32) (if i6 = 0 then (some (.inl i3)) else (wR (u0.2.2 o1 2) 10 (fun o10 => wN i4 o10 (fun j11 => wB (w_max i3 (u0.1 o10 j11)) (fun (i12 : Int32) => some (.inl i12)))))) (fun x => F_X4_lastStep_j31 i4 x))))
def F_X4_lastStep (o1 : Nat) (u0 : wSt) : Option Int32 :=
  wL (S := Int32 × Int32) (fun x => F_X4_lastStep_b4 o1 u0 x.1 x.2) wFu ((0 : Int32), (0 : Int32))
set_option maxRecDepth 100000 in
set_option maxHeartbeats 4000000 in
theorem c_X4_lastStep {l : Launch} {D : va_G} {κ : Nat → ClassId} {ρ : Nat → Nat} (o1 : Nat) (h_o1 : (w_sh o1).1 = 4) : wMI l yX4_lastStep cX4_lastStep 3 .int (wRm 1 26) [.ref (ρ o1)] D κ ρ 0 (fun u => wPu (F_X4_lastStep o1 u) u) := by
  refine wMP_of (F := fun u => F_X4_lastStep o1 u) rfl (Nat.le_of_ble_eq_true rfl) (fun u0 z p e s m args below meth c ls A hF hC hr hlk hH hl => ?_)
  have hl : lv_has ls 3 [(0, .ref (ρ o1))] := hl
  have hx := hC.1.1
  have hb := hC.1.2.1
  have hF : F_X4_lastStep o1 u0 = some z := hF
  unfold F_X4_lastStep at hF
  change W p l e (wRm 1 26) s m args below meth c s.heap [] 0 0 (wQI below args s A D κ ρ 0 (z, u0)) (F0 m 0 ls [])
  have key : ∀ (H : Heap) (locs : List Loc), wHp D κ ρ 0 A s.heap H locs u0 → W p l e (wRm 1 26) s m args below meth c H locs 0 0 (wQI below args s A D κ ρ 0 (z, u0)) (F0 m 0 ls []) := by
    intro H locs hH
    refine lv_iconst hx hb dX4_lastStep_0 k_iconst_0 ?_
    refine wx_istore_n hx hb dX4_lastStep_1 rfl hl (by decide) (fun ls hl => ?_)
    have hl : lv_has ls 3 [(1, .int (0 : Int32)), (0, .ref (ρ o1))] := hl
    refine lv_iconst hx hb dX4_lastStep_2 k_iconst_0 ?_
    refine wx_istore_n hx hb dX4_lastStep_3 rfl hl (by decide) (fun ls hl => ?_)
    have hl : lv_has ls 3 [(2, .int (0 : Int32)), (1, .int (0 : Int32)), (0, .ref (ρ o1))] := hl
    have hL4 : ∀ (k2_ : Nat) (i3 : Int32) (i4 : Int32) (H : Heap) (locs : List Loc) (ls : Array Slot), wL (S := Int32 × Int32) (fun x => F_X4_lastStep_b4 o1 u0 x.1 x.2) k2_ (i3, i4) = some z → wHp D κ ρ 0 A s.heap H locs u0 → lv_has ls 3 [(0, .ref (ρ o1)), (1, .int i3), (2, .int i4)] → W p l e (wRm 1 26) s m args below meth c H locs 0 0 (wQI below args s A D κ ρ 0 (z, u0)) (F0 m 4 ls []) := by
      intro k2_
      induction k2_ with
      | zero => intro i3 i4 H locs ls hF; exact wL_zero hF
      | succ k2_ ih2 =>
        intro i3 i4 H locs ls hF hH hl
        obtain ⟨q2_, hF, hq2⟩ := wL_some hF
        have hF : F_X4_lastStep_b4 o1 u0 i3 i4 = some q2_ := hF
        unfold F_X4_lastStep_b4 at hF
        refine lv_iload_n hx hb dX4_lastStep_4 rfl (lv_at hl 2 rfl) ?_
        refine lv_aload_n hx hb dX4_lastStep_5 rfl (lv_at hl 0 rfl) ?_
        refine wx_pvi hC hH hl (c_X4_knownSize o1 h_o1) y_X4_knownSize v_X4_knownSize h_o1 rfl m_X4_38 rfl ⟨Nat.le_of_ble_eq_true rfl, Nat.le_of_ble_eq_true rfl⟩ ⟨Nat.le_refl _, Nat.le_refl _⟩ rfl (Nat.le_of_ble_eq_true rfl) dX4_lastStep_6 hF (fun i5 H locs hF hH => ?_)
        refine lv_icmp_ge hx hb dX4_lastStep_9 (tgt := 37) rfl (fun h => ?_) (fun h => ?_)
        · have hF := wx_t h hF
          refine lv_iload_n hx hb dX4_lastStep_37 rfl (lv_at hl 1 rfl) ?_
          have hF := wJ_r hq2 hF
          exact wx_iret hC hH hr hlk dX4_lastStep_38 (wx_pr hF)
        have hF := wx_f h hF
        refine lv_aload_n hx hb dX4_lastStep_12 rfl (lv_at hl 0 rfl) ?_
        refine lv_iload_n hx hb dX4_lastStep_13 rfl (lv_at hl 2 rfl) ?_
        refine wx_pvi hC hH hl (c_X4_counts o1 i4 h_o1) y_X4_counts v_X4_counts h_o1 rfl m_X4_42 rfl ⟨Nat.le_of_ble_eq_true rfl, Nat.le_of_ble_eq_true rfl⟩ ⟨Nat.le_refl _, Nat.le_refl _⟩ rfl (Nat.le_of_ble_eq_true rfl) dX4_lastStep_14 hF (fun i6 H locs hF hH => ?_)
        obtain ⟨q7_, hF, hq7⟩ := wJ_some hF
        have hJ31 : ∀ (i8 : Int32) (H : Heap) (locs : List Loc) (ls : Array Slot), F_X4_lastStep_j31 i4 i8 = some q2_ → wHp D κ ρ 0 A s.heap H locs u0 → lv_has ls 3 [(0, .ref (ρ o1)), (1, .int i8), (2, .int i4)] → W p l e (wRm 1 26) s m args below meth c H locs 0 0 (wQI below args s A D κ ρ 0 (z, u0)) (F0 m 31 ls []) := by
          intro i8 H locs ls hF hH hl
          unfold F_X4_lastStep_j31 at hF
          refine wx_iinc hx hb dX4_lastStep_31 k_iconst_1 hl (k := 2) rfl (by decide) hF (fun i9 ls hF hl => ?_)
          have hl : lv_has ls 3 [(2, .int i9), (0, .ref (ρ o1)), (1, .int i8)] := hl
          refine lv_goto hx hb dX4_lastStep_34 (tgt := 4) rfl ?_
          have hF := wJ_l hq2 hF
          exact ih2 i8 i9 H locs ls hF hH (lv_sub hl [1, 2, 0] rfl)
        refine lv_if_eq hx hb dX4_lastStep_17 (tgt := 31) rfl (fun h => ?_) (fun h => ?_)
        · have hF := wx_t h hF
          have hF := wJ_l hq7 hF
          exact hJ31 i3 H locs ls hF hH (lv_sub hl [0, 1, 2] rfl)
        have hF := wx_f h hF
        refine lv_iload_n hx hb dX4_lastStep_20 rfl (lv_at hl 1 rfl) ?_
        refine lv_aload_n hx hb dX4_lastStep_21 rfl (lv_at hl 0 rfl) ?_
        refine wx_getR hC hH h_o1 rfl f_X4_18 dX4_lastStep_22 hF (fun o10 h_o10 hF => ?_)
        refine lv_iload_n hx hb dX4_lastStep_25 rfl (lv_at hl 2 rfl) ?_
        refine wx_iald hC hH h_o10 ⟨rfl, rfl⟩ dX4_lastStep_26 hF (fun j11 hF => ?_)
        refine wx_max hC hl.1 m_X4_46 ⟨Nat.le_of_ble_eq_true rfl, Nat.le_of_ble_eq_true rfl⟩ ⟨Nat.le_refl _, Nat.le_refl _⟩ dX4_lastStep_27 ?_
        refine wx_leti hF (fun i12 hF => ?_)
        refine wx_istore_n hx hb dX4_lastStep_30 rfl hl (by decide) (fun ls hl => ?_)
        have hl : lv_has ls 3 [(1, .int i12), (0, .ref (ρ o1)), (2, .int i4)] := hl
        have hF := wJ_l hq7 hF
        exact hJ31 i12 H locs ls hF hH (lv_sub hl [1, 0, 2] rfl)
    exact hL4 wFu (0 : Int32) (0 : Int32) H locs ls hF hH (lv_sub hl [2, 1, 0] rfl)
  exact key _ _ hH

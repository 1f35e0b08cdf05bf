def F_X4_fits_j77 (i4 : Int32) : Option ((Int32) ⊕ Int32) :=
  wB (i4 + (1 : Int32)) (fun (i11 : Int32) => some (.inl i11))
def F_X4_fits_j66 (u0 : wSt) (o1 : Nat) (i4 : Int32) (i19 : Int32) : Option ((Unit) ⊕ ((Int32) ⊕ Int32)) :=
  wR (u0.2.2 o1 5) 12 (fun o20 => wN i4 o20 (fun j21 => if i19 = (u0.1 o20 j21) then (some (.inl ())) else (some (.inr (.inr ((0 : Int32)))))))
def F_X4_fits_j36 (u0 : wSt) (o2 : Nat) (o1 : Nat) (i4 : Int32) (i9 : Int32) : Option ((Int32) ⊕ Int32) :=
  wJ (X := Unit) (if i9 = 0 then (some (.inl ())) else (wR (u0.2.2 o2 6) 10 (fun o12 => wR (u0.2.2 o1 3) 10 (fun o13 => wN i4 o13 (fun j14 => wN (u0.1 o13 j14) o12 (fun j15 => wR (u0.2.2 o1 4) 10 (fun o16 => wN i4 o16 (fun j17 => wJ (X := Int32) (if (u0.1 o12 j15) < (u0.1 o16 j17) then (some (.inl (0 : Int32))) else (some (.inl (1 : Int32)))) (fun x => F_X4_fits_j66 u0 o1 i4 x))))))))) (fun x => F_X4_fits_j77 i4)
def F_X4_fits_j35 : Option ((Int32) ⊕ ((Int32) ⊕ Int32)) :=
  some (.inl (0 : Int32))
def F_X4_fits_b2 (o1 : Nat) (u0 : wSt) (o2 : Nat) (i4 : Int32) : Option ((Int32) ⊕ Int32) :=
  wP (F_X4_knownSize o1 u0) (fun (i5 : Int32) => if i5 ≤ i4 then (some (.inr ((1 : Int32)))) else (wP (F_X4_counts o1 i4 u0) (fun (i6 : Int32) => wJ (X := Int32) (wJ (X := Unit) (if i6 = 0 then (some (.inl ())) else (wR (u0.2.2 o1 2) 10 (fun o22 => wN i4 o22 (fun j23 => if (u0.1 o22 j23) = (u0.1 o2 0) then (some (.inr (.inl (1 : Int32)))) else (some (.inl ())))))) (fun x => F_X4_fits_j35)) (fun x => F_X4_fits_j36 u0 o2 o1 i4 x))))
def F_X4_fits (o1 : Nat) (o2 : Nat) (u0 : wSt) : Option Int32 :=
  wL (S := Int32) (fun x => F_X4_fits_b2 o1 u0 o2 x) wFu (0 : Int32)
set_option maxRecDepth 100000 in
set_option maxHeartbeats 4000000 in
theorem c_X4_fits {l : Launch} {D : va_G} {κ : Nat → ClassId} {ρ : Nat → Nat} (o1 : Nat) (o2 : Nat) (h_o1 : (w_sh o1).1 = 4) (h_o2 : (w_sh o2).1 = 3) : wMI l yX4_fits cX4_fits 4 .boolean (wRm 1 21) [.ref (ρ o1), .ref (ρ o2)] D κ ρ 0 (fun u => wPu (F_X4_fits o1 o2 u) u) := by
  refine wMP_of (F := fun u => F_X4_fits o1 o2 u) rfl (Nat.le_of_ble_eq_true rfl) (fun u0 z p e s m args below meth c ls A hF hC hr hlk hH hl => ?_)
  have hl : lv_has ls 4 [(0, .ref (ρ o1)), (1, .ref (ρ o2))] := hl
  have hx := hC.1.1
  have hb := hC.1.2.1
  have hF : F_X4_fits o1 o2 u0 = some z := hF
  unfold F_X4_fits at hF
  change W p l e (wRm 1 21) s m args below meth c s.heap [] 0 0 (wQI below args s A D κ ρ 0 (z, u0)) (F0 m 0 ls [])
  have key : ∀ (H : Heap) (locs : List Loc), wHp D κ ρ 0 A s.heap H locs u0 → W p l e (wRm 1 21) s m args below meth c H locs 0 0 (wQI below args s A D κ ρ 0 (z, u0)) (F0 m 0 ls []) := by
    intro H locs hH
    refine lv_iconst hx hb dX4_fits_0 k_iconst_0 ?_
    refine wx_istore_n hx hb dX4_fits_1 rfl hl (by decide) (fun ls hl => ?_)
    have hl : lv_has ls 4 [(2, .int (0 : Int32)), (0, .ref (ρ o1)), (1, .ref (ρ o2))] := hl
    have hL2 : ∀ (k3_ : Nat) (i4 : Int32) (H : Heap) (locs : List Loc) (ls : Array Slot), wL (S := Int32) (fun x => F_X4_fits_b2 o1 u0 o2 x) k3_ i4 = some z → wHp D κ ρ 0 A s.heap H locs u0 → lv_has ls 4 [(0, .ref (ρ o1)), (1, .ref (ρ o2)), (2, .int i4)] → W p l e (wRm 1 21) s m args below meth c H locs 0 0 (wQI below args s A D κ ρ 0 (z, u0)) (F0 m 2 ls []) := by
      intro k3_
      induction k3_ with
      | zero => intro i4 H locs ls hF; exact wL_zero hF
      | succ k3_ ih3 =>
        intro i4 H locs ls hF hH hl
        obtain ⟨q3_, hF, hq3⟩ := wL_some hF
        have hF : F_X4_fits_b2 o1 u0 o2 i4 = some q3_ := hF
        unfold F_X4_fits_b2 at hF
        refine lv_iload_n hx hb dX4_fits_2 rfl (lv_at hl 2 rfl) ?_
        refine lv_aload_n hx hb dX4_fits_3 rfl (lv_at hl 0 rfl) ?_
        refine wx_pvi hC hH hl (c_X4_knownSize o1 h_o1) y_X4_knownSize v_X4_knownSize h_o1 rfl m_X4_38 rfl ⟨Nat.le_of_ble_eq_true rfl, Nat.le_of_ble_eq_true rfl⟩ ⟨Nat.le_refl _, Nat.le_refl _⟩ rfl (Nat.le_of_ble_eq_true rfl) dX4_fits_4 hF (fun i5 H locs hF hH => ?_)
        refine lv_icmp_ge hx hb dX4_fits_7 (tgt := 83) rfl (fun h => ?_) (fun h => ?_)
        · have hF := wx_t h hF
          refine lv_iconst hx hb dX4_fits_83 k_iconst_1 ?_
          have hF := wJ_r hq3 hF
          exact wx_zret hC hH hr hlk dX4_fits_84 (Or.inr rfl) (wx_pr hF)
        have hF := wx_f h hF
        refine lv_aload_n hx hb dX4_fits_10 rfl (lv_at hl 0 rfl) ?_
        refine lv_iload_n hx hb dX4_fits_11 rfl (lv_at hl 2 rfl) ?_
        refine wx_pvi hC hH hl (c_X4_counts o1 i4 h_o1) y_X4_counts v_X4_counts h_o1 rfl m_X4_42 rfl ⟨Nat.le_of_ble_eq_true rfl, Nat.le_of_ble_eq_true rfl⟩ ⟨Nat.le_refl _, Nat.le_refl _⟩ rfl (Nat.le_of_ble_eq_true rfl) dX4_fits_12 hF (fun i6 H locs hF hH => ?_)
        obtain ⟨q7_, hF, hq7⟩ := wJ_some hF
        obtain ⟨q8_, hF, hq8⟩ := wJ_some hF
        have hJ36 : ∀ (i9 : Int32) (H : Heap) (locs : List Loc) (ls : Array Slot), F_X4_fits_j36 u0 o2 o1 i4 i9 = some q3_ → wHp D κ ρ 0 A s.heap H locs u0 → lv_has ls 4 [(0, .ref (ρ o1)), (1, .ref (ρ o2)), (2, .int i4)] → W p l e (wRm 1 21) s m args below meth c H locs 0 0 (wQI below args s A D κ ρ 0 (z, u0)) (F0 m 36 ls [.int i9]) := by
          intro i9 H locs ls hF hH hl
          unfold F_X4_fits_j36 at hF
          refine wx_istore_n hx hb dX4_fits_36 rfl hl (by decide) (fun ls hl => ?_)
          have hl : lv_has ls 4 [(3, .int i9), (0, .ref (ρ o1)), (1, .ref (ρ o2)), (2, .int i4)] := hl
          refine lv_iload_n hx hb dX4_fits_37 rfl (lv_at hl 0 rfl) ?_
          obtain ⟨q10_, hF, hq10⟩ := wJ_some hF
          have hJ77 : ∀ (H : Heap) (locs : List Loc) (ls : Array Slot), F_X4_fits_j77 i4 = some q3_ → wHp D κ ρ 0 A s.heap H locs u0 → lv_has ls 4 [(0, .ref (ρ o1)), (1, .ref (ρ o2)), (2, .int i4)] → W p l e (wRm 1 21) s m args below meth c H locs 0 0 (wQI below args s A D κ ρ 0 (z, u0)) (F0 m 77 ls []) := by
            intro H locs ls hF hH hl
            unfold F_X4_fits_j77 at hF
            refine wx_iinc hx hb dX4_fits_77 k_iconst_1 hl (k := 2) rfl (by decide) hF (fun i11 ls hF hl => ?_)
            have hl : lv_has ls 4 [(2, .int i11), (0, .ref (ρ o1)), (1, .ref (ρ o2))] := hl
            refine lv_goto hx hb dX4_fits_80 (tgt := 2) rfl ?_
            have hF := wJ_l hq3 hF
            exact ih3 i11 H locs ls hF hH (lv_sub hl [1, 2, 0] rfl)
          refine lv_if_eq hx hb dX4_fits_38 (tgt := 77) rfl (fun h => ?_) (fun h => ?_)
          · have hF := wx_t h hF
            have hF := wJ_l hq10 hF
            exact hJ77 H locs ls hF hH (lv_sub hl [1, 2, 3] rfl)
          have hF := wx_f h hF
          refine lv_aload_n hx hb dX4_fits_41 rfl (lv_at hl 2 rfl) ?_
          refine wx_getR hC hH h_o2 rfl f_X4_57 dX4_fits_42 hF (fun o12 h_o12 hF => ?_)
          refine lv_aload_n hx hb dX4_fits_45 rfl (lv_at hl 1 rfl) ?_
          refine wx_getR hC hH h_o1 rfl f_X4_22 dX4_fits_46 hF (fun o13 h_o13 hF => ?_)
          refine lv_iload_n hx hb dX4_fits_49 rfl (lv_at hl 3 rfl) ?_
          refine wx_iald hC hH h_o13 ⟨rfl, rfl⟩ dX4_fits_50 hF (fun j14 hF => ?_)
          refine wx_iald hC hH h_o12 ⟨rfl, rfl⟩ dX4_fits_51 hF (fun j15 hF => ?_)
          refine lv_aload_n hx hb dX4_fits_52 rfl (lv_at hl 1 rfl) ?_
          refine wx_getR hC hH h_o1 rfl f_X4_25 dX4_fits_53 hF (fun o16 h_o16 hF => ?_)
          refine lv_iload_n hx hb dX4_fits_56 rfl (lv_at hl 3 rfl) ?_
          refine wx_iald hC hH h_o16 ⟨rfl, rfl⟩ dX4_fits_57 hF (fun j17 hF => ?_)
          obtain ⟨q18_, hF, hq18⟩ := wJ_some hF
          have hJ66 : ∀ (i19 : Int32) (H : Heap) (locs : List Loc) (ls : Array Slot), F_X4_fits_j66 u0 o1 i4 i19 = some q10_ → wHp D κ ρ 0 A s.heap H locs u0 → lv_has ls 4 [(0, .ref (ρ o1)), (1, .ref (ρ o2)), (2, .int i4)] → W p l e (wRm 1 21) s m args below meth c H locs 0 0 (wQI below args s A D κ ρ 0 (z, u0)) (F0 m 66 ls [.int i19]) := by
            intro i19 H locs ls hF hH hl
            unfold F_X4_fits_j66 at hF
            refine lv_aload_n hx hb dX4_fits_66 rfl (lv_at hl 0 rfl) ?_
            refine wx_getR hC hH h_o1 rfl f_X4_28 dX4_fits_67 hF (fun o20 h_o20 hF => ?_)
            refine lv_iload_n hx hb dX4_fits_70 rfl (lv_at hl 2 rfl) ?_
            refine wx_zald hC hH h_o20 ⟨rfl, rfl⟩ dX4_fits_71 hF (fun j21 hF => ?_)
            refine lv_icmp_eq hx hb dX4_fits_72 (tgt := 77) rfl (fun h => ?_) (fun h => ?_)
            · have hF := wx_t h hF
              have hF := wJ_l hq10 hF
              exact hJ77 H locs ls hF hH (lv_sub hl [0, 1, 2] rfl)
            have hF := wx_f h hF
            refine lv_iconst hx hb dX4_fits_75 k_iconst_0 ?_
            have hF := wJ_r hq10 hF
            have hF := wJ_r hq3 hF
            exact wx_zret hC hH hr hlk dX4_fits_76 (Or.inl rfl) (wx_pr hF)
          refine lv_icmp_lt hx hb dX4_fits_58 (tgt := 65) rfl (fun h => ?_) (fun h => ?_)
          · have hF := wx_t h hF
            refine lv_iconst hx hb dX4_fits_65 k_iconst_0 ?_
            have hF := wJ_l hq18 hF
            exact hJ66 (0 : Int32) H locs ls hF hH (lv_sub hl [1, 2, 3] rfl)
          have hF := wx_f h hF
          refine lv_iconst hx hb dX4_fits_61 k_iconst_1 ?_
          refine lv_goto hx hb dX4_fits_62 (tgt := 66) rfl ?_
          have hF := wJ_l hq18 hF
          exact hJ66 (1 : Int32) H locs ls hF hH (lv_sub hl [1, 2, 3] rfl)
        have hJ35 : ∀ (H : Heap) (locs : List Loc) (ls : Array Slot), F_X4_fits_j35 = some q7_ → wHp D κ ρ 0 A s.heap H locs u0 → lv_has ls 4 [(0, .ref (ρ o1)), (1, .ref (ρ o2)), (2, .int i4)] → W p l e (wRm 1 21) s m args below meth c H locs 0 0 (wQI below args s A D κ ρ 0 (z, u0)) (F0 m 35 ls []) := by
          intro H locs ls hF hH hl
          unfold F_X4_fits_j35 at hF
          refine lv_iconst hx hb dX4_fits_35 k_iconst_0 ?_
          have hF := wJ_l hq7 hF
          exact hJ36 (0 : Int32) H locs ls hF hH (lv_sub hl [0, 1, 2] rfl)
        refine lv_if_eq hx hb dX4_fits_15 (tgt := 35) rfl (fun h => ?_) (fun h => ?_)
        · have hF := wx_t h hF
          have hF := wJ_l hq8 hF
          exact hJ35 H locs ls hF hH (lv_sub hl [0, 1, 2] rfl)
        have hF := wx_f h hF
        refine lv_aload_n hx hb dX4_fits_18 rfl (lv_at hl 0 rfl) ?_
        refine wx_getR hC hH h_o1 rfl f_X4_18 dX4_fits_19 hF (fun o22 h_o22 hF => ?_)
        refine lv_iload_n hx hb dX4_fits_22 rfl (lv_at hl 2 rfl) ?_
        refine wx_iald hC hH h_o22 ⟨rfl, rfl⟩ dX4_fits_23 hF (fun j23 hF => ?_)
        refine lv_aload_n hx hb dX4_fits_24 rfl (lv_at hl 1 rfl) ?_
        refine wx_getI hC hH h_o2 rfl f_X4_52 dX4_fits_25 ?_
        refine lv_icmp_ne hx hb dX4_fits_28 (tgt := 35) rfl (fun h => ?_) (fun h => ?_)
        · have hF := wx_f h hF
          have hF := wJ_l hq8 hF
          exact hJ35 H locs ls hF hH (lv_sub hl [0, 1, 2] rfl)
        have hF := wx_t h hF
        refine lv_iconst hx hb dX4_fits_31 k_iconst_1 ?_
        refine lv_goto hx hb dX4_fits_32 (tgt := 36) rfl ?_
        have hF := wJ_r hq8 hF
        have hF := wJ_l hq7 hF
        exact hJ36 (1 : Int32) H locs ls hF hH (lv_sub hl [0, 1, 2] rfl)
    exact hL2 wFu (0 : Int32) H locs ls hF hH (lv_sub hl [1, 2, 0] rfl)
  exact key _ _ hH
def F_X7_dropOldest (o1 : Nat) (u0 : wSt) : Option (Unit × wSt) :=
  wR (u0.2.2 o1 1) 10 (fun o2 => wR (u0.2.2 o1 1) 10 (fun o3 => wCP u0 o2 (1 : Int32) o3 (0 : Int32) (19 : Int32) (fun (u4 : wSt) => wR (u4.2.2 o1 2) 10 (fun o5 => wR (u4.2.2 o1 2) 10 (fun o6 => wCP u4 o5 (1 : Int32) o6 (0 : Int32) (19 : Int32) (fun (u7 : wSt) => wR (u7.2.2 o1 3) 10 (fun o8 => wR (u7.2.2 o1 3) 10 (fun o9 => wCP u7 o8 (1 : Int32) o9 (0 : Int32) (19 : Int32) (fun (u10 : wSt) => wB (w_sI u10 o1 0 (19 : Int32)) (fun (u11 : wSt) => some ((), u11)))))))))))
set_option maxRecDepth 100000 in
set_option maxHeartbeats 4000000 in
theorem c_X7_dropOldest {l : Launch} {D : va_G} {κ : Nat → ClassId} {ρ : Nat → Nat} (o1 : Nat) (h_o1 : (w_sh o1).1 = 7) : wMV l yX7_dropOldest cX7_dropOldest 1 (wRm 1 26) [.ref (ρ o1)] D κ ρ 0 (fun u => F_X7_dropOldest o1 u) := by
  refine wMV_of (F := fun u => F_X7_dropOldest o1 u) rfl (Nat.le_of_ble_eq_true rfl) (fun u0 z p e s m args below meth c ls A hF hC hr hlk hH hl => ?_)
  have hl : lv_has ls 1 [(0, .ref (ρ o1))] := hl
  have hx := hC.1.1
  have hb := hC.1.2.1
  have hF : F_X7_dropOldest o1 u0 = some z := hF
  unfold F_X7_dropOldest at hF
  change W p l e (wRm 1 26) s m args below meth c s.heap [] 0 0 (wQV below args s A D κ ρ 0 z) (F0 m 0 ls [])
  have key : ∀ (H : Heap) (locs : List Loc), wHp D κ ρ 0 A s.heap H locs u0 → W p l e (wRm 1 26) s m args below meth c H locs 0 0 (wQV below args s A D κ ρ 0 z) (F0 m 0 ls []) := by
    intro H locs hH
    refine lv_aload_n hx hb dX7_dropOldest_0 rfl (lv_at hl 0 rfl) ?_
    refine wx_getR hC hH h_o1 rfl f_X7_15 dX7_dropOldest_1 hF (fun o2 h_o2 hF => ?_)
    refine lv_iconst hx hb dX7_dropOldest_4 k_iconst_1 ?_
    refine lv_aload_n hx hb dX7_dropOldest_5 rfl (lv_at hl 0 rfl) ?_
    refine wx_getR hC hH h_o1 rfl f_X7_15 dX7_dropOldest_6 hF (fun o3 h_o3 hF => ?_)
    refine lv_iconst hx hb dX7_dropOldest_9 k_iconst_0 ?_
    refine lv_bipush hx hb dX7_dropOldest_10 k_bipush_19 ?_
    refine wx_copy hC hH hl.1 h_o2 h_o3 rfl m_X7_28 ⟨Nat.le_of_ble_eq_true rfl, Nat.le_of_ble_eq_true rfl⟩ dX7_dropOldest_12 hF (fun u4 H locs hF hH => ?_)
    refine lv_aload_n hx hb dX7_dropOldest_15 rfl (lv_at hl 0 rfl) ?_
    refine wx_getR hC hH h_o1 rfl f_X7_19 dX7_dropOldest_16 hF (fun o5 h_o5 hF => ?_)
    refine lv_iconst hx hb dX7_dropOldest_19 k_iconst_1 ?_
    refine lv_aload_n hx hb dX7_dropOldest_20 rfl (lv_at hl 0 rfl) ?_
    refine wx_getR hC hH h_o1 rfl f_X7_19 dX7_dropOldest_21 hF (fun o6 h_o6 hF => ?_)
    refine lv_iconst hx hb dX7_dropOldest_24 k_iconst_0 ?_
    refine lv_bipush hx hb dX7_dropOldest_25 k_bipush_19 ?_
    refine wx_copy hC hH hl.1 h_o5 h_o6 rfl m_X7_28 ⟨Nat.le_of_ble_eq_true rfl, Nat.le_of_ble_eq_true rfl⟩ dX7_dropOldest_27 hF (fun u7 H locs hF hH => ?_)
    refine lv_aload_n hx hb dX7_dropOldest_30 rfl (lv_at hl 0 rfl) ?_
    refine wx_getR hC hH h_o1 rfl f_X7_22 dX7_dropOldest_31 hF (fun o8 h_o8 hF => ?_)
    refine lv_iconst hx hb dX7_dropOldest_34 k_iconst_1 ?_
    refine lv_aload_n hx hb dX7_dropOldest_35 rfl (lv_at hl 0 rfl) ?_
    refine wx_getR hC hH h_o1 rfl f_X7_22 dX7_dropOldest_36 hF (fun o9 h_o9 hF => ?_)
    refine lv_iconst hx hb dX7_dropOldest_39 k_iconst_0 ?_
    refine lv_bipush hx hb dX7_dropOldest_40 k_bipush_19 ?_
    refine wx_copy hC hH hl.1 h_o8 h_o9 rfl m_X7_28 ⟨Nat.le_of_ble_eq_true rfl, Nat.le_of_ble_eq_true rfl⟩ dX7_dropOldest_42 hF (fun u10 H locs hF hH => ?_)
    refine lv_aload_n hx hb dX7_dropOldest_45 rfl (lv_at hl 0 rfl) ?_
    refine lv_bipush hx hb dX7_dropOldest_46 k_bipush_19 ?_
    refine wx_putI hC hH h_o1 rfl f_X7_9 g_7_0 dX7_dropOldest_48 hF (fun u11 H locs hF hH => ?_)
    exact wx_vret hC hH hr hlk dX7_dropOldest_51 hF
  exact key _ _ hH
def F_X7_put_j13 (o1 : Nat) (i2 : Int32) (i3 : Int32) (i4 : Int32) (u6 : wSt) : Option (Unit × wSt) :=
  wR (u6.2.2 o1 1) 10 (fun o7 => wSI u6 o7 (u6.1 o1 0) i2 (fun (u8 : wSt) => wR (u8.2.2 o1 2) 10 (fun o9 => wSI u8 o9 (u8.1 o1 0) i3 (fun (u10 : wSt) => wR (u10.2.2 o1 3) 10 (fun o11 => wSI u10 o11 (u10.1 o1 0) i4 (fun (u12 : wSt) => wB (w_sI u12 o1 0 ((u12.1 o1 0) + (1 : Int32))) (fun (u13 : wSt) => some ((), u13))))))))
def F_X7_put (o1 : Nat) (i2 : Int32) (i3 : Int32) (i4 : Int32) (u0 : wSt) : Option (Unit × wSt) :=
  wJ (X := wSt) (if (u0.1 o1 0) < (20 : Int32) then (some (.inl u0)) else (wC (F_X7_dropOldest o1 u0) (fun _ (u14 : wSt) => some (.inl u14)))) (fun x => F_X7_put_j13 o1 i2 i3 i4 x)
set_option maxRecDepth 100000 in
set_option maxHeartbeats 4000000 in
theorem c_X7_put {l : Launch} {D : va_G} {κ : Nat → ClassId} {ρ : Nat → Nat} (o1 : Nat) (i2 : Int32) (i3 : Int32) (i4 : Int32) (h_o1 : (w_sh o1).1 = 7) : wMV l yX7_put cX7_put 4 (wRm 2 46) [.ref (ρ o1), .int i2, .int i3, .int i4] D κ ρ 0 (fun u => F_X7_put o1 i2 i3 i4 u) := by
  refine wMV_of (F := fun u => F_X7_put o1 i2 i3 i4 u) rfl (Nat.le_of_ble_eq_true rfl) (fun u0 z p e s m args below meth c ls A hF hC hr hlk hH hl => ?_)
  have hl : lv_has ls 4 [(0, .ref (ρ o1)), (1, .int i2), (2, .int i3), (3, .int i4)] := hl
  have hx := hC.1.1
  have hb := hC.1.2.1
  have hF : F_X7_put o1 i2 i3 i4 u0 = some z := hF
  unfold F_X7_put at hF
  change W p l e (wRm 2 46) s m args below meth c s.heap [] 0 0 (wQV below args s A D κ ρ 0 z) (F0 m 0 ls [])
  have key : ∀ (H : Heap) (locs : List Loc), wHp D κ ρ 0 A s.heap H locs u0 → W p l e (wRm 2 46) s m args below meth c H locs 0 0 (wQV below args s A D κ ρ 0 z) (F0 m 0 ls []) := by
    intro H locs hH
    refine lv_aload_n hx hb dX7_put_0 rfl (lv_at hl 0 rfl) ?_
    refine wx_getI hC hH h_o1 rfl f_X7_9 dX7_put_1 ?_
    refine lv_bipush hx hb dX7_put_4 k_bipush_20 ?_
    obtain ⟨q5_, hF, hq5⟩ := wJ_some hF
    have hJ13 : ∀ (u6 : wSt) (H : Heap) (locs : List Loc) (ls : Array Slot), F_X7_put_j13 o1 i2 i3 i4 u6 = some z → wHp D κ ρ 0 A s.heap H locs u6 → lv_has ls 4 [(0, .ref (ρ o1)), (1, .int i2), (2, .int i3), (3, .int i4)] → W p l e (wRm 2 46) s m args below meth c H locs 0 0 (wQV below args s A D κ ρ 0 z) (F0 m 13 ls []) := by
      intro u6 H locs ls hF hH hl
      unfold F_X7_put_j13 at hF
      refine lv_aload_n hx hb dX7_put_13 rfl (lv_at hl 0 rfl) ?_
      refine wx_getR hC hH h_o1 rfl f_X7_15 dX7_put_14 hF (fun o7 h_o7 hF => ?_)
      refine lv_aload_n hx hb dX7_put_17 rfl (lv_at hl 0 rfl) ?_
      refine wx_getI hC hH h_o1 rfl f_X7_9 dX7_put_18 ?_
      refine lv_iload_n hx hb dX7_put_21 rfl (lv_at hl 1 rfl) ?_
      refine wx_iast hC hH h_o7 ⟨rfl, rfl⟩ dX7_put_22 hF (fun u8 H locs hF hH => ?_)
      refine lv_aload_n hx hb dX7_put_23 rfl (lv_at hl 0 rfl) ?_
      refine wx_getR hC hH h_o1 rfl f_X7_19 dX7_put_24 hF (fun o9 h_o9 hF => ?_)
      refine lv_aload_n hx hb dX7_put_27 rfl (lv_at hl 0 rfl) ?_
      refine wx_getI hC hH h_o1 rfl f_X7_9 dX7_put_28 ?_
      refine lv_iload_n hx hb dX7_put_31 rfl (lv_at hl 2 rfl) ?_
      refine wx_iast hC hH h_o9 ⟨rfl, rfl⟩ dX7_put_32 hF (fun u10 H locs hF hH => ?_)
      refine lv_aload_n hx hb dX7_put_33 rfl (lv_at hl 0 rfl) ?_
      refine wx_getR hC hH h_o1 rfl f_X7_22 dX7_put_34 hF (fun o11 h_o11 hF => ?_)
      refine lv_aload_n hx hb dX7_put_37 rfl (lv_at hl 0 rfl) ?_
      refine wx_getI hC hH h_o1 rfl f_X7_9 dX7_put_38 ?_
      refine lv_iload_n hx hb dX7_put_41 rfl (lv_at hl 3 rfl) ?_
      refine wx_iast hC hH h_o11 ⟨rfl, rfl⟩ dX7_put_42 hF (fun u12 H locs hF hH => ?_)
      refine lv_aload_n hx hb dX7_put_43 rfl (lv_at hl 0 rfl) ?_
      refine lv_dup hx hb dX7_put_44 rfl ?_
      refine wx_getI hC hH h_o1 rfl f_X7_9 dX7_put_45 ?_
      refine lv_iconst hx hb dX7_put_48 k_iconst_1 ?_
      refine lv_iadd hx hb dX7_put_49 ?_
      refine wx_putI hC hH h_o1 rfl f_X7_9 g_7_0 dX7_put_50 hF (fun u13 H locs hF hH => ?_)
      exact wx_vret hC hH hr hlk dX7_put_53 hF
    refine lv_icmp_lt hx hb dX7_put_6 (tgt := 13) rfl (fun h => ?_) (fun h => ?_)
    · have hF := wx_t h hF
      have hF := wJ_l hq5 hF
      exact hJ13 u0 H locs ls hF hH (lv_sub hl [0, 1, 2, 3] rfl)
    have hF := wx_f h hF
    refine lv_aload_n hx hb dX7_put_9 rfl (lv_at hl 0 rfl) ?_
    refine wx_evv hC hH hl (c_X7_dropOldest o1 h_o1) y_X7_dropOldest v_X7_dropOldest h_o1 rfl m_X7_25 rfl ⟨Nat.le_of_ble_eq_true rfl, Nat.le_of_ble_eq_true rfl⟩ ⟨Nat.le_refl _, Nat.le_refl _⟩ rfl (Nat.le_of_ble_eq_true rfl) dX7_put_10 hF (fun _ u14 H locs hF hH => ?_)
    have hF := wJ_l hq5 hF
    exact hJ13 u14 H locs ls hF hH (lv_sub hl [0, 1, 2, 3] rfl)
  exact key _ _ hH
def F_X7_takeBack_j91 (o1 : Nat) (u10 : wSt) : Option (Int32 × wSt) :=
  some ((u10.1 o1 0), u10)
def F_X7_takeBack (o1 : Nat) (o2 : Nat) (u0 : wSt) : Option (Int32 × wSt) :=
  if 0 < (u0.1 o1 0) then (wB (w_sI u0 o1 0 ((u0.1 o1 0) - (1 : Int32))) (fun (u3 : wSt) => wR (u3.2.2 o1 2) 10 (fun o4 => wN (u3.1 o1 0) o4 (fun j5 => wB (u3.1 o4 j5) (fun (i6 : Int32) => wR (u3.2.2 o1 1) 10 (fun o7 => wN (u3.1 o1 0) o7 (fun j8 => wJ (X := wSt) (if (u3.1 o7 j8) = 0 then (wR (u3.2.2 o1 3) 10 (fun o18 => wN (u3.1 o1 0) o18 (fun j19 => wC (F_X3_changeSeats o2 i6 (u3.1 o18 j19) u3) (fun _ (u20 : wSt) => some (.inl u20))))) else (wR (u3.2.2 o2 6) 10 (fun o11 => wR (u3.2.2 o1 3) 10 (fun o12 => wN (u3.1 o1 0) o12 (fun j13 => wSI u3 o11 i6 (u3.1 o12 j13) (fun (u14 : wSt) => wR (u14.2.2 o1 1) 10 (fun o15 => wN (u14.1 o1 0) o15 (fun j16 => if (u14.1 o15 j16) = (2 : Int32) then (wC (F_X3_faint o2 i6 u14) (fun _ (u17 : wSt) => some (.inl u17))) else (some (.inl u14)))))))))) (fun x => F_X7_takeBack_j91 o1 x)))))))) else (some ((-1 : Int32), u0))
set_option maxRecDepth 100000 in
set_option maxHeartbeats 4000000 in
theorem c_X7_takeBack {l : Launch} {D : va_G} {κ : Nat → ClassId} {ρ : Nat → Nat} (o1 : Nat) (o2 : Nat) (h_o1 : (w_sh o1).1 = 7) (h_o2 : (w_sh o2).1 = 3) : wMI l yX7_takeBack cX7_takeBack 3 .int (wRm 1 23) [.ref (ρ o1), .ref (ρ o2)] D κ ρ 0 (fun u => F_X7_takeBack o1 o2 u) := by
  refine wMI_of (F := fun u => F_X7_takeBack o1 o2 u) rfl (Nat.le_of_ble_eq_true rfl) (fun u0 z p e s m args below meth c ls A hF hC hr hlk hH hl => ?_)
  have hl : lv_has ls 3 [(0, .ref (ρ o1)), (1, .ref (ρ o2))] := hl
  have hx := hC.1.1
  have hb := hC.1.2.1
  have hF : F_X7_takeBack o1 o2 u0 = some z := hF
  unfold F_X7_takeBack at hF
  change W p l e (wRm 1 23) s m args below meth c s.heap [] 0 0 (wQI below args s A D κ ρ 0 z) (F0 m 0 ls [])
  have key : ∀ (H : Heap) (locs : List Loc), wHp D κ ρ 0 A s.heap H locs u0 → W p l e (wRm 1 23) s m args below meth c H locs 0 0 (wQI below args s A D κ ρ 0 z) (F0 m 0 ls []) := by
    intro H locs hH
    refine lv_aload_n hx hb dX7_takeBack_0 rfl (lv_at hl 0 rfl) ?_
    refine wx_getI hC hH h_o1 rfl f_X7_9 dX7_takeBack_1 ?_
    refine lv_if_gt hx hb dX7_takeBack_4 (tgt := 9) rfl (fun h => ?_) (fun h => ?_)
    · have hF := wx_t h hF
      refine lv_aload_n hx hb dX7_takeBack_9 rfl (lv_at hl 0 rfl) ?_
      refine lv_dup hx hb dX7_takeBack_10 rfl ?_
      refine wx_getI hC hH h_o1 rfl f_X7_9 dX7_takeBack_11 ?_
      refine lv_iconst hx hb dX7_takeBack_14 k_iconst_1 ?_
      refine lv_isub hx hb dX7_takeBack_15 ?_
      refine wx_putI hC hH h_o1 rfl f_X7_9 g_7_0 dX7_takeBack_16 hF (fun u3 H locs hF hH => ?_)
      refine lv_aload_n hx hb dX7_takeBack_19 rfl (lv_at hl 0 rfl) ?_
      refine wx_getR hC hH h_o1 rfl f_X7_19 dX7_takeBack_20 hF (fun o4 h_o4 hF => ?_)
      refine lv_aload_n hx hb dX7_takeBack_23 rfl (lv_at hl 0 rfl) ?_
      refine wx_getI hC hH h_o1 rfl f_X7_9 dX7_takeBack_24 ?_
      refine wx_iald hC hH h_o4 ⟨rfl, rfl⟩ dX7_takeBack_27 hF (fun j5 hF => ?_)
      refine wx_leti hF (fun i6 hF => ?_)
      refine wx_istore_n hx hb dX7_takeBack_28 rfl hl (by decide) (fun ls hl => ?_)
      have hl : lv_has ls 3 [(2, .int i6), (0, .ref (ρ o1)), (1, .ref (ρ o2))] := hl
      refine lv_aload_n hx hb dX7_takeBack_29 rfl (lv_at hl 1 rfl) ?_
      refine wx_getR hC hH h_o1 rfl f_X7_15 dX7_takeBack_30 hF (fun o7 h_o7 hF => ?_)
      refine lv_aload_n hx hb dX7_takeBack_33 rfl (lv_at hl 1 rfl) ?_
      refine wx_getI hC hH h_o1 rfl f_X7_9 dX7_takeBack_34 ?_
      refine wx_iald hC hH h_o7 ⟨rfl, rfl⟩ dX7_takeBack_37 hF (fun j8 hF => ?_)
      obtain ⟨q9_, hF, hq9⟩ := wJ_some hF
      have hJ91 : ∀ (u10 : wSt) (H : Heap) (locs : List Loc) (ls : Array Slot), F_X7_takeBack_j91 o1 u10 = some z → wHp D κ ρ 0 A s.heap H locs u10 → lv_has ls 3 [(0, .ref (ρ o1))] → W p l e (wRm 1 23) s m args below meth c H locs 0 0 (wQI below args s A D κ ρ 0 z) (F0 m 91 ls []) := by
        intro u10 H locs ls hF hH hl
        unfold F_X7_takeBack_j91 at hF
        refine lv_aload_n hx hb dX7_takeBack_91 rfl (lv_at hl 0 rfl) ?_
        refine wx_getI hC hH h_o1 rfl f_X7_9 dX7_takeBack_92 ?_
        exact wx_iret hC hH hr hlk dX7_takeBack_95 hF
      refine lv_if_ne hx hb dX7_takeBack_38 (tgt := 58) rfl (fun h => ?_) (fun h => ?_)
      · have hF := wx_f h hF
        refine lv_aload_n hx hb dX7_takeBack_58 rfl (lv_at hl 2 rfl) ?_
        refine wx_getR hC hH h_o2 rfl f_X7_40 dX7_takeBack_59 hF (fun o11 h_o11 hF => ?_)
        refine lv_iload_n hx hb dX7_takeBack_62 rfl (lv_at hl 0 rfl) ?_
        refine lv_aload_n hx hb dX7_takeBack_63 rfl (lv_at hl 1 rfl) ?_
        refine wx_getR hC hH h_o1 rfl f_X7_22 dX7_takeBack_64 hF (fun o12 h_o12 hF => ?_)
        refine lv_aload_n hx hb dX7_takeBack_67 rfl (lv_at hl 1 rfl) ?_
        refine wx_getI hC hH h_o1 rfl f_X7_9 dX7_takeBack_68 ?_
        refine wx_iald hC hH h_o12 ⟨rfl, rfl⟩ dX7_takeBack_71 hF (fun j13 hF => ?_)
        refine wx_iast hC hH h_o11 ⟨rfl, rfl⟩ dX7_takeBack_72 hF (fun u14 H locs hF hH => ?_)
        refine lv_aload_n hx hb dX7_takeBack_73 rfl (lv_at hl 1 rfl) ?_
        refine wx_getR hC hH h_o1 rfl f_X7_15 dX7_takeBack_74 hF (fun o15 h_o15 hF => ?_)
        refine lv_aload_n hx hb dX7_takeBack_77 rfl (lv_at hl 1 rfl) ?_
        refine wx_getI hC hH h_o1 rfl f_X7_9 dX7_takeBack_78 ?_
        refine wx_iald hC hH h_o15 ⟨rfl, rfl⟩ dX7_takeBack_81 hF (fun j16 hF => ?_)
        refine lv_iconst hx hb dX7_takeBack_82 k_iconst_2 ?_
        refine lv_icmp_ne hx hb dX7_takeBack_83 (tgt := 91) rfl (fun h => ?_) (fun h => ?_)
        · have hF := wx_f h hF
          have hF := wJ_l hq9 hF
          exact hJ91 u14 H locs ls hF hH (lv_sub hl [1] rfl)
        have hF := wx_t h hF
        refine lv_aload_n hx hb dX7_takeBack_86 rfl (lv_at hl 2 rfl) ?_
        refine lv_iload_n hx hb dX7_takeBack_87 rfl (lv_at hl 0 rfl) ?_
        refine wx_evv hC hH hl (c_X3_faint o2 i6 h_o2) y_X3_faint v_X3_faint h_o2 rfl m_X7_43 rfl ⟨Nat.le_of_ble_eq_true rfl, Nat.le_of_ble_eq_true rfl⟩ ⟨Nat.le_refl _, Nat.le_refl _⟩ rfl (Nat.le_of_ble_eq_true rfl) dX7_takeBack_88 hF (fun _ u17 H locs hF hH => ?_)
        have hF := wJ_l hq9 hF
        exact hJ91 u17 H locs ls hF hH (lv_sub hl [1] rfl)
      have hF := wx_t h hF
      refine lv_aload_n hx hb dX7_takeBack_41 rfl (lv_at hl 2 rfl) ?_
      refine lv_iload_n hx hb dX7_takeBack_42 rfl (lv_at hl 0 rfl) ?_
      refine lv_aload_n hx hb dX7_takeBack_43 rfl (lv_at hl 1 rfl) ?_
      refine wx_getR hC hH h_o1 rfl f_X7_22 dX7_takeBack_44 hF (fun o18 h_o18 hF => ?_)
      refine lv_aload_n hx hb dX7_takeBack_47 rfl (lv_at hl 1 rfl) ?_
      refine wx_getI hC hH h_o1 rfl f_X7_9 dX7_takeBack_48 ?_
      refine wx_iald hC hH h_o18 ⟨rfl, rfl⟩ dX7_takeBack_51 hF (fun j19 hF => ?_)
      refine wx_evv hC hH hl (c_X3_changeSeats o2 i6 (u3.1 o18 j19) h_o2) y_X3_changeSeats v_X3_changeSeats h_o2 rfl m_X7_34 rfl ⟨Nat.le_of_ble_eq_true rfl, Nat.le_of_ble_eq_true rfl⟩ ⟨Nat.le_refl _, Nat.le_refl _⟩ rfl (Nat.le_of_ble_eq_true rfl) dX7_takeBack_52 hF (fun _ u20 H locs hF hH => ?_)
      refine lv_goto hx hb dX7_takeBack_55 (tgt := 91) rfl ?_
      have hF := wJ_l hq9 hF
      exact hJ91 u20 H locs ls hF hH (lv_sub hl [1] rfl)
    have hF := wx_f h hF
    refine lv_iconst hx hb dX7_takeBack_7 k_iconst_m1 ?_
    exact wx_iret hC hH hr hlk dX7_takeBack_8 hF
  exact key _ _ hH
def F_X8_putOnTape_b3 (o1 : Nat) (i2 : Int32) (i4 : Int32) (u5 : wSt) : Option ((Int32 × wSt) ⊕ (Unit × wSt)) :=
  if i4 < 0 then (some (.inr ((), u5))) else (if (700 : Int32) ≤ (u5.1 o1 1) then (some (.inr ((), u5))) else (wR (u5.2.2 o1 0) 11 (fun o6 => wSB u5 o6 (u5.1 o1 1) ((i2 >>> (i4 &&& 31)).toInt8.toInt32) (fun (u7 : wSt) => wB (w_sI u7 o1 1 ((u7.1 o1 1) + (1 : Int32))) (fun (u8 : wSt) => wB (i4 + (-8 : Int32)) (fun (i9 : Int32) => some (.inl (i9, u8))))))))
def F_X8_putOnTape (o1 : Nat) (i2 : Int32) (u0 : wSt) : Option (Unit × wSt) :=
  wL (S := Int32 × wSt) (fun x => F_X8_putOnTape_b3 o1 i2 x.1 x.2) wFu ((24 : Int32), u0)
set_option maxRecDepth 100000 in
set_option maxHeartbeats 4000000 in
theorem c_X8_putOnTape {l : Launch} {D : va_G} {κ : Nat → ClassId} {ρ : Nat → Nat} (o1 : Nat) (i2 : Int32) (h_o1 : (w_sh o1).1 = 8) : wMV l yX8_putOnTape cX8_putOnTape 3 (wRm 0 0) [.ref (ρ o1), .int i2] D κ ρ 0 (fun u => F_X8_putOnTape o1 i2 u) := by
  refine wMV_of (F := fun u => F_X8_putOnTape o1 i2 u) rfl (Nat.le_of_ble_eq_true rfl) (fun u0 z p e s m args below meth c ls A hF hC hr hlk hH hl => ?_)
  have hl : lv_has ls 3 [(0, .ref (ρ o1)), (1, .int i2)] := hl
  have hx := hC.1.1
  have hb := hC.1.2.1
  have hF : F_X8_putOnTape o1 i2 u0 = some z := hF
  unfold F_X8_putOnTape at hF
  change W p l e (wRm 0 0) s m args below meth c s.heap [] 0 0 (wQV below args s A D κ ρ 0 z) (F0 m 0 ls [])
  have key : ∀ (H : Heap) (locs : List Loc), wHp D κ ρ 0 A s.heap H locs u0 → W p l e (wRm 0 0) s m args below meth c H locs 0 0 (wQV below args s A D κ ρ 0 z) (F0 m 0 ls []) := by
    intro H locs hH
    refine lv_bipush hx hb dX8_putOnTape_0 k_bipush_24 ?_
    refine wx_istore_n hx hb dX8_putOnTape_2 rfl hl (by decide) (fun ls hl => ?_)
    have hl : lv_has ls 3 [(2, .int (24 : Int32)), (0, .ref (ρ o1)), (1, .int i2)] := hl
    have hL3 : ∀ (k3_ : Nat) (i4 : Int32) (u5 : wSt) (H : Heap) (locs : List Loc) (ls : Array Slot), wL (S := Int32 × wSt) (fun x => F_X8_putOnTape_b3 o1 i2 x.1 x.2) k3_ (i4, u5) = some z → wHp D κ ρ 0 A s.heap H locs u5 → lv_has ls 3 [(0, .ref (ρ o1)), (1, .int i2), (2, .int i4)] → W p l e (wRm 0 0) s m args below meth c H locs 0 0 (wQV below args s A D κ ρ 0 z) (F0 m 3 ls []) := by
      intro k3_
      induction k3_ with
      | zero => intro i4 u5 H locs ls hF; exact wL_zero hF
      | succ k3_ ih3 =>
        intro i4 u5 H locs ls hF hH hl
        obtain ⟨q3_, hF, hq3⟩ := wL_some hF
        have hF : F_X8_putOnTape_b3 o1 i2 i4 u5 = some q3_ := hF
        unfold F_X8_putOnTape_b3 at hF
        refine lv_iload_n hx hb dX8_putOnTape_3 rfl (lv_at hl 2 rfl) ?_
        refine lv_if_lt hx hb dX8_putOnTape_4 (tgt := 46) rfl (fun h => ?_) (fun h => ?_)
        · have hF := wx_t h hF
          have hF := wJ_r hq3 hF
          exact wx_vret hC hH hr hlk dX8_putOnTape_46 hF
        have hF := wx_f h hF
        refine lv_aload_n hx hb dX8_putOnTape_7 rfl (lv_at hl 0 rfl) ?_
        refine wx_getI hC hH h_o1 rfl f_X8_15 dX8_putOnTape_8 ?_
        refine lv_sipush hx hb dX8_putOnTape_11 k_sipush_700 ?_
        refine lv_icmp_ge hx hb dX8_putOnTape_14 (tgt := 46) rfl (fun h => ?_) (fun h => ?_)
        · have hF := wx_t h hF
          have hF := wJ_r hq3 hF
          exact wx_vret hC hH hr hlk dX8_putOnTape_46 hF
        have hF := wx_f h hF
        refine lv_aload_n hx hb dX8_putOnTape_17 rfl (lv_at hl 0 rfl) ?_
        refine wx_getR hC hH h_o1 rfl f_X8_11 dX8_putOnTape_18 hF (fun o6 h_o6 hF => ?_)
        refine lv_aload_n hx hb dX8_putOnTape_21 rfl (lv_at hl 0 rfl) ?_
        refine wx_getI hC hH h_o1 rfl f_X8_15 dX8_putOnTape_22 ?_
        refine lv_iload_n hx hb dX8_putOnTape_25 rfl (lv_at hl 1 rfl) ?_
        refine lv_iload_n hx hb dX8_putOnTape_26 rfl (lv_at hl 2 rfl) ?_
        refine lv_ishr hx hb dX8_putOnTape_27 ?_
        refine lv_i2b hx hb dX8_putOnTape_28 rfl ?_
        refine wx_bast hC hH h_o6 ⟨rfl, rfl⟩ dX8_putOnTape_29 hF (fun u7 H locs hF hH => ?_)
        refine lv_aload_n hx hb dX8_putOnTape_30 rfl (lv_at hl 0 rfl) ?_
        refine lv_dup hx hb dX8_putOnTape_31 rfl ?_
        refine wx_getI hC hH h_o1 rfl f_X8_15 dX8_putOnTape_32 ?_
        refine lv_iconst hx hb dX8_putOnTape_35 k_iconst_1 ?_
        refine lv_iadd hx hb dX8_putOnTape_36 ?_
        refine wx_putI hC hH h_o1 rfl f_X8_15 g_8_1 dX8_putOnTape_37 hF (fun u8 H locs hF hH => ?_)
        refine wx_iinc hx hb dX8_putOnTape_40 k_iconst_m8 hl (k := 2) rfl (by decide) hF (fun i9 ls hF hl => ?_)
        have hl : lv_has ls 3 [(2, .int i9), (0, .ref (ρ o1)), (1, .int i2)] := hl
        refine lv_goto hx hb dX8_putOnTape_43 (tgt := 3) rfl ?_
        have hF := wJ_l hq3 hF
        exact ih3 i9 u8 H locs ls hF hH (lv_sub hl [1, 2, 0] rfl)
    exact hL3 wFu (24 : Int32) u0 H locs ls hF hH (lv_sub hl [1, 2, 0] rfl)
  exact key _ _ hH
def F_X8_feed (o1 : Nat) (i2 : Int32) (i3 : Int32) (i4 : Int32) (i5 : Int32) (i6 : Int32) (u0 : wSt) : Option (Int32 × wSt) :=
  if (u0.1 o1 1) ≤ (680 : Int32) then (wC (F_X8_putOnTape o1 i2 u0) (fun _ (u7 : wSt) => wC (F_X8_putOnTape o1 i3 u7) (fun _ (u8 : wSt) => wC (F_X8_putOnTape o1 i4 u8) (fun _ (u9 : wSt) => wC (F_X8_putOnTape o1 i5 u9) (fun _ (u10 : wSt) => wC (F_X8_putOnTape o1 i6 u10) (fun _ (u11 : wSt) => some ((u11.1 o1 1), u11))))))) else (some ((-1 : Int32), u0))
set_option maxRecDepth 100000 in
set_option maxHeartbeats 4000000 in
theorem c_X8_feed {l : Launch} {D : va_G} {κ : Nat → ClassId} {ρ : Nat → Nat} (o1 : Nat) (i2 : Int32) (i3 : Int32) (i4 : Int32) (i5 : Int32) (i6 : Int32) (h_o1 : (w_sh o1).1 = 8) : wMI l yX8_feed cX8_feed 6 .int (wRm 1 22) [.ref (ρ o1), .int i2, .int i3, .int i4, .int i5, .int i6] D κ ρ 0 (fun u => F_X8_feed o1 i2 i3 i4 i5 i6 u) := by
  refine wMI_of (F := fun u => F_X8_feed o1 i2 i3 i4 i5 i6 u) rfl (Nat.le_of_ble_eq_true rfl) (fun u0 z p e s m args below meth c ls A hF hC hr hlk hH hl => ?_)
  have hl : lv_has ls 6 [(0, .ref (ρ o1)), (1, .int i2), (2, .int i3), (3, .int i4), (4, .int i5), (5, .int i6)] := hl
  have hx := hC.1.1
  have hb := hC.1.2.1
  have hF : F_X8_feed o1 i2 i3 i4 i5 i6 u0 = some z := hF
  unfold F_X8_feed at hF
  change W p l e (wRm 1 22) s m args below meth c s.heap [] 0 0 (wQI below args s A D κ ρ 0 z) (F0 m 0 ls [])
  have key : ∀ (H : Heap) (locs : List Loc), wHp D κ ρ 0 A s.heap H locs u0 → W p l e (wRm 1 22) s m args below meth c H locs 0 0 (wQI below args s A D κ ρ 0 z) (F0 m 0 ls []) := by
    intro H locs hH
    refine lv_aload_n hx hb dX8_feed_0 rfl (lv_at hl 0 rfl) ?_
    refine wx_getI hC hH h_o1 rfl f_X8_15 dX8_feed_1 ?_
    refine lv_sipush hx hb dX8_feed_4 k_sipush_680 ?_
    refine lv_icmp_le hx hb dX8_feed_7 (tgt := 12) rfl (fun h => ?_) (fun h => ?_)
    · have hF := wx_t h hF
      refine lv_aload_n hx hb dX8_feed_12 rfl (lv_at hl 0 rfl) ?_
      refine lv_iload_n hx hb dX8_feed_13 rfl (lv_at hl 1 rfl) ?_
      refine wx_evv hC hH hl (c_X8_putOnTape o1 i2 h_o1) y_X8_putOnTape v_X8_putOnTape h_o1 rfl m_X8_85 rfl ⟨Nat.le_of_ble_eq_true rfl, Nat.le_of_ble_eq_true rfl⟩ ⟨Nat.le_refl _, Nat.le_refl _⟩ rfl (Nat.le_of_ble_eq_true rfl) dX8_feed_14 hF (fun _ u7 H locs hF hH => ?_)
      refine lv_aload_n hx hb dX8_feed_17 rfl (lv_at hl 0 rfl) ?_
      refine lv_iload_n hx hb dX8_feed_18 rfl (lv_at hl 2 rfl) ?_
      refine wx_evv hC hH hl (c_X8_putOnTape o1 i3 h_o1) y_X8_putOnTape v_X8_putOnTape h_o1 rfl m_X8_85 rfl ⟨Nat.le_of_ble_eq_true rfl, Nat.le_of_ble_eq_true rfl⟩ ⟨Nat.le_refl _, Nat.le_refl _⟩ rfl (Nat.le_of_ble_eq_true rfl) dX8_feed_19 hF (fun _ u8 H locs hF hH => ?_)
      refine lv_aload_n hx hb dX8_feed_22 rfl (lv_at hl 0 rfl) ?_
      refine lv_iload_n hx hb dX8_feed_23 rfl (lv_at hl 3 rfl) ?_
      refine wx_evv hC hH hl (c_X8_putOnTape o1 i4 h_o1) y_X8_putOnTape v_X8_putOnTape h_o1 rfl m_X8_85 rfl ⟨Nat.le_of_ble_eq_true rfl, Nat.le_of_ble_eq_true rfl⟩ ⟨Nat.le_refl _, Nat.le_refl _⟩ rfl (Nat.le_of_ble_eq_true rfl) dX8_feed_24 hF (fun _ u9 H locs hF hH => ?_)
      refine lv_aload_n hx hb dX8_feed_27 rfl (lv_at hl 0 rfl) ?_
      refine lv_iload hx hb dX8_feed_28 (lv_at hl 4 rfl) ?_
      refine wx_evv hC hH hl (c_X8_putOnTape o1 i5 h_o1) y_X8_putOnTape v_X8_putOnTape h_o1 rfl m_X8_85 rfl ⟨Nat.le_of_ble_eq_true rfl, Nat.le_of_ble_eq_true rfl⟩ ⟨Nat.le_refl _, Nat.le_refl _⟩ rfl (Nat.le_of_ble_eq_true rfl) dX8_feed_30 hF (fun _ u10 H locs hF hH => ?_)
      refine lv_aload_n hx hb dX8_feed_33 rfl (lv_at hl 0 rfl) ?_
      refine lv_iload hx hb dX8_feed_34 (lv_at hl 5 rfl) ?_
      refine wx_evv hC hH hl (c_X8_putOnTape o1 i6 h_o1) y_X8_putOnTape v_X8_putOnTape h_o1 rfl m_X8_85 rfl ⟨Nat.le_of_ble_eq_true rfl, Nat.le_of_ble_eq_true rfl⟩ ⟨Nat.le_refl _, Nat.le_refl _⟩ rfl (Nat.le_of_ble_eq_true rfl) dX8_feed_36 hF (fun _ u11 H locs hF hH => ?_)
      refine lv_aload_n hx hb dX8_feed_39 rfl (lv_at hl 0 rfl) ?_
      refine wx_getI hC hH h_o1 rfl f_X8_15 dX8_feed_40 ?_
      exact wx_iret hC hH hr hlk dX8_feed_43 hF
    have hF := wx_f h hF
    refine lv_iconst hx hb dX8_feed_10 k_iconst_m1 ?_
    exact wx_iret hC hH hr hlk dX8_feed_11 hF
  exact key _ _ hH
def F_X8_text (o1 : Nat) (i2 : Int32) (u0 : wSt) : Option (Int32 × wSt) :=
  if i2 < 0 then (some ((-2 : Int32), u0)) else (if i2 ≤ (u0.1 o1 1) then (wB (w_sI u0 o1 1 (0 : Int32)) (fun (u3 : wSt) => wR (u3.2.2 o1 4) 2 (fun o4 => wR (u3.2.2 o1 3) 6 (fun o5 => wC (F_X2_read o4 i2 o5 u3) (fun (i7 : Int32) (u6 : wSt) => if i7 = 0 then (some ((-1 : Int32), u6)) else (wR (u6.2.2 o1 2) 6 (fun o8 => wR (u6.2.2 o1 3) 6 (fun o9 => wB (w_sR u6 o1 2 (o9 + 1)) (fun (u10 : wSt) => wB (w_sR u10 o1 3 (o8 + 1)) (fun (u11 : wSt) => wR (u11.2.2 o1 5) 3 (fun o12 => wR (u11.2.2 o1 2) 6 (fun o13 => wC (F_X3_begin o12 o13 u11) (fun _ (u14 : wSt) => wR (u14.2.2 o1 11) 4 (fun o15 => wC (F_X4_clear o15 u14) (fun _ (u16 : wSt) => wR (u16.2.2 o1 10) 7 (fun o17 => wB (w_sI u16 o17 0 (0 : Int32)) (fun (u18 : wSt) => wB (w_sI u18 o1 8 (0 : Int32)) (fun (u19 : wSt) => wR (u19.2.2 o1 2) 6 (fun o20 => some ((u19.1 o20 0), u19)))))))))))))))))))) else (some ((-2 : Int32), u0)))
set_option maxRecDepth 100000 in
set_option maxHeartbeats 4000000 in
theorem c_X8_text {l : Launch} {D : va_G} {κ : Nat → ClassId} {ρ : Nat → Nat} (o1 : Nat) (i2 : Int32) (h_o1 : (w_sh o1).1 = 8) : wMI l yX8_text cX8_text 3 .int (wRm 7 152) [.ref (ρ o1), .int i2] D κ ρ 0 (fun u => F_X8_text o1 i2 u) := by
  refine wMI_of (F := fun u => F_X8_text o1 i2 u) rfl (Nat.le_of_ble_eq_true rfl) (fun u0 z p e s m args below meth c ls A hF hC hr hlk hH hl => ?_)
  have hl : lv_has ls 3 [(0, .ref (ρ o1)), (1, .int i2)] := hl
  have hx := hC.1.1
  have hb := hC.1.2.1
  have hF : F_X8_text o1 i2 u0 = some z := hF
  unfold F_X8_text at hF
  change W p l e (wRm 7 152) s m args below meth c s.heap [] 0 0 (wQI below args s A D κ ρ 0 z) (F0 m 0 ls [])
  have key : ∀ (H : Heap) (locs : List Loc), wHp D κ ρ 0 A s.heap H locs u0 → W p l e (wRm 7 152) s m args below meth c H locs 0 0 (wQI below args s A D κ ρ 0 z) (F0 m 0 ls []) := by
    intro H locs hH
    refine lv_iload_n hx hb dX8_text_0 rfl (lv_at hl 1 rfl) ?_
    refine lv_if_lt hx hb dX8_text_1 (tgt := 12) rfl (fun h => ?_) (fun h => ?_)
    · have hF := wx_t h hF
      refine lv_bipush hx hb dX8_text_12 k_bipush_m2 ?_
      exact wx_iret hC hH hr hlk dX8_text_14 hF
    have hF := wx_f h hF
    refine lv_iload_n hx hb dX8_text_4 rfl (lv_at hl 1 rfl) ?_
    refine lv_aload_n hx hb dX8_text_5 rfl (lv_at hl 0 rfl) ?_
    refine wx_getI hC hH h_o1 rfl f_X8_15 dX8_text_6 ?_
    refine lv_icmp_le hx hb dX8_text_9 (tgt := 15) rfl (fun h => ?_) (fun h => ?_)
    · have hF := wx_t h hF
      refine lv_aload_n hx hb dX8_text_15 rfl (lv_at hl 0 rfl) ?_
      refine lv_iconst hx hb dX8_text_16 k_iconst_0 ?_
      refine wx_putI hC hH h_o1 rfl f_X8_15 g_8_1 dX8_text_17 hF (fun u3 H locs hF hH => ?_)
      refine lv_aload_n hx hb dX8_text_20 rfl (lv_at hl 0 rfl) ?_
      refine wx_getR hC hH h_o1 rfl f_X8_34 dX8_text_21 hF (fun o4 h_o4 hF => ?_)
      refine lv_iload_n hx hb dX8_text_24 rfl (lv_at hl 1 rfl) ?_
      refine lv_aload_n hx hb dX8_text_25 rfl (lv_at hl 0 rfl) ?_
      refine wx_getR hC hH h_o1 rfl f_X8_26 dX8_text_26 hF (fun o5 h_o5 hF => ?_)
      refine wx_evi hC hH hl (c_X2_read o4 i2 o5 h_o4 h_o5) y_X2_read v_X2_read h_o4 rfl m_X8_89 rfl ⟨Nat.le_of_ble_eq_true rfl, Nat.le_of_ble_eq_true rfl⟩ ⟨Nat.le_refl _, Nat.le_refl _⟩ rfl (Nat.le_of_ble_eq_true rfl) dX8_text_29 hF (fun i7 u6 H locs hF hH => ?_)
      refine lv_if_ne hx hb dX8_text_32 (tgt := 37) rfl (fun h => ?_) (fun h => ?_)
      · have hF := wx_f h hF
        refine lv_aload_n hx hb dX8_text_37 rfl (lv_at hl 0 rfl) ?_
        refine wx_getR hC hH h_o1 rfl f_X8_22 dX8_text_38 hF (fun o8 h_o8 hF => ?_)
        refine wx_astore_n hx hb dX8_text_41 rfl hl (by decide) (fun ls hl => ?_)
        have hl : lv_has ls 3 [(2, .ref (ρ o8)), (0, .ref (ρ o1)), (1, .int i2)] := hl
        refine lv_aload_n hx hb dX8_text_42 rfl (lv_at hl 1 rfl) ?_
        refine lv_aload_n hx hb dX8_text_43 rfl (lv_at hl 1 rfl) ?_
        refine wx_getR hC hH h_o1 rfl f_X8_26 dX8_text_44 hF (fun o9 h_o9 hF => ?_)
        refine wx_putR hC hH h_o1 rfl f_X8_22 g_8_2 dX8_text_47 hF (fun u10 H locs hF hH => ?_)
        refine lv_aload_n hx hb dX8_text_50 rfl (lv_at hl 1 rfl) ?_
        refine lv_aload_n hx hb dX8_text_51 rfl (lv_at hl 0 rfl) ?_
        refine wx_putR hC hH h_o1 rfl f_X8_26 g_8_3 dX8_text_52 hF (fun u11 H locs hF hH => ?_)
        refine lv_aload_n hx hb dX8_text_55 rfl (lv_at hl 1 rfl) ?_
        refine wx_getR hC hH h_o1 rfl f_X8_41 dX8_text_56 hF (fun o12 h_o12 hF => ?_)
        refine lv_aload_n hx hb dX8_text_59 rfl (lv_at hl 1 rfl) ?_
        refine wx_getR hC hH h_o1 rfl f_X8_22 dX8_text_60 hF (fun o13 h_o13 hF => ?_)
        refine wx_evv hC hH hl (c_X3_begin o12 o13 h_o12 h_o13) y_X3_begin v_X3_begin h_o12 rfl m_X8_93 rfl ⟨Nat.le_of_ble_eq_true rfl, Nat.le_of_ble_eq_true rfl⟩ ⟨Nat.le_refl _, Nat.le_refl _⟩ rfl (Nat.le_of_ble_eq_true rfl) dX8_text_63 hF (fun _ u14 H locs hF hH => ?_)
        refine lv_aload_n hx hb dX8_text_66 rfl (lv_at hl 1 rfl) ?_
        refine wx_getR hC hH h_o1 rfl f_X8_74 dX8_text_67 hF (fun o15 h_o15 hF => ?_)
        refine wx_evv hC hH hl (c_X4_clear o15 h_o15) y_X4_clear v_X4_clear h_o15 rfl m_X8_96 rfl ⟨Nat.le_of_ble_eq_true rfl, Nat.le_of_ble_eq_true rfl⟩ ⟨Nat.le_refl _, Nat.le_refl _⟩ rfl (Nat.le_of_ble_eq_true rfl) dX8_text_70 hF (fun _ u16 H locs hF hH => ?_)
        refine lv_aload_n hx hb dX8_text_73 rfl (lv_at hl 1 rfl) ?_
        refine wx_getR hC hH h_o1 rfl f_X8_67 dX8_text_74 hF (fun o17 h_o17 hF => ?_)
        refine lv_iconst hx hb dX8_text_77 k_iconst_0 ?_
        refine wx_putI hC hH h_o17 rfl f_X8_99 g_7_0 dX8_text_78 hF (fun u18 H locs hF hH => ?_)
        refine lv_aload_n hx hb dX8_text_81 rfl (lv_at hl 1 rfl) ?_
        refine lv_iconst hx hb dX8_text_82 k_iconst_0 ?_
        refine wx_putZ hC hH h_o1 rfl f_X8_51 g_8_8 dX8_text_83 (Or.inl rfl) hF (fun u19 H locs hF hH => ?_)
        refine lv_aload_n hx hb dX8_text_86 rfl (lv_at hl 1 rfl) ?_
        refine wx_getR hC hH h_o1 rfl f_X8_22 dX8_text_87 hF (fun o20 h_o20 hF => ?_)
        refine wx_getI hC hH h_o20 rfl f_X8_102 dX8_text_90 ?_
        exact wx_iret hC hH hr hlk dX8_text_93 hF
      have hF := wx_t h hF
      refine lv_iconst hx hb dX8_text_35 k_iconst_m1 ?_
      exact wx_iret hC hH hr hlk dX8_text_36 hF
    have hF := wx_f h hF
    refine lv_bipush hx hb dX8_text_12 k_bipush_m2 ?_
    exact wx_iret hC hH hr hlk dX8_text_14 hF
  exact key _ _ hH
def F_X8_fault (o1 : Nat) (i2 : Int32) (u0 : wSt) : Option Int32 :=
  if i2 = 0 then (wR (u0.2.2 o1 4) 2 (fun o5 => some ((u0.1 o5 0)))) else (if i2 = (1 : Int32) then (wR (u0.2.2 o1 4) 2 (fun o3 => if (u0.1 o3 0) = 0 then (some ((-1 : Int32))) else (wR (u0.2.2 o1 4) 2 (fun o4 => some ((u0.1 o4 1)))))) else (some ((-1 : Int32))))
set_option maxRecDepth 100000 in
set_option maxHeartbeats 4000000 in
theorem c_X8_fault {l : Launch} {D : va_G} {κ : Nat → ClassId} {ρ : Nat → Nat} (o1 : Nat) (i2 : Int32) (h_o1 : (w_sh o1).1 = 8) : wMI l yX8_fault cX8_fault 2 .int (wRm 0 0) [.ref (ρ o1), .int i2] D κ ρ 0 (fun u => wPu (F_X8_fault o1 i2 u) u) := by
  refine wMP_of (F := fun u => F_X8_fault o1 i2 u) rfl (Nat.le_of_ble_eq_true rfl) (fun u0 z p e s m args below meth c ls A hF hC hr hlk hH hl => ?_)
  have hl : lv_has ls 2 [(0, .ref (ρ o1)), (1, .int i2)] := hl
  have hx := hC.1.1
  have hb := hC.1.2.1
  have hF : F_X8_fault o1 i2 u0 = some z := hF
  unfold F_X8_fault at hF
  change W p l e (wRm 0 0) s m args below meth c s.heap [] 0 0 (wQI below args s A D κ ρ 0 (z, u0)) (F0 m 0 ls [])
  have key : ∀ (H : Heap) (locs : List Loc), wHp D κ ρ 0 A s.heap H locs u0 → W p l e (wRm 0 0) s m args below meth c H locs 0 0 (wQI below args s A D κ ρ 0 (z, u0)) (F0 m 0 ls []) := by
    intro H locs hH
    refine lv_iload_n hx hb dX8_fault_0 rfl (lv_at hl 1 rfl) ?_
    refine lv_if_ne hx hb dX8_fault_1 (tgt := 12) rfl (fun h => ?_) (fun h => ?_)
    · have hF := wx_f h hF
      refine lv_iload_n hx hb dX8_fault_12 rfl (lv_at hl 1 rfl) ?_
      refine lv_iconst hx hb dX8_fault_13 k_iconst_1 ?_
      refine lv_icmp_ne hx hb dX8_fault_14 (tgt := 37) rfl (fun h => ?_) (fun h => ?_)
      · have hF := wx_f h hF
        refine lv_iconst hx hb dX8_fault_37 k_iconst_m1 ?_
        exact wx_iret hC hH hr hlk dX8_fault_38 (wx_pr hF)
      have hF := wx_t h hF
      refine lv_aload_n hx hb dX8_fault_17 rfl (lv_at hl 0 rfl) ?_
      refine wx_getR hC hH h_o1 rfl f_X8_34 dX8_fault_18 hF (fun o3 h_o3 hF => ?_)
      refine wx_getI hC hH h_o3 rfl f_X8_105 dX8_fault_21 ?_
      refine lv_if_eq hx hb dX8_fault_24 (tgt := 37) rfl (fun h => ?_) (fun h => ?_)
      · have hF := wx_t h hF
        refine lv_iconst hx hb dX8_fault_37 k_iconst_m1 ?_
        exact wx_iret hC hH hr hlk dX8_fault_38 (wx_pr hF)
      have hF := wx_f h hF
      refine lv_aload_n hx hb dX8_fault_27 rfl (lv_at hl 0 rfl) ?_
      refine wx_getR hC hH h_o1 rfl f_X8_34 dX8_fault_28 hF (fun o4 h_o4 hF => ?_)
      refine wx_getI hC hH h_o4 rfl f_X8_108 dX8_fault_31 ?_
      refine lv_goto hx hb dX8_fault_34 (tgt := 38) rfl ?_
      exact wx_iret hC hH hr hlk dX8_fault_38 (wx_pr hF)
    have hF := wx_t h hF
    refine lv_aload_n hx hb dX8_fault_4 rfl (lv_at hl 0 rfl) ?_
    refine wx_getR hC hH h_o1 rfl f_X8_34 dX8_fault_5 hF (fun o5 h_o5 hF => ?_)
    refine wx_getI hC hH h_o5 rfl f_X8_105 dX8_fault_8 ?_
    exact wx_iret hC hH hr hlk dX8_fault_11 (wx_pr hF)
  exact key _ _ hH
def F_X8_named (o1 : Nat) (i2 : Int32) (i3 : Int32) (u0 : wSt) : Option Int32 :=
  if i2 = 0 then (wR (u0.2.2 o1 2) 6 (fun o6 => wP (F_X6_guestNamed o6 i3 u0) (fun (i7 : Int32) => some (i7)))) else (if i2 = (1 : Int32) then (wR (u0.2.2 o1 2) 6 (fun o4 => wP (F_X6_fruitNamed o4 i3 u0) (fun (i5 : Int32) => some (i5)))) else (some ((-1 : Int32))))
set_option maxRecDepth 100000 in
set_option maxHeartbeats 4000000 in
theorem c_X8_named {l : Launch} {D : va_G} {κ : Nat → ClassId} {ρ : Nat → Nat} (o1 : Nat) (i2 : Int32) (i3 : Int32) (h_o1 : (w_sh o1).1 = 8) : wMI l yX8_named cX8_named 3 .int (wRm 1 22) [.ref (ρ o1), .int i2, .int i3] D κ ρ 0 (fun u => wPu (F_X8_named o1 i2 i3 u) u) := by
  refine wMP_of (F := fun u => F_X8_named o1 i2 i3 u) rfl (Nat.le_of_ble_eq_true rfl) (fun u0 z p e s m args below meth c ls A hF hC hr hlk hH hl => ?_)
  have hl : lv_has ls 3 [(0, .ref (ρ o1)), (1, .int i2), (2, .int i3)] := hl
  have hx := hC.1.1
  have hb := hC.1.2.1
  have hF : F_X8_named o1 i2 i3 u0 = some z := hF
  unfold F_X8_named at hF
  change W p l e (wRm 1 22) s m args below meth c s.heap [] 0 0 (wQI below args s A D κ ρ 0 (z, u0)) (F0 m 0 ls [])
  have key : ∀ (H : Heap) (locs : List Loc), wHp D κ ρ 0 A s.heap H locs u0 → W p l e (wRm 1 22) s m args below meth c H locs 0 0 (wQI below args s A D κ ρ 0 (z, u0)) (F0 m 0 ls []) := by
    intro H locs hH
    refine lv_iload_n hx hb dX8_named_0 rfl (lv_at hl 1 rfl) ?_
    refine lv_if_ne hx hb dX8_named_1 (tgt := 13) rfl (fun h => ?_) (fun h => ?_)
    · have hF := wx_f h hF
      refine lv_iload_n hx hb dX8_named_13 rfl (lv_at hl 1 rfl) ?_
      refine lv_iconst hx hb dX8_named_14 k_iconst_1 ?_
      refine lv_icmp_ne hx hb dX8_named_15 (tgt := 29) rfl (fun h => ?_) (fun h => ?_)
      · have hF := wx_f h hF
        refine lv_iconst hx hb dX8_named_29 k_iconst_m1 ?_
        exact wx_iret hC hH hr hlk dX8_named_30 (wx_pr hF)
      have hF := wx_t h hF
      refine lv_aload_n hx hb dX8_named_18 rfl (lv_at hl 0 rfl) ?_
      refine wx_getR hC hH h_o1 rfl f_X8_22 dX8_named_19 hF (fun o4 h_o4 hF => ?_)
      refine lv_iload_n hx hb dX8_named_22 rfl (lv_at hl 2 rfl) ?_
      refine wx_pvi hC hH hl (c_X6_fruitNamed o4 i3 h_o4) y_X6_fruitNamed v_X6_fruitNamed h_o4 rfl m_X8_115 rfl ⟨Nat.le_of_ble_eq_true rfl, Nat.le_of_ble_eq_true rfl⟩ ⟨Nat.le_refl _, Nat.le_refl _⟩ rfl (Nat.le_of_ble_eq_true rfl) dX8_named_23 hF (fun i5 H locs hF hH => ?_)
      refine lv_goto hx hb dX8_named_26 (tgt := 30) rfl ?_
      exact wx_iret hC hH hr hlk dX8_named_30 (wx_pr hF)
    have hF := wx_t h hF
    refine lv_aload_n hx hb dX8_named_4 rfl (lv_at hl 0 rfl) ?_
    refine wx_getR hC hH h_o1 rfl f_X8_22 dX8_named_5 hF (fun o6 h_o6 hF => ?_)
    refine lv_iload_n hx hb dX8_named_8 rfl (lv_at hl 2 rfl) ?_
    refine wx_pvi hC hH hl (c_X6_guestNamed o6 i3 h_o6) y_X6_guestNamed v_X6_guestNamed h_o6 rfl m_X8_111 rfl ⟨Nat.le_of_ble_eq_true rfl, Nat.le_of_ble_eq_true rfl⟩ ⟨Nat.le_refl _, Nat.le_refl _⟩ rfl (Nat.le_of_ble_eq_true rfl) dX8_named_9 hF (fun i7 H locs hF hH => ?_)
    exact wx_iret hC hH hr hlk dX8_named_12 (wx_pr hF)
  exact key _ _ hH
def F_X8_isFruit (o1 : Nat) (i2 : Int32) (u0 : wSt) : Option Int32 :=
  if i2 < 0 then (some ((0 : Int32))) else (wR (u0.2.2 o1 2) 6 (fun o3 => if (u0.1 o3 2) ≤ i2 then (some ((0 : Int32))) else (some ((1 : Int32)))))
set_option maxRecDepth 100000 in
set_option maxHeartbeats 4000000 in
theorem c_X8_isFruit {l : Launch} {D : va_G} {κ : Nat → ClassId} {ρ : Nat → Nat} (o1 : Nat) (i2 : Int32) (h_o1 : (w_sh o1).1 = 8) : wMI l yX8_isFruit cX8_isFruit 2 .boolean (wRm 0 0) [.ref (ρ o1), .int i2] D κ ρ 0 (fun u => wPu (F_X8_isFruit o1 i2 u) u) := by
  refine wMP_of (F := fun u => F_X8_isFruit o1 i2 u) rfl (Nat.le_of_ble_eq_true rfl) (fun u0 z p e s m args below meth c ls A hF hC hr hlk hH hl => ?_)
  have hl : lv_has ls 2 [(0, .ref (ρ o1)), (1, .int i2)] := hl
  have hx := hC.1.1
  have hb := hC.1.2.1
  have hF : F_X8_isFruit o1 i2 u0 = some z := hF
  unfold F_X8_isFruit at hF
  change W p l e (wRm 0 0) s m args below meth c s.heap [] 0 0 (wQI below args s A D κ ρ 0 (z, u0)) (F0 m 0 ls [])
  have key : ∀ (H : Heap) (locs : List Loc), wHp D κ ρ 0 A s.heap H locs u0 → W p l e (wRm 0 0) s m args below meth c H locs 0 0 (wQI below args s A D κ ρ 0 (z, u0)) (F0 m 0 ls []) := by
    intro H locs hH
    refine lv_iload_n hx hb dX8_isFruit_0 rfl (lv_at hl 1 rfl) ?_
    refine lv_if_lt hx hb dX8_isFruit_1 (tgt := 19) rfl (fun h => ?_) (fun h => ?_)
    · have hF := wx_t h hF
      refine lv_iconst hx hb dX8_isFruit_19 k_iconst_0 ?_
      exact wx_zret hC hH hr hlk dX8_isFruit_20 (Or.inl rfl) (wx_pr hF)
    have hF := wx_f h hF
    refine lv_iload_n hx hb dX8_isFruit_4 rfl (lv_at hl 1 rfl) ?_
    refine lv_aload_n hx hb dX8_isFruit_5 rfl (lv_at hl 0 rfl) ?_
    refine wx_getR hC hH h_o1 rfl f_X8_22 dX8_isFruit_6 hF (fun o3 h_o3 hF => ?_)
    refine wx_getI hC hH h_o3 rfl f_X8_303 dX8_isFruit_9 ?_
    refine lv_icmp_ge hx hb dX8_isFruit_12 (tgt := 19) rfl (fun h => ?_) (fun h => ?_)
    · have hF := wx_t h hF
      refine lv_iconst hx hb dX8_isFruit_19 k_iconst_0 ?_
      exact wx_zret hC hH hr hlk dX8_isFruit_20 (Or.inl rfl) (wx_pr hF)
    have hF := wx_f h hF
    refine lv_iconst hx hb dX8_isFruit_15 k_iconst_1 ?_
    refine lv_goto hx hb dX8_isFruit_16 (tgt := 20) rfl ?_
    exact wx_zret hC hH hr hlk dX8_isFruit_20 (Or.inr rfl) (wx_pr hF)
  exact key _ _ hH
def F_X8_fruit (o1 : Nat) (i2 : Int32) (i3 : Int32) (u0 : wSt) : Option Int32 :=
  wP (F_X8_isFruit o1 i2 u0) (fun (i4 : Int32) => if i4 = 0 then (some ((-1 : Int32))) else (if i3 = 0 then (wR (u0.2.2 o1 2) 6 (fun o5 => wR (u0.2.2 o5 12) 10 (fun o6 => wN i2 o6 (fun j7 => some ((u0.1 o6 j7)))))) else (if i3 = 1 then (wR (u0.2.2 o1 2) 6 (fun o8 => wR (u0.2.2 o8 13) 10 (fun o9 => wN i2 o9 (fun j10 => some ((u0.1 o9 j10)))))) else (if i3 = 2 then (wR (u0.2.2 o1 5) 3 (fun o11 => wP (F_X3_isEaten o11 i2 u0) (fun (i12 : Int32) => if i12 = 0 then (some ((0 : Int32))) else (some ((1 : Int32)))))) else (if i3 = 3 then (wR (u0.2.2 o1 5) 3 (fun o13 => wR (u0.2.2 o13 8) 10 (fun o14 => wN i2 o14 (fun j15 => some ((u0.1 o14 j15)))))) else (if i3 = 4 then (wR (u0.2.2 o1 5) 3 (fun o16 => wR (u0.2.2 o16 9) 10 (fun o17 => wN i2 o17 (fun j18 => some ((u0.1 o17 j18)))))) else (some ((-1 : Int32)))))))))
set_option maxRecDepth 100000 in
set_option maxHeartbeats 4000000 in
theorem c_X8_fruit {l : Launch} {D : va_G} {κ : Nat → ClassId} {ρ : Nat → Nat} (o1 : Nat) (i2 : Int32) (i3 : Int32) (h_o1 : (w_sh o1).1 = 8) : wMI l yX8_fruit cX8_fruit 3 .int (wRm 1 21) [.ref (ρ o1), .int i2, .int i3] D κ ρ 0 (fun u => wPu (F_X8_fruit o1 i2 i3 u) u) := by
  refine wMP_of (F := fun u => F_X8_fruit o1 i2 i3 u) rfl (Nat.le_of_ble_eq_true rfl) (fun u0 z p e s m args below meth c ls A hF hC hr hlk hH hl => ?_)
  have hl : lv_has ls 3 [(0, .ref (ρ o1)), (1, .int i2), (2, .int i3)] := hl
  have hx := hC.1.1
  have hb := hC.1.2.1
  have hF : F_X8_fruit o1 i2 i3 u0 = some z := hF
  unfold F_X8_fruit at hF
  change W p l e (wRm 1 21) s m args below meth c s.heap [] 0 0 (wQI below args s A D κ ρ 0 (z, u0)) (F0 m 0 ls [])
  have key : ∀ (H : Heap) (locs : List Loc), wHp D κ ρ 0 A s.heap H locs u0 → W p l e (wRm 1 21) s m args below meth c H locs 0 0 (wQI below args s A D κ ρ 0 (z, u0)) (F0 m 0 ls []) := by
    intro H locs hH
    refine lv_aload_n hx hb dX8_fruit_0 rfl (lv_at hl 0 rfl) ?_
    refine lv_iload_n hx hb dX8_fruit_1 rfl (lv_at hl 1 rfl) ?_
    refine wx_pvi hC hH hl (c_X8_isFruit o1 i2 h_o1) y_X8_isFruit v_X8_isFruit h_o1 rfl m_X8_160 rfl ⟨Nat.le_of_ble_eq_true rfl, Nat.le_of_ble_eq_true rfl⟩ ⟨Nat.le_refl _, Nat.le_refl _⟩ rfl (Nat.le_of_ble_eq_true rfl) dX8_fruit_2 hF (fun i4 H locs hF hH => ?_)
    refine lv_if_ne hx hb dX8_fruit_5 (tgt := 10) rfl (fun h => ?_) (fun h => ?_)
    · have hF := wx_f h hF
      refine lv_iload_n hx hb dX8_fruit_10 rfl (lv_at hl 2 rfl) ?_
      by_cases hs0 : i3 = 0
      · have hF := wx_t hs0 hF
        refine wx_sw hx hb dX8_fruit_11 (by decide) (tgt := 44) (by rw [hs0]; decide) ?_
        refine lv_aload_n hx hb dX8_fruit_44 rfl (lv_at hl 0 rfl) ?_
        refine wx_getR hC hH h_o1 rfl f_X8_22 dX8_fruit_45 hF (fun o5 h_o5 hF => ?_)
        refine wx_getR hC hH h_o5 rfl f_X8_163 dX8_fruit_48 hF (fun o6 h_o6 hF => ?_)
        refine lv_iload_n hx hb dX8_fruit_51 rfl (lv_at hl 1 rfl) ?_
        refine wx_iald hC hH h_o6 ⟨rfl, rfl⟩ dX8_fruit_52 hF (fun j7 hF => ?_)
        exact wx_iret hC hH hr hlk dX8_fruit_53 (wx_pr hF)
      have hF := wx_f hs0 hF
      by_cases hs1 : i3 = 1
      · have hF := wx_t hs1 hF
        refine wx_sw hx hb dX8_fruit_11 (by decide) (tgt := 54) (by rw [hs1]; decide) ?_
        refine lv_aload_n hx hb dX8_fruit_54 rfl (lv_at hl 0 rfl) ?_
        refine wx_getR hC hH h_o1 rfl f_X8_22 dX8_fruit_55 hF (fun o8 h_o8 hF => ?_)
        refine wx_getR hC hH h_o8 rfl f_X8_166 dX8_fruit_58 hF (fun o9 h_o9 hF => ?_)
        refine lv_iload_n hx hb dX8_fruit_61 rfl (lv_at hl 1 rfl) ?_
        refine wx_iald hC hH h_o9 ⟨rfl, rfl⟩ dX8_fruit_62 hF (fun j10 hF => ?_)
        exact wx_iret hC hH hr hlk dX8_fruit_63 (wx_pr hF)
      have hF := wx_f hs1 hF
      by_cases hs2 : i3 = 2
      · have hF := wx_t hs2 hF
        refine wx_sw hx hb dX8_fruit_11 (by decide) (tgt := 64) (by rw [hs2]; decide) ?_
        refine lv_aload_n hx hb dX8_fruit_64 rfl (lv_at hl 0 rfl) ?_
        refine wx_getR hC hH h_o1 rfl f_X8_41 dX8_fruit_65 hF (fun o11 h_o11 hF => ?_)
        refine lv_iload_n hx hb dX8_fruit_68 rfl (lv_at hl 1 rfl) ?_
        refine wx_pvi hC hH hl (c_X3_isEaten o11 i2 h_o11) y_X3_isEaten v_X3_isEaten h_o11 rfl m_X8_169 rfl ⟨Nat.le_of_ble_eq_true rfl, Nat.le_of_ble_eq_true rfl⟩ ⟨Nat.le_refl _, Nat.le_refl _⟩ rfl (Nat.le_of_ble_eq_true rfl) dX8_fruit_69 hF (fun i12 H locs hF hH => ?_)
        refine lv_if_eq hx hb dX8_fruit_72 (tgt := 79) rfl (fun h => ?_) (fun h => ?_)
        · have hF := wx_t h hF
          refine lv_iconst hx hb dX8_fruit_79 k_iconst_0 ?_
          exact wx_iret hC hH hr hlk dX8_fruit_80 (wx_pr hF)
        have hF := wx_f h hF
        refine lv_iconst hx hb dX8_fruit_75 k_iconst_1 ?_
        refine lv_goto hx hb dX8_fruit_76 (tgt := 80) rfl ?_
        exact wx_iret hC hH hr hlk dX8_fruit_80 (wx_pr hF)
      have hF := wx_f hs2 hF
      by_cases hs3 : i3 = 3
      · have hF := wx_t hs3 hF
        refine wx_sw hx hb dX8_fruit_11 (by decide) (tgt := 81) (by rw [hs3]; decide) ?_
        refine lv_aload_n hx hb dX8_fruit_81 rfl (lv_at hl 0 rfl) ?_
        refine wx_getR hC hH h_o1 rfl f_X8_41 dX8_fruit_82 hF (fun o13 h_o13 hF => ?_)
        refine wx_getR hC hH h_o13 rfl f_X8_172 dX8_fruit_85 hF (fun o14 h_o14 hF => ?_)
        refine lv_iload_n hx hb dX8_fruit_88 rfl (lv_at hl 1 rfl) ?_
        refine wx_iald hC hH h_o14 ⟨rfl, rfl⟩ dX8_fruit_89 hF (fun j15 hF => ?_)
        exact wx_iret hC hH hr hlk dX8_fruit_90 (wx_pr hF)
      have hF := wx_f hs3 hF
      by_cases hs4 : i3 = 4
      · have hF := wx_t hs4 hF
        refine wx_sw hx hb dX8_fruit_11 (by decide) (tgt := 91) (by rw [hs4]; decide) ?_
        refine lv_aload_n hx hb dX8_fruit_91 rfl (lv_at hl 0 rfl) ?_
        refine wx_getR hC hH h_o1 rfl f_X8_41 dX8_fruit_92 hF (fun o16 h_o16 hF => ?_)
        refine wx_getR hC hH h_o16 rfl f_X8_175 dX8_fruit_95 hF (fun o17 h_o17 hF => ?_)
        refine lv_iload_n hx hb dX8_fruit_98 rfl (lv_at hl 1 rfl) ?_
        refine wx_iald hC hH h_o17 ⟨rfl, rfl⟩ dX8_fruit_99 hF (fun j18 hF => ?_)
        exact wx_iret hC hH hr hlk dX8_fruit_100 (wx_pr hF)
      have hF := wx_f hs4 hF
      have htg : ((11 : Nat) : Int) + wTg (90) (0) (4) #[33, 43, 53, 70, 80] i3 = ((101 : Nat) : Int) := by
        have n0 : ¬ (i3).toInt = 0 := lv_neT (k := 0) (a := 0) (fun q => hs0 (q)) (by decide)
        have n1 : ¬ (i3).toInt = 1 := lv_neT (k := 1) (a := 1) (fun q => hs1 (q)) (by decide)
        have n2 : ¬ (i3).toInt = 2 := lv_neT (k := 2) (a := 2) (fun q => hs2 (q)) (by decide)
        have n3 : ¬ (i3).toInt = 3 := lv_neT (k := 3) (a := 3) (fun q => hs3 (q)) (by decide)
        have n4 : ¬ (i3).toInt = 4 := lv_neT (k := 4) (a := 4) (fun q => hs4 (q)) (by decide)
        rw [wTg_lo (by omega)]; rfl
      refine wx_sw hx hb dX8_fruit_11 (by decide) (tgt := 101) htg ?_
      refine lv_iconst hx hb dX8_fruit_101 k_iconst_m1 ?_
      exact wx_iret hC hH hr hlk dX8_fruit_102 (wx_pr hF)
    have hF := wx_t h hF
    refine lv_iconst hx hb dX8_fruit_8 k_iconst_m1 ?_
    exact wx_iret hC hH hr hlk dX8_fruit_9 (wx_pr hF)
  exact key _ _ hH
def F_X8_isGuest (o1 : Nat) (i2 : Int32) (u0 : wSt) : Option Int32 :=
  if i2 < 0 then (some ((0 : Int32))) else (wR (u0.2.2 o1 2) 6 (fun o3 => if (u0.1 o3 1) ≤ i2 then (some ((0 : Int32))) else (some ((1 : Int32)))))
set_option maxRecDepth 100000 in
set_option maxHeartbeats 4000000 in
theorem c_X8_isGuest {l : Launch} {D : va_G} {κ : Nat → ClassId} {ρ : Nat → Nat} (o1 : Nat) (i2 : Int32) (h_o1 : (w_sh o1).1 = 8) : wMI l yX8_isGuest cX8_isGuest 2 .boolean (wRm 0 0) [.ref (ρ o1), .int i2] D κ ρ 0 (fun u => wPu (F_X8_isGuest o1 i2 u) u) := by
  refine wMP_of (F := fun u => F_X8_isGuest o1 i2 u) rfl (Nat.le_of_ble_eq_true rfl) (fun u0 z p e s m args below meth c ls A hF hC hr hlk hH hl => ?_)
  have hl : lv_has ls 2 [(0, .ref (ρ o1)), (1, .int i2)] := hl
  have hx := hC.1.1
  have hb := hC.1.2.1
  have hF : F_X8_isGuest o1 i2 u0 = some z := hF
  unfold F_X8_isGuest at hF
  change W p l e (wRm 0 0) s m args below meth c s.heap [] 0 0 (wQI below args s A D κ ρ 0 (z, u0)) (F0 m 0 ls [])
  have key : ∀ (H : Heap) (locs : List Loc), wHp D κ ρ 0 A s.heap H locs u0 → W p l e (wRm 0 0) s m args below meth c H locs 0 0 (wQI below args s A D κ ρ 0 (z, u0)) (F0 m 0 ls []) := by
    intro H locs hH
    refine lv_iload_n hx hb dX8_isGuest_0 rfl (lv_at hl 1 rfl) ?_
    refine lv_if_lt hx hb dX8_isGuest_1 (tgt := 19) rfl (fun h => ?_) (fun h => ?_)
    · have hF := wx_t h hF
      refine lv_iconst hx hb dX8_isGuest_19 k_iconst_0 ?_
      exact wx_zret hC hH hr hlk dX8_isGuest_20 (Or.inl rfl) (wx_pr hF)
    have hF := wx_f h hF
    refine lv_iload_n hx hb dX8_isGuest_4 rfl (lv_at hl 1 rfl) ?_
    refine lv_aload_n hx hb dX8_isGuest_5 rfl (lv_at hl 0 rfl) ?_
    refine wx_getR hC hH h_o1 rfl f_X8_22 dX8_isGuest_6 hF (fun o3 h_o3 hF => ?_)
    refine wx_getI hC hH h_o3 rfl f_X8_235 dX8_isGuest_9 ?_
    refine lv_icmp_ge hx hb dX8_isGuest_12 (tgt := 19) rfl (fun h => ?_) (fun h => ?_)
    · have hF := wx_t h hF
      refine lv_iconst hx hb dX8_isGuest_19 k_iconst_0 ?_
      exact wx_zret hC hH hr hlk dX8_isGuest_20 (Or.inl rfl) (wx_pr hF)
    have hF := wx_f h hF
    refine lv_iconst hx hb dX8_isGuest_15 k_iconst_1 ?_
    refine lv_goto hx hb dX8_isGuest_16 (tgt := 20) rfl ?_
    exact wx_zret hC hH hr hlk dX8_isGuest_20 (Or.inr rfl) (wx_pr hF)
  exact key _ _ hH
def F_X8_plainCourse (o1 : Nat) (u0 : wSt) : Option (Nat × wSt) :=
  wR (u0.2.2 o1 9) 0 (fun o2 => wR (u0.2.2 o1 2) 6 (fun o3 => wC (F_X0_begin o2 o3 (0 : Int32) u0) (fun _ (u4 : wSt) => wR (u4.2.2 o1 9) 0 (fun o5 => some (o5, u4)))))
set_option maxRecDepth 100000 in
set_option maxHeartbeats 4000000 in
theorem c_X8_plainCourse {l : Launch} {D : va_G} {κ : Nat → ClassId} {ρ : Nat → Nat} (o1 : Nat) (h_o1 : (w_sh o1).1 = 8) : wMR l yX8_plainCourse cX8_plainCourse 1 "WaxBowl$Course" (wRm 1 22) [.ref (ρ o1)] D κ ρ 0 (fun u => F_X8_plainCourse o1 u) := by
  refine wMR_of (F := fun u => F_X8_plainCourse o1 u) rfl (Nat.le_of_ble_eq_true rfl) (fun u0 z p e s m args below meth c ls A hF hC hr hlk hH hl => ?_)
  have hl : lv_has ls 1 [(0, .ref (ρ o1))] := hl
  have hx := hC.1.1
  have hb := hC.1.2.1
  have hF : F_X8_plainCourse o1 u0 = some z := hF
  unfold F_X8_plainCourse at hF
  change W p l e (wRm 1 22) s m args below meth c s.heap [] 0 0 (wQR below args s A D κ ρ 0 z) (F0 m 0 ls [])
  have key : ∀ (H : Heap) (locs : List Loc), wHp D κ ρ 0 A s.heap H locs u0 → W p l e (wRm 1 22) s m args below meth c H locs 0 0 (wQR below args s A D κ ρ 0 z) (F0 m 0 ls []) := by
    intro H locs hH
    refine lv_aload_n hx hb dX8_plainCourse_0 rfl (lv_at hl 0 rfl) ?_
    refine wx_getR hC hH h_o1 rfl f_X8_60 dX8_plainCourse_1 hF (fun o2 h_o2 hF => ?_)
    refine lv_aload_n hx hb dX8_plainCourse_4 rfl (lv_at hl 0 rfl) ?_
    refine wx_getR hC hH h_o1 rfl f_X8_22 dX8_plainCourse_5 hF (fun o3 h_o3 hF => ?_)
    refine lv_iconst hx hb dX8_plainCourse_8 k_iconst_0 ?_
    refine wx_evv hC hH hl (c_X0_begin o2 o3 (0 : Int32) h_o2 h_o3) y_X0_begin v_X0_begin h_o2 rfl m_X8_211 rfl ⟨Nat.le_of_ble_eq_true rfl, Nat.le_of_ble_eq_true rfl⟩ ⟨Nat.le_refl _, Nat.le_refl _⟩ rfl (Nat.le_of_ble_eq_true rfl) dX8_plainCourse_9 hF (fun _ u4 H locs hF hH => ?_)
    refine lv_aload_n hx hb dX8_plainCourse_12 rfl (lv_at hl 0 rfl) ?_
    refine wx_getR hC hH h_o1 rfl f_X8_60 dX8_plainCourse_13 hF (fun o5 h_o5 hF => ?_)
    exact wx_aret hC hH hr hlk dX8_plainCourse_16 hF
  exact key _ _ hH
def F_X8_law_j25 (u0 : wSt) : Option (Int64 × wSt) :=
  some ((-9223372036854775808 : Int64), u0)
def F_X8_law (o1 : Nat) (i2 : Int32) (i3 : Int32) (i4 : Int32) (u0 : wSt) : Option (Int64 × wSt) :=
  wJ (X := Unit) (if i2 < 0 then (some (.inl ())) else (if (3 : Int32) ≤ i2 then (some (.inl ())) else (wP (F_X8_isGuest o1 i3 u0) (fun (i6 : Int32) => if i6 = 0 then (some (.inl ())) else (wP (F_X8_isFruit o1 i4 u0) (fun (i7 : Int32) => if i7 = 0 then (some (.inl ())) else (wC (F_X8_plainCourse o1 u0) (fun (o9 : Nat) (u8 : wSt) => wG ((w_sh o9).1 = 0) (wR (u8.2.2 o1 5) 3 (fun o10 => wC (F_X0_workOut o9 i2 o10 i3 i4 u8) (fun (q12 : Int64) (u11 : wSt) => some (.inr (q12, u11))))))))))))) (fun x => F_X8_law_j25 u0)
set_option maxRecDepth 100000 in
set_option maxHeartbeats 4000000 in
theorem c_X8_law {l : Launch} {D : va_G} {κ : Nat → ClassId} {ρ : Nat → Nat} (o1 : Nat) (i2 : Int32) (i3 : Int32) (i4 : Int32) (h_o1 : (w_sh o1).1 = 8) : wML l yX8_law cX8_law 4 (wRm 3 80) [.ref (ρ o1), .int i2, .int i3, .int i4] D κ ρ 0 (fun u => F_X8_law o1 i2 i3 i4 u) := by
  refine wML_of (F := fun u => F_X8_law o1 i2 i3 i4 u) rfl (Nat.le_of_ble_eq_true rfl) (fun u0 z p e s m args below meth c ls A hF hC hr hlk hH hl => ?_)
  have hl : lv_has ls 4 [(0, .ref (ρ o1)), (1, .int i2), (2, .int i3), (3, .int i4)] := hl
  have hx := hC.1.1
  have hb := hC.1.2.1
  have hF : F_X8_law o1 i2 i3 i4 u0 = some z := hF
  unfold F_X8_law at hF
  change W p l e (wRm 3 80) s m args below meth c s.heap [] 0 0 (wQL below args s A D κ ρ 0 z) (F0 m 0 ls [])
  have key : ∀ (H : Heap) (locs : List Loc), wHp D κ ρ 0 A s.heap H locs u0 → W p l e (wRm 3 80) s m args below meth c H locs 0 0 (wQL below args s A D κ ρ 0 z) (F0 m 0 ls []) := by
    intro H locs hH
    refine lv_iload_n hx hb dX8_law_0 rfl (lv_at hl 1 rfl) ?_
    obtain ⟨q5_, hF, hq5⟩ := wJ_some hF
    have hJ25 : ∀ (H : Heap) (locs : List Loc) (ls : Array Slot), F_X8_law_j25 u0 = some z → wHp D κ ρ 0 A s.heap H locs u0 → lv_has ls 4 [] → W p l e (wRm 3 80) s m args below meth c H locs 0 0 (wQL below args s A D κ ρ 0 z) (F0 m 25 ls []) := by
      intro H locs ls hF hH hl
      unfold F_X8_law_j25 at hF
      refine lv_ldc2 hx hb hC.1.2.2.2.1 (hC.1.2.2.2.2 _ l_X8_178) dX8_law_25 ?_
      exact wx_lret hC hH hr hlk dX8_law_28 hF
    refine lv_if_lt hx hb dX8_law_1 (tgt := 25) rfl (fun h => ?_) (fun h => ?_)
    · have hF := wx_t h hF
      have hF := wJ_l hq5 hF
      exact hJ25 H locs ls hF hH (lv_sub hl [] rfl)
    have hF := wx_f h hF
    refine lv_iload_n hx hb dX8_law_4 rfl (lv_at hl 1 rfl) ?_
    refine lv_iconst hx hb dX8_law_5 k_iconst_3 ?_
    refine lv_icmp_ge hx hb dX8_law_6 (tgt := 25) rfl (fun h => ?_) (fun h => ?_)
    · have hF := wx_t h hF
      have hF := wJ_l hq5 hF
      exact hJ25 H locs ls hF hH (lv_sub hl [] rfl)
    have hF := wx_f h hF
    refine lv_aload_n hx hb dX8_law_9 rfl (lv_at hl 0 rfl) ?_
    refine lv_iload_n hx hb dX8_law_10 rfl (lv_at hl 2 rfl) ?_
    refine wx_pvi hC hH hl (c_X8_isGuest o1 i3 h_o1) y_X8_isGuest v_X8_isGuest h_o1 rfl m_X8_118 rfl ⟨Nat.le_of_ble_eq_true rfl, Nat.le_of_ble_eq_true rfl⟩ ⟨Nat.le_refl _, Nat.le_refl _⟩ rfl (Nat.le_of_ble_eq_true rfl) dX8_law_11 hF (fun i6 H locs hF hH => ?_)
    refine lv_if_eq hx hb dX8_law_14 (tgt := 25) rfl (fun h => ?_) (fun h => ?_)
    · have hF := wx_t h hF
      have hF := wJ_l hq5 hF
      exact hJ25 H locs ls hF hH (lv_sub hl [] rfl)
    have hF := wx_f h hF
    refine lv_aload_n hx hb dX8_law_17 rfl (lv_at hl 0 rfl) ?_
    refine lv_iload_n hx hb dX8_law_18 rfl (lv_at hl 3 rfl) ?_
    refine wx_pvi hC hH hl (c_X8_isFruit o1 i4 h_o1) y_X8_isFruit v_X8_isFruit h_o1 rfl m_X8_160 rfl ⟨Nat.le_of_ble_eq_true rfl, Nat.le_of_ble_eq_true rfl⟩ ⟨Nat.le_refl _, Nat.le_refl _⟩ rfl (Nat.le_of_ble_eq_true rfl) dX8_law_19 hF (fun i7 H locs hF hH => ?_)
    refine lv_if_ne hx hb dX8_law_22 (tgt := 29) rfl (fun h => ?_) (fun h => ?_)
    · have hF := wx_f h hF
      refine lv_aload_n hx hb dX8_law_29 rfl (lv_at hl 0 rfl) ?_
      refine wx_evr hC hH hl (c_X8_plainCourse o1 h_o1) y_X8_plainCourse v_X8_plainCourse h_o1 rfl m_X8_144 rfl ⟨Nat.le_of_ble_eq_true rfl, Nat.le_of_ble_eq_true rfl⟩ ⟨Nat.le_refl _, Nat.le_refl _⟩ rfl (Nat.le_of_ble_eq_true rfl) dX8_law_30 hF (fun o9 u8 H locs hF hH => ?_)
      obtain ⟨h_o9, hF⟩ := wG_some hF
      refine lv_iload_n hx hb dX8_law_33 rfl (lv_at hl 1 rfl) ?_
      refine lv_aload_n hx hb dX8_law_34 rfl (lv_at hl 0 rfl) ?_
      refine wx_getR hC hH h_o1 rfl f_X8_41 dX8_law_35 hF (fun o10 h_o10 hF => ?_)
      refine lv_iload_n hx hb dX8_law_38 rfl (lv_at hl 2 rfl) ?_
      refine lv_iload_n hx hb dX8_law_39 rfl (lv_at hl 3 rfl) ?_
      refine wx_evl hC hH hl (c_X0_workOut o9 i2 o10 i3 i4 h_o9 h_o10) y_X0_workOut v_X0_workOut h_o9 rfl m_X8_180 rfl ⟨Nat.le_of_ble_eq_true rfl, Nat.le_of_ble_eq_true rfl⟩ ⟨Nat.le_refl _, Nat.le_refl _⟩ rfl (Nat.le_of_ble_eq_true rfl) dX8_law_40 hF (fun q12 u11 H locs hF hH => ?_)
      have hF := wJ_r hq5 hF
      exact wx_lret hC hH hr hlk dX8_law_43 hF
    have hF := wx_t h hF
    have hF := wJ_l hq5 hF
    exact hJ25 H locs ls hF hH (lv_sub hl [] rfl)
  exact key _ _ hH
def F_X8_areTwoGuests (o1 : Nat) (i2 : Int32) (i3 : Int32) (u0 : wSt) : Option Int32 :=
  wP (F_X8_isGuest o1 i2 u0) (fun (i4 : Int32) => if i4 = 0 then (some ((0 : Int32))) else (wP (F_X8_isGuest o1 i3 u0) (fun (i5 : Int32) => if i5 = 0 then (some ((0 : Int32))) else (if i2 = i3 then (some ((0 : Int32))) else (some ((1 : Int32)))))))
set_option maxRecDepth 100000 in
set_option maxHeartbeats 4000000 in
theorem c_X8_areTwoGuests {l : Launch} {D : va_G} {κ : Nat → ClassId} {ρ : Nat → Nat} (o1 : Nat) (i2 : Int32) (i3 : Int32) (h_o1 : (w_sh o1).1 = 8) : wMI l yX8_areTwoGuests cX8_areTwoGuests 3 .boolean (wRm 1 21) [.ref (ρ o1), .int i2, .int i3] D κ ρ 0 (fun u => wPu (F_X8_areTwoGuests o1 i2 i3 u) u) := by
  refine wMP_of (F := fun u => F_X8_areTwoGuests o1 i2 i3 u) rfl (Nat.le_of_ble_eq_true rfl) (fun u0 z p e s m args below meth c ls A hF hC hr hlk hH hl => ?_)
  have hl : lv_has ls 3 [(0, .ref (ρ o1)), (1, .int i2), (2, .int i3)] := hl
  have hx := hC.1.1
  have hb := hC.1.2.1
  have hF : F_X8_areTwoGuests o1 i2 i3 u0 = some z := hF
  unfold F_X8_areTwoGuests at hF
  change W p l e (wRm 1 21) s m args below meth c s.heap [] 0 0 (wQI below args s A D κ ρ 0 (z, u0)) (F0 m 0 ls [])
  have key : ∀ (H : Heap) (locs : List Loc), wHp D κ ρ 0 A s.heap H locs u0 → W p l e (wRm 1 21) s m args below meth c H locs 0 0 (wQI below args s A D κ ρ 0 (z, u0)) (F0 m 0 ls []) := by
    intro H locs hH
    refine lv_aload_n hx hb dX8_areTwoGuests_0 rfl (lv_at hl 0 rfl) ?_
    refine lv_iload_n hx hb dX8_areTwoGuests_1 rfl (lv_at hl 1 rfl) ?_
    refine wx_pvi hC hH hl (c_X8_isGuest o1 i2 h_o1) y_X8_isGuest v_X8_isGuest h_o1 rfl m_X8_118 rfl ⟨Nat.le_of_ble_eq_true rfl, Nat.le_of_ble_eq_true rfl⟩ ⟨Nat.le_refl _, Nat.le_refl _⟩ rfl (Nat.le_of_ble_eq_true rfl) dX8_areTwoGuests_2 hF (fun i4 H locs hF hH => ?_)
    refine lv_if_eq hx hb dX8_areTwoGuests_5 (tgt := 25) rfl (fun h => ?_) (fun h => ?_)
    · have hF := wx_t h hF
      refine lv_iconst hx hb dX8_areTwoGuests_25 k_iconst_0 ?_
      exact wx_zret hC hH hr hlk dX8_areTwoGuests_26 (Or.inl rfl) (wx_pr hF)
    have hF := wx_f h hF
    refine lv_aload_n hx hb dX8_areTwoGuests_8 rfl (lv_at hl 0 rfl) ?_
    refine lv_iload_n hx hb dX8_areTwoGuests_9 rfl (lv_at hl 2 rfl) ?_
    refine wx_pvi hC hH hl (c_X8_isGuest o1 i3 h_o1) y_X8_isGuest v_X8_isGuest h_o1 rfl m_X8_118 rfl ⟨Nat.le_of_ble_eq_true rfl, Nat.le_of_ble_eq_true rfl⟩ ⟨Nat.le_refl _, Nat.le_refl _⟩ rfl (Nat.le_of_ble_eq_true rfl) dX8_areTwoGuests_10 hF (fun i5 H locs hF hH => ?_)
    refine lv_if_eq hx hb dX8_areTwoGuests_13 (tgt := 25) rfl (fun h => ?_) (fun h => ?_)
    · have hF := wx_t h hF
      refine lv_iconst hx hb dX8_areTwoGuests_25 k_iconst_0 ?_
      exact wx_zret hC hH hr hlk dX8_areTwoGuests_26 (Or.inl rfl) (wx_pr hF)
    have hF := wx_f h hF
    refine lv_iload_n hx hb dX8_areTwoGuests_16 rfl (lv_at hl 1 rfl) ?_
    refine lv_iload_n hx hb dX8_areTwoGuests_17 rfl (lv_at hl 2 rfl) ?_
    refine lv_icmp_eq hx hb dX8_areTwoGuests_18 (tgt := 25) rfl (fun h => ?_) (fun h => ?_)
    · have hF := wx_t h hF
      refine lv_iconst hx hb dX8_areTwoGuests_25 k_iconst_0 ?_
      exact wx_zret hC hH hr hlk dX8_areTwoGuests_26 (Or.inl rfl) (wx_pr hF)
    have hF := wx_f h hF
    refine lv_iconst hx hb dX8_areTwoGuests_21 k_iconst_1 ?_
    refine lv_goto hx hb dX8_areTwoGuests_22 (tgt := 26) rfl ?_
    exact wx_zret hC hH hr hlk dX8_areTwoGuests_26 (Or.inr rfl) (wx_pr hF)
  exact key _ _ hH
def F_X8_seat (o1 : Nat) (i2 : Int32) (i3 : Int32) (u0 : wSt) : Option (Int32 × wSt) :=
  wP (F_X8_areTwoGuests o1 i2 i3 u0) (fun (i4 : Int32) => if i4 = 0 then (some ((0 : Int32), u0)) else (wR (u0.2.2 o1 5) 3 (fun o5 => wC (F_X3_changeSeats o5 i2 i3 u0) (fun _ (u6 : wSt) => wR (u6.2.2 o1 10) 7 (fun o7 => wC (F_X7_put o7 (0 : Int32) i2 i3 u6) (fun _ (u8 : wSt) => some ((1 : Int32), u8)))))))
set_option maxRecDepth 100000 in
set_option maxHeartbeats 4000000 in
theorem c_X8_seat {l : Launch} {D : va_G} {κ : Nat → ClassId} {ρ : Nat → Nat} (o1 : Nat) (i2 : Int32) (i3 : Int32) (h_o1 : (w_sh o1).1 = 8) : wMI l yX8_seat cX8_seat 3 .boolean (wRm 3 69) [.ref (ρ o1), .int i2, .int i3] D κ ρ 0 (fun u => F_X8_seat o1 i2 i3 u) := by
  refine wMI_of (F := fun u => F_X8_seat o1 i2 i3 u) rfl (Nat.le_of_ble_eq_true rfl) (fun u0 z p e s m args below meth c ls A hF hC hr hlk hH hl => ?_)
  have hl : lv_has ls 3 [(0, .ref (ρ o1)), (1, .int i2), (2, .int i3)] := hl
  have hx := hC.1.1
  have hb := hC.1.2.1
  have hF : F_X8_seat o1 i2 i3 u0 = some z := hF
  unfold F_X8_seat at hF
  change W p l e (wRm 3 69) s m args below meth c s.heap [] 0 0 (wQI below args s A D κ ρ 0 z) (F0 m 0 ls [])
  have key : ∀ (H : Heap) (locs : List Loc), wHp D κ ρ 0 A s.heap H locs u0 → W p l e (wRm 3 69) s m args below meth c H locs 0 0 (wQI below args s A D κ ρ 0 z) (F0 m 0 ls []) := by
    intro H locs hH
    refine lv_aload_n hx hb dX8_seat_0 rfl (lv_at hl 0 rfl) ?_
    refine lv_iload_n hx hb dX8_seat_1 rfl (lv_at hl 1 rfl) ?_
    refine lv_iload_n hx hb dX8_seat_2 rfl (lv_at hl 2 rfl) ?_
    refine wx_pvi hC hH hl (c_X8_areTwoGuests o1 i2 i3 h_o1) y_X8_areTwoGuests v_X8_areTwoGuests h_o1 rfl m_X8_184 rfl ⟨Nat.le_of_ble_eq_true rfl, Nat.le_of_ble_eq_true rfl⟩ ⟨Nat.le_refl _, Nat.le_refl _⟩ rfl (Nat.le_of_ble_eq_true rfl) dX8_seat_3 hF (fun i4 H locs hF hH => ?_)
    refine lv_if_ne hx hb dX8_seat_6 (tgt := 11) rfl (fun h => ?_) (fun h => ?_)
    · have hF := wx_f h hF
      refine lv_aload_n hx hb dX8_seat_11 rfl (lv_at hl 0 rfl) ?_
      refine wx_getR hC hH h_o1 rfl f_X8_41 dX8_seat_12 hF (fun o5 h_o5 hF => ?_)
      refine lv_iload_n hx hb dX8_seat_15 rfl (lv_at hl 1 rfl) ?_
      refine lv_iload_n hx hb dX8_seat_16 rfl (lv_at hl 2 rfl) ?_
      refine wx_evv hC hH hl (c_X3_changeSeats o5 i2 i3 h_o5) y_X3_changeSeats v_X3_changeSeats h_o5 rfl m_X8_188 rfl ⟨Nat.le_of_ble_eq_true rfl, Nat.le_of_ble_eq_true rfl⟩ ⟨Nat.le_refl _, Nat.le_refl _⟩ rfl (Nat.le_of_ble_eq_true rfl) dX8_seat_17 hF (fun _ u6 H locs hF hH => ?_)
      refine lv_aload_n hx hb dX8_seat_20 rfl (lv_at hl 0 rfl) ?_
      refine wx_getR hC hH h_o1 rfl f_X8_67 dX8_seat_21 hF (fun o7 h_o7 hF => ?_)
      refine lv_iconst hx hb dX8_seat_24 k_iconst_0 ?_
      refine lv_iload_n hx hb dX8_seat_25 rfl (lv_at hl 1 rfl) ?_
      refine lv_iload_n hx hb dX8_seat_26 rfl (lv_at hl 2 rfl) ?_
      refine wx_evv hC hH hl (c_X7_put o7 (0 : Int32) i2 i3 h_o7) y_X7_put v_X7_put h_o7 rfl m_X8_192 rfl ⟨Nat.le_of_ble_eq_true rfl, Nat.le_of_ble_eq_true rfl⟩ ⟨Nat.le_refl _, Nat.le_refl _⟩ rfl (Nat.le_of_ble_eq_true rfl) dX8_seat_27 hF (fun _ u8 H locs hF hH => ?_)
      refine lv_iconst hx hb dX8_seat_30 k_iconst_1 ?_
      exact wx_zret hC hH hr hlk dX8_seat_31 (Or.inr rfl) hF
    have hF := wx_t h hF
    refine lv_iconst hx hb dX8_seat_9 k_iconst_0 ?_
    exact wx_zret hC hH hr hlk dX8_seat_10 (Or.inl rfl) hF
  exact key _ _ hH
def F_X8_isThere (o1 : Nat) (i2 : Int32) (u0 : wSt) : Option Int32 :=
  wP (F_X8_isGuest o1 i2 u0) (fun (i3 : Int32) => if i3 = 0 then (some ((0 : Int32))) else (wR (u0.2.2 o1 5) 3 (fun o4 => wP (F_X3_hasFainted o4 i2 u0) (fun (i5 : Int32) => if i5 = 0 then (some ((1 : Int32))) else (some ((0 : Int32)))))))
set_option maxRecDepth 100000 in
set_option maxHeartbeats 4000000 in
theorem c_X8_isThere {l : Launch} {D : va_G} {κ : Nat → ClassId} {ρ : Nat → Nat} (o1 : Nat) (i2 : Int32) (h_o1 : (w_sh o1).1 = 8) : wMI l yX8_isThere cX8_isThere 2 .boolean (wRm 1 21) [.ref (ρ o1), .int i2] D κ ρ 0 (fun u => wPu (F_X8_isThere o1 i2 u) u) := by
  refine wMP_of (F := fun u => F_X8_isThere o1 i2 u) rfl (Nat.le_of_ble_eq_true rfl) (fun u0 z p e s m args below meth c ls A hF hC hr hlk hH hl => ?_)
  have hl : lv_has ls 2 [(0, .ref (ρ o1)), (1, .int i2)] := hl
  have hx := hC.1.1
  have hb := hC.1.2.1
  have hF : F_X8_isThere o1 i2 u0 = some z := hF
  unfold F_X8_isThere at hF
  change W p l e (wRm 1 21) s m args below meth c s.heap [] 0 0 (wQI below args s A D κ ρ 0 (z, u0)) (F0 m 0 ls [])
  have key : ∀ (H : Heap) (locs : List Loc), wHp D κ ρ 0 A s.heap H locs u0 → W p l e (wRm 1 21) s m args below meth c H locs 0 0 (wQI below args s A D κ ρ 0 (z, u0)) (F0 m 0 ls []) := by
    intro H locs hH
    refine lv_aload_n hx hb dX8_isThere_0 rfl (lv_at hl 0 rfl) ?_
    refine lv_iload_n hx hb dX8_isThere_1 rfl (lv_at hl 1 rfl) ?_
    refine wx_pvi hC hH hl (c_X8_isGuest o1 i2 h_o1) y_X8_isGuest v_X8_isGuest h_o1 rfl m_X8_118 rfl ⟨Nat.le_of_ble_eq_true rfl, Nat.le_of_ble_eq_true rfl⟩ ⟨Nat.le_refl _, Nat.le_refl _⟩ rfl (Nat.le_of_ble_eq_true rfl) dX8_isThere_2 hF (fun i3 H locs hF hH => ?_)
    refine lv_if_eq hx hb dX8_isThere_5 (tgt := 23) rfl (fun h => ?_) (fun h => ?_)
    · have hF := wx_t h hF
      refine lv_iconst hx hb dX8_isThere_23 k_iconst_0 ?_
      exact wx_zret hC hH hr hlk dX8_isThere_24 (Or.inl rfl) (wx_pr hF)
    have hF := wx_f h hF
    refine lv_aload_n hx hb dX8_isThere_8 rfl (lv_at hl 0 rfl) ?_
    refine wx_getR hC hH h_o1 rfl f_X8_41 dX8_isThere_9 hF (fun o4 h_o4 hF => ?_)
    refine lv_iload_n hx hb dX8_isThere_12 rfl (lv_at hl 1 rfl) ?_
    refine wx_pvi hC hH hl (c_X3_hasFainted o4 i2 h_o4) y_X3_hasFainted v_X3_hasFainted h_o4 rfl m_X8_141 rfl ⟨Nat.le_of_ble_eq_true rfl, Nat.le_of_ble_eq_true rfl⟩ ⟨Nat.le_refl _, Nat.le_refl _⟩ rfl (Nat.le_of_ble_eq_true rfl) dX8_isThere_13 hF (fun i5 H locs hF hH => ?_)
    refine lv_if_ne hx hb dX8_isThere_16 (tgt := 23) rfl (fun h => ?_) (fun h => ?_)
    · have hF := wx_f h hF
      refine lv_iconst hx hb dX8_isThere_23 k_iconst_0 ?_
      exact wx_zret hC hH hr hlk dX8_isThere_24 (Or.inl rfl) (wx_pr hF)
    have hF := wx_t h hF
    refine lv_iconst hx hb dX8_isThere_19 k_iconst_1 ?_
    refine lv_goto hx hb dX8_isThere_20 (tgt := 24) rfl ?_
    exact wx_zret hC hH hr hlk dX8_isThere_24 (Or.inr rfl) (wx_pr hF)
  exact key _ _ hH
def F_X8_bread (o1 : Nat) (i2 : Int32) (i3 : Int32) (u0 : wSt) : Option (Int32 × wSt) :=
  wP (F_X8_isThere o1 i2 u0) (fun (i4 : Int32) => if i4 = 0 then (some ((-1 : Int32), u0)) else (if i3 < (1 : Int32) then (some ((-1 : Int32), u0)) else (if i3 ≤ (99 : Int32) then (wR (u0.2.2 o1 10) 7 (fun o5 => wR (u0.2.2 o1 5) 3 (fun o6 => wR (u0.2.2 o6 6) 10 (fun o7 => wN i2 o7 (fun j8 => wC (F_X7_put o5 (1 : Int32) i2 (u0.1 o7 j8) u0) (fun _ (u9 : wSt) => wR (u9.2.2 o1 5) 3 (fun o10 => wR (u9.2.2 o10 6) 10 (fun o11 => wR (u9.2.2 o1 5) 3 (fun o12 => wR (u9.2.2 o12 6) 10 (fun o13 => wN i2 o13 (fun j14 => wSI u9 o11 i2 (w_max (0 : Int32) ((u9.1 o13 j14) - i3)) (fun (u15 : wSt) => wR (u15.2.2 o1 5) 3 (fun o16 => wR (u15.2.2 o16 6) 10 (fun o17 => wN i2 o17 (fun j18 => some ((u15.1 o17 j18), u15)))))))))))))))) else (some ((-1 : Int32), u0)))))
set_option maxRecDepth 100000 in
set_option maxHeartbeats 4000000 in
theorem c_X8_bread {l : Launch} {D : va_G} {κ : Nat → ClassId} {ρ : Nat → Nat} (o1 : Nat) (i2 : Int32) (i3 : Int32) (h_o1 : (w_sh o1).1 = 8) : wMI l yX8_bread cX8_bread 3 .int (wRm 3 69) [.ref (ρ o1), .int i2, .int i3] D κ ρ 0 (fun u => F_X8_bread o1 i2 i3 u) := by
  refine wMI_of (F := fun u => F_X8_bread o1 i2 i3 u) rfl (Nat.le_of_ble_eq_true rfl) (fun u0 z p e s m args below meth c ls A hF hC hr hlk hH hl => ?_)
  have hl : lv_has ls 3 [(0, .ref (ρ o1)), (1, .int i2), (2, .int i3)] := hl
  have hx := hC.1.1
  have hb := hC.1.2.1
  have hF : F_X8_bread o1 i2 i3 u0 = some z := hF
  unfold F_X8_bread at hF
  change W p l e (wRm 3 69) s m args below meth c s.heap [] 0 0 (wQI below args s A D κ ρ 0 z) (F0 m 0 ls [])
  have key : ∀ (H : Heap) (locs : List Loc), wHp D κ ρ 0 A s.heap H locs u0 → W p l e (wRm 3 69) s m args below meth c H locs 0 0 (wQI below args s A D κ ρ 0 z) (F0 m 0 ls []) := by
    intro H locs hH
    refine lv_aload_n hx hb dX8_bread_0 rfl (lv_at hl 0 rfl) ?_
    refine lv_iload_n hx hb dX8_bread_1 rfl (lv_at hl 1 rfl) ?_
    refine wx_pvi hC hH hl (c_X8_isThere o1 i2 h_o1) y_X8_isThere v_X8_isThere h_o1 rfl m_X8_196 rfl ⟨Nat.le_of_ble_eq_true rfl, Nat.le_of_ble_eq_true rfl⟩ ⟨Nat.le_refl _, Nat.le_refl _⟩ rfl (Nat.le_of_ble_eq_true rfl) dX8_bread_2 hF (fun i4 H locs hF hH => ?_)
    refine lv_if_eq hx hb dX8_bread_5 (tgt := 19) rfl (fun h => ?_) (fun h => ?_)
    · have hF := wx_t h hF
      refine lv_iconst hx hb dX8_bread_19 k_iconst_m1 ?_
      exact wx_iret hC hH hr hlk dX8_bread_20 hF
    have hF := wx_f h hF
    refine lv_iload_n hx hb dX8_bread_8 rfl (lv_at hl 2 rfl) ?_
    refine lv_iconst hx hb dX8_bread_9 k_iconst_1 ?_
    refine lv_icmp_lt hx hb dX8_bread_10 (tgt := 19) rfl (fun h => ?_) (fun h => ?_)
    · have hF := wx_t h hF
      refine lv_iconst hx hb dX8_bread_19 k_iconst_m1 ?_
      exact wx_iret hC hH hr hlk dX8_bread_20 hF
    have hF := wx_f h hF
    refine lv_iload_n hx hb dX8_bread_13 rfl (lv_at hl 2 rfl) ?_
    refine lv_bipush hx hb dX8_bread_14 k_bipush_99 ?_
    refine lv_icmp_le hx hb dX8_bread_16 (tgt := 21) rfl (fun h => ?_) (fun h => ?_)
    · have hF := wx_t h hF
      refine lv_aload_n hx hb dX8_bread_21 rfl (lv_at hl 0 rfl) ?_
      refine wx_getR hC hH h_o1 rfl f_X8_67 dX8_bread_22 hF (fun o5 h_o5 hF => ?_)
      refine lv_iconst hx hb dX8_bread_25 k_iconst_1 ?_
      refine lv_iload_n hx hb dX8_bread_26 rfl (lv_at hl 1 rfl) ?_
      refine lv_aload_n hx hb dX8_bread_27 rfl (lv_at hl 0 rfl) ?_
      refine wx_getR hC hH h_o1 rfl f_X8_41 dX8_bread_28 hF (fun o6 h_o6 hF => ?_)
      refine wx_getR hC hH h_o6 rfl f_X8_132 dX8_bread_31 hF (fun o7 h_o7 hF => ?_)
      refine lv_iload_n hx hb dX8_bread_34 rfl (lv_at hl 1 rfl) ?_
      refine wx_iald hC hH h_o7 ⟨rfl, rfl⟩ dX8_bread_35 hF (fun j8 hF => ?_)
      refine wx_evv hC hH hl (c_X7_put o5 (1 : Int32) i2 (u0.1 o7 j8) h_o5) y_X7_put v_X7_put h_o5 rfl m_X8_192 rfl ⟨Nat.le_of_ble_eq_true rfl, Nat.le_of_ble_eq_true rfl⟩ ⟨Nat.le_refl _, Nat.le_refl _⟩ rfl (Nat.le_of_ble_eq_true rfl) dX8_bread_36 hF (fun _ u9 H locs hF hH => ?_)
      refine lv_aload_n hx hb dX8_bread_39 rfl (lv_at hl 0 rfl) ?_
      refine wx_getR hC hH h_o1 rfl f_X8_41 dX8_bread_40 hF (fun o10 h_o10 hF => ?_)
      refine wx_getR hC hH h_o10 rfl f_X8_132 dX8_bread_43 hF (fun o11 h_o11 hF => ?_)
      refine lv_iload_n hx hb dX8_bread_46 rfl (lv_at hl 1 rfl) ?_
      refine lv_iconst hx hb dX8_bread_47 k_iconst_0 ?_
      refine lv_aload_n hx hb dX8_bread_48 rfl (lv_at hl 0 rfl) ?_
      refine wx_getR hC hH h_o1 rfl f_X8_41 dX8_bread_49 hF (fun o12 h_o12 hF => ?_)
      refine wx_getR hC hH h_o12 rfl f_X8_132 dX8_bread_52 hF (fun o13 h_o13 hF => ?_)
      refine lv_iload_n hx hb dX8_bread_55 rfl (lv_at hl 1 rfl) ?_
      refine wx_iald hC hH h_o13 ⟨rfl, rfl⟩ dX8_bread_56 hF (fun j14 hF => ?_)
      refine lv_iload_n hx hb dX8_bread_57 rfl (lv_at hl 2 rfl) ?_
      refine lv_isub hx hb dX8_bread_58 ?_
      refine wx_max hC hl.1 m_X8_199 ⟨Nat.le_of_ble_eq_true rfl, Nat.le_of_ble_eq_true rfl⟩ ⟨Nat.le_refl _, Nat.le_refl _⟩ dX8_bread_59 ?_
      refine wx_iast hC hH h_o11 ⟨rfl, rfl⟩ dX8_bread_62 hF (fun u15 H locs hF hH => ?_)
      refine lv_aload_n hx hb dX8_bread_63 rfl (lv_at hl 0 rfl) ?_
      refine wx_getR hC hH h_o1 rfl f_X8_41 dX8_bread_64 hF (fun o16 h_o16 hF => ?_)
      refine wx_getR hC hH h_o16 rfl f_X8_132 dX8_bread_67 hF (fun o17 h_o17 hF => ?_)
      refine lv_iload_n hx hb dX8_bread_70 rfl (lv_at hl 1 rfl) ?_
      refine wx_iald hC hH h_o17 ⟨rfl, rfl⟩ dX8_bread_71 hF (fun j18 hF => ?_)
      exact wx_iret hC hH hr hlk dX8_bread_72 hF
    have hF := wx_f h hF
    refine lv_iconst hx hb dX8_bread_19 k_iconst_m1 ?_
    exact wx_iret hC hH hr hlk dX8_bread_20 hF
  exact key _ _ hH
def F_X8_wake (o1 : Nat) (i2 : Int32) (u0 : wSt) : Option (Int32 × wSt) :=
  wP (F_X8_isGuest o1 i2 u0) (fun (i3 : Int32) => if i3 = 0 then (some ((0 : Int32), u0)) else (wR (u0.2.2 o1 5) 3 (fun o4 => wP (F_X3_hasFainted o4 i2 u0) (fun (i5 : Int32) => if i5 = 0 then (some ((0 : Int32), u0)) else (wR (u0.2.2 o1 10) 7 (fun o6 => wR (u0.2.2 o1 5) 3 (fun o7 => wR (u0.2.2 o7 6) 10 (fun o8 => wN i2 o8 (fun j9 => wC (F_X7_put o6 (2 : Int32) i2 (u0.1 o8 j9) u0) (fun _ (u10 : wSt) => wR (u10.2.2 o1 5) 3 (fun o11 => wC (F_X3_comeTo o11 i2 u10) (fun _ (u12 : wSt) => wR (u12.2.2 o1 5) 3 (fun o13 => wR (u12.2.2 o13 6) 10 (fun o14 => wSI u12 o14 i2 (50 : Int32) (fun (u15 : wSt) => some ((1 : Int32), u15))))))))))))))))
set_option maxRecDepth 100000 in
set_option maxHeartbeats 4000000 in
theorem c_X8_wake {l : Launch} {D : va_G} {κ : Nat → ClassId} {ρ : Nat → Nat} (o1 : Nat) (i2 : Int32) (h_o1 : (w_sh o1).1 = 8) : wMI l yX8_wake cX8_wake 2 .boolean (wRm 3 69) [.ref (ρ o1), .int i2] D κ ρ 0 (fun u => F_X8_wake o1 i2 u) := by
  refine wMI_of (F := fun u => F_X8_wake o1 i2 u) rfl (Nat.le_of_ble_eq_true rfl) (fun u0 z p e s m args below meth c ls A hF hC hr hlk hH hl => ?_)
  have hl : lv_has ls 2 [(0, .ref (ρ o1)), (1, .int i2)] := hl
  have hx := hC.1.1
  have hb := hC.1.2.1
  have hF : F_X8_wake o1 i2 u0 = some z := hF
  unfold F_X8_wake at hF
  change W p l e (wRm 3 69) s m args below meth c s.heap [] 0 0 (wQI below args s A D κ ρ 0 z) (F0 m 0 ls [])
  have key : ∀ (H : Heap) (locs : List Loc), wHp D κ ρ 0 A s.heap H locs u0 → W p l e (wRm 3 69) s m args below meth c H locs 0 0 (wQI below args s A D κ ρ 0 z) (F0 m 0 ls []) := by
    intro H locs hH
    refine lv_aload_n hx hb dX8_wake_0 rfl (lv_at hl 0 rfl) ?_
    refine lv_iload_n hx hb dX8_wake_1 rfl (lv_at hl 1 rfl) ?_
    refine wx_pvi hC hH hl (c_X8_isGuest o1 i2 h_o1) y_X8_isGuest v_X8_isGuest h_o1 rfl m_X8_118 rfl ⟨Nat.le_of_ble_eq_true rfl, Nat.le_of_ble_eq_true rfl⟩ ⟨Nat.le_refl _, Nat.le_refl _⟩ rfl (Nat.le_of_ble_eq_true rfl) dX8_wake_2 hF (fun i3 H locs hF hH => ?_)
    refine lv_if_eq hx hb dX8_wake_5 (tgt := 19) rfl (fun h => ?_) (fun h => ?_)
    · have hF := wx_t h hF
      refine lv_iconst hx hb dX8_wake_19 k_iconst_0 ?_
      exact wx_zret hC hH hr hlk dX8_wake_20 (Or.inl rfl) hF
    have hF := wx_f h hF
    refine lv_aload_n hx hb dX8_wake_8 rfl (lv_at hl 0 rfl) ?_
    refine wx_getR hC hH h_o1 rfl f_X8_41 dX8_wake_9 hF (fun o4 h_o4 hF => ?_)
    refine lv_iload_n hx hb dX8_wake_12 rfl (lv_at hl 1 rfl) ?_
    refine wx_pvi hC hH hl (c_X3_hasFainted o4 i2 h_o4) y_X3_hasFainted v_X3_hasFainted h_o4 rfl m_X8_141 rfl ⟨Nat.le_of_ble_eq_true rfl, Nat.le_of_ble_eq_true rfl⟩ ⟨Nat.le_refl _, Nat.le_refl _⟩ rfl (Nat.le_of_ble_eq_true rfl) dX8_wake_13 hF (fun i5 H locs hF hH => ?_)
    refine lv_if_ne hx hb dX8_wake_16 (tgt := 21) rfl (fun h => ?_) (fun h => ?_)
    · have hF := wx_f h hF
      refine lv_aload_n hx hb dX8_wake_21 rfl (lv_at hl 0 rfl) ?_
      refine wx_getR hC hH h_o1 rfl f_X8_67 dX8_wake_22 hF (fun o6 h_o6 hF => ?_)
      refine lv_iconst hx hb dX8_wake_25 k_iconst_2 ?_
      refine lv_iload_n hx hb dX8_wake_26 rfl (lv_at hl 1 rfl) ?_
      refine lv_aload_n hx hb dX8_wake_27 rfl (lv_at hl 0 rfl) ?_
      refine wx_getR hC hH h_o1 rfl f_X8_41 dX8_wake_28 hF (fun o7 h_o7 hF => ?_)
      refine wx_getR hC hH h_o7 rfl f_X8_132 dX8_wake_31 hF (fun o8 h_o8 hF => ?_)
      refine lv_iload_n hx hb dX8_wake_34 rfl (lv_at hl 1 rfl) ?_
      refine wx_iald hC hH h_o8 ⟨rfl, rfl⟩ dX8_wake_35 hF (fun j9 hF => ?_)
      refine wx_evv hC hH hl (c_X7_put o6 (2 : Int32) i2 (u0.1 o8 j9) h_o6) y_X7_put v_X7_put h_o6 rfl m_X8_192 rfl ⟨Nat.le_of_ble_eq_true rfl, Nat.le_of_ble_eq_true rfl⟩ ⟨Nat.le_refl _, Nat.le_refl _⟩ rfl (Nat.le_of_ble_eq_true rfl) dX8_wake_36 hF (fun _ u10 H locs hF hH => ?_)
      refine lv_aload_n hx hb dX8_wake_39 rfl (lv_at hl 0 rfl) ?_
      refine wx_getR hC hH h_o1 rfl f_X8_41 dX8_wake_40 hF (fun o11 h_o11 hF => ?_)
      refine lv_iload_n hx hb dX8_wake_43 rfl (lv_at hl 1 rfl) ?_
      refine wx_evv hC hH hl (c_X3_comeTo o11 i2 h_o11) y_X3_comeTo v_X3_comeTo h_o11 rfl m_X8_205 rfl ⟨Nat.le_of_ble_eq_true rfl, Nat.le_of_ble_eq_true rfl⟩ ⟨Nat.le_refl _, Nat.le_refl _⟩ rfl (Nat.le_of_ble_eq_true rfl) dX8_wake_44 hF (fun _ u12 H locs hF hH => ?_)
      refine lv_aload_n hx hb dX8_wake_47 rfl (lv_at hl 0 rfl) ?_
      refine wx_getR hC hH h_o1 rfl f_X8_41 dX8_wake_48 hF (fun o13 h_o13 hF => ?_)
      refine wx_getR hC hH h_o13 rfl f_X8_132 dX8_wake_51 hF (fun o14 h_o14 hF => ?_)
      refine lv_iload_n hx hb dX8_wake_54 rfl (lv_at hl 1 rfl) ?_
      refine lv_bipush hx hb dX8_wake_55 k_bipush_50 ?_
      refine wx_iast hC hH h_o14 ⟨rfl, rfl⟩ dX8_wake_57 hF (fun u15 H locs hF hH => ?_)
      refine lv_iconst hx hb dX8_wake_58 k_iconst_1 ?_
      exact wx_zret hC hH hr hlk dX8_wake_59 (Or.inr rfl) hF
    have hF := wx_t h hF
    refine lv_iconst hx hb dX8_wake_19 k_iconst_0 ?_
    exact wx_zret hC hH hr hlk dX8_wake_20 (Or.inl rfl) hF
  exact key _ _ hH
def F_X8_go_j64 (o1 : Nat) (u11 : wSt) : Option (Int32 × wSt) :=
  wR (u11.2.2 o1 5) 3 (fun o12 => some ((u11.1 o12 0), u11))
def F_X8_go (o1 : Nat) (i2 : Int32) (u0 : wSt) : Option (Int32 × wSt) :=
  if i2 < 0 then (some ((-1 : Int32), u0)) else (if (200 : Int32) < i2 then (some ((-1 : Int32), u0)) else (wR (u0.2.2 o1 5) 3 (fun o3 => if ((u0.1 o3 0) + i2) ≤ (9000 : Int32) then (wR (u0.2.2 o1 9) 0 (fun o4 => wR (u0.2.2 o1 2) 6 (fun o5 => wC (F_X0_begin o4 o5 (1 : Int32) u0) (fun _ (u6 : wSt) => wR (u6.2.2 o1 9) 0 (fun o7 => wR (u6.2.2 o1 5) 3 (fun o8 => wC (F_X0_run o7 o8 i2 u6) (fun _ (u9 : wSt) => wJ (X := wSt) (if i2 ≤ 0 then (some (.inl u9)) else (wR (u9.2.2 o1 10) 7 (fun o13 => wB (w_sI u9 o13 0 (0 : Int32)) (fun (u14 : wSt) => some (.inl u14))))) (fun x => F_X8_go_j64 o1 x)))))))) else (some ((-1 : Int32), u0)))))
set_option maxRecDepth 100000 in
set_option maxHeartbeats 4000000 in
theorem c_X8_go {l : Launch} {D : va_G} {κ : Nat → ClassId} {ρ : Nat → Nat} (o1 : Nat) (i2 : Int32) (h_o1 : (w_sh o1).1 = 8) : wMI l yX8_go cX8_go 2 .int (wRm 7 178) [.ref (ρ o1), .int i2] D κ ρ 0 (fun u => F_X8_go o1 i2 u) := by
  refine wMI_of (F := fun u => F_X8_go o1 i2 u) rfl (Nat.le_of_ble_eq_true rfl) (fun u0 z p e s m args below meth c ls A hF hC hr hlk hH hl => ?_)
  have hl : lv_has ls 2 [(0, .ref (ρ o1)), (1, .int i2)] := hl
  have hx := hC.1.1
  have hb := hC.1.2.1
  have hF : F_X8_go o1 i2 u0 = some z := hF
  unfold F_X8_go at hF
  change W p l e (wRm 7 178) s m args below meth c s.heap [] 0 0 (wQI below args s A D κ ρ 0 z) (F0 m 0 ls [])
  have key : ∀ (H : Heap) (locs : List Loc), wHp D κ ρ 0 A s.heap H locs u0 → W p l e (wRm 7 178) s m args below meth c H locs 0 0 (wQI below args s A D κ ρ 0 z) (F0 m 0 ls []) := by
    intro H locs hH
    refine lv_iload_n hx hb dX8_go_0 rfl (lv_at hl 1 rfl) ?_
    refine lv_if_lt hx hb dX8_go_1 (tgt := 26) rfl (fun h => ?_) (fun h => ?_)
    · have hF := wx_t h hF
      refine lv_iconst hx hb dX8_go_26 k_iconst_m1 ?_
      exact wx_iret hC hH hr hlk dX8_go_27 hF
    have hF := wx_f h hF
    refine lv_iload_n hx hb dX8_go_4 rfl (lv_at hl 1 rfl) ?_
    refine lv_sipush hx hb dX8_go_5 k_sipush_200 ?_
    refine lv_icmp_gt hx hb dX8_go_8 (tgt := 26) rfl (fun h => ?_) (fun h => ?_)
    · have hF := wx_t h hF
      refine lv_iconst hx hb dX8_go_26 k_iconst_m1 ?_
      exact wx_iret hC hH hr hlk dX8_go_27 hF
    have hF := wx_f h hF
    refine lv_aload_n hx hb dX8_go_11 rfl (lv_at hl 0 rfl) ?_
    refine wx_getR hC hH h_o1 rfl f_X8_41 dX8_go_12 hF (fun o3 h_o3 hF => ?_)
    refine wx_getI hC hH h_o3 rfl f_X8_208 dX8_go_15 ?_
    refine lv_iload_n hx hb dX8_go_18 rfl (lv_at hl 1 rfl) ?_
    refine lv_iadd hx hb dX8_go_19 ?_
    refine lv_sipush hx hb dX8_go_20 k_sipush_9000 ?_
    refine lv_icmp_le hx hb dX8_go_23 (tgt := 28) rfl (fun h => ?_) (fun h => ?_)
    · have hF := wx_t h hF
      refine lv_aload_n hx hb dX8_go_28 rfl (lv_at hl 0 rfl) ?_
      refine wx_getR hC hH h_o1 rfl f_X8_60 dX8_go_29 hF (fun o4 h_o4 hF => ?_)
      refine lv_aload_n hx hb dX8_go_32 rfl (lv_at hl 0 rfl) ?_
      refine wx_getR hC hH h_o1 rfl f_X8_22 dX8_go_33 hF (fun o5 h_o5 hF => ?_)
      refine lv_iconst hx hb dX8_go_36 k_iconst_1 ?_
      refine wx_evv hC hH hl (c_X0_begin o4 o5 (1 : Int32) h_o4 h_o5) y_X0_begin v_X0_begin h_o4 rfl m_X8_211 rfl ⟨Nat.le_of_ble_eq_true rfl, Nat.le_of_ble_eq_true rfl⟩ ⟨Nat.le_refl _, Nat.le_refl _⟩ rfl (Nat.le_of_ble_eq_true rfl) dX8_go_37 hF (fun _ u6 H locs hF hH => ?_)
      refine lv_aload_n hx hb dX8_go_40 rfl (lv_at hl 0 rfl) ?_
      refine wx_getR hC hH h_o1 rfl f_X8_60 dX8_go_41 hF (fun o7 h_o7 hF => ?_)
      refine lv_aload_n hx hb dX8_go_44 rfl (lv_at hl 0 rfl) ?_
      refine wx_getR hC hH h_o1 rfl f_X8_41 dX8_go_45 hF (fun o8 h_o8 hF => ?_)
      refine lv_iload_n hx hb dX8_go_48 rfl (lv_at hl 1 rfl) ?_
      refine wx_evv hC hH hl (c_X0_run o7 o8 i2 h_o7 h_o8) y_X0_run v_X0_run h_o7 rfl m_X8_214 rfl ⟨Nat.le_of_ble_eq_true rfl, Nat.le_of_ble_eq_true rfl⟩ ⟨Nat.le_refl _, Nat.le_refl _⟩ rfl (Nat.le_of_ble_eq_true rfl) dX8_go_49 hF (fun _ u9 H locs hF hH => ?_)
      refine lv_iload_n hx hb dX8_go_52 rfl (lv_at hl 1 rfl) ?_
      obtain ⟨q10_, hF, hq10⟩ := wJ_some hF
      have hJ64 : ∀ (u11 : wSt) (H : Heap) (locs : List Loc) (ls : Array Slot), F_X8_go_j64 o1 u11 = some z → wHp D κ ρ 0 A s.heap H locs u11 → lv_has ls 2 [(0, .ref (ρ o1))] → W p l e (wRm 7 178) s m args below meth c H locs 0 0 (wQI below args s A D κ ρ 0 z) (F0 m 64 ls []) := by
        intro u11 H locs ls hF hH hl
        unfold F_X8_go_j64 at hF
        refine lv_aload_n hx hb dX8_go_64 rfl (lv_at hl 0 rfl) ?_
        refine wx_getR hC hH h_o1 rfl f_X8_41 dX8_go_65 hF (fun o12 h_o12 hF => ?_)
        refine wx_getI hC hH h_o12 rfl f_X8_208 dX8_go_68 ?_
        exact wx_iret hC hH hr hlk dX8_go_71 hF
      refine lv_if_le hx hb dX8_go_53 (tgt := 64) rfl (fun h => ?_) (fun h => ?_)
      · have hF := wx_t h hF
        have hF := wJ_l hq10 hF
        exact hJ64 u9 H locs ls hF hH (lv_sub hl [0] rfl)
      have hF := wx_f h hF
      refine lv_aload_n hx hb dX8_go_56 rfl (lv_at hl 0 rfl) ?_
      refine wx_getR hC hH h_o1 rfl f_X8_67 dX8_go_57 hF (fun o13 h_o13 hF => ?_)
      refine lv_iconst hx hb dX8_go_60 k_iconst_0 ?_
      refine wx_putI hC hH h_o13 rfl f_X8_99 g_7_0 dX8_go_61 hF (fun u14 H locs hF hH => ?_)
      have hF := wJ_l hq10 hF
      exact hJ64 u14 H locs ls hF hH (lv_sub hl [0] rfl)
    have hF := wx_f h hF
    refine lv_iconst hx hb dX8_go_26 k_iconst_m1 ?_
    exact wx_iret hC hH hr hlk dX8_go_27 hF
  exact key _ _ hH
def F_X8_startTrial (o1 : Nat) (u0 : wSt) : Option (Unit × wSt) :=
  wC (F_X8_plainCourse o1 u0) (fun (o3 : Nat) (u2 : wSt) => wG ((w_sh o3).1 = 0) (wR (u2.2.2 o1 7) 3 (fun o4 => wR (u2.2.2 o1 5) 3 (fun o5 => wC (F_X3_take o4 o5 u2) (fun _ (u6 : wSt) => some ((), u6))))))
set_option maxRecDepth 100000 in
set_option maxHeartbeats 4000000 in
theorem c_X8_startTrial {l : Launch} {D : va_G} {κ : Nat → ClassId} {ρ : Nat → Nat} (o1 : Nat) (h_o1 : (w_sh o1).1 = 8) : wMV l yX8_startTrial cX8_startTrial 1 (wRm 2 47) [.ref (ρ o1)] D κ ρ 0 (fun u => F_X8_startTrial o1 u) := by
  refine wMV_of (F := fun u => F_X8_startTrial o1 u) rfl (Nat.le_of_ble_eq_true rfl) (fun u0 z p e s m args below meth c ls A hF hC hr hlk hH hl => ?_)
  have hl : lv_has ls 1 [(0, .ref (ρ o1))] := hl
  have hx := hC.1.1
  have hb := hC.1.2.1
  have hF : F_X8_startTrial o1 u0 = some z := hF
  unfold F_X8_startTrial at hF
  change W p l e (wRm 2 47) s m args below meth c s.heap [] 0 0 (wQV below args s A D κ ρ 0 z) (F0 m 0 ls [])
  have key : ∀ (H : Heap) (locs : List Loc), wHp D κ ρ 0 A s.heap H locs u0 → W p l e (wRm 2 47) s m args below meth c H locs 0 0 (wQV below args s A D κ ρ 0 z) (F0 m 0 ls []) := by
    intro H locs hH
    refine lv_aload_n hx hb dX8_startTrial_0 rfl (lv_at hl 0 rfl) ?_
    refine wx_evr hC hH hl (c_X8_plainCourse o1 h_o1) y_X8_plainCourse v_X8_plainCourse h_o1 rfl m_X8_144 rfl ⟨Nat.le_of_ble_eq_true rfl, Nat.le_of_ble_eq_true rfl⟩ ⟨Nat.le_refl _, Nat.le_refl _⟩ rfl (Nat.le_of_ble_eq_true rfl) dX8_startTrial_1 hF (fun o3 u2 H locs hF hH => ?_)
    obtain ⟨h_o3, hF⟩ := wG_some hF
    refine lv_pop hx hb dX8_startTrial_4 rfl ?_
    refine lv_aload_n hx hb dX8_startTrial_5 rfl (lv_at hl 0 rfl) ?_
    refine wx_getR hC hH h_o1 rfl f_X8_48 dX8_startTrial_6 hF (fun o4 h_o4 hF => ?_)
    refine lv_aload_n hx hb dX8_startTrial_9 rfl (lv_at hl 0 rfl) ?_
    refine wx_getR hC hH h_o1 rfl f_X8_41 dX8_startTrial_10 hF (fun o5 h_o5 hF => ?_)
    refine wx_evv hC hH hl (c_X3_take o4 o5 h_o4 h_o5) y_X3_take v_X3_take h_o4 rfl m_X8_345 rfl ⟨Nat.le_of_ble_eq_true rfl, Nat.le_of_ble_eq_true rfl⟩ ⟨Nat.le_refl _, Nat.le_refl _⟩ rfl (Nat.le_of_ble_eq_true rfl) dX8_startTrial_13 hF (fun _ u6 H locs hF hH => ?_)
    exact wx_vret hC hH hr hlk dX8_startTrial_16 hF
  exact key _ _ hH
def F_X8_bitesIn_b4 (u0 : wSt) (o1 : Nat) (o2 : Nat) (i4 : Int32) (i5 : Int32) : Option ((Int32 × Int32) ⊕ Int32) :=
  wR (u0.2.2 o1 2) 6 (fun o6 => if (u0.1 o6 1) ≤ i5 then (some (.inr (i4))) else (wR (u0.2.2 o2 7) 10 (fun o7 => wN i5 o7 (fun j8 => wB (i4 + (u0.1 o7 j8)) (fun (i9 : Int32) => wB (i5 + (1 : Int32)) (fun (i10 : Int32) => some (.inl (i9, i10))))))))
def F_X8_bitesIn (o1 : Nat) (o2 : Nat) (u0 : wSt) : Option Int32 :=
  wL (S := Int32 × Int32) (fun x => F_X8_bitesIn_b4 u0 o1 o2 x.1 x.2) wFu ((0 : Int32), (0 : Int32))
set_option maxRecDepth 100000 in
set_option maxHeartbeats 4000000 in
theorem c_X8_bitesIn {l : Launch} {D : va_G} {κ : Nat → ClassId} {ρ : Nat → Nat} (o1 : Nat) (o2 : Nat) (h_o1 : (w_sh o1).1 = 8) (h_o2 : (w_sh o2).1 = 3) : wMI l yX8_bitesIn cX8_bitesIn 4 .int (wRm 0 0) [.ref (ρ o1), .ref (ρ o2)] D κ ρ 0 (fun u => wPu (F_X8_bitesIn o1 o2 u) u) := by
  refine wMP_of (F := fun u => F_X8_bitesIn o1 o2 u) rfl (Nat.le_of_ble_eq_true rfl) (fun u0 z p e s m args below meth c ls A hF hC hr hlk hH hl => ?_)
  have hl : lv_has ls 4 [(0, .ref (ρ o1)), (1, .ref (ρ o2))] := hl
  have hx := hC.1.1
  have hb := hC.1.2.1
  have hF : F_X8_bitesIn o1 o2 u0 = some z := hF
  unfold F_X8_bitesIn at hF
  change W p l e (wRm 0 0) s m args below meth c s.heap [] 0 0 (wQI below args s A D κ ρ 0 (z, u0)) (F0 m 0 ls [])
  have key : ∀ (H : Heap) (locs : List Loc), wHp D κ ρ 0 A s.heap H locs u0 → W p l e (wRm 0 0) s m args below meth c H locs 0 0 (wQI below args s A D κ ρ 0 (z, u0)) (F0 m 0 ls []) := by
    intro H locs hH
    refine lv_iconst hx hb dX8_bitesIn_0 k_iconst_0 ?_
    refine wx_istore_n hx hb dX8_bitesIn_1 rfl hl (by decide) (fun ls hl => ?_)
    have hl : lv_has ls 4 [(2, .int (0 : Int32)), (0, .ref (ρ o1)), (1, .ref (ρ o2))] := hl
    refine lv_iconst hx hb dX8_bitesIn_2 k_iconst_0 ?_
    refine wx_istore_n hx hb dX8_bitesIn_3 rfl hl (by decide) (fun ls hl => ?_)
    have hl : lv_has ls 4 [(3, .int (0 : Int32)), (2, .int (0 : Int32)), (0, .ref (ρ o1)), (1, .ref (ρ o2))] := hl
    have hL4 : ∀ (k3_ : Nat) (i4 : Int32) (i5 : Int32) (H : Heap) (locs : List Loc) (ls : Array Slot), wL (S := Int32 × Int32) (fun x => F_X8_bitesIn_b4 u0 o1 o2 x.1 x.2) k3_ (i4, i5) = some z → wHp D κ ρ 0 A s.heap H locs u0 → lv_has ls 4 [(0, .ref (ρ o1)), (1, .ref (ρ o2)), (2, .int i4), (3, .int i5)] → W p l e (wRm 0 0) s m args below meth c H locs 0 0 (wQI below args s A D κ ρ 0 (z, u0)) (F0 m 4 ls []) := by
      intro k3_
      induction k3_ with
      | zero => intro i4 i5 H locs ls hF; exact wL_zero hF
      | succ k3_ ih3 =>
        intro i4 i5 H locs ls hF hH hl
        obtain ⟨q3_, hF, hq3⟩ := wL_some hF
        have hF : F_X8_bitesIn_b4 u0 o1 o2 i4 i5 = some q3_ := hF
        unfold F_X8_bitesIn_b4 at hF
        refine lv_iload_n hx hb dX8_bitesIn_4 rfl (lv_at hl 3 rfl) ?_
        refine lv_aload_n hx hb dX8_bitesIn_5 rfl (lv_at hl 0 rfl) ?_
        refine wx_getR hC hH h_o1 rfl f_X8_22 dX8_bitesIn_6 hF (fun o6 h_o6 hF => ?_)
        refine wx_getI hC hH h_o6 rfl f_X8_235 dX8_bitesIn_9 ?_
        refine lv_icmp_ge hx hb dX8_bitesIn_12 (tgt := 30) rfl (fun h => ?_) (fun h => ?_)
        · have hF := wx_t h hF
          refine lv_iload_n hx hb dX8_bitesIn_30 rfl (lv_at hl 2 rfl) ?_
          have hF := wJ_r hq3 hF
          exact wx_iret hC hH hr hlk dX8_bitesIn_31 (wx_pr hF)
        have hF := wx_f h hF
        refine lv_iload_n hx hb dX8_bitesIn_15 rfl (lv_at hl 2 rfl) ?_
        refine lv_aload_n hx hb dX8_bitesIn_16 rfl (lv_at hl 1 rfl) ?_
        refine wx_getR hC hH h_o2 rfl f_X8_152 dX8_bitesIn_17 hF (fun o7 h_o7 hF => ?_)
        refine lv_iload_n hx hb dX8_bitesIn_20 rfl (lv_at hl 3 rfl) ?_
        refine wx_iald hC hH h_o7 ⟨rfl, rfl⟩ dX8_bitesIn_21 hF (fun j8 hF => ?_)
        refine lv_iadd hx hb dX8_bitesIn_22 ?_
        refine wx_leti hF (fun i9 hF => ?_)
        refine wx_istore_n hx hb dX8_bitesIn_23 rfl hl (by decide) (fun ls hl => ?_)
        have hl : lv_has ls 4 [(2, .int i9), (0, .ref (ρ o1)), (1, .ref (ρ o2)), (3, .int i5)] := hl
        refine wx_iinc hx hb dX8_bitesIn_24 k_iconst_1 hl (k := 3) rfl (by decide) hF (fun i10 ls hF hl => ?_)
        have hl : lv_has ls 4 [(3, .int i10), (2, .int i9), (0, .ref (ρ o1)), (1, .ref (ρ o2))] := hl
        refine lv_goto hx hb dX8_bitesIn_27 (tgt := 4) rfl ?_
        have hF := wJ_l hq3 hF
        exact ih3 i9 i10 H locs ls hF hH (lv_sub hl [2, 3, 1, 0] rfl)
    exact hL4 wFu (0 : Int32) (0 : Int32) H locs ls hF hH (lv_sub hl [2, 3, 1, 0] rfl)
  exact key _ _ hH
def F_X8_fallenInTrial (o1 : Nat) (u0 : wSt) : Option Int32 :=
  wR (u0.2.2 o1 7) 3 (fun o2 => wR (u0.2.2 o1 5) 3 (fun o3 => wP (F_J6_bitCount_0f7a4 ((u0.1 o2 2) &&& ((u0.1 o3 2) ^^^ (-1 : Int32))) u0) (fun (i4 : Int32) => some (i4))))
set_option maxRecDepth 100000 in
set_option maxHeartbeats 4000000 in
theorem c_X8_fallenInTrial {l : Launch} {D : va_G} {κ : Nat → ClassId} {ρ : Nat → Nat} (o1 : Nat) (h_o1 : (w_sh o1).1 = 8) : wMI l yX8_fallenInTrial cX8_fallenInTrial 1 .int (wRm 1 20) [.ref (ρ o1)] D κ ρ 0 (fun u => wPu (F_X8_fallenInTrial o1 u) u) := by
  refine wMP_of (F := fun u => F_X8_fallenInTrial o1 u) rfl (Nat.le_of_ble_eq_true rfl) (fun u0 z p e s m args below meth c ls A hF hC hr hlk hH hl => ?_)
  have hl : lv_has ls 1 [(0, .ref (ρ o1))] := hl
  have hx := hC.1.1
  have hb := hC.1.2.1
  have hF : F_X8_fallenInTrial o1 u0 = some z := hF
  unfold F_X8_fallenInTrial at hF
  change W p l e (wRm 1 20) s m args below meth c s.heap [] 0 0 (wQI below args s A D κ ρ 0 (z, u0)) (F0 m 0 ls [])
  have key : ∀ (H : Heap) (locs : List Loc), wHp D κ ρ 0 A s.heap H locs u0 → W p l e (wRm 1 20) s m args below meth c H locs 0 0 (wQI below args s A D κ ρ 0 (z, u0)) (F0 m 0 ls []) := by
    intro H locs hH
    refine lv_aload_n hx hb dX8_fallenInTrial_0 rfl (lv_at hl 0 rfl) ?_
    refine wx_getR hC hH h_o1 rfl f_X8_48 dX8_fallenInTrial_1 hF (fun o2 h_o2 hF => ?_)
    refine wx_getI hC hH h_o2 rfl f_X8_391 dX8_fallenInTrial_4 ?_
    refine lv_aload_n hx hb dX8_fallenInTrial_7 rfl (lv_at hl 0 rfl) ?_
    refine wx_getR hC hH h_o1 rfl f_X8_41 dX8_fallenInTrial_8 hF (fun o3 h_o3 hF => ?_)
    refine wx_getI hC hH h_o3 rfl f_X8_391 dX8_fallenInTrial_11 ?_
    refine lv_iconst hx hb dX8_fallenInTrial_14 k_iconst_m1 ?_
    refine lv_ixor hx hb dX8_fallenInTrial_15 ?_
    refine lv_iand hx hb dX8_fallenInTrial_16 ?_
    refine wx_psi hC hH hl (c_J6_bitCount_0f7a4 ((u0.1 o2 2) &&& ((u0.1 o3 2) ^^^ (-1 : Int32)))) y_J6_bitCount_0f7a4 v_J6_bitCount_0f7a4 m_X8_269 rfl ⟨Nat.le_of_ble_eq_true rfl, Nat.le_of_ble_eq_true rfl⟩ ⟨Nat.le_refl _, Nat.le_refl _⟩ rfl (Nat.le_of_ble_eq_true rfl) dX8_fallenInTrial_17 hF (fun i4 H locs hF hH => ?_)
    exact wx_iret hC hH hr hlk dX8_fallenInTrial_20 (wx_pr hF)
  exact key _ _ hH
def F_X8_fedIn_b4 (u0 : wSt) (o1 : Nat) (o2 : Nat) (i4 : Int32) (i5 : Int32) : Option ((Int32 × Int32) ⊕ Int32) :=
  wR (u0.2.2 o1 2) 6 (fun o6 => if (u0.1 o6 2) ≤ i5 then (some (.inr (i4))) else (wR (u0.2.2 o2 9) 10 (fun o7 => wN i5 o7 (fun j8 => wB (i4 + (u0.1 o7 j8)) (fun (i9 : Int32) => wB (i5 + (1 : Int32)) (fun (i10 : Int32) => some (.inl (i9, i10))))))))
def F_X8_fedIn (o1 : Nat) (o2 : Nat) (u0 : wSt) : Option Int32 :=
  wL (S := Int32 × Int32) (fun x => F_X8_fedIn_b4 u0 o1 o2 x.1 x.2) wFu ((0 : Int32), (0 : Int32))
set_option maxRecDepth 100000 in
set_option maxHeartbeats 4000000 in
theorem c_X8_fedIn {l : Launch} {D : va_G} {κ : Nat → ClassId} {ρ : Nat → Nat} (o1 : Nat) (o2 : Nat) (h_o1 : (w_sh o1).1 = 8) (h_o2 : (w_sh o2).1 = 3) : wMI l yX8_fedIn cX8_fedIn 4 .int (wRm 0 0) [.ref (ρ o1), .ref (ρ o2)] D κ ρ 0 (fun u => wPu (F_X8_fedIn o1 o2 u) u) := by
  refine wMP_of (F := fun u => F_X8_fedIn o1 o2 u) rfl (Nat.le_of_ble_eq_true rfl) (fun u0 z p e s m args below meth c ls A hF hC hr hlk hH hl => ?_)
  have hl : lv_has ls 4 [(0, .ref (ρ o1)), (1, .ref (ρ o2))] := hl
  have hx := hC.1.1
  have hb := hC.1.2.1
  have hF : F_X8_fedIn o1 o2 u0 = some z := hF
  unfold F_X8_fedIn at hF
  change W p l e (wRm 0 0) s m args below meth c s.heap [] 0 0 (wQI below args s A D κ ρ 0 (z, u0)) (F0 m 0 ls [])
  have key : ∀ (H : Heap) (locs : List Loc), wHp D κ ρ 0 A s.heap H locs u0 → W p l e (wRm 0 0) s m args below meth c H locs 0 0 (wQI below args s A D κ ρ 0 (z, u0)) (F0 m 0 ls []) := by
    intro H locs hH
    refine lv_iconst hx hb dX8_fedIn_0 k_iconst_0 ?_
    refine wx_istore_n hx hb dX8_fedIn_1 rfl hl (by decide) (fun ls hl => ?_)
    have hl : lv_has ls 4 [(2, .int (0 : Int32)), (0, .ref (ρ o1)), (1, .ref (ρ o2))] := hl
    refine lv_iconst hx hb dX8_fedIn_2 k_iconst_0 ?_
    refine wx_istore_n hx hb dX8_fedIn_3 rfl hl (by decide) (fun ls hl => ?_)
    have hl : lv_has ls 4 [(3, .int (0 : Int32)), (2, .int (0 : Int32)), (0, .ref (ρ o1)), (1, .ref (ρ o2))] := hl
    have hL4 : ∀ (k3_ : Nat) (i4 : Int32) (i5 : Int32) (H : Heap) (locs : List Loc) (ls : Array Slot), wL (S := Int32 × Int32) (fun x => F_X8_fedIn_b4 u0 o1 o2 x.1 x.2) k3_ (i4, i5) = some z → wHp D κ ρ 0 A s.heap H locs u0 → lv_has ls 4 [(0, .ref (ρ o1)), (1, .ref (ρ o2)), (2, .int i4), (3, .int i5)] → W p l e (wRm 0 0) s m args below meth c H locs 0 0 (wQI below args s A D κ ρ 0 (z, u0)) (F0 m 4 ls []) := by
      intro k3_
      induction k3_ with
      | zero => intro i4 i5 H locs ls hF; exact wL_zero hF
      | succ k3_ ih3 =>
        intro i4 i5 H locs ls hF hH hl
        obtain ⟨q3_, hF, hq3⟩ := wL_some hF
        have hF : F_X8_fedIn_b4 u0 o1 o2 i4 i5 = some q3_ := hF
        unfold F_X8_fedIn_b4 at hF
        refine lv_iload_n hx hb dX8_fedIn_4 rfl (lv_at hl 3 rfl) ?_
        refine lv_aload_n hx hb dX8_fedIn_5 rfl (lv_at hl 0 rfl) ?_
        refine wx_getR hC hH h_o1 rfl f_X8_22 dX8_fedIn_6 hF (fun o6 h_o6 hF => ?_)
        refine wx_getI hC hH h_o6 rfl f_X8_303 dX8_fedIn_9 ?_
        refine lv_icmp_ge hx hb dX8_fedIn_12 (tgt := 30) rfl (fun h => ?_) (fun h => ?_)
        · have hF := wx_t h hF
          refine lv_iload_n hx hb dX8_fedIn_30 rfl (lv_at hl 2 rfl) ?_
          have hF := wJ_r hq3 hF
          exact wx_iret hC hH hr hlk dX8_fedIn_31 (wx_pr hF)
        have hF := wx_f h hF
        refine lv_iload_n hx hb dX8_fedIn_15 rfl (lv_at hl 2 rfl) ?_
        refine lv_aload_n hx hb dX8_fedIn_16 rfl (lv_at hl 1 rfl) ?_
        refine wx_getR hC hH h_o2 rfl f_X8_175 dX8_fedIn_17 hF (fun o7 h_o7 hF => ?_)
        refine lv_iload_n hx hb dX8_fedIn_20 rfl (lv_at hl 3 rfl) ?_
        refine wx_iald hC hH h_o7 ⟨rfl, rfl⟩ dX8_fedIn_21 hF (fun j8 hF => ?_)
        refine lv_iadd hx hb dX8_fedIn_22 ?_
        refine wx_leti hF (fun i9 hF => ?_)
        refine wx_istore_n hx hb dX8_fedIn_23 rfl hl (by decide) (fun ls hl => ?_)
        have hl : lv_has ls 4 [(2, .int i9), (0, .ref (ρ o1)), (1, .ref (ρ o2)), (3, .int i5)] := hl
        refine wx_iinc hx hb dX8_fedIn_24 k_iconst_1 hl (k := 3) rfl (by decide) hF (fun i10 ls hF hl => ?_)
        have hl : lv_has ls 4 [(3, .int i10), (2, .int i9), (0, .ref (ρ o1)), (1, .ref (ρ o2))] := hl
        refine lv_goto hx hb dX8_fedIn_27 (tgt := 4) rfl ?_
        have hF := wJ_l hq3 hF
        exact ih3 i9 i10 H locs ls hF hH (lv_sub hl [2, 3, 1, 0] rfl)
    exact hL4 wFu (0 : Int32) (0 : Int32) H locs ls hF hH (lv_sub hl [2, 3, 1, 0] rfl)
  exact key _ _ hH
def F_X8_ahead_j42 (o1 : Nat) (u0 : wSt) (i2 : Int32) (i3 : Int32) (i4 : Int32) : Option (Int32 × wSt) :=
  wC (F_X8_startTrial o1 u0) (fun _ (u7 : wSt) => wR (u7.2.2 o1 9) 0 (fun o8 => wR (u7.2.2 o1 7) 3 (fun o9 => wC (F_X0_run o8 o9 i2 u7) (fun _ (u10 : wSt) => if i3 = 0 then (wR (u10.2.2 o1 7) 3 (fun o11 => wP (F_X8_bitesIn o1 o11 u10) (fun (i12 : Int32) => wR (u10.2.2 o1 5) 3 (fun o13 => wP (F_X8_bitesIn o1 o13 u10) (fun (i14 : Int32) => some ((i12 - i14), u10)))))) else (if i3 = 1 then (wP (F_X8_fallenInTrial o1 u10) (fun (i15 : Int32) => some (i15, u10))) else (if i3 = 2 then (wR (u10.2.2 o1 7) 3 (fun o16 => wR (u10.2.2 o16 6) 10 (fun o17 => wN i4 o17 (fun j18 => some ((u10.1 o17 j18), u10))))) else (if i3 = 3 then (wR (u10.2.2 o1 7) 3 (fun o19 => wR (u10.2.2 o19 5) 10 (fun o20 => wN i4 o20 (fun j21 => some ((u10.1 o20 j21), u10))))) else (wR (u10.2.2 o1 7) 3 (fun o22 => wP (F_X8_fedIn o1 o22 u10) (fun (i23 : Int32) => wR (u10.2.2 o1 5) 3 (fun o24 => wP (F_X8_fedIn o1 o24 u10) (fun (i25 : Int32) => some ((i23 - i25), u10)))))))))))))
def F_X8_ahead_j32 (o1 : Nat) (i4 : Int32) (u0 : wSt) : Option ((Unit) ⊕ (Int32 × wSt)) :=
  wP (F_X8_isGuest o1 i4 u0) (fun (i26 : Int32) => if i26 = 0 then (some (.inr ((-1 : Int32), u0))) else (some (.inl ())))
def F_X8_ahead (o1 : Nat) (i2 : Int32) (i3 : Int32) (i4 : Int32) (u0 : wSt) : Option (Int32 × wSt) :=
  if i2 < 0 then (some ((-1 : Int32), u0)) else (if (200 : Int32) < i2 then (some ((-1 : Int32), u0)) else (if i3 < 0 then (some ((-1 : Int32), u0)) else (if i3 ≤ (4 : Int32) then (wJ (X := Unit) (wJ (X := Unit) (if i3 = (2 : Int32) then (some (.inl ())) else (if i3 = (3 : Int32) then (some (.inl ())) else (some (.inr (.inl ()))))) (fun x => F_X8_ahead_j32 o1 i4 u0)) (fun x => F_X8_ahead_j42 o1 u0 i2 i3 i4)) else (some ((-1 : Int32), u0)))))
set_option maxRecDepth 100000 in
set_option maxHeartbeats 4000000 in
theorem c_X8_ahead {l : Launch} {D : va_G} {κ : Nat → ClassId} {ρ : Nat → Nat} (o1 : Nat) (i2 : Int32) (i3 : Int32) (i4 : Int32) (h_o1 : (w_sh o1).1 = 8) : wMI l yX8_ahead cX8_ahead 4 .int (wRm 7 178) [.ref (ρ o1), .int i2, .int i3, .int i4] D κ ρ 0 (fun u => F_X8_ahead o1 i2 i3 i4 u) := by
  refine wMI_of (F := fun u => F_X8_ahead o1 i2 i3 i4 u) rfl (Nat.le_of_ble_eq_true rfl) (fun u0 z p e s m args below meth c ls A hF hC hr hlk hH hl => ?_)
  have hl : lv_has ls 4 [(0, .ref (ρ o1)), (1, .int i2), (2, .int i3), (3, .int i4)] := hl
  have hx := hC.1.1
  have hb := hC.1.2.1
  have hF : F_X8_ahead o1 i2 i3 i4 u0 = some z := hF
  unfold F_X8_ahead at hF
  change W p l e (wRm 7 178) s m args below meth c s.heap [] 0 0 (wQI below args s A D κ ρ 0 z) (F0 m 0 ls [])
  have key : ∀ (H : Heap) (locs : List Loc), wHp D κ ρ 0 A s.heap H locs u0 → W p l e (wRm 7 178) s m args below meth c H locs 0 0 (wQI below args s A D κ ρ 0 z) (F0 m 0 ls []) := by
    intro H locs hH
    refine lv_iload_n hx hb dX8_ahead_0 rfl (lv_at hl 1 rfl) ?_
    refine lv_if_lt hx hb dX8_ahead_1 (tgt := 20) rfl (fun h => ?_) (fun h => ?_)
    · have hF := wx_t h hF
      refine lv_iconst hx hb dX8_ahead_20 k_iconst_m1 ?_
      exact wx_iret hC hH hr hlk dX8_ahead_21 hF
    have hF := wx_f h hF
    refine lv_iload_n hx hb dX8_ahead_4 rfl (lv_at hl 1 rfl) ?_
    refine lv_sipush hx hb dX8_ahead_5 k_sipush_200 ?_
    refine lv_icmp_gt hx hb dX8_ahead_8 (tgt := 20) rfl (fun h => ?_) (fun h => ?_)
    · have hF := wx_t h hF
      refine lv_iconst hx hb dX8_ahead_20 k_iconst_m1 ?_
      exact wx_iret hC hH hr hlk dX8_ahead_21 hF
    have hF := wx_f h hF
    refine lv_iload_n hx hb dX8_ahead_11 rfl (lv_at hl 2 rfl) ?_
    refine lv_if_lt hx hb dX8_ahead_12 (tgt := 20) rfl (fun h => ?_) (fun h => ?_)
    · have hF := wx_t h hF
      refine lv_iconst hx hb dX8_ahead_20 k_iconst_m1 ?_
      exact wx_iret hC hH hr hlk dX8_ahead_21 hF
    have hF := wx_f h hF
    refine lv_iload_n hx hb dX8_ahead_15 rfl (lv_at hl 2 rfl) ?_
    refine lv_iconst hx hb dX8_ahead_16 k_iconst_4 ?_
    refine lv_icmp_le hx hb dX8_ahead_17 (tgt := 22) rfl (fun h => ?_) (fun h => ?_)
    · have hF := wx_t h hF
      refine lv_iload_n hx hb dX8_ahead_22 rfl (lv_at hl 2 rfl) ?_
      refine lv_iconst hx hb dX8_ahead_23 k_iconst_2 ?_
      obtain ⟨q5_, hF, hq5⟩ := wJ_some hF
      obtain ⟨q6_, hF, hq6⟩ := wJ_some hF
      have hJ42 : ∀ (H : Heap) (locs : List Loc) (ls : Array Slot), F_X8_ahead_j42 o1 u0 i2 i3 i4 = some z → wHp D κ ρ 0 A s.heap H locs u0 → lv_has ls 4 [(0, .ref (ρ o1)), (1, .int i2), (2, .int i3), (3, .int i4)] → W p l e (wRm 7 178) s m args below meth c H locs 0 0 (wQI below args s A D κ ρ 0 z) (F0 m 42 ls []) := by
        intro H locs ls hF hH hl
        unfold F_X8_ahead_j42 at hF
        refine lv_aload_n hx hb dX8_ahead_42 rfl (lv_at hl 0 rfl) ?_
        refine wx_evv hC hH hl (c_X8_startTrial o1 h_o1) y_X8_startTrial v_X8_startTrial h_o1 rfl m_X8_218 rfl ⟨Nat.le_of_ble_eq_true rfl, Nat.le_of_ble_eq_true rfl⟩ ⟨Nat.le_refl _, Nat.le_refl _⟩ rfl (Nat.le_of_ble_eq_true rfl) dX8_ahead_43 hF (fun _ u7 H locs hF hH => ?_)
        refine lv_aload_n hx hb dX8_ahead_46 rfl (lv_at hl 0 rfl) ?_
        refine wx_getR hC hH h_o1 rfl f_X8_60 dX8_ahead_47 hF (fun o8 h_o8 hF => ?_)
        refine lv_aload_n hx hb dX8_ahead_50 rfl (lv_at hl 0 rfl) ?_
        refine wx_getR hC hH h_o1 rfl f_X8_48 dX8_ahead_51 hF (fun o9 h_o9 hF => ?_)
        refine lv_iload_n hx hb dX8_ahead_54 rfl (lv_at hl 1 rfl) ?_
        refine wx_evv hC hH hl (c_X0_run o8 o9 i2 h_o8 h_o9) y_X0_run v_X0_run h_o8 rfl m_X8_214 rfl ⟨Nat.le_of_ble_eq_true rfl, Nat.le_of_ble_eq_true rfl⟩ ⟨Nat.le_refl _, Nat.le_refl _⟩ rfl (Nat.le_of_ble_eq_true rfl) dX8_ahead_55 hF (fun _ u10 H locs hF hH => ?_)
        refine lv_iload_n hx hb dX8_ahead_58 rfl (lv_at hl 2 rfl) ?_
        by_cases hs0 : i3 = 0
        · have hF := wx_t hs0 hF
          refine wx_sw hx hb dX8_ahead_59 (by decide) (tgt := 88) (by rw [hs0]; decide) ?_
          refine lv_aload_n hx hb dX8_ahead_88 rfl (lv_at hl 0 rfl) ?_
          refine lv_aload_n hx hb dX8_ahead_89 rfl (lv_at hl 0 rfl) ?_
          refine wx_getR hC hH h_o1 rfl f_X8_48 dX8_ahead_90 hF (fun o11 h_o11 hF => ?_)
          refine wx_pvi hC hH hl (c_X8_bitesIn o1 o11 h_o1 h_o11) y_X8_bitesIn v_X8_bitesIn h_o1 rfl m_X8_221 rfl ⟨Nat.le_of_ble_eq_true rfl, Nat.le_of_ble_eq_true rfl⟩ ⟨Nat.le_refl _, Nat.le_refl _⟩ rfl (Nat.le_of_ble_eq_true rfl) dX8_ahead_93 hF (fun i12 H locs hF hH => ?_)
          refine lv_aload_n hx hb dX8_ahead_96 rfl (lv_at hl 0 rfl) ?_
          refine lv_aload_n hx hb dX8_ahead_97 rfl (lv_at hl 0 rfl) ?_
          refine wx_getR hC hH h_o1 rfl f_X8_41 dX8_ahead_98 hF (fun o13 h_o13 hF => ?_)
          refine wx_pvi hC hH hl (c_X8_bitesIn o1 o13 h_o1 h_o13) y_X8_bitesIn v_X8_bitesIn h_o1 rfl m_X8_221 rfl ⟨Nat.le_of_ble_eq_true rfl, Nat.le_of_ble_eq_true rfl⟩ ⟨Nat.le_refl _, Nat.le_refl _⟩ rfl (Nat.le_of_ble_eq_true rfl) dX8_ahead_101 hF (fun i14 H locs hF hH => ?_)
          refine lv_isub hx hb dX8_ahead_104 ?_
          exact wx_iret hC hH hr hlk dX8_ahead_105 hF
        have hF := wx_f hs0 hF
        by_cases hs1 : i3 = 1
        · have hF := wx_t hs1 hF
          refine wx_sw hx hb dX8_ahead_59 (by decide) (tgt := 106) (by rw [hs1]; decide) ?_
          refine lv_aload_n hx hb dX8_ahead_106 rfl (lv_at hl 0 rfl) ?_
          refine wx_pvi hC hH hl (c_X8_fallenInTrial o1 h_o1) y_X8_fallenInTrial v_X8_fallenInTrial h_o1 rfl m_X8_225 rfl ⟨Nat.le_of_ble_eq_true rfl, Nat.le_of_ble_eq_true rfl⟩ ⟨Nat.le_refl _, Nat.le_refl _⟩ rfl (Nat.le_of_ble_eq_true rfl) dX8_ahead_107 hF (fun i15 H locs hF hH => ?_)
          exact wx_iret hC hH hr hlk dX8_ahead_110 hF
        have hF := wx_f hs1 hF
        by_cases hs2 : i3 = 2
        · have hF := wx_t hs2 hF
          refine wx_sw hx hb dX8_ahead_59 (by decide) (tgt := 111) (by rw [hs2]; decide) ?_
          refine lv_aload_n hx hb dX8_ahead_111 rfl (lv_at hl 0 rfl) ?_
          refine wx_getR hC hH h_o1 rfl f_X8_48 dX8_ahead_112 hF (fun o16 h_o16 hF => ?_)
          refine wx_getR hC hH h_o16 rfl f_X8_132 dX8_ahead_115 hF (fun o17 h_o17 hF => ?_)
          refine lv_iload_n hx hb dX8_ahead_118 rfl (lv_at hl 3 rfl) ?_
          refine wx_iald hC hH h_o17 ⟨rfl, rfl⟩ dX8_ahead_119 hF (fun j18 hF => ?_)
          exact wx_iret hC hH hr hlk dX8_ahead_120 hF
        have hF := wx_f hs2 hF
        by_cases hs3 : i3 = 3
        · have hF := wx_t hs3 hF
          refine wx_sw hx hb dX8_ahead_59 (by decide) (tgt := 121) (by rw [hs3]; decide) ?_
          refine lv_aload_n hx hb dX8_ahead_121 rfl (lv_at hl 0 rfl) ?_
          refine wx_getR hC hH h_o1 rfl f_X8_48 dX8_ahead_122 hF (fun o19 h_o19 hF => ?_)
          refine wx_getR hC hH h_o19 rfl f_X8_129 dX8_ahead_125 hF (fun o20 h_o20 hF => ?_)
          refine lv_iload_n hx hb dX8_ahead_128 rfl (lv_at hl 3 rfl) ?_
          refine wx_iald hC hH h_o20 ⟨rfl, rfl⟩ dX8_ahead_129 hF (fun j21 hF => ?_)
          exact wx_iret hC hH hr hlk dX8_ahead_130 hF
        have hF := wx_f hs3 hF
        have htg : ((59 : Nat) : Int) + wTg (72) (0) (3) #[29, 47, 52, 62] i3 = ((131 : Nat) : Int) := by
          have n0 : ¬ (i3).toInt = 0 := lv_neT (k := 0) (a := 0) (fun q => hs0 (q)) (by decide)
          have n1 : ¬ (i3).toInt = 1 := lv_neT (k := 1) (a := 1) (fun q => hs1 (q)) (by decide)
          have n2 : ¬ (i3).toInt = 2 := lv_neT (k := 2) (a := 2) (fun q => hs2 (q)) (by decide)
          have n3 : ¬ (i3).toInt = 3 := lv_neT (k := 3) (a := 3) (fun q => hs3 (q)) (by decide)
          rw [wTg_lo (by omega)]; rfl
        refine wx_sw hx hb dX8_ahead_59 (by decide) (tgt := 131) htg ?_
        refine lv_aload_n hx hb dX8_ahead_131 rfl (lv_at hl 0 rfl) ?_
        refine lv_aload_n hx hb dX8_ahead_132 rfl (lv_at hl 0 rfl) ?_
        refine wx_getR hC hH h_o1 rfl f_X8_48 dX8_ahead_133 hF (fun o22 h_o22 hF => ?_)
        refine wx_pvi hC hH hl (c_X8_fedIn o1 o22 h_o1 h_o22) y_X8_fedIn v_X8_fedIn h_o1 rfl m_X8_229 rfl ⟨Nat.le_of_ble_eq_true rfl, Nat.le_of_ble_eq_true rfl⟩ ⟨Nat.le_refl _, Nat.le_refl _⟩ rfl (Nat.le_of_ble_eq_true rfl) dX8_ahead_136 hF (fun i23 H locs hF hH => ?_)
        refine lv_aload_n hx hb dX8_ahead_139 rfl (lv_at hl 0 rfl) ?_
        refine lv_aload_n hx hb dX8_ahead_140 rfl (lv_at hl 0 rfl) ?_
        refine wx_getR hC hH h_o1 rfl f_X8_41 dX8_ahead_141 hF (fun o24 h_o24 hF => ?_)
        refine wx_pvi hC hH hl (c_X8_fedIn o1 o24 h_o1 h_o24) y_X8_fedIn v_X8_fedIn h_o1 rfl m_X8_229 rfl ⟨Nat.le_of_ble_eq_true rfl, Nat.le_of_ble_eq_true rfl⟩ ⟨Nat.le_refl _, Nat.le_refl _⟩ rfl (Nat.le_of_ble_eq_true rfl) dX8_ahead_144 hF (fun i25 H locs hF hH => ?_)
        refine lv_isub hx hb dX8_ahead_147 ?_
        exact wx_iret hC hH hr hlk dX8_ahead_148 hF
      have hJ32 : ∀ (H : Heap) (locs : List Loc) (ls : Array Slot), F_X8_ahead_j32 o1 i4 u0 = some q5_ → wHp D κ ρ 0 A s.heap H locs u0 → lv_has ls 4 [(0, .ref (ρ o1)), (1, .int i2), (2, .int i3), (3, .int i4)] → W p l e (wRm 7 178) s m args below meth c H locs 0 0 (wQI below args s A D κ ρ 0 z) (F0 m 32 ls []) := by
        intro H locs ls hF hH hl
        unfold F_X8_ahead_j32 at hF
        refine lv_aload_n hx hb dX8_ahead_32 rfl (lv_at hl 0 rfl) ?_
        refine lv_iload_n hx hb dX8_ahead_33 rfl (lv_at hl 3 rfl) ?_
        refine wx_pvi hC hH hl (c_X8_isGuest o1 i4 h_o1) y_X8_isGuest v_X8_isGuest h_o1 rfl m_X8_118 rfl ⟨Nat.le_of_ble_eq_true rfl, Nat.le_of_ble_eq_true rfl⟩ ⟨Nat.le_refl _, Nat.le_refl _⟩ rfl (Nat.le_of_ble_eq_true rfl) dX8_ahead_34 hF (fun i26 H locs hF hH => ?_)
        refine lv_if_ne hx hb dX8_ahead_37 (tgt := 42) rfl (fun h => ?_) (fun h => ?_)
        · have hF := wx_f h hF
          have hF := wJ_l hq5 hF
          exact hJ42 H locs ls hF hH (lv_sub hl [0, 1, 2, 3] rfl)
        have hF := wx_t h hF
        refine lv_iconst hx hb dX8_ahead_40 k_iconst_m1 ?_
        have hF := wJ_r hq5 hF
        exact wx_iret hC hH hr hlk dX8_ahead_41 hF
      refine lv_icmp_eq hx hb dX8_ahead_24 (tgt := 32) rfl (fun h => ?_) (fun h => ?_)
      · have hF := wx_t h hF
        have hF := wJ_l hq6 hF
        exact hJ32 H locs ls hF hH (lv_sub hl [0, 1, 2, 3] rfl)
      have hF := wx_f h hF
      refine lv_iload_n hx hb dX8_ahead_27 rfl (lv_at hl 2 rfl) ?_
      refine lv_iconst hx hb dX8_ahead_28 k_iconst_3 ?_
      refine lv_icmp_ne hx hb dX8_ahead_29 (tgt := 42) rfl (fun h => ?_) (fun h => ?_)
      · have hF := wx_f h hF
        have hF := wJ_r hq6 hF
        have hF := wJ_l hq5 hF
        exact hJ42 H locs ls hF hH (lv_sub hl [0, 1, 2, 3] rfl)
      have hF := wx_t h hF
      have hF := wJ_l hq6 hF
      exact hJ32 H locs ls hF hH (lv_sub hl [0, 1, 2, 3] rfl)
    have hF := wx_f h hF
    refine lv_iconst hx hb dX8_ahead_20 k_iconst_m1 ?_
    exact wx_iret hC hH hr hlk dX8_ahead_21 hF
  exact key _ _ hH

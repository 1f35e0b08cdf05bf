def F_X8_uppermost (o1 : Nat) (u0 : wSt) : Option (Int32 × wSt) :=
  wC (F_X8_plainCourse o1 u0) (fun (o3 : Nat) (u2 : wSt) => wG ((w_sh o3).1 = 0) (wR (u2.2.2 o1 5) 3 (fun o4 => wP (F_X0_fruitOnTop o3 o4 u2) (fun (i5 : Int32) => if i5 = (-1 : Int32) then (some ((-2 : Int32), u2)) else (some (i5, u2))))))
set_option maxRecDepth 100000 in
set_option maxHeartbeats 4000000 in
theorem c_X8_uppermost {l : Launch} {D : va_G} {κ : Nat → ClassId} {ρ : Nat → Nat} (o1 : Nat) (h_o1 : (w_sh o1).1 = 8) : wMI l yX8_uppermost cX8_uppermost 2 .int (wRm 2 42) [.ref (ρ o1)] D κ ρ 0 (fun u => F_X8_uppermost o1 u) := by
  refine wMI_of (F := fun u => F_X8_uppermost o1 u) rfl (Nat.le_of_ble_eq_true rfl) (fun u0 z p e s m args below meth c ls A hF hC hr hlk hH hl => ?_)
  have hl : lv_has ls 2 [(0, .ref (ρ o1))] := hl
  have hx := hC.1.1
  have hb := hC.1.2.1
  have hF : F_X8_uppermost o1 u0 = some z := hF
  unfold F_X8_uppermost at hF
  change W p l e (wRm 2 42) s m args below meth c s.heap [] 0 0 (wQI below args s A D κ ρ 0 z) (F0 m 0 ls [])
  have key : ∀ (H : Heap) (locs : List Loc), wHp D κ ρ 0 A s.heap H locs u0 → W p l e (wRm 2 42) s m args below meth c H locs 0 0 (wQI below args s A D κ ρ 0 z) (F0 m 0 ls []) := by
    intro H locs hH
    refine lv_aload_n hx hb dX8_uppermost_0 rfl (lv_at hl 0 rfl) ?_
    refine wx_evr hC hH hl (c_X8_plainCourse o1 h_o1) y_X8_plainCourse v_X8_plainCourse h_o1 rfl m_X8_144 rfl ⟨Nat.le_of_ble_eq_true rfl, Nat.le_of_ble_eq_true rfl⟩ ⟨Nat.le_refl _, Nat.le_refl _⟩ rfl (Nat.le_of_ble_eq_true rfl) dX8_uppermost_1 hF (fun o3 u2 H locs hF hH => ?_)
    obtain ⟨h_o3, hF⟩ := wG_some hF
    refine lv_aload_n hx hb dX8_uppermost_4 rfl (lv_at hl 0 rfl) ?_
    refine wx_getR hC hH h_o1 rfl f_X8_41 dX8_uppermost_5 hF (fun o4 h_o4 hF => ?_)
    refine wx_pvi hC hH hl (c_X0_fruitOnTop o3 o4 h_o3 h_o4) y_X0_fruitOnTop v_X0_fruitOnTop h_o3 rfl m_X8_274 rfl ⟨Nat.le_of_ble_eq_true rfl, Nat.le_of_ble_eq_true rfl⟩ ⟨Nat.le_refl _, Nat.le_refl _⟩ rfl (Nat.le_of_ble_eq_true rfl) dX8_uppermost_8 hF (fun i5 H locs hF hH => ?_)
    refine wx_istore_n hx hb dX8_uppermost_11 rfl hl (by decide) (fun ls hl => ?_)
    have hl : lv_has ls 2 [(1, .int i5), (0, .ref (ρ o1))] := hl
    refine lv_iload_n hx hb dX8_uppermost_12 rfl (lv_at hl 0 rfl) ?_
    refine lv_iconst hx hb dX8_uppermost_13 k_iconst_m1 ?_
    refine lv_icmp_ne hx hb dX8_uppermost_14 (tgt := 22) rfl (fun h => ?_) (fun h => ?_)
    · have hF := wx_f h hF
      refine lv_iload_n hx hb dX8_uppermost_22 rfl (lv_at hl 0 rfl) ?_
      exact wx_iret hC hH hr hlk dX8_uppermost_23 hF
    have hF := wx_t h hF
    refine lv_bipush hx hb dX8_uppermost_17 k_bipush_m2 ?_
    refine lv_goto hx hb dX8_uppermost_19 (tgt := 23) rfl ?_
    exact wx_iret hC hH hr hlk dX8_uppermost_23 hF
  exact key _ _ hH
def F_X8_hungriest_j56 (i4 : Int32) (i9 : Int32) : Option ((Int32 × Int32) ⊕ Int32) :=
  wB (i4 + (1 : Int32)) (fun (i10 : Int32) => some (.inl (i9, i10)))
def F_X8_hungriest_j54 (i4 : Int32) : Option ((Int32) ⊕ ((Int32 × Int32) ⊕ Int32)) :=
  some (.inl i4)
def F_X8_hungriest_b5 (u0 : wSt) (o1 : Nat) (i3 : Int32) (i4 : Int32) : Option ((Int32 × Int32) ⊕ Int32) :=
  wR (u0.2.2 o1 2) 6 (fun o5 => if (u0.1 o5 1) ≤ i4 then (some (.inr (i3))) else (wR (u0.2.2 o1 5) 3 (fun o6 => wP (F_X3_hasFainted o6 i4 u0) (fun (i7 : Int32) => wJ (X := Int32) (if i7 = 0 then (wJ (X := Unit) (if i3 = (-2 : Int32) then (some (.inl ())) else (wR (u0.2.2 o1 5) 3 (fun o12 => wR (u0.2.2 o12 6) 10 (fun o13 => wN i4 o13 (fun j14 => wR (u0.2.2 o1 5) 3 (fun o15 => wR (u0.2.2 o15 6) 10 (fun o16 => wN i3 o16 (fun j17 => if (u0.1 o13 j14) ≤ (u0.1 o16 j17) then (some (.inr (.inl i3))) else (some (.inl ())))))))))) (fun x => F_X8_hungriest_j54 i4)) else (some (.inl i3))) (fun x => F_X8_hungriest_j56 i4 x)))))
def F_X8_hungriest (o1 : Nat) (u0 : wSt) : Option Int32 :=
  wL (S := Int32 × Int32) (fun x => F_X8_hungriest_b5 u0 o1 x.1 x.2) wFu ((-2 : Int32), (0 : Int32))
set_option maxRecDepth 100000 in
set_option maxHeartbeats 4000000 in
theorem c_X8_hungriest {l : Launch} {D : va_G} {κ : Nat → ClassId} {ρ : Nat → Nat} (o1 : Nat) (h_o1 : (w_sh o1).1 = 8) : wMI l yX8_hungriest cX8_hungriest 3 .int (wRm 1 21) [.ref (ρ o1)] D κ ρ 0 (fun u => wPu (F_X8_hungriest o1 u) u) := by
  refine wMP_of (F := fun u => F_X8_hungriest o1 u) rfl (Nat.le_of_ble_eq_true rfl) (fun u0 z p e s m args below meth c ls A hF hC hr hlk hH hl => ?_)
  have hl : lv_has ls 3 [(0, .ref (ρ o1))] := hl
  have hx := hC.1.1
  have hb := hC.1.2.1
  have hF : F_X8_hungriest o1 u0 = some z := hF
  unfold F_X8_hungriest at hF
  change W p l e (wRm 1 21) s m args below meth c s.heap [] 0 0 (wQI below args s A D κ ρ 0 (z, u0)) (F0 m 0 ls [])
  have key : ∀ (H : Heap) (locs : List Loc), wHp D κ ρ 0 A s.heap H locs u0 → W p l e (wRm 1 21) s m args below meth c H locs 0 0 (wQI below args s A D κ ρ 0 (z, u0)) (F0 m 0 ls []) := by
    intro H locs hH
    refine lv_bipush hx hb dX8_hungriest_0 k_bipush_m2 ?_
    refine wx_istore_n hx hb dX8_hungriest_2 rfl hl (by decide) (fun ls hl => ?_)
    have hl : lv_has ls 3 [(1, .int (-2 : Int32)), (0, .ref (ρ o1))] := hl
    refine lv_iconst hx hb dX8_hungriest_3 k_iconst_0 ?_
    refine wx_istore_n hx hb dX8_hungriest_4 rfl hl (by decide) (fun ls hl => ?_)
    have hl : lv_has ls 3 [(2, .int (0 : Int32)), (1, .int (-2 : Int32)), (0, .ref (ρ o1))] := hl
    have hL5 : ∀ (k2_ : Nat) (i3 : Int32) (i4 : Int32) (H : Heap) (locs : List Loc) (ls : Array Slot), wL (S := Int32 × Int32) (fun x => F_X8_hungriest_b5 u0 o1 x.1 x.2) k2_ (i3, i4) = some z → wHp D κ ρ 0 A s.heap H locs u0 → lv_has ls 3 [(0, .ref (ρ o1)), (1, .int i3), (2, .int i4)] → W p l e (wRm 1 21) s m args below meth c H locs 0 0 (wQI below args s A D κ ρ 0 (z, u0)) (F0 m 5 ls []) := by
      intro k2_
      induction k2_ with
      | zero => intro i3 i4 H locs ls hF; exact wL_zero hF
      | succ k2_ ih2 =>
        intro i3 i4 H locs ls hF hH hl
        obtain ⟨q2_, hF, hq2⟩ := wL_some hF
        have hF : F_X8_hungriest_b5 u0 o1 i3 i4 = some q2_ := hF
        unfold F_X8_hungriest_b5 at hF
        refine lv_iload_n hx hb dX8_hungriest_5 rfl (lv_at hl 2 rfl) ?_
        refine lv_aload_n hx hb dX8_hungriest_6 rfl (lv_at hl 0 rfl) ?_
        refine wx_getR hC hH h_o1 rfl f_X8_22 dX8_hungriest_7 hF (fun o5 h_o5 hF => ?_)
        refine wx_getI hC hH h_o5 rfl f_X8_235 dX8_hungriest_10 ?_
        refine lv_icmp_ge hx hb dX8_hungriest_13 (tgt := 62) rfl (fun h => ?_) (fun h => ?_)
        · have hF := wx_t h hF
          refine lv_iload_n hx hb dX8_hungriest_62 rfl (lv_at hl 1 rfl) ?_
          have hF := wJ_r hq2 hF
          exact wx_iret hC hH hr hlk dX8_hungriest_63 (wx_pr hF)
        have hF := wx_f h hF
        refine lv_aload_n hx hb dX8_hungriest_16 rfl (lv_at hl 0 rfl) ?_
        refine wx_getR hC hH h_o1 rfl f_X8_41 dX8_hungriest_17 hF (fun o6 h_o6 hF => ?_)
        refine lv_iload_n hx hb dX8_hungriest_20 rfl (lv_at hl 2 rfl) ?_
        refine wx_pvi hC hH hl (c_X3_hasFainted o6 i4 h_o6) y_X3_hasFainted v_X3_hasFainted h_o6 rfl m_X8_141 rfl ⟨Nat.le_of_ble_eq_true rfl, Nat.le_of_ble_eq_true rfl⟩ ⟨Nat.le_refl _, Nat.le_refl _⟩ rfl (Nat.le_of_ble_eq_true rfl) dX8_hungriest_21 hF (fun i7 H locs hF hH => ?_)
        obtain ⟨q8_, hF, hq8⟩ := wJ_some hF
        have hJ56 : ∀ (i9 : Int32) (H : Heap) (locs : List Loc) (ls : Array Slot), F_X8_hungriest_j56 i4 i9 = some q2_ → wHp D κ ρ 0 A s.heap H locs u0 → lv_has ls 3 [(0, .ref (ρ o1)), (1, .int i9), (2, .int i4)] → W p l e (wRm 1 21) s m args below meth c H locs 0 0 (wQI below args s A D κ ρ 0 (z, u0)) (F0 m 56 ls []) := by
          intro i9 H locs ls hF hH hl
          unfold F_X8_hungriest_j56 at hF
          refine wx_iinc hx hb dX8_hungriest_56 k_iconst_1 hl (k := 2) rfl (by decide) hF (fun i10 ls hF hl => ?_)
          have hl : lv_has ls 3 [(2, .int i10), (0, .ref (ρ o1)), (1, .int i9)] := hl
          refine lv_goto hx hb dX8_hungriest_59 (tgt := 5) rfl ?_
          have hF := wJ_l hq2 hF
          exact ih2 i9 i10 H locs ls hF hH (lv_sub hl [1, 2, 0] rfl)
        refine lv_if_ne hx hb dX8_hungriest_24 (tgt := 56) rfl (fun h => ?_) (fun h => ?_)
        · have hF := wx_f h hF
          have hF := wJ_l hq8 hF
          exact hJ56 i3 H locs ls hF hH (lv_sub hl [0, 1, 2] rfl)
        have hF := wx_t h hF
        refine lv_iload_n hx hb dX8_hungriest_27 rfl (lv_at hl 1 rfl) ?_
        refine lv_bipush hx hb dX8_hungriest_28 k_bipush_m2 ?_
        obtain ⟨q11_, hF, hq11⟩ := wJ_some hF
        have hJ54 : ∀ (H : Heap) (locs : List Loc) (ls : Array Slot), F_X8_hungriest_j54 i4 = some q8_ → wHp D κ ρ 0 A s.heap H locs u0 → lv_has ls 3 [(0, .ref (ρ o1)), (2, .int i4)] → W p l e (wRm 1 21) s m args below meth c H locs 0 0 (wQI below args s A D κ ρ 0 (z, u0)) (F0 m 54 ls []) := by
          intro H locs ls hF hH hl
          unfold F_X8_hungriest_j54 at hF
          refine lv_iload_n hx hb dX8_hungriest_54 rfl (lv_at hl 1 rfl) ?_
          refine wx_istore_n hx hb dX8_hungriest_55 rfl hl (by decide) (fun ls hl => ?_)
          have hl : lv_has ls 3 [(1, .int i4), (0, .ref (ρ o1)), (2, .int i4)] := hl
          have hF := wJ_l hq8 hF
          exact hJ56 i4 H locs ls hF hH (lv_sub hl [1, 0, 2] rfl)
        refine lv_icmp_eq hx hb dX8_hungriest_30 (tgt := 54) rfl (fun h => ?_) (fun h => ?_)
        · have hF := wx_t h hF
          have hF := wJ_l hq11 hF
          exact hJ54 H locs ls hF hH (lv_sub hl [0, 2] rfl)
        have hF := wx_f h hF
        refine lv_aload_n hx hb dX8_hungriest_33 rfl (lv_at hl 0 rfl) ?_
        refine wx_getR hC hH h_o1 rfl f_X8_41 dX8_hungriest_34 hF (fun o12 h_o12 hF => ?_)
        refine wx_getR hC hH h_o12 rfl f_X8_132 dX8_hungriest_37 hF (fun o13 h_o13 hF => ?_)
        refine lv_iload_n hx hb dX8_hungriest_40 rfl (lv_at hl 2 rfl) ?_
        refine wx_iald hC hH h_o13 ⟨rfl, rfl⟩ dX8_hungriest_41 hF (fun j14 hF => ?_)
        refine lv_aload_n hx hb dX8_hungriest_42 rfl (lv_at hl 0 rfl) ?_
        refine wx_getR hC hH h_o1 rfl f_X8_41 dX8_hungriest_43 hF (fun o15 h_o15 hF => ?_)
        refine wx_getR hC hH h_o15 rfl f_X8_132 dX8_hungriest_46 hF (fun o16 h_o16 hF => ?_)
        refine lv_iload_n hx hb dX8_hungriest_49 rfl (lv_at hl 1 rfl) ?_
        refine wx_iald hC hH h_o16 ⟨rfl, rfl⟩ dX8_hungriest_50 hF (fun j17 hF => ?_)
        refine lv_icmp_le hx hb dX8_hungriest_51 (tgt := 56) rfl (fun h => ?_) (fun h => ?_)
        · have hF := wx_t h hF
          have hF := wJ_r hq11 hF
          have hF := wJ_l hq8 hF
          exact hJ56 i3 H locs ls hF hH (lv_sub hl [0, 1, 2] rfl)
        have hF := wx_f h hF
        have hF := wJ_l hq11 hF
        exact hJ54 H locs ls hF hH (lv_sub hl [0, 2] rfl)
    exact hL5 wFu (-2 : Int32) (0 : Int32) H locs ls hF hH (lv_sub hl [2, 1, 0] rfl)
  exact key _ _ hH
def F_X8_marked_j33 (i4 : Int32) (i10 : Int32) : Option ((Int32 × Int32) ⊕ Int32) :=
  wB (i4 + (1 : Int32)) (fun (i11 : Int32) => some (.inl (i10, i11)))
def F_X8_marked_b4 (u0 : wSt) (o1 : Nat) (i3 : Int32) (i4 : Int32) : Option ((Int32 × Int32) ⊕ Int32) :=
  wR (u0.2.2 o1 2) 6 (fun o5 => if (u0.1 o5 2) ≤ i4 then (some (.inr (i3))) else (wR (u0.2.2 o1 5) 3 (fun o6 => wR (u0.2.2 o6 8) 10 (fun o7 => wN i4 o7 (fun j8 => wJ (X := Int32) (if (u0.1 o7 j8) ≤ 0 then (some (.inl i3)) else (wB (i3 ||| ((1 : Int32) <<< (i4 &&& 31))) (fun (i12 : Int32) => some (.inl i12)))) (fun x => F_X8_marked_j33 i4 x))))))
def F_X8_marked (o1 : Nat) (u0 : wSt) : Option Int32 :=
  wL (S := Int32 × Int32) (fun x => F_X8_marked_b4 u0 o1 x.1 x.2) wFu ((0 : Int32), (0 : Int32))
set_option maxRecDepth 100000 in
set_option maxHeartbeats 4000000 in
theorem c_X8_marked {l : Launch} {D : va_G} {κ : Nat → ClassId} {ρ : Nat → Nat} (o1 : Nat) (h_o1 : (w_sh o1).1 = 8) : wMI l yX8_marked cX8_marked 3 .int (wRm 0 0) [.ref (ρ o1)] D κ ρ 0 (fun u => wPu (F_X8_marked o1 u) u) := by
  refine wMP_of (F := fun u => F_X8_marked o1 u) rfl (Nat.le_of_ble_eq_true rfl) (fun u0 z p e s m args below meth c ls A hF hC hr hlk hH hl => ?_)
  have hl : lv_has ls 3 [(0, .ref (ρ o1))] := hl
  have hx := hC.1.1
  have hb := hC.1.2.1
  have hF : F_X8_marked o1 u0 = some z := hF
  unfold F_X8_marked at hF
  change W p l e (wRm 0 0) s m args below meth c s.heap [] 0 0 (wQI below args s A D κ ρ 0 (z, u0)) (F0 m 0 ls [])
  have key : ∀ (H : Heap) (locs : List Loc), wHp D κ ρ 0 A s.heap H locs u0 → W p l e (wRm 0 0) s m args below meth c H locs 0 0 (wQI below args s A D κ ρ 0 (z, u0)) (F0 m 0 ls []) := by
    intro H locs hH
    refine lv_iconst hx hb dX8_marked_0 k_iconst_0 ?_
    refine wx_istore_n hx hb dX8_marked_1 rfl hl (by decide) (fun ls hl => ?_)
    have hl : lv_has ls 3 [(1, .int (0 : Int32)), (0, .ref (ρ o1))] := hl
    refine lv_iconst hx hb dX8_marked_2 k_iconst_0 ?_
    refine wx_istore_n hx hb dX8_marked_3 rfl hl (by decide) (fun ls hl => ?_)
    have hl : lv_has ls 3 [(2, .int (0 : Int32)), (1, .int (0 : Int32)), (0, .ref (ρ o1))] := hl
    have hL4 : ∀ (k2_ : Nat) (i3 : Int32) (i4 : Int32) (H : Heap) (locs : List Loc) (ls : Array Slot), wL (S := Int32 × Int32) (fun x => F_X8_marked_b4 u0 o1 x.1 x.2) k2_ (i3, i4) = some z → wHp D κ ρ 0 A s.heap H locs u0 → lv_has ls 3 [(0, .ref (ρ o1)), (1, .int i3), (2, .int i4)] → W p l e (wRm 0 0) s m args below meth c H locs 0 0 (wQI below args s A D κ ρ 0 (z, u0)) (F0 m 4 ls []) := by
      intro k2_
      induction k2_ with
      | zero => intro i3 i4 H locs ls hF; exact wL_zero hF
      | succ k2_ ih2 =>
        intro i3 i4 H locs ls hF hH hl
        obtain ⟨q2_, hF, hq2⟩ := wL_some hF
        have hF : F_X8_marked_b4 u0 o1 i3 i4 = some q2_ := hF
        unfold F_X8_marked_b4 at hF
        refine lv_iload_n hx hb dX8_marked_4 rfl (lv_at hl 2 rfl) ?_
        refine lv_aload_n hx hb dX8_marked_5 rfl (lv_at hl 0 rfl) ?_
        refine wx_getR hC hH h_o1 rfl f_X8_22 dX8_marked_6 hF (fun o5 h_o5 hF => ?_)
        refine wx_getI hC hH h_o5 rfl f_X8_303 dX8_marked_9 ?_
        refine lv_icmp_ge hx hb dX8_marked_12 (tgt := 39) rfl (fun h => ?_) (fun h => ?_)
        · have hF := wx_t h hF
          refine lv_iload_n hx hb dX8_marked_39 rfl (lv_at hl 1 rfl) ?_
          have hF := wJ_r hq2 hF
          exact wx_iret hC hH hr hlk dX8_marked_40 (wx_pr hF)
        have hF := wx_f h hF
        refine lv_aload_n hx hb dX8_marked_15 rfl (lv_at hl 0 rfl) ?_
        refine wx_getR hC hH h_o1 rfl f_X8_41 dX8_marked_16 hF (fun o6 h_o6 hF => ?_)
        refine wx_getR hC hH h_o6 rfl f_X8_172 dX8_marked_19 hF (fun o7 h_o7 hF => ?_)
        refine lv_iload_n hx hb dX8_marked_22 rfl (lv_at hl 2 rfl) ?_
        refine wx_iald hC hH h_o7 ⟨rfl, rfl⟩ dX8_marked_23 hF (fun j8 hF => ?_)
        obtain ⟨q9_, hF, hq9⟩ := wJ_some hF
        have hJ33 : ∀ (i10 : Int32) (H : Heap) (locs : List Loc) (ls : Array Slot), F_X8_marked_j33 i4 i10 = some q2_ → wHp D κ ρ 0 A s.heap H locs u0 → lv_has ls 3 [(0, .ref (ρ o1)), (1, .int i10), (2, .int i4)] → W p l e (wRm 0 0) s m args below meth c H locs 0 0 (wQI below args s A D κ ρ 0 (z, u0)) (F0 m 33 ls []) := by
          intro i10 H locs ls hF hH hl
          unfold F_X8_marked_j33 at hF
          refine wx_iinc hx hb dX8_marked_33 k_iconst_1 hl (k := 2) rfl (by decide) hF (fun i11 ls hF hl => ?_)
          have hl : lv_has ls 3 [(2, .int i11), (0, .ref (ρ o1)), (1, .int i10)] := hl
          refine lv_goto hx hb dX8_marked_36 (tgt := 4) rfl ?_
          have hF := wJ_l hq2 hF
          exact ih2 i10 i11 H locs ls hF hH (lv_sub hl [1, 2, 0] rfl)
        refine lv_if_le hx hb dX8_marked_24 (tgt := 33) rfl (fun h => ?_) (fun h => ?_)
        · have hF := wx_t h hF
          have hF := wJ_l hq9 hF
          exact hJ33 i3 H locs ls hF hH (lv_sub hl [0, 1, 2] rfl)
        have hF := wx_f h hF
        refine lv_iload_n hx hb dX8_marked_27 rfl (lv_at hl 1 rfl) ?_
        refine lv_iconst hx hb dX8_marked_28 k_iconst_1 ?_
        refine lv_iload_n hx hb dX8_marked_29 rfl (lv_at hl 2 rfl) ?_
        refine lv_ishl hx hb dX8_marked_30 ?_
        refine lv_ior hx hb dX8_marked_31 ?_
        refine wx_leti hF (fun i12 hF => ?_)
        refine wx_istore_n hx hb dX8_marked_32 rfl hl (by decide) (fun ls hl => ?_)
        have hl : lv_has ls 3 [(1, .int i12), (0, .ref (ρ o1)), (2, .int i4)] := hl
        have hF := wJ_l hq9 hF
        exact hJ33 i12 H locs ls hF hH (lv_sub hl [1, 0, 2] rfl)
    exact hL4 wFu (0 : Int32) (0 : Int32) H locs ls hF hH (lv_sub hl [2, 1, 0] rfl)
  exact key _ _ hH
def F_X8_apart (o1 : Nat) (i2 : Int32) (i3 : Int32) (u0 : wSt) : Option (Int32 × wSt) :=
  wP (F_X8_isGuest o1 i2 u0) (fun (i4 : Int32) => if i4 = 0 then (some ((-1 : Int32), u0)) else (wP (F_X8_isGuest o1 i3 u0) (fun (i5 : Int32) => if i5 = 0 then (some ((-1 : Int32), u0)) else (wC (F_X8_plainCourse o1 u0) (fun (o7 : Nat) (u6 : wSt) => wG ((w_sh o7).1 = 0) (wR (u6.2.2 o1 5) 3 (fun o8 => wP (F_X0_seatsBetween o7 o8 i2 i3 u6) (fun (i9 : Int32) => some (i9, u6)))))))))
set_option maxRecDepth 100000 in
set_option maxHeartbeats 4000000 in
theorem c_X8_apart {l : Launch} {D : va_G} {κ : Nat → ClassId} {ρ : Nat → Nat} (o1 : Nat) (i2 : Int32) (i3 : Int32) (h_o1 : (w_sh o1).1 = 8) : wMI l yX8_apart cX8_apart 3 .int (wRm 2 50) [.ref (ρ o1), .int i2, .int i3] D κ ρ 0 (fun u => F_X8_apart o1 i2 i3 u) := by
  refine wMI_of (F := fun u => F_X8_apart o1 i2 i3 u) rfl (Nat.le_of_ble_eq_true rfl) (fun u0 z p e s m args below meth c ls A hF hC hr hlk hH hl => ?_)
  have hl : lv_has ls 3 [(0, .ref (ρ o1)), (1, .int i2), (2, .int i3)] := hl
  have hx := hC.1.1
  have hb := hC.1.2.1
  have hF : F_X8_apart o1 i2 i3 u0 = some z := hF
  unfold F_X8_apart at hF
  change W p l e (wRm 2 50) s m args below meth c s.heap [] 0 0 (wQI below args s A D κ ρ 0 z) (F0 m 0 ls [])
  have key : ∀ (H : Heap) (locs : List Loc), wHp D κ ρ 0 A s.heap H locs u0 → W p l e (wRm 2 50) s m args below meth c H locs 0 0 (wQI below args s A D κ ρ 0 z) (F0 m 0 ls []) := by
    intro H locs hH
    refine lv_aload_n hx hb dX8_apart_0 rfl (lv_at hl 0 rfl) ?_
    refine lv_iload_n hx hb dX8_apart_1 rfl (lv_at hl 1 rfl) ?_
    refine wx_pvi hC hH hl (c_X8_isGuest o1 i2 h_o1) y_X8_isGuest v_X8_isGuest h_o1 rfl m_X8_118 rfl ⟨Nat.le_of_ble_eq_true rfl, Nat.le_of_ble_eq_true rfl⟩ ⟨Nat.le_refl _, Nat.le_refl _⟩ rfl (Nat.le_of_ble_eq_true rfl) dX8_apart_2 hF (fun i4 H locs hF hH => ?_)
    refine lv_if_eq hx hb dX8_apart_5 (tgt := 16) rfl (fun h => ?_) (fun h => ?_)
    · have hF := wx_t h hF
      refine lv_iconst hx hb dX8_apart_16 k_iconst_m1 ?_
      exact wx_iret hC hH hr hlk dX8_apart_17 hF
    have hF := wx_f h hF
    refine lv_aload_n hx hb dX8_apart_8 rfl (lv_at hl 0 rfl) ?_
    refine lv_iload_n hx hb dX8_apart_9 rfl (lv_at hl 2 rfl) ?_
    refine wx_pvi hC hH hl (c_X8_isGuest o1 i3 h_o1) y_X8_isGuest v_X8_isGuest h_o1 rfl m_X8_118 rfl ⟨Nat.le_of_ble_eq_true rfl, Nat.le_of_ble_eq_true rfl⟩ ⟨Nat.le_refl _, Nat.le_refl _⟩ rfl (Nat.le_of_ble_eq_true rfl) dX8_apart_10 hF (fun i5 H locs hF hH => ?_)
    refine lv_if_ne hx hb dX8_apart_13 (tgt := 18) rfl (fun h => ?_) (fun h => ?_)
    · have hF := wx_f h hF
      refine lv_aload_n hx hb dX8_apart_18 rfl (lv_at hl 0 rfl) ?_
      refine wx_evr hC hH hl (c_X8_plainCourse o1 h_o1) y_X8_plainCourse v_X8_plainCourse h_o1 rfl m_X8_144 rfl ⟨Nat.le_of_ble_eq_true rfl, Nat.le_of_ble_eq_true rfl⟩ ⟨Nat.le_refl _, Nat.le_refl _⟩ rfl (Nat.le_of_ble_eq_true rfl) dX8_apart_19 hF (fun o7 u6 H locs hF hH => ?_)
      obtain ⟨h_o7, hF⟩ := wG_some hF
      refine lv_aload_n hx hb dX8_apart_22 rfl (lv_at hl 0 rfl) ?_
      refine wx_getR hC hH h_o1 rfl f_X8_41 dX8_apart_23 hF (fun o8 h_o8 hF => ?_)
      refine lv_iload_n hx hb dX8_apart_26 rfl (lv_at hl 1 rfl) ?_
      refine lv_iload_n hx hb dX8_apart_27 rfl (lv_at hl 2 rfl) ?_
      refine wx_pvi hC hH hl (c_X0_seatsBetween o7 o8 i2 i3 h_o7 h_o8) y_X0_seatsBetween v_X0_seatsBetween h_o7 rfl m_X8_306 rfl ⟨Nat.le_of_ble_eq_true rfl, Nat.le_of_ble_eq_true rfl⟩ ⟨Nat.le_refl _, Nat.le_refl _⟩ rfl (Nat.le_of_ble_eq_true rfl) dX8_apart_28 hF (fun i9 H locs hF hH => ?_)
      exact wx_iret hC hH hr hlk dX8_apart_31 hF
    have hF := wx_t h hF
    refine lv_iconst hx hb dX8_apart_16 k_iconst_m1 ?_
    exact wx_iret hC hH hr hlk dX8_apart_17 hF
  exact key _ _ hH
def F_X8_eatenIn_b16 (o1 : Nat) (i2 : Int32) (i6 : Int32) (u7 : wSt) : Option ((Int32 × wSt) ⊕ (Int32 × wSt)) :=
  if (199 : Int32) < i6 then (some (.inr ((-2 : Int32), u7))) else (wR (u7.2.2 o1 7) 3 (fun o8 => wP (F_X3_isEaten o8 i2 u7) (fun (i9 : Int32) => if i9 = 0 then (wR (u7.2.2 o1 9) 0 (fun o10 => wR (u7.2.2 o1 7) 3 (fun o11 => wC (F_X0_goOn o10 o11 u7) (fun (i13 : Int32) (u12 : wSt) => wB (i6 + (1 : Int32)) (fun (i14 : Int32) => some (.inl (i14, u12))))))) else (some (.inr (i6, u7))))))
def F_X8_eatenIn (o1 : Nat) (i2 : Int32) (u0 : wSt) : Option (Int32 × wSt) :=
  wP (F_X8_isFruit o1 i2 u0) (fun (i3 : Int32) => if i3 = 0 then (some ((-1 : Int32), u0)) else (wC (F_X8_startTrial o1 u0) (fun _ (u4 : wSt) => wL (S := Int32 × wSt) (fun x => F_X8_eatenIn_b16 o1 i2 x.1 x.2) wFu ((0 : Int32), u4))))
set_option maxRecDepth 100000 in
set_option maxHeartbeats 4000000 in
theorem c_X8_eatenIn {l : Launch} {D : va_G} {κ : Nat → ClassId} {ρ : Nat → Nat} (o1 : Nat) (i2 : Int32) (h_o1 : (w_sh o1).1 = 8) : wMI l yX8_eatenIn cX8_eatenIn 3 .int (wRm 6 155) [.ref (ρ o1), .int i2] D κ ρ 0 (fun u => F_X8_eatenIn o1 i2 u) := by
  refine wMI_of (F := fun u => F_X8_eatenIn o1 i2 u) rfl (Nat.le_of_ble_eq_true rfl) (fun u0 z p e s m args below meth c ls A hF hC hr hlk hH hl => ?_)
  have hl : lv_has ls 3 [(0, .ref (ρ o1)), (1, .int i2)] := hl
  have hx := hC.1.1
  have hb := hC.1.2.1
  have hF : F_X8_eatenIn o1 i2 u0 = some z := hF
  unfold F_X8_eatenIn at hF
  change W p l e (wRm 6 155) s m args below meth c s.heap [] 0 0 (wQI below args s A D κ ρ 0 z) (F0 m 0 ls [])
  have key : ∀ (H : Heap) (locs : List Loc), wHp D κ ρ 0 A s.heap H locs u0 → W p l e (wRm 6 155) s m args below meth c H locs 0 0 (wQI below args s A D κ ρ 0 z) (F0 m 0 ls []) := by
    intro H locs hH
    refine lv_aload_n hx hb dX8_eatenIn_0 rfl (lv_at hl 0 rfl) ?_
    refine lv_iload_n hx hb dX8_eatenIn_1 rfl (lv_at hl 1 rfl) ?_
    refine wx_pvi hC hH hl (c_X8_isFruit o1 i2 h_o1) y_X8_isFruit v_X8_isFruit h_o1 rfl m_X8_160 rfl ⟨Nat.le_of_ble_eq_true rfl, Nat.le_of_ble_eq_true rfl⟩ ⟨Nat.le_refl _, Nat.le_refl _⟩ rfl (Nat.le_of_ble_eq_true rfl) dX8_eatenIn_2 hF (fun i3 H locs hF hH => ?_)
    refine lv_if_ne hx hb dX8_eatenIn_5 (tgt := 10) rfl (fun h => ?_) (fun h => ?_)
    · have hF := wx_f h hF
      refine lv_aload_n hx hb dX8_eatenIn_10 rfl (lv_at hl 0 rfl) ?_
      refine wx_evv hC hH hl (c_X8_startTrial o1 h_o1) y_X8_startTrial v_X8_startTrial h_o1 rfl m_X8_218 rfl ⟨Nat.le_of_ble_eq_true rfl, Nat.le_of_ble_eq_true rfl⟩ ⟨Nat.le_refl _, Nat.le_refl _⟩ rfl (Nat.le_of_ble_eq_true rfl) dX8_eatenIn_11 hF (fun _ u4 H locs hF hH => ?_)
      refine lv_iconst hx hb dX8_eatenIn_14 k_iconst_0 ?_
      refine wx_istore_n hx hb dX8_eatenIn_15 rfl hl (by decide) (fun ls hl => ?_)
      have hl : lv_has ls 3 [(2, .int (0 : Int32)), (0, .ref (ρ o1)), (1, .int i2)] := hl
      have hL16 : ∀ (k5_ : Nat) (i6 : Int32) (u7 : wSt) (H : Heap) (locs : List Loc) (ls : Array Slot), wL (S := Int32 × wSt) (fun x => F_X8_eatenIn_b16 o1 i2 x.1 x.2) k5_ (i6, u7) = some z → wHp D κ ρ 0 A s.heap H locs u7 → lv_has ls 3 [(0, .ref (ρ o1)), (1, .int i2), (2, .int i6)] → W p l e (wRm 6 155) s m args below meth c H locs 0 0 (wQI below args s A D κ ρ 0 z) (F0 m 16 ls []) := by
        intro k5_
        induction k5_ with
        | zero => intro i6 u7 H locs ls hF; exact wL_zero hF
        | succ k5_ ih5 =>
          intro i6 u7 H locs ls hF hH hl
          obtain ⟨q5_, hF, hq5⟩ := wL_some hF
          have hF : F_X8_eatenIn_b16 o1 i2 i6 u7 = some q5_ := hF
          unfold F_X8_eatenIn_b16 at hF
          refine lv_iload_n hx hb dX8_eatenIn_16 rfl (lv_at hl 2 rfl) ?_
          refine lv_sipush hx hb dX8_eatenIn_17 k_sipush_199 ?_
          refine lv_icmp_gt hx hb dX8_eatenIn_20 (tgt := 54) rfl (fun h => ?_) (fun h => ?_)
          · have hF := wx_t h hF
            refine lv_bipush hx hb dX8_eatenIn_54 k_bipush_m2 ?_
            have hF := wJ_r hq5 hF
            exact wx_iret hC hH hr hlk dX8_eatenIn_56 hF
          have hF := wx_f h hF
          refine lv_aload_n hx hb dX8_eatenIn_23 rfl (lv_at hl 0 rfl) ?_
          refine wx_getR hC hH h_o1 rfl f_X8_48 dX8_eatenIn_24 hF (fun o8 h_o8 hF => ?_)
          refine lv_iload_n hx hb dX8_eatenIn_27 rfl (lv_at hl 1 rfl) ?_
          refine wx_pvi hC hH hl (c_X3_isEaten o8 i2 h_o8) y_X3_isEaten v_X3_isEaten h_o8 rfl m_X8_169 rfl ⟨Nat.le_of_ble_eq_true rfl, Nat.le_of_ble_eq_true rfl⟩ ⟨Nat.le_refl _, Nat.le_refl _⟩ rfl (Nat.le_of_ble_eq_true rfl) dX8_eatenIn_28 hF (fun i9 H locs hF hH => ?_)
          refine lv_if_eq hx hb dX8_eatenIn_31 (tgt := 36) rfl (fun h => ?_) (fun h => ?_)
          · have hF := wx_t h hF
            refine lv_aload_n hx hb dX8_eatenIn_36 rfl (lv_at hl 0 rfl) ?_
            refine wx_getR hC hH h_o1 rfl f_X8_60 dX8_eatenIn_37 hF (fun o10 h_o10 hF => ?_)
            refine lv_aload_n hx hb dX8_eatenIn_40 rfl (lv_at hl 0 rfl) ?_
            refine wx_getR hC hH h_o1 rfl f_X8_48 dX8_eatenIn_41 hF (fun o11 h_o11 hF => ?_)
            refine wx_evi hC hH hl (c_X0_goOn o10 o11 h_o10 h_o11) y_X0_goOn v_X0_goOn h_o10 rfl m_X8_232 rfl ⟨Nat.le_of_ble_eq_true rfl, Nat.le_of_ble_eq_true rfl⟩ ⟨Nat.le_refl _, Nat.le_refl _⟩ rfl (Nat.le_of_ble_eq_true rfl) dX8_eatenIn_44 hF (fun i13 u12 H locs hF hH => ?_)
            refine lv_pop hx hb dX8_eatenIn_47 rfl ?_
            refine wx_iinc hx hb dX8_eatenIn_48 k_iconst_1 hl (k := 2) rfl (by decide) hF (fun i14 ls hF hl => ?_)
            have hl : lv_has ls 3 [(2, .int i14), (0, .ref (ρ o1)), (1, .int i2)] := hl
            refine lv_goto hx hb dX8_eatenIn_51 (tgt := 16) rfl ?_
            have hF := wJ_l hq5 hF
            exact ih5 i14 u12 H locs ls hF hH (lv_sub hl [1, 2, 0] rfl)
          have hF := wx_f h hF
          refine lv_iload_n hx hb dX8_eatenIn_34 rfl (lv_at hl 2 rfl) ?_
          have hF := wJ_r hq5 hF
          exact wx_iret hC hH hr hlk dX8_eatenIn_35 hF
      exact hL16 wFu (0 : Int32) u4 H locs ls hF hH (lv_sub hl [1, 2, 0] rfl)
    have hF := wx_t h hF
    refine lv_iconst hx hb dX8_eatenIn_8 k_iconst_m1 ?_
    exact wx_iret hC hH hr hlk dX8_eatenIn_9 hF
  exact key _ _ hH
def F_X8_staysBy_j55 (o1 : Nat) (i2 : Int32) (u11 : wSt) : Option (Int32 × wSt) :=
  wR (u11.2.2 o1 7) 3 (fun o12 => wP (F_X3_hasFainted o12 i2 u11) (fun (i13 : Int32) => if i13 = 0 then (some ((1 : Int32), u11)) else (some ((0 : Int32), u11))))
def F_X8_staysBy_b20 (i4 : Int32) (o1 : Nat) (i2 : Int32) (i15 : Int32) (u16 : wSt) : Option ((Int32 × wSt) ⊕ ((wSt) ⊕ (Int32 × wSt))) :=
  if i4 ≤ i15 then (some (.inr (.inl u16))) else (wR (u16.2.2 o1 7) 3 (fun o17 => wP (F_X3_hasFainted o17 i2 u16) (fun (i18 : Int32) => if i18 = 0 then (wR (u16.2.2 o1 9) 0 (fun o19 => wR (u16.2.2 o1 7) 3 (fun o20 => wC (F_X0_goOn o19 o20 u16) (fun (i22 : Int32) (u21 : wSt) => wB (i15 + (1 : Int32)) (fun (i23 : Int32) => some (.inl (i23, u21))))))) else (some (.inr (.inl u16))))))
def F_X8_staysBy (o1 : Nat) (i2 : Int32) (i3 : Int32) (i4 : Int32) (u0 : wSt) : Option (Int32 × wSt) :=
  wC (F_X8_startTrial o1 u0) (fun _ (u5 : wSt) => wR (u5.2.2 o1 7) 3 (fun o6 => wR (u5.2.2 o6 6) 10 (fun o7 => wN i2 o7 (fun j8 => wSI u5 o7 i2 ((u5.1 o7 j8) - i3) (fun (u9 : wSt) => wJ (X := wSt) (wL (S := Int32 × wSt) (fun x => F_X8_staysBy_b20 i4 o1 i2 x.1 x.2) wFu ((0 : Int32), u9)) (fun x => F_X8_staysBy_j55 o1 i2 x))))))
set_option maxRecDepth 100000 in
set_option maxHeartbeats 4000000 in
theorem c_X8_staysBy {l : Launch} {D : va_G} {κ : Nat → ClassId} {ρ : Nat → Nat} (o1 : Nat) (i2 : Int32) (i3 : Int32) (i4 : Int32) (h_o1 : (w_sh o1).1 = 8) : wMI l yX8_staysBy cX8_staysBy 5 .boolean (wRm 6 155) [.ref (ρ o1), .int i2, .int i3, .int i4] D κ ρ 0 (fun u => F_X8_staysBy o1 i2 i3 i4 u) := by
  refine wMI_of (F := fun u => F_X8_staysBy o1 i2 i3 i4 u) rfl (Nat.le_of_ble_eq_true rfl) (fun u0 z p e s m args below meth c ls A hF hC hr hlk hH hl => ?_)
  have hl : lv_has ls 5 [(0, .ref (ρ o1)), (1, .int i2), (2, .int i3), (3, .int i4)] := hl
  have hx := hC.1.1
  have hb := hC.1.2.1
  have hF : F_X8_staysBy o1 i2 i3 i4 u0 = some z := hF
  unfold F_X8_staysBy at hF
  change W p l e (wRm 6 155) s m args below meth c s.heap [] 0 0 (wQI below args s A D κ ρ 0 z) (F0 m 0 ls [])
  have key : ∀ (H : Heap) (locs : List Loc), wHp D κ ρ 0 A s.heap H locs u0 → W p l e (wRm 6 155) s m args below meth c H locs 0 0 (wQI below args s A D κ ρ 0 z) (F0 m 0 ls []) := by
    intro H locs hH
    refine lv_aload_n hx hb dX8_staysBy_0 rfl (lv_at hl 0 rfl) ?_
    refine wx_evv hC hH hl (c_X8_startTrial o1 h_o1) y_X8_startTrial v_X8_startTrial h_o1 rfl m_X8_218 rfl ⟨Nat.le_of_ble_eq_true rfl, Nat.le_of_ble_eq_true rfl⟩ ⟨Nat.le_refl _, Nat.le_refl _⟩ rfl (Nat.le_of_ble_eq_true rfl) dX8_staysBy_1 hF (fun _ u5 H locs hF hH => ?_)
    refine lv_aload_n hx hb dX8_staysBy_4 rfl (lv_at hl 0 rfl) ?_
    refine wx_getR hC hH h_o1 rfl f_X8_48 dX8_staysBy_5 hF (fun o6 h_o6 hF => ?_)
    refine wx_getR hC hH h_o6 rfl f_X8_132 dX8_staysBy_8 hF (fun o7 h_o7 hF => ?_)
    refine lv_iload_n hx hb dX8_staysBy_11 rfl (lv_at hl 1 rfl) ?_
    refine lv_dup2_11 hx hb dX8_staysBy_12 rfl rfl ?_
    refine wx_iald hC hH h_o7 ⟨rfl, rfl⟩ dX8_staysBy_13 hF (fun j8 hF => ?_)
    refine lv_iload_n hx hb dX8_staysBy_14 rfl (lv_at hl 2 rfl) ?_
    refine lv_isub hx hb dX8_staysBy_15 ?_
    refine wx_iast hC hH h_o7 ⟨rfl, rfl⟩ dX8_staysBy_16 hF (fun u9 H locs hF hH => ?_)
    refine lv_iconst hx hb dX8_staysBy_17 k_iconst_0 ?_
    refine wx_istore hx hb dX8_staysBy_18 hl (by decide) (fun ls hl => ?_)
    have hl : lv_has ls 5 [(4, .int (0 : Int32)), (0, .ref (ρ o1)), (1, .int i2), (2, .int i3), (3, .int i4)] := hl
    obtain ⟨q10_, hF, hq10⟩ := wJ_some hF
    have hJ55 : ∀ (u11 : wSt) (H : Heap) (locs : List Loc) (ls : Array Slot), F_X8_staysBy_j55 o1 i2 u11 = some z → wHp D κ ρ 0 A s.heap H locs u11 → lv_has ls 5 [(0, .ref (ρ o1)), (1, .int i2)] → W p l e (wRm 6 155) s m args below meth c H locs 0 0 (wQI below args s A D κ ρ 0 z) (F0 m 55 ls []) := by
      intro u11 H locs ls hF hH hl
      unfold F_X8_staysBy_j55 at hF
      refine lv_aload_n hx hb dX8_staysBy_55 rfl (lv_at hl 0 rfl) ?_
      refine wx_getR hC hH h_o1 rfl f_X8_48 dX8_staysBy_56 hF (fun o12 h_o12 hF => ?_)
      refine lv_iload_n hx hb dX8_staysBy_59 rfl (lv_at hl 1 rfl) ?_
      refine wx_pvi hC hH hl (c_X3_hasFainted o12 i2 h_o12) y_X3_hasFainted v_X3_hasFainted h_o12 rfl m_X8_141 rfl ⟨Nat.le_of_ble_eq_true rfl, Nat.le_of_ble_eq_true rfl⟩ ⟨Nat.le_refl _, Nat.le_refl _⟩ rfl (Nat.le_of_ble_eq_true rfl) dX8_staysBy_60 hF (fun i13 H locs hF hH => ?_)
      refine lv_if_ne hx hb dX8_staysBy_63 (tgt := 70) rfl (fun h => ?_) (fun h => ?_)
      · have hF := wx_f h hF
        refine lv_iconst hx hb dX8_staysBy_70 k_iconst_0 ?_
        exact wx_zret hC hH hr hlk dX8_staysBy_71 (Or.inl rfl) hF
      have hF := wx_t h hF
      refine lv_iconst hx hb dX8_staysBy_66 k_iconst_1 ?_
      refine lv_goto hx hb dX8_staysBy_67 (tgt := 71) rfl ?_
      exact wx_zret hC hH hr hlk dX8_staysBy_71 (Or.inr rfl) hF
    have hL20 : ∀ (k14_ : Nat) (i15 : Int32) (u16 : wSt) (H : Heap) (locs : List Loc) (ls : Array Slot), wL (S := Int32 × wSt) (fun x => F_X8_staysBy_b20 i4 o1 i2 x.1 x.2) k14_ (i15, u16) = some q10_ → wHp D κ ρ 0 A s.heap H locs u16 → lv_has ls 5 [(0, .ref (ρ o1)), (1, .int i2), (3, .int i4), (4, .int i15)] → W p l e (wRm 6 155) s m args below meth c H locs 0 0 (wQI below args s A D κ ρ 0 z) (F0 m 20 ls []) := by
      intro k14_
      induction k14_ with
      | zero => intro i15 u16 H locs ls hF; exact wL_zero hF
      | succ k14_ ih14 =>
        intro i15 u16 H locs ls hF hH hl
        obtain ⟨q14_, hF, hq14⟩ := wL_some hF
        have hF : F_X8_staysBy_b20 i4 o1 i2 i15 u16 = some q14_ := hF
        unfold F_X8_staysBy_b20 at hF
        refine lv_iload hx hb dX8_staysBy_20 (lv_at hl 3 rfl) ?_
        refine lv_iload_n hx hb dX8_staysBy_22 rfl (lv_at hl 2 rfl) ?_
        refine lv_icmp_ge hx hb dX8_staysBy_23 (tgt := 55) rfl (fun h => ?_) (fun h => ?_)
        · have hF := wx_t h hF
          have hF := wJ_r hq14 hF
          have hF := wJ_l hq10 hF
          exact hJ55 u16 H locs ls hF hH (lv_sub hl [0, 1] rfl)
        have hF := wx_f h hF
        refine lv_aload_n hx hb dX8_staysBy_26 rfl (lv_at hl 0 rfl) ?_
        refine wx_getR hC hH h_o1 rfl f_X8_48 dX8_staysBy_27 hF (fun o17 h_o17 hF => ?_)
        refine lv_iload_n hx hb dX8_staysBy_30 rfl (lv_at hl 1 rfl) ?_
        refine wx_pvi hC hH hl (c_X3_hasFainted o17 i2 h_o17) y_X3_hasFainted v_X3_hasFainted h_o17 rfl m_X8_141 rfl ⟨Nat.le_of_ble_eq_true rfl, Nat.le_of_ble_eq_true rfl⟩ ⟨Nat.le_refl _, Nat.le_refl _⟩ rfl (Nat.le_of_ble_eq_true rfl) dX8_staysBy_31 hF (fun i18 H locs hF hH => ?_)
        refine lv_if_ne hx hb dX8_staysBy_34 (tgt := 55) rfl (fun h => ?_) (fun h => ?_)
        · have hF := wx_f h hF
          have hF := wJ_r hq14 hF
          have hF := wJ_l hq10 hF
          exact hJ55 u16 H locs ls hF hH (lv_sub hl [0, 1] rfl)
        have hF := wx_t h hF
        refine lv_aload_n hx hb dX8_staysBy_37 rfl (lv_at hl 0 rfl) ?_
        refine wx_getR hC hH h_o1 rfl f_X8_60 dX8_staysBy_38 hF (fun o19 h_o19 hF => ?_)
        refine lv_aload_n hx hb dX8_staysBy_41 rfl (lv_at hl 0 rfl) ?_
        refine wx_getR hC hH h_o1 rfl f_X8_48 dX8_staysBy_42 hF (fun o20 h_o20 hF => ?_)
        refine wx_evi hC hH hl (c_X0_goOn o19 o20 h_o19 h_o20) y_X0_goOn v_X0_goOn h_o19 rfl m_X8_232 rfl ⟨Nat.le_of_ble_eq_true rfl, Nat.le_of_ble_eq_true rfl⟩ ⟨Nat.le_refl _, Nat.le_refl _⟩ rfl (Nat.le_of_ble_eq_true rfl) dX8_staysBy_45 hF (fun i22 u21 H locs hF hH => ?_)
        refine lv_pop hx hb dX8_staysBy_48 rfl ?_
        refine wx_iinc hx hb dX8_staysBy_49 k_iconst_1 hl (k := 3) rfl (by decide) hF (fun i23 ls hF hl => ?_)
        have hl : lv_has ls 5 [(4, .int i23), (0, .ref (ρ o1)), (1, .int i2), (3, .int i4)] := hl
        refine lv_goto hx hb dX8_staysBy_52 (tgt := 20) rfl ?_
        have hF := wJ_l hq14 hF
        exact ih14 i23 u21 H locs ls hF hH (lv_sub hl [1, 2, 3, 0] rfl)
    exact hL20 wFu (0 : Int32) u9 H locs ls hF hH (lv_sub hl [1, 2, 4, 0] rfl)
  exact key _ _ hH
def F_X8_loaf_b39 (i8 : Int32) (o1 : Nat) (i2 : Int32) (i3 : Int32) (i10 : Int32) (u11 : wSt) : Option ((Int32 × wSt) ⊕ (Int32 × wSt)) :=
  if i8 < i10 then (some (.inr ((-2 : Int32), u11))) else (wC (F_X8_staysBy o1 i2 i10 i3 u11) (fun (i13 : Int32) (u12 : wSt) => if i13 = 0 then (wB (i10 + (1 : Int32)) (fun (i14 : Int32) => some (.inl (i14, u12)))) else (some (.inr (i10, u12)))))
def F_X8_loaf (o1 : Nat) (i2 : Int32) (i3 : Int32) (u0 : wSt) : Option (Int32 × wSt) :=
  wP (F_X8_isThere o1 i2 u0) (fun (i4 : Int32) => if i4 = 0 then (some ((-1 : Int32), u0)) else (if i3 < (1 : Int32) then (some ((-1 : Int32), u0)) else (if i3 ≤ (99 : Int32) then (wR (u0.2.2 o1 5) 3 (fun o5 => wR (u0.2.2 o5 6) 10 (fun o6 => wN i2 o6 (fun j7 => wB (w_min (99 : Int32) (u0.1 o6 j7)) (fun (i8 : Int32) => wL (S := Int32 × wSt) (fun x => F_X8_loaf_b39 i8 o1 i2 i3 x.1 x.2) wFu ((0 : Int32), u0)))))) else (some ((-1 : Int32), u0)))))
set_option maxRecDepth 100000 in
set_option maxHeartbeats 4000000 in
theorem c_X8_loaf {l : Launch} {D : va_G} {κ : Nat → ClassId} {ρ : Nat → Nat} (o1 : Nat) (i2 : Int32) (i3 : Int32) (h_o1 : (w_sh o1).1 = 8) : wMI l yX8_loaf cX8_loaf 5 .int (wRm 7 179) [.ref (ρ o1), .int i2, .int i3] D κ ρ 0 (fun u => F_X8_loaf o1 i2 i3 u) := by
  refine wMI_of (F := fun u => F_X8_loaf o1 i2 i3 u) rfl (Nat.le_of_ble_eq_true rfl) (fun u0 z p e s m args below meth c ls A hF hC hr hlk hH hl => ?_)
  have hl : lv_has ls 5 [(0, .ref (ρ o1)), (1, .int i2), (2, .int i3)] := hl
  have hx := hC.1.1
  have hb := hC.1.2.1
  have hF : F_X8_loaf o1 i2 i3 u0 = some z := hF
  unfold F_X8_loaf at hF
  change W p l e (wRm 7 179) s m args below meth c s.heap [] 0 0 (wQI below args s A D κ ρ 0 z) (F0 m 0 ls [])
  have key : ∀ (H : Heap) (locs : List Loc), wHp D κ ρ 0 A s.heap H locs u0 → W p l e (wRm 7 179) s m args below meth c H locs 0 0 (wQI below args s A D κ ρ 0 z) (F0 m 0 ls []) := by
    intro H locs hH
    refine lv_aload_n hx hb dX8_loaf_0 rfl (lv_at hl 0 rfl) ?_
    refine lv_iload_n hx hb dX8_loaf_1 rfl (lv_at hl 1 rfl) ?_
    refine wx_pvi hC hH hl (c_X8_isThere o1 i2 h_o1) y_X8_isThere v_X8_isThere h_o1 rfl m_X8_196 rfl ⟨Nat.le_of_ble_eq_true rfl, Nat.le_of_ble_eq_true rfl⟩ ⟨Nat.le_refl _, Nat.le_refl _⟩ rfl (Nat.le_of_ble_eq_true rfl) dX8_loaf_2 hF (fun i4 H locs hF hH => ?_)
    refine lv_if_eq hx hb dX8_loaf_5 (tgt := 19) rfl (fun h => ?_) (fun h => ?_)
    · have hF := wx_t h hF
      refine lv_iconst hx hb dX8_loaf_19 k_iconst_m1 ?_
      exact wx_iret hC hH hr hlk dX8_loaf_20 hF
    have hF := wx_f h hF
    refine lv_iload_n hx hb dX8_loaf_8 rfl (lv_at hl 2 rfl) ?_
    refine lv_iconst hx hb dX8_loaf_9 k_iconst_1 ?_
    refine lv_icmp_lt hx hb dX8_loaf_10 (tgt := 19) rfl (fun h => ?_) (fun h => ?_)
    · have hF := wx_t h hF
      refine lv_iconst hx hb dX8_loaf_19 k_iconst_m1 ?_
      exact wx_iret hC hH hr hlk dX8_loaf_20 hF
    have hF := wx_f h hF
    refine lv_iload_n hx hb dX8_loaf_13 rfl (lv_at hl 2 rfl) ?_
    refine lv_bipush hx hb dX8_loaf_14 k_bipush_99 ?_
    refine lv_icmp_le hx hb dX8_loaf_16 (tgt := 21) rfl (fun h => ?_) (fun h => ?_)
    · have hF := wx_t h hF
      refine lv_bipush hx hb dX8_loaf_21 k_bipush_99 ?_
      refine lv_aload_n hx hb dX8_loaf_23 rfl (lv_at hl 0 rfl) ?_
      refine wx_getR hC hH h_o1 rfl f_X8_41 dX8_loaf_24 hF (fun o5 h_o5 hF => ?_)
      refine wx_getR hC hH h_o5 rfl f_X8_132 dX8_loaf_27 hF (fun o6 h_o6 hF => ?_)
      refine lv_iload_n hx hb dX8_loaf_30 rfl (lv_at hl 1 rfl) ?_
      refine wx_iald hC hH h_o6 ⟨rfl, rfl⟩ dX8_loaf_31 hF (fun j7 hF => ?_)
      refine wx_min hC hl.1 m_X8_297 ⟨Nat.le_of_ble_eq_true rfl, Nat.le_of_ble_eq_true rfl⟩ ⟨Nat.le_refl _, Nat.le_refl _⟩ dX8_loaf_32 ?_
      refine wx_leti hF (fun i8 hF => ?_)
      refine wx_istore_n hx hb dX8_loaf_35 rfl hl (by decide) (fun ls hl => ?_)
      have hl : lv_has ls 5 [(3, .int i8), (0, .ref (ρ o1)), (1, .int i2), (2, .int i3)] := hl
      refine lv_iconst hx hb dX8_loaf_36 k_iconst_0 ?_
      refine wx_istore hx hb dX8_loaf_37 hl (by decide) (fun ls hl => ?_)
      have hl : lv_has ls 5 [(4, .int (0 : Int32)), (3, .int i8), (0, .ref (ρ o1)), (1, .int i2), (2, .int i3)] := hl
      have hL39 : ∀ (k9_ : Nat) (i10 : Int32) (u11 : wSt) (H : Heap) (locs : List Loc) (ls : Array Slot), wL (S := Int32 × wSt) (fun x => F_X8_loaf_b39 i8 o1 i2 i3 x.1 x.2) k9_ (i10, u11) = some z → wHp D κ ρ 0 A s.heap H locs u11 → lv_has ls 5 [(0, .ref (ρ o1)), (1, .int i2), (2, .int i3), (3, .int i8), (4, .int i10)] → W p l e (wRm 7 179) s m args below meth c H locs 0 0 (wQI below args s A D κ ρ 0 z) (F0 m 39 ls []) := by
        intro k9_
        induction k9_ with
        | zero => intro i10 u11 H locs ls hF; exact wL_zero hF
        | succ k9_ ih9 =>
          intro i10 u11 H locs ls hF hH hl
          obtain ⟨q9_, hF, hq9⟩ := wL_some hF
          have hF : F_X8_loaf_b39 i8 o1 i2 i3 i10 u11 = some q9_ := hF
          unfold F_X8_loaf_b39 at hF
          refine lv_iload hx hb dX8_loaf_39 (lv_at hl 4 rfl) ?_
          refine lv_iload_n hx hb dX8_loaf_41 rfl (lv_at hl 3 rfl) ?_
          refine lv_icmp_gt hx hb dX8_loaf_42 (tgt := 65) rfl (fun h => ?_) (fun h => ?_)
          · have hF := wx_t h hF
            refine lv_bipush hx hb dX8_loaf_65 k_bipush_m2 ?_
            have hF := wJ_r hq9 hF
            exact wx_iret hC hH hr hlk dX8_loaf_67 hF
          have hF := wx_f h hF
          refine lv_aload_n hx hb dX8_loaf_45 rfl (lv_at hl 0 rfl) ?_
          refine lv_iload_n hx hb dX8_loaf_46 rfl (lv_at hl 1 rfl) ?_
          refine lv_iload hx hb dX8_loaf_47 (lv_at hl 4 rfl) ?_
          refine lv_iload_n hx hb dX8_loaf_49 rfl (lv_at hl 2 rfl) ?_
          refine wx_evi hC hH hl (c_X8_staysBy o1 i2 i10 i3 h_o1) y_X8_staysBy v_X8_staysBy h_o1 rfl m_X8_309 rfl ⟨Nat.le_of_ble_eq_true rfl, Nat.le_of_ble_eq_true rfl⟩ ⟨Nat.le_refl _, Nat.le_refl _⟩ rfl (Nat.le_of_ble_eq_true rfl) dX8_loaf_50 hF (fun i13 u12 H locs hF hH => ?_)
          refine lv_if_eq hx hb dX8_loaf_53 (tgt := 59) rfl (fun h => ?_) (fun h => ?_)
          · have hF := wx_t h hF
            refine wx_iinc hx hb dX8_loaf_59 k_iconst_1 hl (k := 4) rfl (by decide) hF (fun i14 ls hF hl => ?_)
            have hl : lv_has ls 5 [(4, .int i14), (0, .ref (ρ o1)), (1, .int i2), (2, .int i3), (3, .int i8)] := hl
            refine lv_goto hx hb dX8_loaf_62 (tgt := 39) rfl ?_
            have hF := wJ_l hq9 hF
            exact ih9 i14 u12 H locs ls hF hH (lv_sub hl [1, 2, 3, 4, 0] rfl)
          have hF := wx_f h hF
          refine lv_iload hx hb dX8_loaf_56 (lv_at hl 4 rfl) ?_
          have hF := wJ_r hq9 hF
          exact wx_iret hC hH hr hlk dX8_loaf_58 hF
      exact hL39 wFu (0 : Int32) u0 H locs ls hF hH (lv_sub hl [2, 3, 4, 1, 0] rfl)
    have hF := wx_f h hF
    refine lv_iconst hx hb dX8_loaf_19 k_iconst_m1 ?_
    exact wx_iret hC hH hr hlk dX8_loaf_20 hF
  exact key _ _ hH
def F_X8_withHearers_j38 (i5 : Int32) (i8 : Int32) : Option ((Int32 × Int32) ⊕ Int32) :=
  wB (i5 + (1 : Int32)) (fun (i9 : Int32) => some (.inl (i8, i9)))
def F_X8_withHearers_b4 (u0 : wSt) (o1 : Nat) (i2 : Int32) (i4 : Int32) (i5 : Int32) : Option ((Int32 × Int32) ⊕ Int32) :=
  wR (u0.2.2 o1 2) 6 (fun o6 => if (u0.1 o6 1) ≤ i5 then (some (.inr (i4))) else (wJ (X := Int32) (if ((i2 >>> (i5 &&& 31)) &&& (1 : Int32)) = 0 then (some (.inl i4)) else (wR (u0.2.2 o1 9) 0 (fun o10 => wR (u0.2.2 o1 5) 3 (fun o11 => wP (F_X0_hearers o10 o11 i5 u0) (fun (i12 : Int32) => wB (i4 ||| i12) (fun (i13 : Int32) => some (.inl i13))))))) (fun x => F_X8_withHearers_j38 i5 x)))
def F_X8_withHearers (o1 : Nat) (i2 : Int32) (u0 : wSt) : Option Int32 :=
  wL (S := Int32 × Int32) (fun x => F_X8_withHearers_b4 u0 o1 i2 x.1 x.2) wFu (i2, (0 : Int32))
set_option maxRecDepth 100000 in
set_option maxHeartbeats 4000000 in
theorem c_X8_withHearers {l : Launch} {D : va_G} {κ : Nat → ClassId} {ρ : Nat → Nat} (o1 : Nat) (i2 : Int32) (h_o1 : (w_sh o1).1 = 8) : wMI l yX8_withHearers cX8_withHearers 4 .int (wRm 4 97) [.ref (ρ o1), .int i2] D κ ρ 0 (fun u => wPu (F_X8_withHearers o1 i2 u) u) := by
  refine wMP_of (F := fun u => F_X8_withHearers o1 i2 u) rfl (Nat.le_of_ble_eq_true rfl) (fun u0 z p e s m args below meth c ls A hF hC hr hlk hH hl => ?_)
  have hl : lv_has ls 4 [(0, .ref (ρ o1)), (1, .int i2)] := hl
  have hx := hC.1.1
  have hb := hC.1.2.1
  have hF : F_X8_withHearers o1 i2 u0 = some z := hF
  unfold F_X8_withHearers at hF
  change W p l e (wRm 4 97) s m args below meth c s.heap [] 0 0 (wQI below args s A D κ ρ 0 (z, u0)) (F0 m 0 ls [])
  have key : ∀ (H : Heap) (locs : List Loc), wHp D κ ρ 0 A s.heap H locs u0 → W p l e (wRm 4 97) s m args below meth c H locs 0 0 (wQI below args s A D κ ρ 0 (z, u0)) (F0 m 0 ls []) := by
    intro H locs hH
    refine lv_iload_n hx hb dX8_withHearers_0 rfl (lv_at hl 1 rfl) ?_
    refine wx_istore_n hx hb dX8_withHearers_1 rfl hl (by decide) (fun ls hl => ?_)
    have hl : lv_has ls 4 [(2, .int i2), (0, .ref (ρ o1)), (1, .int i2)] := hl
    refine lv_iconst hx hb dX8_withHearers_2 k_iconst_0 ?_
    refine wx_istore_n hx hb dX8_withHearers_3 rfl hl (by decide) (fun ls hl => ?_)
    have hl : lv_has ls 4 [(3, .int (0 : Int32)), (2, .int i2), (0, .ref (ρ o1)), (1, .int i2)] := hl
    have hL4 : ∀ (k3_ : Nat) (i4 : Int32) (i5 : Int32) (H : Heap) (locs : List Loc) (ls : Array Slot), wL (S := Int32 × Int32) (fun x => F_X8_withHearers_b4 u0 o1 i2 x.1 x.2) k3_ (i4, i5) = some z → wHp D κ ρ 0 A s.heap H locs u0 → lv_has ls 4 [(0, .ref (ρ o1)), (1, .int i2), (2, .int i4), (3, .int i5)] → W p l e (wRm 4 97) s m args below meth c H locs 0 0 (wQI below args s A D κ ρ 0 (z, u0)) (F0 m 4 ls []) := by
      intro k3_
      induction k3_ with
      | zero => intro i4 i5 H locs ls hF; exact wL_zero hF
      | succ k3_ ih3 =>
        intro i4 i5 H locs ls hF hH hl
        obtain ⟨q3_, hF, hq3⟩ := wL_some hF
        have hF : F_X8_withHearers_b4 u0 o1 i2 i4 i5 = some q3_ := hF
        unfold F_X8_withHearers_b4 at hF
        refine lv_iload_n hx hb dX8_withHearers_4 rfl (lv_at hl 3 rfl) ?_
        refine lv_aload_n hx hb dX8_withHearers_5 rfl (lv_at hl 0 rfl) ?_
        refine wx_getR hC hH h_o1 rfl f_X8_22 dX8_withHearers_6 hF (fun o6 h_o6 hF => ?_)
        refine wx_getI hC hH h_o6 rfl f_X8_235 dX8_withHearers_9 ?_
        refine lv_icmp_ge hx hb dX8_withHearers_12 (tgt := 44) rfl (fun h => ?_) (fun h => ?_)
        · have hF := wx_t h hF
          refine lv_iload_n hx hb dX8_withHearers_44 rfl (lv_at hl 2 rfl) ?_
          have hF := wJ_r hq3 hF
          exact wx_iret hC hH hr hlk dX8_withHearers_45 (wx_pr hF)
        have hF := wx_f h hF
        refine lv_iload_n hx hb dX8_withHearers_15 rfl (lv_at hl 1 rfl) ?_
        refine lv_iload_n hx hb dX8_withHearers_16 rfl (lv_at hl 3 rfl) ?_
        refine lv_ishr hx hb dX8_withHearers_17 ?_
        refine lv_iconst hx hb dX8_withHearers_18 k_iconst_1 ?_
        refine lv_iand hx hb dX8_withHearers_19 ?_
        obtain ⟨q7_, hF, hq7⟩ := wJ_some hF
        have hJ38 : ∀ (i8 : Int32) (H : Heap) (locs : List Loc) (ls : Array Slot), F_X8_withHearers_j38 i5 i8 = some q3_ → wHp D κ ρ 0 A s.heap H locs u0 → lv_has ls 4 [(0, .ref (ρ o1)), (1, .int i2), (2, .int i8), (3, .int i5)] → W p l e (wRm 4 97) s m args below meth c H locs 0 0 (wQI below args s A D κ ρ 0 (z, u0)) (F0 m 38 ls []) := by
          intro i8 H locs ls hF hH hl
          unfold F_X8_withHearers_j38 at hF
          refine wx_iinc hx hb dX8_withHearers_38 k_iconst_1 hl (k := 3) rfl (by decide) hF (fun i9 ls hF hl => ?_)
          have hl : lv_has ls 4 [(3, .int i9), (0, .ref (ρ o1)), (1, .int i2), (2, .int i8)] := hl
          refine lv_goto hx hb dX8_withHearers_41 (tgt := 4) rfl ?_
          have hF := wJ_l hq3 hF
          exact ih3 i8 i9 H locs ls hF hH (lv_sub hl [1, 2, 3, 0] rfl)
        refine lv_if_eq hx hb dX8_withHearers_20 (tgt := 38) rfl (fun h => ?_) (fun h => ?_)
        · have hF := wx_t h hF
          have hF := wJ_l hq7 hF
          exact hJ38 i4 H locs ls hF hH (lv_sub hl [0, 1, 2, 3] rfl)
        have hF := wx_f h hF
        refine lv_iload_n hx hb dX8_withHearers_23 rfl (lv_at hl 2 rfl) ?_
        refine lv_aload_n hx hb dX8_withHearers_24 rfl (lv_at hl 0 rfl) ?_
        refine wx_getR hC hH h_o1 rfl f_X8_60 dX8_withHearers_25 hF (fun o10 h_o10 hF => ?_)
        refine lv_aload_n hx hb dX8_withHearers_28 rfl (lv_at hl 0 rfl) ?_
        refine wx_getR hC hH h_o1 rfl f_X8_41 dX8_withHearers_29 hF (fun o11 h_o11 hF => ?_)
        refine lv_iload_n hx hb dX8_withHearers_32 rfl (lv_at hl 3 rfl) ?_
        refine wx_pvi hC hH hl (c_X0_hearers o10 o11 i5 h_o10 h_o11) y_X0_hearers v_X0_hearers h_o10 rfl m_X8_148 rfl ⟨Nat.le_of_ble_eq_true rfl, Nat.le_of_ble_eq_true rfl⟩ ⟨Nat.le_refl _, Nat.le_refl _⟩ rfl (Nat.le_of_ble_eq_true rfl) dX8_withHearers_33 hF (fun i12 H locs hF hH => ?_)
        refine lv_ior hx hb dX8_withHearers_36 ?_
        refine wx_leti hF (fun i13 hF => ?_)
        refine wx_istore_n hx hb dX8_withHearers_37 rfl hl (by decide) (fun ls hl => ?_)
        have hl : lv_has ls 4 [(2, .int i13), (0, .ref (ρ o1)), (1, .int i2), (3, .int i5)] := hl
        have hF := wJ_l hq7 hF
        exact hJ38 i13 H locs ls hF hH (lv_sub hl [1, 2, 0, 3] rfl)
    exact hL4 wFu i2 (0 : Int32) H locs ls hF hH (lv_sub hl [2, 3, 1, 0] rfl)
  exact key _ _ hH
def F_X8_passedOn_b13 (u5 : wSt) (i3 : Int32) (o1 : Nat) (i4 : Int32) (i9 : Int32) (i10 : Int32) : Option ((Int32 × Int32) ⊕ (Int32 × wSt)) :=
  if (6 : Int32) ≤ i10 then (some (.inr ((-2 : Int32), u5))) else (if ((i9 >>> (i3 &&& 31)) &&& (1 : Int32)) = 0 then (wP (F_X8_withHearers o1 i9 u5) (fun (i11 : Int32) => wB (i11 &&& (i4 ^^^ (-1 : Int32))) (fun (i12 : Int32) => wB (i10 + (1 : Int32)) (fun (i13 : Int32) => some (.inl (i12, i13)))))) else (some (.inr (i10, u5))))
def F_X8_passedOn (o1 : Nat) (i2 : Int32) (i3 : Int32) (i4 : Int32) (u0 : wSt) : Option (Int32 × wSt) :=
  wC (F_X8_plainCourse o1 u0) (fun (o6 : Nat) (u5 : wSt) => wG ((w_sh o6).1 = 0) (wB ((1 : Int32) <<< (i2 &&& 31)) (fun (i7 : Int32) => wL (S := Int32 × Int32) (fun x => F_X8_passedOn_b13 u5 i3 o1 i4 x.1 x.2) wFu (i7, (0 : Int32)))))
set_option maxRecDepth 100000 in
set_option maxHeartbeats 4000000 in
theorem c_X8_passedOn {l : Launch} {D : va_G} {κ : Nat → ClassId} {ρ : Nat → Nat} (o1 : Nat) (i2 : Int32) (i3 : Int32) (i4 : Int32) (h_o1 : (w_sh o1).1 = 8) : wMI l yX8_passedOn cX8_passedOn 6 .int (wRm 5 120) [.ref (ρ o1), .int i2, .int i3, .int i4] D κ ρ 0 (fun u => F_X8_passedOn o1 i2 i3 i4 u) := by
  refine wMI_of (F := fun u => F_X8_passedOn o1 i2 i3 i4 u) rfl (Nat.le_of_ble_eq_true rfl) (fun u0 z p e s m args below meth c ls A hF hC hr hlk hH hl => ?_)
  have hl : lv_has ls 6 [(0, .ref (ρ o1)), (1, .int i2), (2, .int i3), (3, .int i4)] := hl
  have hx := hC.1.1
  have hb := hC.1.2.1
  have hF : F_X8_passedOn o1 i2 i3 i4 u0 = some z := hF
  unfold F_X8_passedOn at hF
  change W p l e (wRm 5 120) s m args below meth c s.heap [] 0 0 (wQI below args s A D κ ρ 0 z) (F0 m 0 ls [])
  have key : ∀ (H : Heap) (locs : List Loc), wHp D κ ρ 0 A s.heap H locs u0 → W p l e (wRm 5 120) s m args below meth c H locs 0 0 (wQI below args s A D κ ρ 0 z) (F0 m 0 ls []) := by
    intro H locs hH
    refine lv_aload_n hx hb dX8_passedOn_0 rfl (lv_at hl 0 rfl) ?_
    refine wx_evr hC hH hl (c_X8_plainCourse o1 h_o1) y_X8_plainCourse v_X8_plainCourse h_o1 rfl m_X8_144 rfl ⟨Nat.le_of_ble_eq_true rfl, Nat.le_of_ble_eq_true rfl⟩ ⟨Nat.le_refl _, Nat.le_refl _⟩ rfl (Nat.le_of_ble_eq_true rfl) dX8_passedOn_1 hF (fun o6 u5 H locs hF hH => ?_)
    obtain ⟨h_o6, hF⟩ := wG_some hF
    refine lv_pop hx hb dX8_passedOn_4 rfl ?_
    refine lv_iconst hx hb dX8_passedOn_5 k_iconst_1 ?_
    refine lv_iload_n hx hb dX8_passedOn_6 rfl (lv_at hl 1 rfl) ?_
    refine lv_ishl hx hb dX8_passedOn_7 ?_
    refine wx_leti hF (fun i7 hF => ?_)
    refine wx_istore hx hb dX8_passedOn_8 hl (by decide) (fun ls hl => ?_)
    have hl : lv_has ls 6 [(4, .int i7), (0, .ref (ρ o1)), (1, .int i2), (2, .int i3), (3, .int i4)] := hl
    refine lv_iconst hx hb dX8_passedOn_10 k_iconst_0 ?_
    refine wx_istore hx hb dX8_passedOn_11 hl (by decide) (fun ls hl => ?_)
    have hl : lv_has ls 6 [(5, .int (0 : Int32)), (4, .int i7), (0, .ref (ρ o1)), (1, .int i2), (2, .int i3), (3, .int i4)] := hl
    have hL13 : ∀ (k8_ : Nat) (i9 : Int32) (i10 : Int32) (H : Heap) (locs : List Loc) (ls : Array Slot), wL (S := Int32 × Int32) (fun x => F_X8_passedOn_b13 u5 i3 o1 i4 x.1 x.2) k8_ (i9, i10) = some z → wHp D κ ρ 0 A s.heap H locs u5 → lv_has ls 6 [(0, .ref (ρ o1)), (2, .int i3), (3, .int i4), (4, .int i9), (5, .int i10)] → W p l e (wRm 5 120) s m args below meth c H locs 0 0 (wQI below args s A D κ ρ 0 z) (F0 m 13 ls []) := by
      intro k8_
      induction k8_ with
      | zero => intro i9 i10 H locs ls hF; exact wL_zero hF
      | succ k8_ ih8 =>
        intro i9 i10 H locs ls hF hH hl
        obtain ⟨q8_, hF, hq8⟩ := wL_some hF
        have hF : F_X8_passedOn_b13 u5 i3 o1 i4 i9 i10 = some q8_ := hF
        unfold F_X8_passedOn_b13 at hF
        refine lv_iload hx hb dX8_passedOn_13 (lv_at hl 4 rfl) ?_
        refine lv_bipush hx hb dX8_passedOn_15 k_bipush_6 ?_
        refine lv_icmp_ge hx hb dX8_passedOn_17 (tgt := 50) rfl (fun h => ?_) (fun h => ?_)
        · have hF := wx_t h hF
          refine lv_bipush hx hb dX8_passedOn_50 k_bipush_m2 ?_
          have hF := wJ_r hq8 hF
          exact wx_iret hC hH hr hlk dX8_passedOn_52 hF
        have hF := wx_f h hF
        refine lv_iload hx hb dX8_passedOn_20 (lv_at hl 3 rfl) ?_
        refine lv_iload_n hx hb dX8_passedOn_22 rfl (lv_at hl 1 rfl) ?_
        refine lv_ishr hx hb dX8_passedOn_23 ?_
        refine lv_iconst hx hb dX8_passedOn_24 k_iconst_1 ?_
        refine lv_iand hx hb dX8_passedOn_25 ?_
        refine lv_if_eq hx hb dX8_passedOn_26 (tgt := 32) rfl (fun h => ?_) (fun h => ?_)
        · have hF := wx_t h hF
          refine lv_aload_n hx hb dX8_passedOn_32 rfl (lv_at hl 0 rfl) ?_
          refine lv_iload hx hb dX8_passedOn_33 (lv_at hl 3 rfl) ?_
          refine wx_pvi hC hH hl (c_X8_withHearers o1 i9 h_o1) y_X8_withHearers v_X8_withHearers h_o1 rfl m_X8_316 rfl ⟨Nat.le_of_ble_eq_true rfl, Nat.le_of_ble_eq_true rfl⟩ ⟨Nat.le_refl _, Nat.le_refl _⟩ rfl (Nat.le_of_ble_eq_true rfl) dX8_passedOn_35 hF (fun i11 H locs hF hH => ?_)
          refine lv_iload_n hx hb dX8_passedOn_38 rfl (lv_at hl 2 rfl) ?_
          refine lv_iconst hx hb dX8_passedOn_39 k_iconst_m1 ?_
          refine lv_ixor hx hb dX8_passedOn_40 ?_
          refine lv_iand hx hb dX8_passedOn_41 ?_
          refine wx_leti hF (fun i12 hF => ?_)
          refine wx_istore hx hb dX8_passedOn_42 hl (by decide) (fun ls hl => ?_)
          have hl : lv_has ls 6 [(4, .int i12), (0, .ref (ρ o1)), (2, .int i3), (3, .int i4), (5, .int i10)] := hl
          refine wx_iinc hx hb dX8_passedOn_44 k_iconst_1 hl (k := 4) rfl (by decide) hF (fun i13 ls hF hl => ?_)
          have hl : lv_has ls 6 [(5, .int i13), (4, .int i12), (0, .ref (ρ o1)), (2, .int i3), (3, .int i4)] := hl
          refine lv_goto hx hb dX8_passedOn_47 (tgt := 13) rfl ?_
          have hF := wJ_l hq8 hF
          exact ih8 i12 i13 H locs ls hF hH (lv_sub hl [2, 3, 4, 1, 0] rfl)
        have hF := wx_f h hF
        refine lv_iload hx hb dX8_passedOn_29 (lv_at hl 4 rfl) ?_
        have hF := wJ_r hq8 hF
        exact wx_iret hC hH hr hlk dX8_passedOn_31 hF
    exact hL13 wFu i7 (0 : Int32) H locs ls hF hH (lv_sub hl [2, 4, 5, 1, 0] rfl)
  exact key _ _ hH
def F_X8_chain (o1 : Nat) (i2 : Int32) (i3 : Int32) (u0 : wSt) : Option (Int32 × wSt) :=
  wP (F_X8_isThere o1 i2 u0) (fun (i4 : Int32) => if i4 = 0 then (some ((-1 : Int32), u0)) else (wP (F_X8_isThere o1 i3 u0) (fun (i5 : Int32) => if i5 = 0 then (some ((-1 : Int32), u0)) else (wC (F_X8_passedOn o1 i2 i3 (0 : Int32) u0) (fun (i7 : Int32) (u6 : wSt) => some (i7, u6))))))
set_option maxRecDepth 100000 in
set_option maxHeartbeats 4000000 in
theorem c_X8_chain {l : Launch} {D : va_G} {κ : Nat → ClassId} {ρ : Nat → Nat} (o1 : Nat) (i2 : Int32) (i3 : Int32) (h_o1 : (w_sh o1).1 = 8) : wMI l yX8_chain cX8_chain 3 .int (wRm 6 145) [.ref (ρ o1), .int i2, .int i3] D κ ρ 0 (fun u => F_X8_chain o1 i2 i3 u) := by
  refine wMI_of (F := fun u => F_X8_chain o1 i2 i3 u) rfl (Nat.le_of_ble_eq_true rfl) (fun u0 z p e s m args below meth c ls A hF hC hr hlk hH hl => ?_)
  have hl : lv_has ls 3 [(0, .ref (ρ o1)), (1, .int i2), (2, .int i3)] := hl
  have hx := hC.1.1
  have hb := hC.1.2.1
  have hF : F_X8_chain o1 i2 i3 u0 = some z := hF
  unfold F_X8_chain at hF
  change W p l e (wRm 6 145) s m args below meth c s.heap [] 0 0 (wQI below args s A D κ ρ 0 z) (F0 m 0 ls [])
  have key : ∀ (H : Heap) (locs : List Loc), wHp D κ ρ 0 A s.heap H locs u0 → W p l e (wRm 6 145) s m args below meth c H locs 0 0 (wQI below args s A D κ ρ 0 z) (F0 m 0 ls []) := by
    intro H locs hH
    refine lv_aload_n hx hb dX8_chain_0 rfl (lv_at hl 0 rfl) ?_
    refine lv_iload_n hx hb dX8_chain_1 rfl (lv_at hl 1 rfl) ?_
    refine wx_pvi hC hH hl (c_X8_isThere o1 i2 h_o1) y_X8_isThere v_X8_isThere h_o1 rfl m_X8_196 rfl ⟨Nat.le_of_ble_eq_true rfl, Nat.le_of_ble_eq_true rfl⟩ ⟨Nat.le_refl _, Nat.le_refl _⟩ rfl (Nat.le_of_ble_eq_true rfl) dX8_chain_2 hF (fun i4 H locs hF hH => ?_)
    refine lv_if_eq hx hb dX8_chain_5 (tgt := 16) rfl (fun h => ?_) (fun h => ?_)
    · have hF := wx_t h hF
      refine lv_iconst hx hb dX8_chain_16 k_iconst_m1 ?_
      exact wx_iret hC hH hr hlk dX8_chain_17 hF
    have hF := wx_f h hF
    refine lv_aload_n hx hb dX8_chain_8 rfl (lv_at hl 0 rfl) ?_
    refine lv_iload_n hx hb dX8_chain_9 rfl (lv_at hl 2 rfl) ?_
    refine wx_pvi hC hH hl (c_X8_isThere o1 i3 h_o1) y_X8_isThere v_X8_isThere h_o1 rfl m_X8_196 rfl ⟨Nat.le_of_ble_eq_true rfl, Nat.le_of_ble_eq_true rfl⟩ ⟨Nat.le_refl _, Nat.le_refl _⟩ rfl (Nat.le_of_ble_eq_true rfl) dX8_chain_10 hF (fun i5 H locs hF hH => ?_)
    refine lv_if_ne hx hb dX8_chain_13 (tgt := 18) rfl (fun h => ?_) (fun h => ?_)
    · have hF := wx_f h hF
      refine lv_aload_n hx hb dX8_chain_18 rfl (lv_at hl 0 rfl) ?_
      refine lv_iload_n hx hb dX8_chain_19 rfl (lv_at hl 1 rfl) ?_
      refine lv_iload_n hx hb dX8_chain_20 rfl (lv_at hl 2 rfl) ?_
      refine lv_iconst hx hb dX8_chain_21 k_iconst_0 ?_
      refine wx_evi hC hH hl (c_X8_passedOn o1 i2 i3 (0 : Int32) h_o1) y_X8_passedOn v_X8_passedOn h_o1 rfl m_X8_312 rfl ⟨Nat.le_of_ble_eq_true rfl, Nat.le_of_ble_eq_true rfl⟩ ⟨Nat.le_refl _, Nat.le_refl _⟩ rfl (Nat.le_of_ble_eq_true rfl) dX8_chain_22 hF (fun i7 u6 H locs hF hH => ?_)
      exact wx_iret hC hH hr hlk dX8_chain_25 hF
    have hF := wx_t h hF
    refine lv_iconst hx hb dX8_chain_16 k_iconst_m1 ?_
    exact wx_iret hC hH hr hlk dX8_chain_17 hF
  exact key _ _ hH
def F_X8_part_j113 (i13 : Int32) (i19 : Int32) (u20 : wSt) : Option ((Int32 × Int32 × wSt) ⊕ (Int32 × wSt)) :=
  wB (i13 + (1 : Int32)) (fun (i21 : Int32) => some (.inl (i19, i21, u20)))
def F_X8_part_j81 (i12 : Int32) (u14 : wSt) (i13 : Int32) (o1 : Nat) (i2 : Int32) (i3 : Int32) (i17 : Int32) : Option ((Int32 × Int32 × wSt) ⊕ (Int32 × wSt)) :=
  wJ (X := Int32 × wSt) (if i17 = 0 then (some (.inl (i12, u14))) else (wP (F_X8_isFewer i13 i12 u14) (fun (i22 : Int32) => if i22 = 0 then (some (.inl (i12, u14))) else (wC (F_X8_passedOn o1 i2 i3 i13 u14) (fun (i24 : Int32) (u23 : wSt) => if i24 = (-2 : Int32) then (some (.inl (i13, u23))) else (some (.inl (i12, u23)))))))) (fun x => F_X8_part_j113 i13 x.1 x.2)
def F_X8_part_b52 (o1 : Nat) (i10 : Int32) (i2 : Int32) (i3 : Int32) (i12 : Int32) (i13 : Int32) (u14 : wSt) : Option ((Int32 × Int32 × wSt) ⊕ (Int32 × wSt)) :=
  wR (u14.2.2 o1 2) 6 (fun o15 => if ((1 : Int32) <<< ((u14.1 o15 1) &&& 31)) ≤ i13 then (some (.inr (i12, u14))) else (wJ (X := Int32) (if (i13 &&& (i10 ^^^ (-1 : Int32))) = 0 then (some (.inl (1 : Int32))) else (some (.inl (0 : Int32)))) (fun x => F_X8_part_j81 i12 u14 i13 o1 i2 i3 x)))
def F_X8_part (o1 : Nat) (i2 : Int32) (i3 : Int32) (u0 : wSt) : Option (Int32 × wSt) :=
  wP (F_X8_isThere o1 i2 u0) (fun (i4 : Int32) => if i4 = 0 then (some ((-1 : Int32), u0)) else (wP (F_X8_isThere o1 i3 u0) (fun (i5 : Int32) => if i5 = 0 then (some ((-1 : Int32), u0)) else (if i2 = i3 then (some ((-1 : Int32), u0)) else (wC (F_X8_plainCourse o1 u0) (fun (o7 : Nat) (u6 : wSt) => wG ((w_sh o7).1 = 0) (wR (u6.2.2 o1 5) 3 (fun o8 => wP (F_X0_sitting o7 o8 u6) (fun (i9 : Int32) => wB (i9 &&& ((((1 : Int32) <<< (i2 &&& 31)) ||| ((1 : Int32) <<< (i3 &&& 31))) ^^^ (-1 : Int32))) (fun (i10 : Int32) => wL (S := Int32 × Int32 × wSt) (fun x => F_X8_part_b52 o1 i10 i2 i3 x.1 x.2.1 x.2.2) wFu ((-2 : Int32), (0 : Int32), u6)))))))))))
set_option maxRecDepth 100000 in
set_option maxHeartbeats 4000000 in
theorem c_X8_part {l : Launch} {D : va_G} {κ : Nat → ClassId} {ρ : Nat → Nat} (o1 : Nat) (i2 : Int32) (i3 : Int32) (h_o1 : (w_sh o1).1 = 8) : wMI l yX8_part cX8_part 7 .int (wRm 6 145) [.ref (ρ o1), .int i2, .int i3] D κ ρ 0 (fun u => F_X8_part o1 i2 i3 u) := by
  refine wMI_of (F := fun u => F_X8_part o1 i2 i3 u) rfl (Nat.le_of_ble_eq_true rfl) (fun u0 z p e s m args below meth c ls A hF hC hr hlk hH hl => ?_)
  have hl : lv_has ls 7 [(0, .ref (ρ o1)), (1, .int i2), (2, .int i3)] := hl
  have hx := hC.1.1
  have hb := hC.1.2.1
  have hF : F_X8_part o1 i2 i3 u0 = some z := hF
  unfold F_X8_part at hF
  change W p l e (wRm 6 145) s m args below meth c s.heap [] 0 0 (wQI below args s A D κ ρ 0 z) (F0 m 0 ls [])
  have key : ∀ (H : Heap) (locs : List Loc), wHp D κ ρ 0 A s.heap H locs u0 → W p l e (wRm 6 145) s m args below meth c H locs 0 0 (wQI below args s A D κ ρ 0 z) (F0 m 0 ls []) := by
    intro H locs hH
    refine lv_aload_n hx hb dX8_part_0 rfl (lv_at hl 0 rfl) ?_
    refine lv_iload_n hx hb dX8_part_1 rfl (lv_at hl 1 rfl) ?_
    refine wx_pvi hC hH hl (c_X8_isThere o1 i2 h_o1) y_X8_isThere v_X8_isThere h_o1 rfl m_X8_196 rfl ⟨Nat.le_of_ble_eq_true rfl, Nat.le_of_ble_eq_true rfl⟩ ⟨Nat.le_refl _, Nat.le_refl _⟩ rfl (Nat.le_of_ble_eq_true rfl) dX8_part_2 hF (fun i4 H locs hF hH => ?_)
    refine lv_if_eq hx hb dX8_part_5 (tgt := 21) rfl (fun h => ?_) (fun h => ?_)
    · have hF := wx_t h hF
      refine lv_iconst hx hb dX8_part_21 k_iconst_m1 ?_
      exact wx_iret hC hH hr hlk dX8_part_22 hF
    have hF := wx_f h hF
    refine lv_aload_n hx hb dX8_part_8 rfl (lv_at hl 0 rfl) ?_
    refine lv_iload_n hx hb dX8_part_9 rfl (lv_at hl 2 rfl) ?_
    refine wx_pvi hC hH hl (c_X8_isThere o1 i3 h_o1) y_X8_isThere v_X8_isThere h_o1 rfl m_X8_196 rfl ⟨Nat.le_of_ble_eq_true rfl, Nat.le_of_ble_eq_true rfl⟩ ⟨Nat.le_refl _, Nat.le_refl _⟩ rfl (Nat.le_of_ble_eq_true rfl) dX8_part_10 hF (fun i5 H locs hF hH => ?_)
    refine lv_if_eq hx hb dX8_part_13 (tgt := 21) rfl (fun h => ?_) (fun h => ?_)
    · have hF := wx_t h hF
      refine lv_iconst hx hb dX8_part_21 k_iconst_m1 ?_
      exact wx_iret hC hH hr hlk dX8_part_22 hF
    have hF := wx_f h hF
    refine lv_iload_n hx hb dX8_part_16 rfl (lv_at hl 1 rfl) ?_
    refine lv_iload_n hx hb dX8_part_17 rfl (lv_at hl 2 rfl) ?_
    refine lv_icmp_ne hx hb dX8_part_18 (tgt := 23) rfl (fun h => ?_) (fun h => ?_)
    · have hF := wx_f h hF
      refine lv_bipush hx hb dX8_part_23 k_bipush_m2 ?_
      refine wx_istore_n hx hb dX8_part_25 rfl hl (by decide) (fun ls hl => ?_)
      have hl : lv_has ls 7 [(3, .int (-2 : Int32)), (0, .ref (ρ o1)), (1, .int i2), (2, .int i3)] := hl
      refine lv_aload_n hx hb dX8_part_26 rfl (lv_at hl 1 rfl) ?_
      refine wx_evr hC hH hl (c_X8_plainCourse o1 h_o1) y_X8_plainCourse v_X8_plainCourse h_o1 rfl m_X8_144 rfl ⟨Nat.le_of_ble_eq_true rfl, Nat.le_of_ble_eq_true rfl⟩ ⟨Nat.le_refl _, Nat.le_refl _⟩ rfl (Nat.le_of_ble_eq_true rfl) dX8_part_27 hF (fun o7 u6 H locs hF hH => ?_)
      obtain ⟨h_o7, hF⟩ := wG_some hF
      refine lv_aload_n hx hb dX8_part_30 rfl (lv_at hl 1 rfl) ?_
      refine wx_getR hC hH h_o1 rfl f_X8_41 dX8_part_31 hF (fun o8 h_o8 hF => ?_)
      refine wx_pvi hC hH hl (c_X0_sitting o7 o8 h_o7 h_o8) y_X0_sitting v_X0_sitting h_o7 rfl m_X8_257 rfl ⟨Nat.le_of_ble_eq_true rfl, Nat.le_of_ble_eq_true rfl⟩ ⟨Nat.le_refl _, Nat.le_refl _⟩ rfl (Nat.le_of_ble_eq_true rfl) dX8_part_34 hF (fun i9 H locs hF hH => ?_)
      refine lv_iconst hx hb dX8_part_37 k_iconst_1 ?_
      refine lv_iload_n hx hb dX8_part_38 rfl (lv_at hl 2 rfl) ?_
      refine lv_ishl hx hb dX8_part_39 ?_
      refine lv_iconst hx hb dX8_part_40 k_iconst_1 ?_
      refine lv_iload_n hx hb dX8_part_41 rfl (lv_at hl 3 rfl) ?_
      refine lv_ishl hx hb dX8_part_42 ?_
      refine lv_ior hx hb dX8_part_43 ?_
      refine lv_iconst hx hb dX8_part_44 k_iconst_m1 ?_
      refine lv_ixor hx hb dX8_part_45 ?_
      refine lv_iand hx hb dX8_part_46 ?_
      refine wx_leti hF (fun i10 hF => ?_)
      refine wx_istore hx hb dX8_part_47 hl (by decide) (fun ls hl => ?_)
      have hl : lv_has ls 7 [(4, .int i10), (3, .int (-2 : Int32)), (0, .ref (ρ o1)), (1, .int i2), (2, .int i3)] := hl
      refine lv_iconst hx hb dX8_part_49 k_iconst_0 ?_
      refine wx_istore hx hb dX8_part_50 hl (by decide) (fun ls hl => ?_)
      have hl : lv_has ls 7 [(5, .int (0 : Int32)), (4, .int i10), (3, .int (-2 : Int32)), (0, .ref (ρ o1)), (1, .int i2), (2, .int i3)] := hl
      have hL52 : ∀ (k11_ : Nat) (i12 : Int32) (i13 : Int32) (u14 : wSt) (H : Heap) (locs : List Loc) (ls : Array Slot), wL (S := Int32 × Int32 × wSt) (fun x => F_X8_part_b52 o1 i10 i2 i3 x.1 x.2.1 x.2.2) k11_ (i12, i13, u14) = some z → wHp D κ ρ 0 A s.heap H locs u14 → lv_has ls 7 [(0, .ref (ρ o1)), (1, .int i2), (2, .int i3), (3, .int i12), (4, .int i10), (5, .int i13)] → W p l e (wRm 6 145) s m args below meth c H locs 0 0 (wQI below args s A D κ ρ 0 z) (F0 m 52 ls []) := by
        intro k11_
        induction k11_ with
        | zero => intro i12 i13 u14 H locs ls hF; exact wL_zero hF
        | succ k11_ ih11 =>
          intro i12 i13 u14 H locs ls hF hH hl
          obtain ⟨q11_, hF, hq11⟩ := wL_some hF
          have hF : F_X8_part_b52 o1 i10 i2 i3 i12 i13 u14 = some q11_ := hF
          unfold F_X8_part_b52 at hF
          refine lv_iload hx hb dX8_part_52 (lv_at hl 5 rfl) ?_
          refine lv_iconst hx hb dX8_part_54 k_iconst_1 ?_
          refine lv_aload_n hx hb dX8_part_55 rfl (lv_at hl 0 rfl) ?_
          refine wx_getR hC hH h_o1 rfl f_X8_22 dX8_part_56 hF (fun o15 h_o15 hF => ?_)
          refine wx_getI hC hH h_o15 rfl f_X8_235 dX8_part_59 ?_
          refine lv_ishl hx hb dX8_part_62 ?_
          refine lv_icmp_ge hx hb dX8_part_63 (tgt := 119) rfl (fun h => ?_) (fun h => ?_)
          · have hF := wx_t h hF
            refine lv_iload_n hx hb dX8_part_119 rfl (lv_at hl 3 rfl) ?_
            have hF := wJ_r hq11 hF
            exact wx_iret hC hH hr hlk dX8_part_120 hF
          have hF := wx_f h hF
          refine lv_iload hx hb dX8_part_66 (lv_at hl 5 rfl) ?_
          refine lv_iload hx hb dX8_part_68 (lv_at hl 4 rfl) ?_
          refine lv_iconst hx hb dX8_part_70 k_iconst_m1 ?_
          refine lv_ixor hx hb dX8_part_71 ?_
          refine lv_iand hx hb dX8_part_72 ?_
          obtain ⟨q16_, hF, hq16⟩ := wJ_some hF
          have hJ81 : ∀ (i17 : Int32) (H : Heap) (locs : List Loc) (ls : Array Slot), F_X8_part_j81 i12 u14 i13 o1 i2 i3 i17 = some q11_ → wHp D κ ρ 0 A s.heap H locs u14 → lv_has ls 7 [(0, .ref (ρ o1)), (1, .int i2), (2, .int i3), (3, .int i12), (4, .int i10), (5, .int i13)] → W p l e (wRm 6 145) s m args below meth c H locs 0 0 (wQI below args s A D κ ρ 0 z) (F0 m 81 ls [.int i17]) := by
            intro i17 H locs ls hF hH hl
            unfold F_X8_part_j81 at hF
            refine wx_istore hx hb dX8_part_81 hl (by decide) (fun ls hl => ?_)
            have hl : lv_has ls 7 [(6, .int i17), (0, .ref (ρ o1)), (1, .int i2), (2, .int i3), (3, .int i12), (4, .int i10), (5, .int i13)] := hl
            refine lv_iload hx hb dX8_part_83 (lv_at hl 0 rfl) ?_
            obtain ⟨q18_, hF, hq18⟩ := wJ_some hF
            have hJ113 : ∀ (i19 : Int32) (u20 : wSt) (H : Heap) (locs : List Loc) (ls : Array Slot), F_X8_part_j113 i13 i19 u20 = some q11_ → wHp D κ ρ 0 A s.heap H locs u20 → lv_has ls 7 [(0, .ref (ρ o1)), (1, .int i2), (2, .int i3), (3, .int i19), (4, .int i10), (5, .int i13)] → W p l e (wRm 6 145) s m args below meth c H locs 0 0 (wQI below args s A D κ ρ 0 z) (F0 m 113 ls []) := by
              intro i19 u20 H locs ls hF hH hl
              unfold F_X8_part_j113 at hF
              refine wx_iinc hx hb dX8_part_113 k_iconst_1 hl (k := 5) rfl (by decide) hF (fun i21 ls hF hl => ?_)
              have hl : lv_has ls 7 [(5, .int i21), (0, .ref (ρ o1)), (1, .int i2), (2, .int i3), (3, .int i19), (4, .int i10)] := hl
              refine lv_goto hx hb dX8_part_116 (tgt := 52) rfl ?_
              have hF := wJ_l hq11 hF
              exact ih11 i19 i21 u20 H locs ls hF hH (lv_sub hl [1, 2, 3, 4, 5, 0] rfl)
            refine lv_if_eq hx hb dX8_part_85 (tgt := 113) rfl (fun h => ?_) (fun h => ?_)
            · have hF := wx_t h hF
              have hF := wJ_l hq18 hF
              exact hJ113 i12 u14 H locs ls hF hH (lv_sub hl [1, 2, 3, 4, 5, 6] rfl)
            have hF := wx_f h hF
            refine lv_iload hx hb dX8_part_88 (lv_at hl 6 rfl) ?_
            refine lv_iload_n hx hb dX8_part_90 rfl (lv_at hl 4 rfl) ?_
            refine wx_psi hC hH hl (c_X8_isFewer i13 i12) y_X8_isFewer v_X8_isFewer m_X8_260 rfl ⟨Nat.le_of_ble_eq_true rfl, Nat.le_of_ble_eq_true rfl⟩ ⟨Nat.le_refl _, Nat.le_refl _⟩ rfl (Nat.le_of_ble_eq_true rfl) dX8_part_91 hF (fun i22 H locs hF hH => ?_)
            refine lv_if_eq hx hb dX8_part_94 (tgt := 113) rfl (fun h => ?_) (fun h => ?_)
            · have hF := wx_t h hF
              have hF := wJ_l hq18 hF
              exact hJ113 i12 u14 H locs ls hF hH (lv_sub hl [1, 2, 3, 4, 5, 6] rfl)
            have hF := wx_f h hF
            refine lv_aload_n hx hb dX8_part_97 rfl (lv_at hl 1 rfl) ?_
            refine lv_iload_n hx hb dX8_part_98 rfl (lv_at hl 2 rfl) ?_
            refine lv_iload_n hx hb dX8_part_99 rfl (lv_at hl 3 rfl) ?_
            refine lv_iload hx hb dX8_part_100 (lv_at hl 6 rfl) ?_
            refine wx_evi hC hH hl (c_X8_passedOn o1 i2 i3 i13 h_o1) y_X8_passedOn v_X8_passedOn h_o1 rfl m_X8_312 rfl ⟨Nat.le_of_ble_eq_true rfl, Nat.le_of_ble_eq_true rfl⟩ ⟨Nat.le_refl _, Nat.le_refl _⟩ rfl (Nat.le_of_ble_eq_true rfl) dX8_part_102 hF (fun i24 u23 H locs hF hH => ?_)
            refine lv_bipush hx hb dX8_part_105 k_bipush_m2 ?_
            refine lv_icmp_ne hx hb dX8_part_107 (tgt := 113) rfl (fun h => ?_) (fun h => ?_)
            · have hF := wx_f h hF
              have hF := wJ_l hq18 hF
              exact hJ113 i12 u23 H locs ls hF hH (lv_sub hl [1, 2, 3, 4, 5, 6] rfl)
            have hF := wx_t h hF
            refine lv_iload hx hb dX8_part_110 (lv_at hl 6 rfl) ?_
            refine wx_istore_n hx hb dX8_part_112 rfl hl (by decide) (fun ls hl => ?_)
            have hl : lv_has ls 7 [(3, .int i13), (6, .int i17), (0, .ref (ρ o1)), (1, .int i2), (2, .int i3), (4, .int i10), (5, .int i13)] := hl
            have hF := wJ_l hq18 hF
            exact hJ113 i13 u23 H locs ls hF hH (lv_sub hl [2, 3, 4, 0, 5, 6] rfl)
          refine lv_if_ne hx hb dX8_part_73 (tgt := 80) rfl (fun h => ?_) (fun h => ?_)
          · have hF := wx_f h hF
            refine lv_iconst hx hb dX8_part_80 k_iconst_0 ?_
            have hF := wJ_l hq16 hF
            exact hJ81 (0 : Int32) H locs ls hF hH (lv_sub hl [0, 1, 2, 3, 4, 5] rfl)
          have hF := wx_t h hF
          refine lv_iconst hx hb dX8_part_76 k_iconst_1 ?_
          refine lv_goto hx hb dX8_part_77 (tgt := 81) rfl ?_
          have hF := wJ_l hq16 hF
          exact hJ81 (1 : Int32) H locs ls hF hH (lv_sub hl [0, 1, 2, 3, 4, 5] rfl)
      exact hL52 wFu (-2 : Int32) (0 : Int32) u6 H locs ls hF hH (lv_sub hl [3, 4, 5, 2, 1, 0] rfl)
    have hF := wx_t h hF
    refine lv_iconst hx hb dX8_part_21 k_iconst_m1 ?_
    exact wx_iret hC hH hr hlk dX8_part_22 hF
  exact key _ _ hH
def F_X8_rudest_j56 (i4 : Int32) (i9 : Int32) : Option ((Int32 × Int32) ⊕ Int32) :=
  wB (i4 + (1 : Int32)) (fun (i10 : Int32) => some (.inl (i9, i10)))
def F_X8_rudest_j54 (i4 : Int32) : Option ((Int32) ⊕ ((Int32 × Int32) ⊕ Int32)) :=
  some (.inl i4)
def F_X8_rudest_b5 (u0 : wSt) (o1 : Nat) (i3 : Int32) (i4 : Int32) : Option ((Int32 × Int32) ⊕ Int32) :=
  wR (u0.2.2 o1 2) 6 (fun o5 => if (u0.1 o5 1) ≤ i4 then (some (.inr (i3))) else (wR (u0.2.2 o1 5) 3 (fun o6 => wP (F_X3_hasFainted o6 i4 u0) (fun (i7 : Int32) => wJ (X := Int32) (if i7 = 0 then (wJ (X := Unit) (if i3 = (-2 : Int32) then (some (.inl ())) else (wR (u0.2.2 o1 5) 3 (fun o12 => wR (u0.2.2 o12 5) 10 (fun o13 => wN i4 o13 (fun j14 => wR (u0.2.2 o1 5) 3 (fun o15 => wR (u0.2.2 o15 5) 10 (fun o16 => wN i3 o16 (fun j17 => if (u0.1 o16 j17) ≤ (u0.1 o13 j14) then (some (.inr (.inl i3))) else (some (.inl ())))))))))) (fun x => F_X8_rudest_j54 i4)) else (some (.inl i3))) (fun x => F_X8_rudest_j56 i4 x)))))
def F_X8_rudest (o1 : Nat) (u0 : wSt) : Option Int32 :=
  wL (S := Int32 × Int32) (fun x => F_X8_rudest_b5 u0 o1 x.1 x.2) wFu ((-2 : Int32), (0 : Int32))
set_option maxRecDepth 100000 in
set_option maxHeartbeats 4000000 in
theorem c_X8_rudest {l : Launch} {D : va_G} {κ : Nat → ClassId} {ρ : Nat → Nat} (o1 : Nat) (h_o1 : (w_sh o1).1 = 8) : wMI l yX8_rudest cX8_rudest 3 .int (wRm 1 21) [.ref (ρ o1)] D κ ρ 0 (fun u => wPu (F_X8_rudest o1 u) u) := by
  refine wMP_of (F := fun u => F_X8_rudest o1 u) rfl (Nat.le_of_ble_eq_true rfl) (fun u0 z p e s m args below meth c ls A hF hC hr hlk hH hl => ?_)
  have hl : lv_has ls 3 [(0, .ref (ρ o1))] := hl
  have hx := hC.1.1
  have hb := hC.1.2.1
  have hF : F_X8_rudest o1 u0 = some z := hF
  unfold F_X8_rudest at hF
  change W p l e (wRm 1 21) s m args below meth c s.heap [] 0 0 (wQI below args s A D κ ρ 0 (z, u0)) (F0 m 0 ls [])
  have key : ∀ (H : Heap) (locs : List Loc), wHp D κ ρ 0 A s.heap H locs u0 → W p l e (wRm 1 21) s m args below meth c H locs 0 0 (wQI below args s A D κ ρ 0 (z, u0)) (F0 m 0 ls []) := by
    intro H locs hH
    refine lv_bipush hx hb dX8_rudest_0 k_bipush_m2 ?_
    refine wx_istore_n hx hb dX8_rudest_2 rfl hl (by decide) (fun ls hl => ?_)
    have hl : lv_has ls 3 [(1, .int (-2 : Int32)), (0, .ref (ρ o1))] := hl
    refine lv_iconst hx hb dX8_rudest_3 k_iconst_0 ?_
    refine wx_istore_n hx hb dX8_rudest_4 rfl hl (by decide) (fun ls hl => ?_)
    have hl : lv_has ls 3 [(2, .int (0 : Int32)), (1, .int (-2 : Int32)), (0, .ref (ρ o1))] := hl
    have hL5 : ∀ (k2_ : Nat) (i3 : Int32) (i4 : Int32) (H : Heap) (locs : List Loc) (ls : Array Slot), wL (S := Int32 × Int32) (fun x => F_X8_rudest_b5 u0 o1 x.1 x.2) k2_ (i3, i4) = some z → wHp D κ ρ 0 A s.heap H locs u0 → lv_has ls 3 [(0, .ref (ρ o1)), (1, .int i3), (2, .int i4)] → W p l e (wRm 1 21) s m args below meth c H locs 0 0 (wQI below args s A D κ ρ 0 (z, u0)) (F0 m 5 ls []) := by
      intro k2_
      induction k2_ with
      | zero => intro i3 i4 H locs ls hF; exact wL_zero hF
      | succ k2_ ih2 =>
        intro i3 i4 H locs ls hF hH hl
        obtain ⟨q2_, hF, hq2⟩ := wL_some hF
        have hF : F_X8_rudest_b5 u0 o1 i3 i4 = some q2_ := hF
        unfold F_X8_rudest_b5 at hF
        refine lv_iload_n hx hb dX8_rudest_5 rfl (lv_at hl 2 rfl) ?_
        refine lv_aload_n hx hb dX8_rudest_6 rfl (lv_at hl 0 rfl) ?_
        refine wx_getR hC hH h_o1 rfl f_X8_22 dX8_rudest_7 hF (fun o5 h_o5 hF => ?_)
        refine wx_getI hC hH h_o5 rfl f_X8_235 dX8_rudest_10 ?_
        refine lv_icmp_ge hx hb dX8_rudest_13 (tgt := 62) rfl (fun h => ?_) (fun h => ?_)
        · have hF := wx_t h hF
          refine lv_iload_n hx hb dX8_rudest_62 rfl (lv_at hl 1 rfl) ?_
          have hF := wJ_r hq2 hF
          exact wx_iret hC hH hr hlk dX8_rudest_63 (wx_pr hF)
        have hF := wx_f h hF
        refine lv_aload_n hx hb dX8_rudest_16 rfl (lv_at hl 0 rfl) ?_
        refine wx_getR hC hH h_o1 rfl f_X8_41 dX8_rudest_17 hF (fun o6 h_o6 hF => ?_)
        refine lv_iload_n hx hb dX8_rudest_20 rfl (lv_at hl 2 rfl) ?_
        refine wx_pvi hC hH hl (c_X3_hasFainted o6 i4 h_o6) y_X3_hasFainted v_X3_hasFainted h_o6 rfl m_X8_141 rfl ⟨Nat.le_of_ble_eq_true rfl, Nat.le_of_ble_eq_true rfl⟩ ⟨Nat.le_refl _, Nat.le_refl _⟩ rfl (Nat.le_of_ble_eq_true rfl) dX8_rudest_21 hF (fun i7 H locs hF hH => ?_)
        obtain ⟨q8_, hF, hq8⟩ := wJ_some hF
        have hJ56 : ∀ (i9 : Int32) (H : Heap) (locs : List Loc) (ls : Array Slot), F_X8_rudest_j56 i4 i9 = some q2_ → wHp D κ ρ 0 A s.heap H locs u0 → lv_has ls 3 [(0, .ref (ρ o1)), (1, .int i9), (2, .int i4)] → W p l e (wRm 1 21) s m args below meth c H locs 0 0 (wQI below args s A D κ ρ 0 (z, u0)) (F0 m 56 ls []) := by
          intro i9 H locs ls hF hH hl
          unfold F_X8_rudest_j56 at hF
          refine wx_iinc hx hb dX8_rudest_56 k_iconst_1 hl (k := 2) rfl (by decide) hF (fun i10 ls hF hl => ?_)
          have hl : lv_has ls 3 [(2, .int i10), (0, .ref (ρ o1)), (1, .int i9)] := hl
          refine lv_goto hx hb dX8_rudest_59 (tgt := 5) rfl ?_
          have hF := wJ_l hq2 hF
          exact ih2 i9 i10 H locs ls hF hH (lv_sub hl [1, 2, 0] rfl)
        refine lv_if_ne hx hb dX8_rudest_24 (tgt := 56) rfl (fun h => ?_) (fun h => ?_)
        · have hF := wx_f h hF
          have hF := wJ_l hq8 hF
          exact hJ56 i3 H locs ls hF hH (lv_sub hl [0, 1, 2] rfl)
        have hF := wx_t h hF
        refine lv_iload_n hx hb dX8_rudest_27 rfl (lv_at hl 1 rfl) ?_
        refine lv_bipush hx hb dX8_rudest_28 k_bipush_m2 ?_
        obtain ⟨q11_, hF, hq11⟩ := wJ_some hF
        have hJ54 : ∀ (H : Heap) (locs : List Loc) (ls : Array Slot), F_X8_rudest_j54 i4 = some q8_ → wHp D κ ρ 0 A s.heap H locs u0 → lv_has ls 3 [(0, .ref (ρ o1)), (2, .int i4)] → W p l e (wRm 1 21) s m args below meth c H locs 0 0 (wQI below args s A D κ ρ 0 (z, u0)) (F0 m 54 ls []) := by
          intro H locs ls hF hH hl
          unfold F_X8_rudest_j54 at hF
          refine lv_iload_n hx hb dX8_rudest_54 rfl (lv_at hl 1 rfl) ?_
          refine wx_istore_n hx hb dX8_rudest_55 rfl hl (by decide) (fun ls hl => ?_)
          have hl : lv_has ls 3 [(1, .int i4), (0, .ref (ρ o1)), (2, .int i4)] := hl
          have hF := wJ_l hq8 hF
          exact hJ56 i4 H locs ls hF hH (lv_sub hl [1, 0, 2] rfl)
        refine lv_icmp_eq hx hb dX8_rudest_30 (tgt := 54) rfl (fun h => ?_) (fun h => ?_)
        · have hF := wx_t h hF
          have hF := wJ_l hq11 hF
          exact hJ54 H locs ls hF hH (lv_sub hl [0, 2] rfl)
        have hF := wx_f h hF
        refine lv_aload_n hx hb dX8_rudest_33 rfl (lv_at hl 0 rfl) ?_
        refine wx_getR hC hH h_o1 rfl f_X8_41 dX8_rudest_34 hF (fun o12 h_o12 hF => ?_)
        refine wx_getR hC hH h_o12 rfl f_X8_129 dX8_rudest_37 hF (fun o13 h_o13 hF => ?_)
        refine lv_iload_n hx hb dX8_rudest_40 rfl (lv_at hl 2 rfl) ?_
        refine wx_iald hC hH h_o13 ⟨rfl, rfl⟩ dX8_rudest_41 hF (fun j14 hF => ?_)
        refine lv_aload_n hx hb dX8_rudest_42 rfl (lv_at hl 0 rfl) ?_
        refine wx_getR hC hH h_o1 rfl f_X8_41 dX8_rudest_43 hF (fun o15 h_o15 hF => ?_)
        refine wx_getR hC hH h_o15 rfl f_X8_129 dX8_rudest_46 hF (fun o16 h_o16 hF => ?_)
        refine lv_iload_n hx hb dX8_rudest_49 rfl (lv_at hl 1 rfl) ?_
        refine wx_iald hC hH h_o16 ⟨rfl, rfl⟩ dX8_rudest_50 hF (fun j17 hF => ?_)
        refine lv_icmp_ge hx hb dX8_rudest_51 (tgt := 56) rfl (fun h => ?_) (fun h => ?_)
        · have hF := wx_t h hF
          have hF := wJ_r hq11 hF
          have hF := wJ_l hq8 hF
          exact hJ56 i3 H locs ls hF hH (lv_sub hl [0, 1, 2] rfl)
        have hF := wx_f h hF
        have hF := wJ_l hq11 hF
        exact hJ54 H locs ls hF hH (lv_sub hl [0, 2] rfl)
    exact hL5 wFu (-2 : Int32) (0 : Int32) H locs ls hF hH (lv_sub hl [2, 1, 0] rfl)
  exact key _ _ hH
def F_X8_grace_j67 (i9 : Int32) (i14 : Int32) : Option ((Int32 × Int32) ⊕ (Int32 × wSt)) :=
  wB (i9 + (1 : Int32)) (fun (i15 : Int32) => some (.inl (i14, i15)))
def F_X8_grace_b33 (u6 : wSt) (o1 : Nat) (i8 : Int32) (i9 : Int32) : Option ((Int32 × Int32) ⊕ (Int32 × wSt)) :=
  wR (u6.2.2 o1 2) 6 (fun o10 => if (u6.1 o10 1) ≤ i9 then (some (.inr (i8, u6))) else (wR (u6.2.2 o1 7) 3 (fun o11 => wP (F_X3_hasFainted o11 i9 u6) (fun (i12 : Int32) => wJ (X := Int32) (if i12 = 0 then (wR (u6.2.2 o1 7) 3 (fun o16 => wR (u6.2.2 o16 5) 10 (fun o17 => wN i9 o17 (fun j18 => wB (i8 + (u6.1 o17 j18)) (fun (i19 : Int32) => some (.inl i19)))))) else (some (.inl i8))) (fun x => F_X8_grace_j67 i9 x)))))
def F_X8_grace (o1 : Nat) (i2 : Int32) (u0 : wSt) : Option (Int32 × wSt) :=
  if i2 < 0 then (some ((-1 : Int32), u0)) else (if i2 ≤ (200 : Int32) then (wC (F_X8_startTrial o1 u0) (fun _ (u3 : wSt) => wR (u3.2.2 o1 9) 0 (fun o4 => wR (u3.2.2 o1 7) 3 (fun o5 => wC (F_X0_run o4 o5 i2 u3) (fun _ (u6 : wSt) => wL (S := Int32 × Int32) (fun x => F_X8_grace_b33 u6 o1 x.1 x.2) wFu ((0 : Int32), (0 : Int32))))))) else (some ((-1 : Int32), u0)))
set_option maxRecDepth 100000 in
set_option maxHeartbeats 4000000 in
theorem c_X8_grace {l : Launch} {D : va_G} {κ : Nat → ClassId} {ρ : Nat → Nat} (o1 : Nat) (i2 : Int32) (h_o1 : (w_sh o1).1 = 8) : wMI l yX8_grace cX8_grace 4 .int (wRm 7 178) [.ref (ρ o1), .int i2] D κ ρ 0 (fun u => F_X8_grace o1 i2 u) := by
  refine wMI_of (F := fun u => F_X8_grace o1 i2 u) rfl (Nat.le_of_ble_eq_true rfl) (fun u0 z p e s m args below meth c ls A hF hC hr hlk hH hl => ?_)
  have hl : lv_has ls 4 [(0, .ref (ρ o1)), (1, .int i2)] := hl
  have hx := hC.1.1
  have hb := hC.1.2.1
  have hF : F_X8_grace o1 i2 u0 = some z := hF
  unfold F_X8_grace at hF
  change W p l e (wRm 7 178) s m args below meth c s.heap [] 0 0 (wQI below args s A D κ ρ 0 z) (F0 m 0 ls [])
  have key : ∀ (H : Heap) (locs : List Loc), wHp D κ ρ 0 A s.heap H locs u0 → W p l e (wRm 7 178) s m args below meth c H locs 0 0 (wQI below args s A D κ ρ 0 z) (F0 m 0 ls []) := by
    intro H locs hH
    refine lv_iload_n hx hb dX8_grace_0 rfl (lv_at hl 1 rfl) ?_
    refine lv_if_lt hx hb dX8_grace_1 (tgt := 11) rfl (fun h => ?_) (fun h => ?_)
    · have hF := wx_t h hF
      refine lv_iconst hx hb dX8_grace_11 k_iconst_m1 ?_
      exact wx_iret hC hH hr hlk dX8_grace_12 hF
    have hF := wx_f h hF
    refine lv_iload_n hx hb dX8_grace_4 rfl (lv_at hl 1 rfl) ?_
    refine lv_sipush hx hb dX8_grace_5 k_sipush_200 ?_
    refine lv_icmp_le hx hb dX8_grace_8 (tgt := 13) rfl (fun h => ?_) (fun h => ?_)
    · have hF := wx_t h hF
      refine lv_aload_n hx hb dX8_grace_13 rfl (lv_at hl 0 rfl) ?_
      refine wx_evv hC hH hl (c_X8_startTrial o1 h_o1) y_X8_startTrial v_X8_startTrial h_o1 rfl m_X8_218 rfl ⟨Nat.le_of_ble_eq_true rfl, Nat.le_of_ble_eq_true rfl⟩ ⟨Nat.le_refl _, Nat.le_refl _⟩ rfl (Nat.le_of_ble_eq_true rfl) dX8_grace_14 hF (fun _ u3 H locs hF hH => ?_)
      refine lv_aload_n hx hb dX8_grace_17 rfl (lv_at hl 0 rfl) ?_
      refine wx_getR hC hH h_o1 rfl f_X8_60 dX8_grace_18 hF (fun o4 h_o4 hF => ?_)
      refine lv_aload_n hx hb dX8_grace_21 rfl (lv_at hl 0 rfl) ?_
      refine wx_getR hC hH h_o1 rfl f_X8_48 dX8_grace_22 hF (fun o5 h_o5 hF => ?_)
      refine lv_iload_n hx hb dX8_grace_25 rfl (lv_at hl 1 rfl) ?_
      refine wx_evv hC hH hl (c_X0_run o4 o5 i2 h_o4 h_o5) y_X0_run v_X0_run h_o4 rfl m_X8_214 rfl ⟨Nat.le_of_ble_eq_true rfl, Nat.le_of_ble_eq_true rfl⟩ ⟨Nat.le_refl _, Nat.le_refl _⟩ rfl (Nat.le_of_ble_eq_true rfl) dX8_grace_26 hF (fun _ u6 H locs hF hH => ?_)
      refine lv_iconst hx hb dX8_grace_29 k_iconst_0 ?_
      refine wx_istore_n hx hb dX8_grace_30 rfl hl (by decide) (fun ls hl => ?_)
      have hl : lv_has ls 4 [(2, .int (0 : Int32)), (0, .ref (ρ o1)), (1, .int i2)] := hl
      refine lv_iconst hx hb dX8_grace_31 k_iconst_0 ?_
      refine wx_istore_n hx hb dX8_grace_32 rfl hl (by decide) (fun ls hl => ?_)
      have hl : lv_has ls 4 [(3, .int (0 : Int32)), (2, .int (0 : Int32)), (0, .ref (ρ o1)), (1, .int i2)] := hl
      have hL33 : ∀ (k7_ : Nat) (i8 : Int32) (i9 : Int32) (H : Heap) (locs : List Loc) (ls : Array Slot), wL (S := Int32 × Int32) (fun x => F_X8_grace_b33 u6 o1 x.1 x.2) k7_ (i8, i9) = some z → wHp D κ ρ 0 A s.heap H locs u6 → lv_has ls 4 [(0, .ref (ρ o1)), (2, .int i8), (3, .int i9)] → W p l e (wRm 7 178) s m args below meth c H locs 0 0 (wQI below args s A D κ ρ 0 z) (F0 m 33 ls []) := by
        intro k7_
        induction k7_ with
        | zero => intro i8 i9 H locs ls hF; exact wL_zero hF
        | succ k7_ ih7 =>
          intro i8 i9 H locs ls hF hH hl
          obtain ⟨q7_, hF, hq7⟩ := wL_some hF
          have hF : F_X8_grace_b33 u6 o1 i8 i9 = some q7_ := hF
          unfold F_X8_grace_b33 at hF
          refine lv_iload_n hx hb dX8_grace_33 rfl (lv_at hl 2 rfl) ?_
          refine lv_aload_n hx hb dX8_grace_34 rfl (lv_at hl 0 rfl) ?_
          refine wx_getR hC hH h_o1 rfl f_X8_22 dX8_grace_35 hF (fun o10 h_o10 hF => ?_)
          refine wx_getI hC hH h_o10 rfl f_X8_235 dX8_grace_38 ?_
          refine lv_icmp_ge hx hb dX8_grace_41 (tgt := 73) rfl (fun h => ?_) (fun h => ?_)
          · have hF := wx_t h hF
            refine lv_iload_n hx hb dX8_grace_73 rfl (lv_at hl 1 rfl) ?_
            have hF := wJ_r hq7 hF
            exact wx_iret hC hH hr hlk dX8_grace_74 hF
          have hF := wx_f h hF
          refine lv_aload_n hx hb dX8_grace_44 rfl (lv_at hl 0 rfl) ?_
          refine wx_getR hC hH h_o1 rfl f_X8_48 dX8_grace_45 hF (fun o11 h_o11 hF => ?_)
          refine lv_iload_n hx hb dX8_grace_48 rfl (lv_at hl 2 rfl) ?_
          refine wx_pvi hC hH hl (c_X3_hasFainted o11 i9 h_o11) y_X3_hasFainted v_X3_hasFainted h_o11 rfl m_X8_141 rfl ⟨Nat.le_of_ble_eq_true rfl, Nat.le_of_ble_eq_true rfl⟩ ⟨Nat.le_refl _, Nat.le_refl _⟩ rfl (Nat.le_of_ble_eq_true rfl) dX8_grace_49 hF (fun i12 H locs hF hH => ?_)
          obtain ⟨q13_, hF, hq13⟩ := wJ_some hF
          have hJ67 : ∀ (i14 : Int32) (H : Heap) (locs : List Loc) (ls : Array Slot), F_X8_grace_j67 i9 i14 = some q7_ → wHp D κ ρ 0 A s.heap H locs u6 → lv_has ls 4 [(0, .ref (ρ o1)), (2, .int i14), (3, .int i9)] → W p l e (wRm 7 178) s m args below meth c H locs 0 0 (wQI below args s A D κ ρ 0 z) (F0 m 67 ls []) := by
            intro i14 H locs ls hF hH hl
            unfold F_X8_grace_j67 at hF
            refine wx_iinc hx hb dX8_grace_67 k_iconst_1 hl (k := 2) rfl (by decide) hF (fun i15 ls hF hl => ?_)
            have hl : lv_has ls 4 [(3, .int i15), (0, .ref (ρ o1)), (2, .int i14)] := hl
            refine lv_goto hx hb dX8_grace_70 (tgt := 33) rfl ?_
            have hF := wJ_l hq7 hF
            exact ih7 i14 i15 H locs ls hF hH (lv_sub hl [1, 2, 0] rfl)
          refine lv_if_ne hx hb dX8_grace_52 (tgt := 67) rfl (fun h => ?_) (fun h => ?_)
          · have hF := wx_f h hF
            have hF := wJ_l hq13 hF
            exact hJ67 i8 H locs ls hF hH (lv_sub hl [0, 1, 2] rfl)
          have hF := wx_t h hF
          refine lv_iload_n hx hb dX8_grace_55 rfl (lv_at hl 1 rfl) ?_
          refine lv_aload_n hx hb dX8_grace_56 rfl (lv_at hl 0 rfl) ?_
          refine wx_getR hC hH h_o1 rfl f_X8_48 dX8_grace_57 hF (fun o16 h_o16 hF => ?_)
          refine wx_getR hC hH h_o16 rfl f_X8_129 dX8_grace_60 hF (fun o17 h_o17 hF => ?_)
          refine lv_iload_n hx hb dX8_grace_63 rfl (lv_at hl 2 rfl) ?_
          refine wx_iald hC hH h_o17 ⟨rfl, rfl⟩ dX8_grace_64 hF (fun j18 hF => ?_)
          refine lv_iadd hx hb dX8_grace_65 ?_
          refine wx_leti hF (fun i19 hF => ?_)
          refine wx_istore_n hx hb dX8_grace_66 rfl hl (by decide) (fun ls hl => ?_)
          have hl : lv_has ls 4 [(2, .int i19), (0, .ref (ρ o1)), (3, .int i9)] := hl
          have hF := wJ_l hq13 hF
          exact hJ67 i19 H locs ls hF hH (lv_sub hl [1, 0, 2] rfl)
      exact hL33 wFu (0 : Int32) (0 : Int32) H locs ls hF hH (lv_sub hl [2, 1, 0] rfl)
    have hF := wx_f h hF
    refine lv_iconst hx hb dX8_grace_11 k_iconst_m1 ?_
    exact wx_iret hC hH hr hlk dX8_grace_12 hF
  exact key _ _ hH
def F_X8_untouched_j44 (i4 : Int32) (i9 : Int32) : Option ((Int32 × Int32) ⊕ Int32) :=
  wB (i4 + (1 : Int32)) (fun (i10 : Int32) => some (.inl (i9, i10)))
def F_X8_untouched_b4 (u0 : wSt) (o1 : Nat) (i3 : Int32) (i4 : Int32) : Option ((Int32 × Int32) ⊕ Int32) :=
  wR (u0.2.2 o1 2) 6 (fun o5 => if (u0.1 o5 2) ≤ i4 then (some (.inr (i3))) else (wR (u0.2.2 o1 5) 3 (fun o6 => wP (F_X3_isEaten o6 i4 u0) (fun (i7 : Int32) => wJ (X := Int32) (if i7 = 0 then (wR (u0.2.2 o1 5) 3 (fun o11 => wR (u0.2.2 o11 8) 10 (fun o12 => wN i4 o12 (fun j13 => if (u0.1 o12 j13) = 0 then (wB (i3 ||| ((1 : Int32) <<< (i4 &&& 31))) (fun (i14 : Int32) => some (.inl i14))) else (some (.inl i3)))))) else (some (.inl i3))) (fun x => F_X8_untouched_j44 i4 x)))))
def F_X8_untouched (o1 : Nat) (u0 : wSt) : Option Int32 :=
  wL (S := Int32 × Int32) (fun x => F_X8_untouched_b4 u0 o1 x.1 x.2) wFu ((0 : Int32), (0 : Int32))
set_option maxRecDepth 100000 in
set_option maxHeartbeats 4000000 in
theorem c_X8_untouched {l : Launch} {D : va_G} {κ : Nat → ClassId} {ρ : Nat → Nat} (o1 : Nat) (h_o1 : (w_sh o1).1 = 8) : wMI l yX8_untouched cX8_untouched 3 .int (wRm 1 21) [.ref (ρ o1)] D κ ρ 0 (fun u => wPu (F_X8_untouched o1 u) u) := by
  refine wMP_of (F := fun u => F_X8_untouched o1 u) rfl (Nat.le_of_ble_eq_true rfl) (fun u0 z p e s m args below meth c ls A hF hC hr hlk hH hl => ?_)
  have hl : lv_has ls 3 [(0, .ref (ρ o1))] := hl
  have hx := hC.1.1
  have hb := hC.1.2.1
  have hF : F_X8_untouched o1 u0 = some z := hF
  unfold F_X8_untouched at hF
  change W p l e (wRm 1 21) s m args below meth c s.heap [] 0 0 (wQI below args s A D κ ρ 0 (z, u0)) (F0 m 0 ls [])
  have key : ∀ (H : Heap) (locs : List Loc), wHp D κ ρ 0 A s.heap H locs u0 → W p l e (wRm 1 21) s m args below meth c H locs 0 0 (wQI below args s A D κ ρ 0 (z, u0)) (F0 m 0 ls []) := by
    intro H locs hH
    refine lv_iconst hx hb dX8_untouched_0 k_iconst_0 ?_
    refine wx_istore_n hx hb dX8_untouched_1 rfl hl (by decide) (fun ls hl => ?_)
    have hl : lv_has ls 3 [(1, .int (0 : Int32)), (0, .ref (ρ o1))] := hl
    refine lv_iconst hx hb dX8_untouched_2 k_iconst_0 ?_
    refine wx_istore_n hx hb dX8_untouched_3 rfl hl (by decide) (fun ls hl => ?_)
    have hl : lv_has ls 3 [(2, .int (0 : Int32)), (1, .int (0 : Int32)), (0, .ref (ρ o1))] := hl
    have hL4 : ∀ (k2_ : Nat) (i3 : Int32) (i4 : Int32) (H : Heap) (locs : List Loc) (ls : Array Slot), wL (S := Int32 × Int32) (fun x => F_X8_untouched_b4 u0 o1 x.1 x.2) k2_ (i3, i4) = some z → wHp D κ ρ 0 A s.heap H locs u0 → lv_has ls 3 [(0, .ref (ρ o1)), (1, .int i3), (2, .int i4)] → W p l e (wRm 1 21) s m args below meth c H locs 0 0 (wQI below args s A D κ ρ 0 (z, u0)) (F0 m 4 ls []) := by
      intro k2_
      induction k2_ with
      | zero => intro i3 i4 H locs ls hF; exact wL_zero hF
      | succ k2_ ih2 =>
        intro i3 i4 H locs ls hF hH hl
        obtain ⟨q2_, hF, hq2⟩ := wL_some hF
        have hF : F_X8_untouched_b4 u0 o1 i3 i4 = some q2_ := hF
        unfold F_X8_untouched_b4 at hF
        refine lv_iload_n hx hb dX8_untouched_4 rfl (lv_at hl 2 rfl) ?_
        refine lv_aload_n hx hb dX8_untouched_5 rfl (lv_at hl 0 rfl) ?_
        refine wx_getR hC hH h_o1 rfl f_X8_22 dX8_untouched_6 hF (fun o5 h_o5 hF => ?_)
        refine wx_getI hC hH h_o5 rfl f_X8_303 dX8_untouched_9 ?_
        refine lv_icmp_ge hx hb dX8_untouched_12 (tgt := 50) rfl (fun h => ?_) (fun h => ?_)
        · have hF := wx_t h hF
          refine lv_iload_n hx hb dX8_untouched_50 rfl (lv_at hl 1 rfl) ?_
          have hF := wJ_r hq2 hF
          exact wx_iret hC hH hr hlk dX8_untouched_51 (wx_pr hF)
        have hF := wx_f h hF
        refine lv_aload_n hx hb dX8_untouched_15 rfl (lv_at hl 0 rfl) ?_
        refine wx_getR hC hH h_o1 rfl f_X8_41 dX8_untouched_16 hF (fun o6 h_o6 hF => ?_)
        refine lv_iload_n hx hb dX8_untouched_19 rfl (lv_at hl 2 rfl) ?_
        refine wx_pvi hC hH hl (c_X3_isEaten o6 i4 h_o6) y_X3_isEaten v_X3_isEaten h_o6 rfl m_X8_169 rfl ⟨Nat.le_of_ble_eq_true rfl, Nat.le_of_ble_eq_true rfl⟩ ⟨Nat.le_refl _, Nat.le_refl _⟩ rfl (Nat.le_of_ble_eq_true rfl) dX8_untouched_20 hF (fun i7 H locs hF hH => ?_)
        obtain ⟨q8_, hF, hq8⟩ := wJ_some hF
        have hJ44 : ∀ (i9 : Int32) (H : Heap) (locs : List Loc) (ls : Array Slot), F_X8_untouched_j44 i4 i9 = some q2_ → wHp D κ ρ 0 A s.heap H locs u0 → lv_has ls 3 [(0, .ref (ρ o1)), (1, .int i9), (2, .int i4)] → W p l e (wRm 1 21) s m args below meth c H locs 0 0 (wQI below args s A D κ ρ 0 (z, u0)) (F0 m 44 ls []) := by
          intro i9 H locs ls hF hH hl
          unfold F_X8_untouched_j44 at hF
          refine wx_iinc hx hb dX8_untouched_44 k_iconst_1 hl (k := 2) rfl (by decide) hF (fun i10 ls hF hl => ?_)
          have hl : lv_has ls 3 [(2, .int i10), (0, .ref (ρ o1)), (1, .int i9)] := hl
          refine lv_goto hx hb dX8_untouched_47 (tgt := 4) rfl ?_
          have hF := wJ_l hq2 hF
          exact ih2 i9 i10 H locs ls hF hH (lv_sub hl [1, 2, 0] rfl)
        refine lv_if_ne hx hb dX8_untouched_23 (tgt := 44) rfl (fun h => ?_) (fun h => ?_)
        · have hF := wx_f h hF
          have hF := wJ_l hq8 hF
          exact hJ44 i3 H locs ls hF hH (lv_sub hl [0, 1, 2] rfl)
        have hF := wx_t h hF
        refine lv_aload_n hx hb dX8_untouched_26 rfl (lv_at hl 0 rfl) ?_
        refine wx_getR hC hH h_o1 rfl f_X8_41 dX8_untouched_27 hF (fun o11 h_o11 hF => ?_)
        refine wx_getR hC hH h_o11 rfl f_X8_172 dX8_untouched_30 hF (fun o12 h_o12 hF => ?_)
        refine lv_iload_n hx hb dX8_untouched_33 rfl (lv_at hl 2 rfl) ?_
        refine wx_iald hC hH h_o12 ⟨rfl, rfl⟩ dX8_untouched_34 hF (fun j13 hF => ?_)
        refine lv_if_ne hx hb dX8_untouched_35 (tgt := 44) rfl (fun h => ?_) (fun h => ?_)
        · have hF := wx_f h hF
          have hF := wJ_l hq8 hF
          exact hJ44 i3 H locs ls hF hH (lv_sub hl [0, 1, 2] rfl)
        have hF := wx_t h hF
        refine lv_iload_n hx hb dX8_untouched_38 rfl (lv_at hl 1 rfl) ?_
        refine lv_iconst hx hb dX8_untouched_39 k_iconst_1 ?_
        refine lv_iload_n hx hb dX8_untouched_40 rfl (lv_at hl 2 rfl) ?_
        refine lv_ishl hx hb dX8_untouched_41 ?_
        refine lv_ior hx hb dX8_untouched_42 ?_
        refine wx_leti hF (fun i14 hF => ?_)
        refine wx_istore_n hx hb dX8_untouched_43 rfl hl (by decide) (fun ls hl => ?_)
        have hl : lv_has ls 3 [(1, .int i14), (0, .ref (ρ o1)), (2, .int i4)] := hl
        have hF := wJ_l hq8 hF
        exact hJ44 i14 H locs ls hF hH (lv_sub hl [1, 0, 2] rfl)
    exact hL4 wFu (0 : Int32) (0 : Int32) H locs ls hF hH (lv_sub hl [2, 1, 0] rfl)
  exact key _ _ hH
def F_X8_see (o1 : Nat) (i2 : Int32) (i3 : Int32) (i4 : Int32) (i5 : Int32) (u0 : wSt) : Option (Int32 × wSt) :=
  if i2 < (1 : Int32) then (some ((-1 : Int32), u0)) else (if (99 : Int32) < i2 then (some ((-1 : Int32), u0)) else (wP (F_X8_isGuest o1 i3 u0) (fun (i6 : Int32) => if i6 = 0 then (some ((-1 : Int32), u0)) else (if i4 < 0 then (some ((-1 : Int32), u0)) else (if i4 ≤ (99 : Int32) then (wR (u0.2.2 o1 11) 4 (fun o7 => wC (F_X4_put o7 i2 i3 i4 i5 (-1 : Int32) u0) (fun (i9 : Int32) (u8 : wSt) => some (i9, u8)))) else (some ((-1 : Int32), u0)))))))
set_option maxRecDepth 100000 in
set_option maxHeartbeats 4000000 in
theorem c_X8_see {l : Launch} {D : va_G} {κ : Nat → ClassId} {ρ : Nat → Nat} (o1 : Nat) (i2 : Int32) (i3 : Int32) (i4 : Int32) (i5 : Int32) (h_o1 : (w_sh o1).1 = 8) : wMI l yX8_see cX8_see 5 .int (wRm 1 25) [.ref (ρ o1), .int i2, .int i3, .int i4, .int i5] D κ ρ 0 (fun u => F_X8_see o1 i2 i3 i4 i5 u) := by
  refine wMI_of (F := fun u => F_X8_see o1 i2 i3 i4 i5 u) rfl (Nat.le_of_ble_eq_true rfl) (fun u0 z p e s m args below meth c ls A hF hC hr hlk hH hl => ?_)
  have hl : lv_has ls 5 [(0, .ref (ρ o1)), (1, .int i2), (2, .int i3), (3, .int i4), (4, .int i5)] := hl
  have hx := hC.1.1
  have hb := hC.1.2.1
  have hF : F_X8_see o1 i2 i3 i4 i5 u0 = some z := hF
  unfold F_X8_see at hF
  change W p l e (wRm 1 25) s m args below meth c s.heap [] 0 0 (wQI below args s A D κ ρ 0 z) (F0 m 0 ls [])
  have key : ∀ (H : Heap) (locs : List Loc), wHp D κ ρ 0 A s.heap H locs u0 → W p l e (wRm 1 25) s m args below meth c H locs 0 0 (wQI below args s A D κ ρ 0 z) (F0 m 0 ls []) := by
    intro H locs hH
    refine lv_iload_n hx hb dX8_see_0 rfl (lv_at hl 1 rfl) ?_
    refine lv_iconst hx hb dX8_see_1 k_iconst_1 ?_
    refine lv_icmp_lt hx hb dX8_see_2 (tgt := 29) rfl (fun h => ?_) (fun h => ?_)
    · have hF := wx_t h hF
      refine lv_iconst hx hb dX8_see_29 k_iconst_m1 ?_
      exact wx_iret hC hH hr hlk dX8_see_30 hF
    have hF := wx_f h hF
    refine lv_iload_n hx hb dX8_see_5 rfl (lv_at hl 1 rfl) ?_
    refine lv_bipush hx hb dX8_see_6 k_bipush_99 ?_
    refine lv_icmp_gt hx hb dX8_see_8 (tgt := 29) rfl (fun h => ?_) (fun h => ?_)
    · have hF := wx_t h hF
      refine lv_iconst hx hb dX8_see_29 k_iconst_m1 ?_
      exact wx_iret hC hH hr hlk dX8_see_30 hF
    have hF := wx_f h hF
    refine lv_aload_n hx hb dX8_see_11 rfl (lv_at hl 0 rfl) ?_
    refine lv_iload_n hx hb dX8_see_12 rfl (lv_at hl 2 rfl) ?_
    refine wx_pvi hC hH hl (c_X8_isGuest o1 i3 h_o1) y_X8_isGuest v_X8_isGuest h_o1 rfl m_X8_118 rfl ⟨Nat.le_of_ble_eq_true rfl, Nat.le_of_ble_eq_true rfl⟩ ⟨Nat.le_refl _, Nat.le_refl _⟩ rfl (Nat.le_of_ble_eq_true rfl) dX8_see_13 hF (fun i6 H locs hF hH => ?_)
    refine lv_if_eq hx hb dX8_see_16 (tgt := 29) rfl (fun h => ?_) (fun h => ?_)
    · have hF := wx_t h hF
      refine lv_iconst hx hb dX8_see_29 k_iconst_m1 ?_
      exact wx_iret hC hH hr hlk dX8_see_30 hF
    have hF := wx_f h hF
    refine lv_iload_n hx hb dX8_see_19 rfl (lv_at hl 3 rfl) ?_
    refine lv_if_lt hx hb dX8_see_20 (tgt := 29) rfl (fun h => ?_) (fun h => ?_)
    · have hF := wx_t h hF
      refine lv_iconst hx hb dX8_see_29 k_iconst_m1 ?_
      exact wx_iret hC hH hr hlk dX8_see_30 hF
    have hF := wx_f h hF
    refine lv_iload_n hx hb dX8_see_23 rfl (lv_at hl 3 rfl) ?_
    refine lv_bipush hx hb dX8_see_24 k_bipush_99 ?_
    refine lv_icmp_le hx hb dX8_see_26 (tgt := 31) rfl (fun h => ?_) (fun h => ?_)
    · have hF := wx_t h hF
      refine lv_aload_n hx hb dX8_see_31 rfl (lv_at hl 0 rfl) ?_
      refine wx_getR hC hH h_o1 rfl f_X8_74 dX8_see_32 hF (fun o7 h_o7 hF => ?_)
      refine lv_iload_n hx hb dX8_see_35 rfl (lv_at hl 1 rfl) ?_
      refine lv_iload_n hx hb dX8_see_36 rfl (lv_at hl 2 rfl) ?_
      refine lv_iload_n hx hb dX8_see_37 rfl (lv_at hl 3 rfl) ?_
      refine lv_iload hx hb dX8_see_38 (lv_at hl 4 rfl) ?_
      refine lv_iconst hx hb dX8_see_40 k_iconst_m1 ?_
      refine wx_evi hC hH hl (c_X4_put o7 i2 i3 i4 i5 (-1 : Int32) h_o7) y_X4_put v_X4_put h_o7 rfl m_X8_319 rfl ⟨Nat.le_of_ble_eq_true rfl, Nat.le_of_ble_eq_true rfl⟩ ⟨Nat.le_refl _, Nat.le_refl _⟩ rfl (Nat.le_of_ble_eq_true rfl) dX8_see_41 hF (fun i9 u8 H locs hF hH => ?_)
      exact wx_iret hC hH hr hlk dX8_see_44 hF
    have hF := wx_f h hF
    refine lv_iconst hx hb dX8_see_29 k_iconst_m1 ?_
    exact wx_iret hC hH hr hlk dX8_see_30 hF
  exact key _ _ hH
def F_X8_strike (o1 : Nat) (i2 : Int32) (u0 : wSt) : Option (Int32 × wSt) :=
  if i2 < 0 then (some ((-1 : Int32), u0)) else (wR (u0.2.2 o1 11) 4 (fun o3 => if i2 < (u0.1 o3 0) then (wR (u0.2.2 o1 11) 4 (fun o4 => wC (F_X4_put o4 (0 : Int32) (0 : Int32) (0 : Int32) (0 : Int32) i2 u0) (fun (i6 : Int32) (u5 : wSt) => some (i6, u5)))) else (some ((-1 : Int32), u0))))
set_option maxRecDepth 100000 in
set_option maxHeartbeats 4000000 in
theorem c_X8_strike {l : Launch} {D : va_G} {κ : Nat → ClassId} {ρ : Nat → Nat} (o1 : Nat) (i2 : Int32) (h_o1 : (w_sh o1).1 = 8) : wMI l yX8_strike cX8_strike 2 .int (wRm 1 25) [.ref (ρ o1), .int i2] D κ ρ 0 (fun u => F_X8_strike o1 i2 u) := by
  refine wMI_of (F := fun u => F_X8_strike o1 i2 u) rfl (Nat.le_of_ble_eq_true rfl) (fun u0 z p e s m args below meth c ls A hF hC hr hlk hH hl => ?_)
  have hl : lv_has ls 2 [(0, .ref (ρ o1)), (1, .int i2)] := hl
  have hx := hC.1.1
  have hb := hC.1.2.1
  have hF : F_X8_strike o1 i2 u0 = some z := hF
  unfold F_X8_strike at hF
  change W p l e (wRm 1 25) s m args below meth c s.heap [] 0 0 (wQI below args s A D κ ρ 0 z) (F0 m 0 ls [])
  have key : ∀ (H : Heap) (locs : List Loc), wHp D κ ρ 0 A s.heap H locs u0 → W p l e (wRm 1 25) s m args below meth c H locs 0 0 (wQI below args s A D κ ρ 0 z) (F0 m 0 ls []) := by
    intro H locs hH
    refine lv_iload_n hx hb dX8_strike_0 rfl (lv_at hl 1 rfl) ?_
    refine lv_if_lt hx hb dX8_strike_1 (tgt := 15) rfl (fun h => ?_) (fun h => ?_)
    · have hF := wx_t h hF
      refine lv_iconst hx hb dX8_strike_15 k_iconst_m1 ?_
      exact wx_iret hC hH hr hlk dX8_strike_16 hF
    have hF := wx_f h hF
    refine lv_iload_n hx hb dX8_strike_4 rfl (lv_at hl 1 rfl) ?_
    refine lv_aload_n hx hb dX8_strike_5 rfl (lv_at hl 0 rfl) ?_
    refine wx_getR hC hH h_o1 rfl f_X8_74 dX8_strike_6 hF (fun o3 h_o3 hF => ?_)
    refine wx_getI hC hH h_o3 rfl f_X8_322 dX8_strike_9 ?_
    refine lv_icmp_lt hx hb dX8_strike_12 (tgt := 17) rfl (fun h => ?_) (fun h => ?_)
    · have hF := wx_t h hF
      refine lv_aload_n hx hb dX8_strike_17 rfl (lv_at hl 0 rfl) ?_
      refine wx_getR hC hH h_o1 rfl f_X8_74 dX8_strike_18 hF (fun o4 h_o4 hF => ?_)
      refine lv_iconst hx hb dX8_strike_21 k_iconst_0 ?_
      refine lv_iconst hx hb dX8_strike_22 k_iconst_0 ?_
      refine lv_iconst hx hb dX8_strike_23 k_iconst_0 ?_
      refine lv_iconst hx hb dX8_strike_24 k_iconst_0 ?_
      refine lv_iload_n hx hb dX8_strike_25 rfl (lv_at hl 1 rfl) ?_
      refine wx_evi hC hH hl (c_X4_put o4 (0 : Int32) (0 : Int32) (0 : Int32) (0 : Int32) i2 h_o4) y_X4_put v_X4_put h_o4 rfl m_X8_319 rfl ⟨Nat.le_of_ble_eq_true rfl, Nat.le_of_ble_eq_true rfl⟩ ⟨Nat.le_refl _, Nat.le_refl _⟩ rfl (Nat.le_of_ble_eq_true rfl) dX8_strike_26 hF (fun i6 u5 H locs hF hH => ?_)
      exact wx_iret hC hH hr hlk dX8_strike_29 hF
    have hF := wx_f h hF
    refine lv_iconst hx hb dX8_strike_15 k_iconst_m1 ?_
    exact wx_iret hC hH hr hlk dX8_strike_16 hF
  exact key _ _ hH
def F_X8_known (o1 : Nat) (i2 : Int32) (u0 : wSt) : Option (Int32 × wSt) :=
  if i2 < (-1 : Int32) then (some ((0 : Int32), u0)) else (wR (u0.2.2 o1 11) 4 (fun o3 => if i2 ≤ (u0.1 o3 0) then (wR (u0.2.2 o1 11) 4 (fun o4 => wB (w_sI u0 o4 1 i2) (fun (u5 : wSt) => some ((1 : Int32), u5)))) else (some ((0 : Int32), u0))))
set_option maxRecDepth 100000 in
set_option maxHeartbeats 4000000 in
theorem c_X8_known {l : Launch} {D : va_G} {κ : Nat → ClassId} {ρ : Nat → Nat} (o1 : Nat) (i2 : Int32) (h_o1 : (w_sh o1).1 = 8) : wMI l yX8_known cX8_known 2 .boolean (wRm 0 0) [.ref (ρ o1), .int i2] D κ ρ 0 (fun u => F_X8_known o1 i2 u) := by
  refine wMI_of (F := fun u => F_X8_known o1 i2 u) rfl (Nat.le_of_ble_eq_true rfl) (fun u0 z p e s m args below meth c ls A hF hC hr hlk hH hl => ?_)
  have hl : lv_has ls 2 [(0, .ref (ρ o1)), (1, .int i2)] := hl
  have hx := hC.1.1
  have hb := hC.1.2.1
  have hF : F_X8_known o1 i2 u0 = some z := hF
  unfold F_X8_known at hF
  change W p l e (wRm 0 0) s m args below meth c s.heap [] 0 0 (wQI below args s A D κ ρ 0 z) (F0 m 0 ls [])
  have key : ∀ (H : Heap) (locs : List Loc), wHp D κ ρ 0 A s.heap H locs u0 → W p l e (wRm 0 0) s m args below meth c H locs 0 0 (wQI below args s A D κ ρ 0 z) (F0 m 0 ls []) := by
    intro H locs hH
    refine lv_iload_n hx hb dX8_known_0 rfl (lv_at hl 1 rfl) ?_
    refine lv_iconst hx hb dX8_known_1 k_iconst_m1 ?_
    refine lv_icmp_lt hx hb dX8_known_2 (tgt := 16) rfl (fun h => ?_) (fun h => ?_)
    · have hF := wx_t h hF
      refine lv_iconst hx hb dX8_known_16 k_iconst_0 ?_
      exact wx_zret hC hH hr hlk dX8_known_17 (Or.inl rfl) hF
    have hF := wx_f h hF
    refine lv_iload_n hx hb dX8_known_5 rfl (lv_at hl 1 rfl) ?_
    refine lv_aload_n hx hb dX8_known_6 rfl (lv_at hl 0 rfl) ?_
    refine wx_getR hC hH h_o1 rfl f_X8_74 dX8_known_7 hF (fun o3 h_o3 hF => ?_)
    refine wx_getI hC hH h_o3 rfl f_X8_322 dX8_known_10 ?_
    refine lv_icmp_le hx hb dX8_known_13 (tgt := 18) rfl (fun h => ?_) (fun h => ?_)
    · have hF := wx_t h hF
      refine lv_aload_n hx hb dX8_known_18 rfl (lv_at hl 0 rfl) ?_
      refine wx_getR hC hH h_o1 rfl f_X8_74 dX8_known_19 hF (fun o4 h_o4 hF => ?_)
      refine lv_iload_n hx hb dX8_known_22 rfl (lv_at hl 1 rfl) ?_
      refine wx_putI hC hH h_o4 rfl f_X8_323 g_4_1 dX8_known_23 hF (fun u5 H locs hF hH => ?_)
      refine lv_iconst hx hb dX8_known_26 k_iconst_1 ?_
      exact wx_zret hC hH hr hlk dX8_known_27 (Or.inr rfl) hF
    have hF := wx_f h hF
    refine lv_iconst hx hb dX8_known_16 k_iconst_0 ?_
    exact wx_zret hC hH hr hlk dX8_known_17 (Or.inl rfl) hF
  exact key _ _ hH
def F_X8_agrees_b43 (i14 : Int32) (o1 : Nat) (i16 : Int32) (u17 : wSt) : Option ((Int32 × wSt) ⊕ (Int32 × wSt)) :=
  if i14 ≤ i16 then (some (.inr ((1 : Int32), u17))) else (wR (u17.2.2 o1 9) 0 (fun o18 => wR (u17.2.2 o1 7) 3 (fun o19 => wC (F_X0_goOn o18 o19 u17) (fun (i21 : Int32) (u20 : wSt) => wR (u20.2.2 o1 11) 4 (fun o22 => wR (u20.2.2 o1 7) 3 (fun o23 => wP (F_X4_fits o22 o23 u20) (fun (i24 : Int32) => if i24 = 0 then (some (.inr ((0 : Int32), u20))) else (wB (i16 + (1 : Int32)) (fun (i25 : Int32) => some (.inl (i25, u20)))))))))))
def F_X8_agrees (o1 : Nat) (i2 : Int32) (i3 : Int32) (u0 : wSt) : Option (Int32 × wSt) :=
  wC (F_X8_plainCourse o1 u0) (fun (o5 : Nat) (u4 : wSt) => wG ((w_sh o5).1 = 0) (wR (u4.2.2 o1 9) 0 (fun o6 => wB (w_sI u4 o6 6 i2) (fun (u7 : wSt) => wR (u7.2.2 o1 9) 0 (fun o8 => wB (w_sI u7 o8 7 i3) (fun (u9 : wSt) => wR (u9.2.2 o1 7) 3 (fun o10 => wR (u9.2.2 o1 2) 6 (fun o11 => wC (F_X3_begin o10 o11 u9) (fun _ (u12 : wSt) => wR (u12.2.2 o1 11) 4 (fun o13 => wP (F_X4_lastStep o13 u12) (fun (i14 : Int32) => wL (S := Int32 × wSt) (fun x => F_X8_agrees_b43 i14 o1 x.1 x.2) wFu ((0 : Int32), u12))))))))))))
set_option maxRecDepth 100000 in
set_option maxHeartbeats 4000000 in
theorem c_X8_agrees {l : Launch} {D : va_G} {κ : Nat → ClassId} {ρ : Nat → Nat} (o1 : Nat) (i2 : Int32) (i3 : Int32) (h_o1 : (w_sh o1).1 = 8) : wMI l yX8_agrees cX8_agrees 5 .boolean (wRm 6 155) [.ref (ρ o1), .int i2, .int i3] D κ ρ 0 (fun u => F_X8_agrees o1 i2 i3 u) := by
  refine wMI_of (F := fun u => F_X8_agrees o1 i2 i3 u) rfl (Nat.le_of_ble_eq_true rfl) (fun u0 z p e s m args below meth c ls A hF hC hr hlk hH hl => ?_)
  have hl : lv_has ls 5 [(0, .ref (ρ o1)), (1, .int i2), (2, .int i3)] := hl
  have hx := hC.1.1
  have hb := hC.1.2.1
  have hF : F_X8_agrees o1 i2 i3 u0 = some z := hF
  unfold F_X8_agrees at hF
  change W p l e (wRm 6 155) s m args below meth c s.heap [] 0 0 (wQI below args s A D κ ρ 0 z) (F0 m 0 ls [])
  have key : ∀ (H : Heap) (locs : List Loc), wHp D κ ρ 0 A s.heap H locs u0 → W p l e (wRm 6 155) s m args below meth c H locs 0 0 (wQI below args s A D κ ρ 0 z) (F0 m 0 ls []) := by
    intro H locs hH
    refine lv_aload_n hx hb dX8_agrees_0 rfl (lv_at hl 0 rfl) ?_
    refine wx_evr hC hH hl (c_X8_plainCourse o1 h_o1) y_X8_plainCourse v_X8_plainCourse h_o1 rfl m_X8_144 rfl ⟨Nat.le_of_ble_eq_true rfl, Nat.le_of_ble_eq_true rfl⟩ ⟨Nat.le_refl _, Nat.le_refl _⟩ rfl (Nat.le_of_ble_eq_true rfl) dX8_agrees_1 hF (fun o5 u4 H locs hF hH => ?_)
    obtain ⟨h_o5, hF⟩ := wG_some hF
    refine lv_pop hx hb dX8_agrees_4 rfl ?_
    refine lv_aload_n hx hb dX8_agrees_5 rfl (lv_at hl 0 rfl) ?_
    refine wx_getR hC hH h_o1 rfl f_X8_60 dX8_agrees_6 hF (fun o6 h_o6 hF => ?_)
    refine lv_iload_n hx hb dX8_agrees_9 rfl (lv_at hl 1 rfl) ?_
    refine wx_putI hC hH h_o6 rfl f_X8_332 g_0_6 dX8_agrees_10 hF (fun u7 H locs hF hH => ?_)
    refine lv_aload_n hx hb dX8_agrees_13 rfl (lv_at hl 0 rfl) ?_
    refine wx_getR hC hH h_o1 rfl f_X8_60 dX8_agrees_14 hF (fun o8 h_o8 hF => ?_)
    refine lv_iload_n hx hb dX8_agrees_17 rfl (lv_at hl 2 rfl) ?_
    refine wx_putI hC hH h_o8 rfl f_X8_335 g_0_7 dX8_agrees_18 hF (fun u9 H locs hF hH => ?_)
    refine lv_aload_n hx hb dX8_agrees_21 rfl (lv_at hl 0 rfl) ?_
    refine wx_getR hC hH h_o1 rfl f_X8_48 dX8_agrees_22 hF (fun o10 h_o10 hF => ?_)
    refine lv_aload_n hx hb dX8_agrees_25 rfl (lv_at hl 0 rfl) ?_
    refine wx_getR hC hH h_o1 rfl f_X8_22 dX8_agrees_26 hF (fun o11 h_o11 hF => ?_)
    refine wx_evv hC hH hl (c_X3_begin o10 o11 h_o10 h_o11) y_X3_begin v_X3_begin h_o10 rfl m_X8_93 rfl ⟨Nat.le_of_ble_eq_true rfl, Nat.le_of_ble_eq_true rfl⟩ ⟨Nat.le_refl _, Nat.le_refl _⟩ rfl (Nat.le_of_ble_eq_true rfl) dX8_agrees_29 hF (fun _ u12 H locs hF hH => ?_)
    refine lv_aload_n hx hb dX8_agrees_32 rfl (lv_at hl 0 rfl) ?_
    refine wx_getR hC hH h_o1 rfl f_X8_74 dX8_agrees_33 hF (fun o13 h_o13 hF => ?_)
    refine wx_pvi hC hH hl (c_X4_lastStep o13 h_o13) y_X4_lastStep v_X4_lastStep h_o13 rfl m_X8_338 rfl ⟨Nat.le_of_ble_eq_true rfl, Nat.le_of_ble_eq_true rfl⟩ ⟨Nat.le_refl _, Nat.le_refl _⟩ rfl (Nat.le_of_ble_eq_true rfl) dX8_agrees_36 hF (fun i14 H locs hF hH => ?_)
    refine wx_istore_n hx hb dX8_agrees_39 rfl hl (by decide) (fun ls hl => ?_)
    have hl : lv_has ls 5 [(3, .int i14), (0, .ref (ρ o1)), (1, .int i2), (2, .int i3)] := hl
    refine lv_iconst hx hb dX8_agrees_40 k_iconst_0 ?_
    refine wx_istore hx hb dX8_agrees_41 hl (by decide) (fun ls hl => ?_)
    have hl : lv_has ls 5 [(4, .int (0 : Int32)), (3, .int i14), (0, .ref (ρ o1)), (1, .int i2), (2, .int i3)] := hl
    have hL43 : ∀ (k15_ : Nat) (i16 : Int32) (u17 : wSt) (H : Heap) (locs : List Loc) (ls : Array Slot), wL (S := Int32 × wSt) (fun x => F_X8_agrees_b43 i14 o1 x.1 x.2) k15_ (i16, u17) = some z → wHp D κ ρ 0 A s.heap H locs u17 → lv_has ls 5 [(0, .ref (ρ o1)), (3, .int i14), (4, .int i16)] → W p l e (wRm 6 155) s m args below meth c H locs 0 0 (wQI below args s A D κ ρ 0 z) (F0 m 43 ls []) := by
      intro k15_
      induction k15_ with
      | zero => intro i16 u17 H locs ls hF; exact wL_zero hF
      | succ k15_ ih15 =>
        intro i16 u17 H locs ls hF hH hl
        obtain ⟨q15_, hF, hq15⟩ := wL_some hF
        have hF : F_X8_agrees_b43 i14 o1 i16 u17 = some q15_ := hF
        unfold F_X8_agrees_b43 at hF
        refine lv_iload hx hb dX8_agrees_43 (lv_at hl 2 rfl) ?_
        refine lv_iload_n hx hb dX8_agrees_45 rfl (lv_at hl 1 rfl) ?_
        refine lv_icmp_ge hx hb dX8_agrees_46 (tgt := 83) rfl (fun h => ?_) (fun h => ?_)
        · have hF := wx_t h hF
          refine lv_iconst hx hb dX8_agrees_83 k_iconst_1 ?_
          have hF := wJ_r hq15 hF
          exact wx_zret hC hH hr hlk dX8_agrees_84 (Or.inr rfl) hF
        have hF := wx_f h hF
        refine lv_aload_n hx hb dX8_agrees_49 rfl (lv_at hl 0 rfl) ?_
        refine wx_getR hC hH h_o1 rfl f_X8_60 dX8_agrees_50 hF (fun o18 h_o18 hF => ?_)
        refine lv_aload_n hx hb dX8_agrees_53 rfl (lv_at hl 0 rfl) ?_
        refine wx_getR hC hH h_o1 rfl f_X8_48 dX8_agrees_54 hF (fun o19 h_o19 hF => ?_)
        refine wx_evi hC hH hl (c_X0_goOn o18 o19 h_o18 h_o19) y_X0_goOn v_X0_goOn h_o18 rfl m_X8_232 rfl ⟨Nat.le_of_ble_eq_true rfl, Nat.le_of_ble_eq_true rfl⟩ ⟨Nat.le_refl _, Nat.le_refl _⟩ rfl (Nat.le_of_ble_eq_true rfl) dX8_agrees_57 hF (fun i21 u20 H locs hF hH => ?_)
        refine lv_pop hx hb dX8_agrees_60 rfl ?_
        refine lv_aload_n hx hb dX8_agrees_61 rfl (lv_at hl 0 rfl) ?_
        refine wx_getR hC hH h_o1 rfl f_X8_74 dX8_agrees_62 hF (fun o22 h_o22 hF => ?_)
        refine lv_aload_n hx hb dX8_agrees_65 rfl (lv_at hl 0 rfl) ?_
        refine wx_getR hC hH h_o1 rfl f_X8_48 dX8_agrees_66 hF (fun o23 h_o23 hF => ?_)
        refine wx_pvi hC hH hl (c_X4_fits o22 o23 h_o22 h_o23) y_X4_fits v_X4_fits h_o22 rfl m_X8_341 rfl ⟨Nat.le_of_ble_eq_true rfl, Nat.le_of_ble_eq_true rfl⟩ ⟨Nat.le_refl _, Nat.le_refl _⟩ rfl (Nat.le_of_ble_eq_true rfl) dX8_agrees_69 hF (fun i24 H locs hF hH => ?_)
        refine lv_if_ne hx hb dX8_agrees_72 (tgt := 77) rfl (fun h => ?_) (fun h => ?_)
        · have hF := wx_f h hF
          refine wx_iinc hx hb dX8_agrees_77 k_iconst_1 hl (k := 2) rfl (by decide) hF (fun i25 ls hF hl => ?_)
          have hl : lv_has ls 5 [(4, .int i25), (0, .ref (ρ o1)), (3, .int i14)] := hl
          refine lv_goto hx hb dX8_agrees_80 (tgt := 43) rfl ?_
          have hF := wJ_l hq15 hF
          exact ih15 i25 u20 H locs ls hF hH (lv_sub hl [1, 2, 0] rfl)
        have hF := wx_t h hF
        refine lv_iconst hx hb dX8_agrees_75 k_iconst_0 ?_
        have hF := wJ_r hq15 hF
        exact wx_zret hC hH hr hlk dX8_agrees_76 (Or.inl rfl) hF
    exact hL43 wFu (0 : Int32) u12 H locs ls hF hH (lv_sub hl [2, 1, 0] rfl)
  exact key _ _ hH
def F_X8_sweets_j42 (i8 : Int32) (i13 : Int32) (u14 : wSt) : Option ((Int32 × Int32 × wSt) ⊕ (Int32 × wSt)) :=
  wB (i8 + (1 : Int32)) (fun (i15 : Int32) => some (.inl (i13, i15, u14)))
def F_X8_sweets_b21 (o1 : Nat) (i2 : Int32) (i7 : Int32) (i8 : Int32) (u9 : wSt) : Option ((Int32 × Int32 × wSt) ⊕ (Int32 × wSt)) :=
  if (9 : Int32) < i8 then (some (.inr (i7, u9))) else (wC (F_X8_agrees o1 i2 i8 u9) (fun (i11 : Int32) (u10 : wSt) => wJ (X := Int32 × wSt) (if i11 = 0 then (some (.inl (i7, u10))) else (wB (i7 ||| ((1 : Int32) <<< (i8 &&& 31))) (fun (i16 : Int32) => some (.inl (i16, u10))))) (fun x => F_X8_sweets_j42 i8 x.1 x.2)))
def F_X8_sweets (o1 : Nat) (i2 : Int32) (u0 : wSt) : Option (Int32 × wSt) :=
  wP (F_X8_isFruit o1 i2 u0) (fun (i3 : Int32) => if i3 = 0 then (some ((-1 : Int32), u0)) else (wR (u0.2.2 o1 11) 4 (fun o4 => wC (F_X4_sift o4 u0) (fun _ (u5 : wSt) => wL (S := Int32 × Int32 × wSt) (fun x => F_X8_sweets_b21 o1 i2 x.1 x.2.1 x.2.2) wFu ((0 : Int32), (0 : Int32), u5)))))
set_option maxRecDepth 100000 in
set_option maxHeartbeats 4000000 in
theorem c_X8_sweets {l : Launch} {D : va_G} {κ : Nat → ClassId} {ρ : Nat → Nat} (o1 : Nat) (i2 : Int32) (h_o1 : (w_sh o1).1 = 8) : wMI l yX8_sweets cX8_sweets 4 .int (wRm 7 179) [.ref (ρ o1), .int i2] D κ ρ 0 (fun u => F_X8_sweets o1 i2 u) := by
  refine wMI_of (F := fun u => F_X8_sweets o1 i2 u) rfl (Nat.le_of_ble_eq_true rfl) (fun u0 z p e s m args below meth c ls A hF hC hr hlk hH hl => ?_)
  have hl : lv_has ls 4 [(0, .ref (ρ o1)), (1, .int i2)] := hl
  have hx := hC.1.1
  have hb := hC.1.2.1
  have hF : F_X8_sweets o1 i2 u0 = some z := hF
  unfold F_X8_sweets at hF
  change W p l e (wRm 7 179) s m args below meth c s.heap [] 0 0 (wQI below args s A D κ ρ 0 z) (F0 m 0 ls [])
  have key : ∀ (H : Heap) (locs : List Loc), wHp D κ ρ 0 A s.heap H locs u0 → W p l e (wRm 7 179) s m args below meth c H locs 0 0 (wQI below args s A D κ ρ 0 z) (F0 m 0 ls []) := by
    intro H locs hH
    refine lv_aload_n hx hb dX8_sweets_0 rfl (lv_at hl 0 rfl) ?_
    refine lv_iload_n hx hb dX8_sweets_1 rfl (lv_at hl 1 rfl) ?_
    refine wx_pvi hC hH hl (c_X8_isFruit o1 i2 h_o1) y_X8_isFruit v_X8_isFruit h_o1 rfl m_X8_160 rfl ⟨Nat.le_of_ble_eq_true rfl, Nat.le_of_ble_eq_true rfl⟩ ⟨Nat.le_refl _, Nat.le_refl _⟩ rfl (Nat.le_of_ble_eq_true rfl) dX8_sweets_2 hF (fun i3 H locs hF hH => ?_)
    refine lv_if_ne hx hb dX8_sweets_5 (tgt := 10) rfl (fun h => ?_) (fun h => ?_)
    · have hF := wx_f h hF
      refine lv_aload_n hx hb dX8_sweets_10 rfl (lv_at hl 0 rfl) ?_
      refine wx_getR hC hH h_o1 rfl f_X8_74 dX8_sweets_11 hF (fun o4 h_o4 hF => ?_)
      refine wx_evv hC hH hl (c_X4_sift o4 h_o4) y_X4_sift v_X4_sift h_o4 rfl m_X8_326 rfl ⟨Nat.le_of_ble_eq_true rfl, Nat.le_of_ble_eq_true rfl⟩ ⟨Nat.le_refl _, Nat.le_refl _⟩ rfl (Nat.le_of_ble_eq_true rfl) dX8_sweets_14 hF (fun _ u5 H locs hF hH => ?_)
      refine lv_iconst hx hb dX8_sweets_17 k_iconst_0 ?_
      refine wx_istore_n hx hb dX8_sweets_18 rfl hl (by decide) (fun ls hl => ?_)
      have hl : lv_has ls 4 [(2, .int (0 : Int32)), (0, .ref (ρ o1)), (1, .int i2)] := hl
      refine lv_iconst hx hb dX8_sweets_19 k_iconst_0 ?_
      refine wx_istore_n hx hb dX8_sweets_20 rfl hl (by decide) (fun ls hl => ?_)
      have hl : lv_has ls 4 [(3, .int (0 : Int32)), (2, .int (0 : Int32)), (0, .ref (ρ o1)), (1, .int i2)] := hl
      have hL21 : ∀ (k6_ : Nat) (i7 : Int32) (i8 : Int32) (u9 : wSt) (H : Heap) (locs : List Loc) (ls : Array Slot), wL (S := Int32 × Int32 × wSt) (fun x => F_X8_sweets_b21 o1 i2 x.1 x.2.1 x.2.2) k6_ (i7, i8, u9) = some z → wHp D κ ρ 0 A s.heap H locs u9 → lv_has ls 4 [(0, .ref (ρ o1)), (1, .int i2), (2, .int i7), (3, .int i8)] → W p l e (wRm 7 179) s m args below meth c H locs 0 0 (wQI below args s A D κ ρ 0 z) (F0 m 21 ls []) := by
        intro k6_
        induction k6_ with
        | zero => intro i7 i8 u9 H locs ls hF; exact wL_zero hF
        | succ k6_ ih6 =>
          intro i7 i8 u9 H locs ls hF hH hl
          obtain ⟨q6_, hF, hq6⟩ := wL_some hF
          have hF : F_X8_sweets_b21 o1 i2 i7 i8 u9 = some q6_ := hF
          unfold F_X8_sweets_b21 at hF
          refine lv_iload_n hx hb dX8_sweets_21 rfl (lv_at hl 3 rfl) ?_
          refine lv_bipush hx hb dX8_sweets_22 k_bipush_9 ?_
          refine lv_icmp_gt hx hb dX8_sweets_24 (tgt := 48) rfl (fun h => ?_) (fun h => ?_)
          · have hF := wx_t h hF
            refine lv_iload_n hx hb dX8_sweets_48 rfl (lv_at hl 2 rfl) ?_
            have hF := wJ_r hq6 hF
            exact wx_iret hC hH hr hlk dX8_sweets_49 hF
          have hF := wx_f h hF
          refine lv_aload_n hx hb dX8_sweets_27 rfl (lv_at hl 0 rfl) ?_
          refine lv_iload_n hx hb dX8_sweets_28 rfl (lv_at hl 1 rfl) ?_
          refine lv_iload_n hx hb dX8_sweets_29 rfl (lv_at hl 3 rfl) ?_
          refine wx_evi hC hH hl (c_X8_agrees o1 i2 i8 h_o1) y_X8_agrees v_X8_agrees h_o1 rfl m_X8_329 rfl ⟨Nat.le_of_ble_eq_true rfl, Nat.le_of_ble_eq_true rfl⟩ ⟨Nat.le_refl _, Nat.le_refl _⟩ rfl (Nat.le_of_ble_eq_true rfl) dX8_sweets_30 hF (fun i11 u10 H locs hF hH => ?_)
          obtain ⟨q12_, hF, hq12⟩ := wJ_some hF
          have hJ42 : ∀ (i13 : Int32) (u14 : wSt) (H : Heap) (locs : List Loc) (ls : Array Slot), F_X8_sweets_j42 i8 i13 u14 = some q6_ → wHp D κ ρ 0 A s.heap H locs u14 → lv_has ls 4 [(0, .ref (ρ o1)), (1, .int i2), (2, .int i13), (3, .int i8)] → W p l e (wRm 7 179) s m args below meth c H locs 0 0 (wQI below args s A D κ ρ 0 z) (F0 m 42 ls []) := by
            intro i13 u14 H locs ls hF hH hl
            unfold F_X8_sweets_j42 at hF
            refine wx_iinc hx hb dX8_sweets_42 k_iconst_1 hl (k := 3) rfl (by decide) hF (fun i15 ls hF hl => ?_)
            have hl : lv_has ls 4 [(3, .int i15), (0, .ref (ρ o1)), (1, .int i2), (2, .int i13)] := hl
            refine lv_goto hx hb dX8_sweets_45 (tgt := 21) rfl ?_
            have hF := wJ_l hq6 hF
            exact ih6 i13 i15 u14 H locs ls hF hH (lv_sub hl [1, 2, 3, 0] rfl)
          refine lv_if_eq hx hb dX8_sweets_33 (tgt := 42) rfl (fun h => ?_) (fun h => ?_)
          · have hF := wx_t h hF
            have hF := wJ_l hq12 hF
            exact hJ42 i7 u10 H locs ls hF hH (lv_sub hl [0, 1, 2, 3] rfl)
          have hF := wx_f h hF
          refine lv_iload_n hx hb dX8_sweets_36 rfl (lv_at hl 2 rfl) ?_
          refine lv_iconst hx hb dX8_sweets_37 k_iconst_1 ?_
          refine lv_iload_n hx hb dX8_sweets_38 rfl (lv_at hl 3 rfl) ?_
          refine lv_ishl hx hb dX8_sweets_39 ?_
          refine lv_ior hx hb dX8_sweets_40 ?_
          refine wx_leti hF (fun i16 hF => ?_)
          refine wx_istore_n hx hb dX8_sweets_41 rfl hl (by decide) (fun ls hl => ?_)
          have hl : lv_has ls 4 [(2, .int i16), (0, .ref (ρ o1)), (1, .int i2), (3, .int i8)] := hl
          have hF := wJ_l hq12 hF
          exact hJ42 i16 u10 H locs ls hF hH (lv_sub hl [1, 2, 0, 3] rfl)
      exact hL21 wFu (0 : Int32) (0 : Int32) u5 H locs ls hF hH (lv_sub hl [2, 3, 1, 0] rfl)
    have hF := wx_t h hF
    refine lv_iconst hx hb dX8_sweets_8 k_iconst_m1 ?_
    exact wx_iret hC hH hr hlk dX8_sweets_9 hF
  exact key _ _ hH
def F_X8_chance_j108 (i12 : Int32) (i27 : Int32) (i28 : Int32) (u29 : wSt) : Option ((Int32 × Int32 × Int32 × wSt) ⊕ (Int32 × wSt)) :=
  wB (i12 + (1 : Int32)) (fun (i30 : Int32) => some (.inl (i27, i28, i30, u29)))
def F_X8_chance_b46 (o1 : Nat) (i3 : Int32) (i4 : Int32) (i10 : Int32) (i11 : Int32) (i12 : Int32) (u13 : wSt) : Option ((Int32 × Int32 × Int32 × wSt) ⊕ (Int32 × wSt)) :=
  if (10 : Int32) ≤ i12 then (some (.inr (i11, u13))) else (wR (u13.2.2 o1 7) 3 (fun o14 => wR (u13.2.2 o1 5) 3 (fun o15 => wC (F_X3_take o14 o15 u13) (fun _ (u16 : wSt) => wR (u16.2.2 o1 7) 3 (fun o17 => wB (w_sI u16 o17 1 i10) (fun (u18 : wSt) => wR (u18.2.2 o1 9) 0 (fun o19 => wR (u18.2.2 o1 7) 3 (fun o20 => wC (F_X0_run o19 o20 i3 u18) (fun _ (u21 : wSt) => wR (u21.2.2 o1 7) 3 (fun o22 => wB (u21.1 o22 1) (fun (i23 : Int32) => wR (u21.2.2 o1 7) 3 (fun o24 => wP (F_X3_hasFainted o24 i4 u21) (fun (i25 : Int32) => wJ (X := Int32 × Int32 × wSt) (if i25 = 0 then (some (.inl (i23, i11, u21))) else (wB (i11 + (1 : Int32)) (fun (i31 : Int32) => some (.inl (i23, i31, u21))))) (fun x => F_X8_chance_j108 i12 x.1 x.2.1 x.2.2))))))))))))))
def F_X8_chance (o1 : Nat) (i2 : Int32) (i3 : Int32) (i4 : Int32) (u0 : wSt) : Option (Int32 × wSt) :=
  if i2 < 0 then (some ((-1 : Int32), u0)) else (if i3 < (1 : Int32) then (some ((-1 : Int32), u0)) else (if (99 : Int32) < i3 then (some ((-1 : Int32), u0)) else (wP (F_X8_isGuest o1 i4 u0) (fun (i5 : Int32) => if i5 = 0 then (some ((-1 : Int32), u0)) else (wR (u0.2.2 o1 9) 0 (fun o6 => wR (u0.2.2 o1 2) 6 (fun o7 => wC (F_X0_begin o6 o7 (1 : Int32) u0) (fun _ (u8 : wSt) => wL (S := Int32 × Int32 × Int32 × wSt) (fun x => F_X8_chance_b46 o1 i3 i4 x.1 x.2.1 x.2.2.1 x.2.2.2) wFu (i2, (0 : Int32), (0 : Int32), u8)))))))))
set_option maxRecDepth 100000 in
set_option maxHeartbeats 4000000 in
theorem c_X8_chance {l : Launch} {D : va_G} {κ : Nat → ClassId} {ρ : Nat → Nat} (o1 : Nat) (i2 : Int32) (i3 : Int32) (i4 : Int32) (h_o1 : (w_sh o1).1 = 8) : wMI l yX8_chance cX8_chance 7 .int (wRm 7 178) [.ref (ρ o1), .int i2, .int i3, .int i4] D κ ρ 0 (fun u => F_X8_chance o1 i2 i3 i4 u) := by
  refine wMI_of (F := fun u => F_X8_chance o1 i2 i3 i4 u) rfl (Nat.le_of_ble_eq_true rfl) (fun u0 z p e s m args below meth c ls A hF hC hr hlk hH hl => ?_)
  have hl : lv_has ls 7 [(0, .ref (ρ o1)), (1, .int i2), (2, .int i3), (3, .int i4)] := hl
  have hx := hC.1.1
  have hb := hC.1.2.1
  have hF : F_X8_chance o1 i2 i3 i4 u0 = some z := hF
  unfold F_X8_chance at hF
  change W p l e (wRm 7 178) s m args below meth c s.heap [] 0 0 (wQI below args s A D κ ρ 0 z) (F0 m 0 ls [])
  have key : ∀ (H : Heap) (locs : List Loc), wHp D κ ρ 0 A s.heap H locs u0 → W p l e (wRm 7 178) s m args below meth c H locs 0 0 (wQI below args s A D κ ρ 0 z) (F0 m 0 ls []) := by
    intro H locs hH
    refine lv_iload_n hx hb dX8_chance_0 rfl (lv_at hl 1 rfl) ?_
    refine lv_if_lt hx hb dX8_chance_1 (tgt := 23) rfl (fun h => ?_) (fun h => ?_)
    · have hF := wx_t h hF
      refine lv_iconst hx hb dX8_chance_23 k_iconst_m1 ?_
      exact wx_iret hC hH hr hlk dX8_chance_24 hF
    have hF := wx_f h hF
    refine lv_iload_n hx hb dX8_chance_4 rfl (lv_at hl 2 rfl) ?_
    refine lv_iconst hx hb dX8_chance_5 k_iconst_1 ?_
    refine lv_icmp_lt hx hb dX8_chance_6 (tgt := 23) rfl (fun h => ?_) (fun h => ?_)
    · have hF := wx_t h hF
      refine lv_iconst hx hb dX8_chance_23 k_iconst_m1 ?_
      exact wx_iret hC hH hr hlk dX8_chance_24 hF
    have hF := wx_f h hF
    refine lv_iload_n hx hb dX8_chance_9 rfl (lv_at hl 2 rfl) ?_
    refine lv_bipush hx hb dX8_chance_10 k_bipush_99 ?_
    refine lv_icmp_gt hx hb dX8_chance_12 (tgt := 23) rfl (fun h => ?_) (fun h => ?_)
    · have hF := wx_t h hF
      refine lv_iconst hx hb dX8_chance_23 k_iconst_m1 ?_
      exact wx_iret hC hH hr hlk dX8_chance_24 hF
    have hF := wx_f h hF
    refine lv_aload_n hx hb dX8_chance_15 rfl (lv_at hl 0 rfl) ?_
    refine lv_iload_n hx hb dX8_chance_16 rfl (lv_at hl 3 rfl) ?_
    refine wx_pvi hC hH hl (c_X8_isGuest o1 i4 h_o1) y_X8_isGuest v_X8_isGuest h_o1 rfl m_X8_118 rfl ⟨Nat.le_of_ble_eq_true rfl, Nat.le_of_ble_eq_true rfl⟩ ⟨Nat.le_refl _, Nat.le_refl _⟩ rfl (Nat.le_of_ble_eq_true rfl) dX8_chance_17 hF (fun i5 H locs hF hH => ?_)
    refine lv_if_ne hx hb dX8_chance_20 (tgt := 25) rfl (fun h => ?_) (fun h => ?_)
    · have hF := wx_f h hF
      refine lv_aload_n hx hb dX8_chance_25 rfl (lv_at hl 0 rfl) ?_
      refine wx_getR hC hH h_o1 rfl f_X8_60 dX8_chance_26 hF (fun o6 h_o6 hF => ?_)
      refine lv_aload_n hx hb dX8_chance_29 rfl (lv_at hl 0 rfl) ?_
      refine wx_getR hC hH h_o1 rfl f_X8_22 dX8_chance_30 hF (fun o7 h_o7 hF => ?_)
      refine lv_iconst hx hb dX8_chance_33 k_iconst_1 ?_
      refine wx_evv hC hH hl (c_X0_begin o6 o7 (1 : Int32) h_o6 h_o7) y_X0_begin v_X0_begin h_o6 rfl m_X8_211 rfl ⟨Nat.le_of_ble_eq_true rfl, Nat.le_of_ble_eq_true rfl⟩ ⟨Nat.le_refl _, Nat.le_refl _⟩ rfl (Nat.le_of_ble_eq_true rfl) dX8_chance_34 hF (fun _ u8 H locs hF hH => ?_)
      refine lv_iload_n hx hb dX8_chance_37 rfl (lv_at hl 1 rfl) ?_
      refine wx_istore hx hb dX8_chance_38 hl (by decide) (fun ls hl => ?_)
      have hl : lv_has ls 7 [(4, .int i2), (0, .ref (ρ o1)), (1, .int i2), (2, .int i3), (3, .int i4)] := hl
      refine lv_iconst hx hb dX8_chance_40 k_iconst_0 ?_
      refine wx_istore hx hb dX8_chance_41 hl (by decide) (fun ls hl => ?_)
      have hl : lv_has ls 7 [(5, .int (0 : Int32)), (4, .int i2), (0, .ref (ρ o1)), (1, .int i2), (2, .int i3), (3, .int i4)] := hl
      refine lv_iconst hx hb dX8_chance_43 k_iconst_0 ?_
      refine wx_istore hx hb dX8_chance_44 hl (by decide) (fun ls hl => ?_)
      have hl : lv_has ls 7 [(6, .int (0 : Int32)), (5, .int (0 : Int32)), (4, .int i2), (0, .ref (ρ o1)), (1, .int i2), (2, .int i3), (3, .int i4)] := hl
      have hL46 : ∀ (k9_ : Nat) (i10 : Int32) (i11 : Int32) (i12 : Int32) (u13 : wSt) (H : Heap) (locs : List Loc) (ls : Array Slot), wL (S := Int32 × Int32 × Int32 × wSt) (fun x => F_X8_chance_b46 o1 i3 i4 x.1 x.2.1 x.2.2.1 x.2.2.2) k9_ (i10, i11, i12, u13) = some z → wHp D κ ρ 0 A s.heap H locs u13 → lv_has ls 7 [(0, .ref (ρ o1)), (2, .int i3), (3, .int i4), (4, .int i10), (5, .int i11), (6, .int i12)] → W p l e (wRm 7 178) s m args below meth c H locs 0 0 (wQI below args s A D κ ρ 0 z) (F0 m 46 ls []) := by
        intro k9_
        induction k9_ with
        | zero => intro i10 i11 i12 u13 H locs ls hF; exact wL_zero hF
        | succ k9_ ih9 =>
          intro i10 i11 i12 u13 H locs ls hF hH hl
          obtain ⟨q9_, hF, hq9⟩ := wL_some hF
          have hF : F_X8_chance_b46 o1 i3 i4 i10 i11 i12 u13 = some q9_ := hF
          unfold F_X8_chance_b46 at hF
          refine lv_iload hx hb dX8_chance_46 (lv_at hl 5 rfl) ?_
          refine lv_bipush hx hb dX8_chance_48 k_bipush_10 ?_
          refine lv_icmp_ge hx hb dX8_chance_50 (tgt := 114) rfl (fun h => ?_) (fun h => ?_)
          · have hF := wx_t h hF
            refine lv_iload hx hb dX8_chance_114 (lv_at hl 4 rfl) ?_
            have hF := wJ_r hq9 hF
            exact wx_iret hC hH hr hlk dX8_chance_116 hF
          have hF := wx_f h hF
          refine lv_aload_n hx hb dX8_chance_53 rfl (lv_at hl 0 rfl) ?_
          refine wx_getR hC hH h_o1 rfl f_X8_48 dX8_chance_54 hF (fun o14 h_o14 hF => ?_)
          refine lv_aload_n hx hb dX8_chance_57 rfl (lv_at hl 0 rfl) ?_
          refine wx_getR hC hH h_o1 rfl f_X8_41 dX8_chance_58 hF (fun o15 h_o15 hF => ?_)
          refine wx_evv hC hH hl (c_X3_take o14 o15 h_o14 h_o15) y_X3_take v_X3_take h_o14 rfl m_X8_345 rfl ⟨Nat.le_of_ble_eq_true rfl, Nat.le_of_ble_eq_true rfl⟩ ⟨Nat.le_refl _, Nat.le_refl _⟩ rfl (Nat.le_of_ble_eq_true rfl) dX8_chance_61 hF (fun _ u16 H locs hF hH => ?_)
          refine lv_aload_n hx hb dX8_chance_64 rfl (lv_at hl 0 rfl) ?_
          refine wx_getR hC hH h_o1 rfl f_X8_48 dX8_chance_65 hF (fun o17 h_o17 hF => ?_)
          refine lv_iload hx hb dX8_chance_68 (lv_at hl 3 rfl) ?_
          refine wx_putI hC hH h_o17 rfl f_X8_349 g_3_1 dX8_chance_70 hF (fun u18 H locs hF hH => ?_)
          refine lv_aload_n hx hb dX8_chance_73 rfl (lv_at hl 0 rfl) ?_
          refine wx_getR hC hH h_o1 rfl f_X8_60 dX8_chance_74 hF (fun o19 h_o19 hF => ?_)
          refine lv_aload_n hx hb dX8_chance_77 rfl (lv_at hl 0 rfl) ?_
          refine wx_getR hC hH h_o1 rfl f_X8_48 dX8_chance_78 hF (fun o20 h_o20 hF => ?_)
          refine lv_iload_n hx hb dX8_chance_81 rfl (lv_at hl 1 rfl) ?_
          refine wx_evv hC hH hl (c_X0_run o19 o20 i3 h_o19 h_o20) y_X0_run v_X0_run h_o19 rfl m_X8_214 rfl ⟨Nat.le_of_ble_eq_true rfl, Nat.le_of_ble_eq_true rfl⟩ ⟨Nat.le_refl _, Nat.le_refl _⟩ rfl (Nat.le_of_ble_eq_true rfl) dX8_chance_82 hF (fun _ u21 H locs hF hH => ?_)
          refine lv_aload_n hx hb dX8_chance_85 rfl (lv_at hl 0 rfl) ?_
          refine wx_getR hC hH h_o1 rfl f_X8_48 dX8_chance_86 hF (fun o22 h_o22 hF => ?_)
          refine wx_getI hC hH h_o22 rfl f_X8_349 dX8_chance_89 ?_
          refine wx_leti hF (fun i23 hF => ?_)
          refine wx_istore hx hb dX8_chance_92 hl (by decide) (fun ls hl => ?_)
          have hl : lv_has ls 7 [(4, .int i23), (0, .ref (ρ o1)), (2, .int i3), (3, .int i4), (5, .int i11), (6, .int i12)] := hl
          refine lv_aload_n hx hb dX8_chance_94 rfl (lv_at hl 1 rfl) ?_
          refine wx_getR hC hH h_o1 rfl f_X8_48 dX8_chance_95 hF (fun o24 h_o24 hF => ?_)
          refine lv_iload_n hx hb dX8_chance_98 rfl (lv_at hl 3 rfl) ?_
          refine wx_pvi hC hH hl (c_X3_hasFainted o24 i4 h_o24) y_X3_hasFainted v_X3_hasFainted h_o24 rfl m_X8_141 rfl ⟨Nat.le_of_ble_eq_true rfl, Nat.le_of_ble_eq_true rfl⟩ ⟨Nat.le_refl _, Nat.le_refl _⟩ rfl (Nat.le_of_ble_eq_true rfl) dX8_chance_99 hF (fun i25 H locs hF hH => ?_)
          obtain ⟨q26_, hF, hq26⟩ := wJ_some hF
          have hJ108 : ∀ (i27 : Int32) (i28 : Int32) (u29 : wSt) (H : Heap) (locs : List Loc) (ls : Array Slot), F_X8_chance_j108 i12 i27 i28 u29 = some q9_ → wHp D κ ρ 0 A s.heap H locs u29 → lv_has ls 7 [(0, .ref (ρ o1)), (2, .int i3), (3, .int i4), (4, .int i27), (5, .int i28), (6, .int i12)] → W p l e (wRm 7 178) s m args below meth c H locs 0 0 (wQI below args s A D κ ρ 0 z) (F0 m 108 ls []) := by
            intro i27 i28 u29 H locs ls hF hH hl
            unfold F_X8_chance_j108 at hF
            refine wx_iinc hx hb dX8_chance_108 k_iconst_1 hl (k := 5) rfl (by decide) hF (fun i30 ls hF hl => ?_)
            have hl : lv_has ls 7 [(6, .int i30), (0, .ref (ρ o1)), (2, .int i3), (3, .int i4), (4, .int i27), (5, .int i28)] := hl
            refine lv_goto hx hb dX8_chance_111 (tgt := 46) rfl ?_
            have hF := wJ_l hq9 hF
            exact ih9 i27 i28 i30 u29 H locs ls hF hH (lv_sub hl [1, 2, 3, 4, 5, 0] rfl)
          refine lv_if_eq hx hb dX8_chance_102 (tgt := 108) rfl (fun h => ?_) (fun h => ?_)
          · have hF := wx_t h hF
            have hF := wJ_l hq26 hF
            exact hJ108 i23 i11 u21 H locs ls hF hH (lv_sub hl [1, 2, 3, 0, 4, 5] rfl)
          have hF := wx_f h hF
          refine wx_iinc hx hb dX8_chance_105 k_iconst_1 hl (k := 4) rfl (by decide) hF (fun i31 ls hF hl => ?_)
          have hl : lv_has ls 7 [(5, .int i31), (4, .int i23), (0, .ref (ρ o1)), (2, .int i3), (3, .int i4), (6, .int i12)] := hl
          have hF := wJ_l hq26 hF
          exact hJ108 i23 i31 u21 H locs ls hF hH (lv_sub hl [2, 3, 4, 1, 0, 5] rfl)
      exact hL46 wFu i2 (0 : Int32) (0 : Int32) u8 H locs ls hF hH (lv_sub hl [3, 5, 6, 2, 1, 0] rfl)
    have hF := wx_t h hF
    refine lv_iconst hx hb dX8_chance_23 k_iconst_m1 ?_
    exact wx_iret hC hH hr hlk dX8_chance_24 hF
  exact key _ _ hH
def F_X8_tried_j132 (o1 : Nat) (i4 : Int32) (u8 : wSt) : Option (Int32 × wSt) :=
  wR (u8.2.2 o1 9) 0 (fun o9 => wR (u8.2.2 o1 7) 3 (fun o10 => wC (F_X0_run o9 o10 i4 u8) (fun _ (u11 : wSt) => wP (F_X8_fallenInTrial o1 u11) (fun (i12 : Int32) => some (i12, u11)))))
def F_X8_tried_j44 (o1 : Nat) (u0 : wSt) (i2 : Int32) (i3 : Int32) (i4 : Int32) : Option (Int32 × wSt) :=
  wC (F_X8_startTrial o1 u0) (fun _ (u6 : wSt) => wJ (X := wSt) (if i2 = 0 then (wR (u6.2.2 o1 9) 0 (fun o13 => wB (w_sI u6 o13 0 (2 : Int32)) (fun (u14 : wSt) => some (.inl u14)))) else (if i2 = 1 then (wR (u6.2.2 o1 9) 0 (fun o15 => wB (w_sI u6 o15 1 (1 : Int32)) (fun (u16 : wSt) => some (.inl u16)))) else (if i2 = 2 then (wR (u6.2.2 o1 9) 0 (fun o17 => wB (w_sI u6 o17 4 i3) (fun (u18 : wSt) => some (.inl u18)))) else (if i2 = 3 then (wR (u6.2.2 o1 9) 0 (fun o19 => wB (w_sI u6 o19 2 (1 : Int32)) (fun (u20 : wSt) => some (.inl u20)))) else (wR (u6.2.2 o1 9) 0 (fun o21 => wB (w_sI u6 o21 3 (1 : Int32)) (fun (u22 : wSt) => some (.inl u22)))))))) (fun x => F_X8_tried_j132 o1 i4 x))
def F_X8_tried (o1 : Nat) (i2 : Int32) (i3 : Int32) (i4 : Int32) (u0 : wSt) : Option (Int32 × wSt) :=
  if i2 < 0 then (some ((-1 : Int32), u0)) else (if (4 : Int32) < i2 then (some ((-1 : Int32), u0)) else (if i4 < 0 then (some ((-1 : Int32), u0)) else (if i4 ≤ (200 : Int32) then (wJ (X := Unit) (if i2 = (2 : Int32) then (wP (F_X8_isGuest o1 i3 u0) (fun (i23 : Int32) => if i23 = 0 then (some (.inr ((-1 : Int32), u0))) else (some (.inl ())))) else (if i3 = 0 then (some (.inl ())) else (some (.inr ((-1 : Int32), u0))))) (fun x => F_X8_tried_j44 o1 u0 i2 i3 i4)) else (some ((-1 : Int32), u0)))))
set_option maxRecDepth 100000 in
set_option maxHeartbeats 4000000 in
theorem c_X8_tried {l : Launch} {D : va_G} {κ : Nat → ClassId} {ρ : Nat → Nat} (o1 : Nat) (i2 : Int32) (i3 : Int32) (i4 : Int32) (h_o1 : (w_sh o1).1 = 8) : wMI l yX8_tried cX8_tried 4 .int (wRm 7 178) [.ref (ρ o1), .int i2, .int i3, .int i4] D κ ρ 0 (fun u => F_X8_tried o1 i2 i3 i4 u) := by
  refine wMI_of (F := fun u => F_X8_tried o1 i2 i3 i4 u) rfl (Nat.le_of_ble_eq_true rfl) (fun u0 z p e s m args below meth c ls A hF hC hr hlk hH hl => ?_)
  have hl : lv_has ls 4 [(0, .ref (ρ o1)), (1, .int i2), (2, .int i3), (3, .int i4)] := hl
  have hx := hC.1.1
  have hb := hC.1.2.1
  have hF : F_X8_tried o1 i2 i3 i4 u0 = some z := hF
  unfold F_X8_tried at hF
  change W p l e (wRm 7 178) s m args below meth c s.heap [] 0 0 (wQI below args s A D κ ρ 0 z) (F0 m 0 ls [])
  have key : ∀ (H : Heap) (locs : List Loc), wHp D κ ρ 0 A s.heap H locs u0 → W p l e (wRm 7 178) s m args below meth c H locs 0 0 (wQI below args s A D κ ρ 0 z) (F0 m 0 ls []) := by
    intro H locs hH
    refine lv_iload_n hx hb dX8_tried_0 rfl (lv_at hl 1 rfl) ?_
    refine lv_if_lt hx hb dX8_tried_1 (tgt := 20) rfl (fun h => ?_) (fun h => ?_)
    · have hF := wx_t h hF
      refine lv_iconst hx hb dX8_tried_20 k_iconst_m1 ?_
      exact wx_iret hC hH hr hlk dX8_tried_21 hF
    have hF := wx_f h hF
    refine lv_iload_n hx hb dX8_tried_4 rfl (lv_at hl 1 rfl) ?_
    refine lv_iconst hx hb dX8_tried_5 k_iconst_4 ?_
    refine lv_icmp_gt hx hb dX8_tried_6 (tgt := 20) rfl (fun h => ?_) (fun h => ?_)
    · have hF := wx_t h hF
      refine lv_iconst hx hb dX8_tried_20 k_iconst_m1 ?_
      exact wx_iret hC hH hr hlk dX8_tried_21 hF
    have hF := wx_f h hF
    refine lv_iload_n hx hb dX8_tried_9 rfl (lv_at hl 3 rfl) ?_
    refine lv_if_lt hx hb dX8_tried_10 (tgt := 20) rfl (fun h => ?_) (fun h => ?_)
    · have hF := wx_t h hF
      refine lv_iconst hx hb dX8_tried_20 k_iconst_m1 ?_
      exact wx_iret hC hH hr hlk dX8_tried_21 hF
    have hF := wx_f h hF
    refine lv_iload_n hx hb dX8_tried_13 rfl (lv_at hl 3 rfl) ?_
    refine lv_sipush hx hb dX8_tried_14 k_sipush_200 ?_
    refine lv_icmp_le hx hb dX8_tried_17 (tgt := 22) rfl (fun h => ?_) (fun h => ?_)
    · have hF := wx_t h hF
      refine lv_iload_n hx hb dX8_tried_22 rfl (lv_at hl 1 rfl) ?_
      refine lv_iconst hx hb dX8_tried_23 k_iconst_2 ?_
      obtain ⟨q5_, hF, hq5⟩ := wJ_some hF
      have hJ44 : ∀ (H : Heap) (locs : List Loc) (ls : Array Slot), F_X8_tried_j44 o1 u0 i2 i3 i4 = some z → wHp D κ ρ 0 A s.heap H locs u0 → lv_has ls 4 [(0, .ref (ρ o1)), (1, .int i2), (2, .int i3), (3, .int i4)] → W p l e (wRm 7 178) s m args below meth c H locs 0 0 (wQI below args s A D κ ρ 0 z) (F0 m 44 ls []) := by
        intro H locs ls hF hH hl
        unfold F_X8_tried_j44 at hF
        refine lv_aload_n hx hb dX8_tried_44 rfl (lv_at hl 0 rfl) ?_
        refine wx_evv hC hH hl (c_X8_startTrial o1 h_o1) y_X8_startTrial v_X8_startTrial h_o1 rfl m_X8_218 rfl ⟨Nat.le_of_ble_eq_true rfl, Nat.le_of_ble_eq_true rfl⟩ ⟨Nat.le_refl _, Nat.le_refl _⟩ rfl (Nat.le_of_ble_eq_true rfl) dX8_tried_45 hF (fun _ u6 H locs hF hH => ?_)
        refine lv_iload_n hx hb dX8_tried_48 rfl (lv_at hl 1 rfl) ?_
        obtain ⟨q7_, hF, hq7⟩ := wJ_some hF
        have hJ132 : ∀ (u8 : wSt) (H : Heap) (locs : List Loc) (ls : Array Slot), F_X8_tried_j132 o1 i4 u8 = some z → wHp D κ ρ 0 A s.heap H locs u8 → lv_has ls 4 [(0, .ref (ρ o1)), (3, .int i4)] → W p l e (wRm 7 178) s m args below meth c H locs 0 0 (wQI below args s A D κ ρ 0 z) (F0 m 132 ls []) := by
          intro u8 H locs ls hF hH hl
          unfold F_X8_tried_j132 at hF
          refine lv_aload_n hx hb dX8_tried_132 rfl (lv_at hl 0 rfl) ?_
          refine wx_getR hC hH h_o1 rfl f_X8_60 dX8_tried_133 hF (fun o9 h_o9 hF => ?_)
          refine lv_aload_n hx hb dX8_tried_136 rfl (lv_at hl 0 rfl) ?_
          refine wx_getR hC hH h_o1 rfl f_X8_48 dX8_tried_137 hF (fun o10 h_o10 hF => ?_)
          refine lv_iload_n hx hb dX8_tried_140 rfl (lv_at hl 1 rfl) ?_
          refine wx_evv hC hH hl (c_X0_run o9 o10 i4 h_o9 h_o10) y_X0_run v_X0_run h_o9 rfl m_X8_214 rfl ⟨Nat.le_of_ble_eq_true rfl, Nat.le_of_ble_eq_true rfl⟩ ⟨Nat.le_refl _, Nat.le_refl _⟩ rfl (Nat.le_of_ble_eq_true rfl) dX8_tried_141 hF (fun _ u11 H locs hF hH => ?_)
          refine lv_aload_n hx hb dX8_tried_144 rfl (lv_at hl 0 rfl) ?_
          refine wx_pvi hC hH hl (c_X8_fallenInTrial o1 h_o1) y_X8_fallenInTrial v_X8_fallenInTrial h_o1 rfl m_X8_225 rfl ⟨Nat.le_of_ble_eq_true rfl, Nat.le_of_ble_eq_true rfl⟩ ⟨Nat.le_refl _, Nat.le_refl _⟩ rfl (Nat.le_of_ble_eq_true rfl) dX8_tried_145 hF (fun i12 H locs hF hH => ?_)
          exact wx_iret hC hH hr hlk dX8_tried_148 hF
        by_cases hs0 : i2 = 0
        · have hF := wx_t hs0 hF
          refine wx_sw hx hb dX8_tried_49 (by decide) (tgt := 80) (by rw [hs0]; decide) ?_
          refine lv_aload_n hx hb dX8_tried_80 rfl (lv_at hl 0 rfl) ?_
          refine wx_getR hC hH h_o1 rfl f_X8_60 dX8_tried_81 hF (fun o13 h_o13 hF => ?_)
          refine lv_iconst hx hb dX8_tried_84 k_iconst_2 ?_
          refine wx_putI hC hH h_o13 rfl f_X8_352 g_0_0 dX8_tried_85 hF (fun u14 H locs hF hH => ?_)
          refine lv_goto hx hb dX8_tried_88 (tgt := 132) rfl ?_
          have hF := wJ_l hq7 hF
          exact hJ132 u14 H locs ls hF hH (lv_sub hl [0, 3] rfl)
        have hF := wx_f hs0 hF
        by_cases hs1 : i2 = 1
        · have hF := wx_t hs1 hF
          refine wx_sw hx hb dX8_tried_49 (by decide) (tgt := 91) (by rw [hs1]; decide) ?_
          refine lv_aload_n hx hb dX8_tried_91 rfl (lv_at hl 0 rfl) ?_
          refine wx_getR hC hH h_o1 rfl f_X8_60 dX8_tried_92 hF (fun o15 h_o15 hF => ?_)
          refine lv_iconst hx hb dX8_tried_95 k_iconst_1 ?_
          refine wx_putZ hC hH h_o15 rfl f_X8_355 g_0_1 dX8_tried_96 (Or.inr rfl) hF (fun u16 H locs hF hH => ?_)
          refine lv_goto hx hb dX8_tried_99 (tgt := 132) rfl ?_
          have hF := wJ_l hq7 hF
          exact hJ132 u16 H locs ls hF hH (lv_sub hl [0, 3] rfl)
        have hF := wx_f hs1 hF
        by_cases hs2 : i2 = 2
        · have hF := wx_t hs2 hF
          refine wx_sw hx hb dX8_tried_49 (by decide) (tgt := 102) (by rw [hs2]; decide) ?_
          refine lv_aload_n hx hb dX8_tried_102 rfl (lv_at hl 0 rfl) ?_
          refine wx_getR hC hH h_o1 rfl f_X8_60 dX8_tried_103 hF (fun o17 h_o17 hF => ?_)
          refine lv_iload_n hx hb dX8_tried_106 rfl (lv_at hl 2 rfl) ?_
          refine wx_putI hC hH h_o17 rfl f_X8_358 g_0_4 dX8_tried_107 hF (fun u18 H locs hF hH => ?_)
          refine lv_goto hx hb dX8_tried_110 (tgt := 132) rfl ?_
          have hF := wJ_l hq7 hF
          exact hJ132 u18 H locs ls hF hH (lv_sub hl [0, 3] rfl)
        have hF := wx_f hs2 hF
        by_cases hs3 : i2 = 3
        · have hF := wx_t hs3 hF
          refine wx_sw hx hb dX8_tried_49 (by decide) (tgt := 113) (by rw [hs3]; decide) ?_
          refine lv_aload_n hx hb dX8_tried_113 rfl (lv_at hl 0 rfl) ?_
          refine wx_getR hC hH h_o1 rfl f_X8_60 dX8_tried_114 hF (fun o19 h_o19 hF => ?_)
          refine lv_iconst hx hb dX8_tried_117 k_iconst_1 ?_
          refine wx_putZ hC hH h_o19 rfl f_X8_361 g_0_2 dX8_tried_118 (Or.inr rfl) hF (fun u20 H locs hF hH => ?_)
          refine lv_goto hx hb dX8_tried_121 (tgt := 132) rfl ?_
          have hF := wJ_l hq7 hF
          exact hJ132 u20 H locs ls hF hH (lv_sub hl [0, 3] rfl)
        have hF := wx_f hs3 hF
        have htg : ((49 : Nat) : Int) + wTg (75) (0) (3) #[31, 42, 53, 64] i2 = ((124 : Nat) : Int) := by
          have n0 : ¬ (i2).toInt = 0 := lv_neT (k := 0) (a := 0) (fun q => hs0 (q)) (by decide)
          have n1 : ¬ (i2).toInt = 1 := lv_neT (k := 1) (a := 1) (fun q => hs1 (q)) (by decide)
          have n2 : ¬ (i2).toInt = 2 := lv_neT (k := 2) (a := 2) (fun q => hs2 (q)) (by decide)
          have n3 : ¬ (i2).toInt = 3 := lv_neT (k := 3) (a := 3) (fun q => hs3 (q)) (by decide)
          rw [wTg_lo (by omega)]; rfl
        refine wx_sw hx hb dX8_tried_49 (by decide) (tgt := 124) htg ?_
        refine lv_aload_n hx hb dX8_tried_124 rfl (lv_at hl 0 rfl) ?_
        refine wx_getR hC hH h_o1 rfl f_X8_60 dX8_tried_125 hF (fun o21 h_o21 hF => ?_)
        refine lv_iconst hx hb dX8_tried_128 k_iconst_1 ?_
        refine wx_putZ hC hH h_o21 rfl f_X8_364 g_0_3 dX8_tried_129 (Or.inr rfl) hF (fun u22 H locs hF hH => ?_)
        have hF := wJ_l hq7 hF
        exact hJ132 u22 H locs ls hF hH (lv_sub hl [0, 3] rfl)
      refine lv_icmp_ne hx hb dX8_tried_24 (tgt := 38) rfl (fun h => ?_) (fun h => ?_)
      · have hF := wx_f h hF
        refine lv_iload_n hx hb dX8_tried_38 rfl (lv_at hl 2 rfl) ?_
        refine lv_if_eq hx hb dX8_tried_39 (tgt := 44) rfl (fun h => ?_) (fun h => ?_)
        · have hF := wx_t h hF
          have hF := wJ_l hq5 hF
          exact hJ44 H locs ls hF hH (lv_sub hl [0, 1, 2, 3] rfl)
        have hF := wx_f h hF
        refine lv_iconst hx hb dX8_tried_42 k_iconst_m1 ?_
        have hF := wJ_r hq5 hF
        exact wx_iret hC hH hr hlk dX8_tried_43 hF
      have hF := wx_t h hF
      refine lv_aload_n hx hb dX8_tried_27 rfl (lv_at hl 0 rfl) ?_
      refine lv_iload_n hx hb dX8_tried_28 rfl (lv_at hl 2 rfl) ?_
      refine wx_pvi hC hH hl (c_X8_isGuest o1 i3 h_o1) y_X8_isGuest v_X8_isGuest h_o1 rfl m_X8_118 rfl ⟨Nat.le_of_ble_eq_true rfl, Nat.le_of_ble_eq_true rfl⟩ ⟨Nat.le_refl _, Nat.le_refl _⟩ rfl (Nat.le_of_ble_eq_true rfl) dX8_tried_29 hF (fun i23 H locs hF hH => ?_)
      refine lv_if_ne hx hb dX8_tried_32 (tgt := 44) rfl (fun h => ?_) (fun h => ?_)
      · have hF := wx_f h hF
        have hF := wJ_l hq5 hF
        exact hJ44 H locs ls hF hH (lv_sub hl [0, 1, 2, 3] rfl)
      have hF := wx_t h hF
      refine lv_goto hx hb dX8_tried_35 (tgt := 42) rfl ?_
      refine lv_iconst hx hb dX8_tried_42 k_iconst_m1 ?_
      have hF := wJ_r hq5 hF
      exact wx_iret hC hH hr hlk dX8_tried_43 hF
    have hF := wx_f h hF
    refine lv_iconst hx hb dX8_tried_20 k_iconst_m1 ?_
    exact wx_iret hC hH hr hlk dX8_tried_21 hF
  exact key _ _ hH

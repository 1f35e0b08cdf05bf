def F_X9_grown (o1 : Nat) (i2 : Int32) (i3 : Int32) (i4 : Int32) (u0 : wSt) : Option (Unit × wSt) :=
  wR (u0.2.2 o1 34) 14 (fun o5 => wSI u0 o5 ((64 : Int32) + (u0.1 o1 19)) i2 (fun (u6 : wSt) => wR (u6.2.2 o1 36) 14 (fun o7 => wSI u6 o7 ((64 : Int32) + (u6.1 o1 19)) i3 (fun (u8 : wSt) => wR (u8.2.2 o1 37) 14 (fun o9 => wSI u8 o9 ((64 : Int32) + (u8.1 o1 19)) i4 (fun (u10 : wSt) => wR (u10.2.2 o1 39) 14 (fun o11 => wSI u10 o11 (u10.1 o1 41) (u10.1 o1 19) (fun (u12 : wSt) => wB (w_sI u12 o1 41 ((u12.1 o1 41) + (1 : Int32))) (fun (u13 : wSt) => wB (w_sI u13 o1 19 ((u13.1 o1 19) + (1 : Int32))) (fun (u14 : wSt) => some ((), u14)))))))))))
set_option maxRecDepth 100000 in
set_option maxHeartbeats 4000000 in
theorem c_X9_grown {l : Launch} {D : va_G} {κ : Nat → ClassId} {ρ : Nat → Nat} (o1 : Nat) (i2 : Int32) (i3 : Int32) (i4 : Int32) (h_o1 : (w_sh o1).1 = 9) : wMV l yX9_grown cX9_grown 4 (wRm 0 0) [.ref (ρ o1), .int i2, .int i3, .int i4] D κ ρ 1 (fun u => F_X9_grown o1 i2 i3 i4 u) := by
  refine wMV_of (F := fun u => F_X9_grown o1 i2 i3 i4 u) rfl (Nat.le_of_ble_eq_true rfl) (fun u0 z p e s m args below meth c ls A hF hC hr hlk hH hl => ?_)
  have hl : lv_has ls 4 [(0, .ref (ρ o1)), (1, .int i2), (2, .int i3), (3, .int i4)] := hl
  have hx := hC.1.1
  have hb := hC.1.2.1
  have hF : F_X9_grown o1 i2 i3 i4 u0 = some z := hF
  unfold F_X9_grown at hF
  change W p l e (wRm 0 0) s m args below meth c s.heap [] 0 0 (wQV below args s A D κ ρ 1 z) (F0 m 0 ls [])
  have key : ∀ (H : Heap) (locs : List Loc), wHp D κ ρ 1 A s.heap H locs u0 → W p l e (wRm 0 0) s m args below meth c H locs 0 0 (wQV below args s A D κ ρ 1 z) (F0 m 0 ls []) := by
    intro H locs hH
    refine lv_aload_n hx hb dX9_grown_0 rfl (lv_at hl 0 rfl) ?_
    refine wx_getR hC hH h_o1 rfl f_X9_63 dX9_grown_1 hF (fun o5 h_o5 hF => ?_)
    refine lv_bipush hx hb dX9_grown_4 k_bipush_64 ?_
    refine lv_aload_n hx hb dX9_grown_6 rfl (lv_at hl 0 rfl) ?_
    refine wx_getI hC hH h_o1 rfl f_X9_213 dX9_grown_7 ?_
    refine lv_iadd hx hb dX9_grown_10 ?_
    refine lv_iload_n hx hb dX9_grown_11 rfl (lv_at hl 1 rfl) ?_
    refine wx_iast hC hH h_o5 ⟨rfl, rfl⟩ dX9_grown_12 hF (fun u6 H locs hF hH => ?_)
    refine lv_aload_n hx hb dX9_grown_13 rfl (lv_at hl 0 rfl) ?_
    refine wx_getR hC hH h_o1 rfl f_X9_69 dX9_grown_14 hF (fun o7 h_o7 hF => ?_)
    refine lv_bipush hx hb dX9_grown_17 k_bipush_64 ?_
    refine lv_aload_n hx hb dX9_grown_19 rfl (lv_at hl 0 rfl) ?_
    refine wx_getI hC hH h_o1 rfl f_X9_213 dX9_grown_20 ?_
    refine lv_iadd hx hb dX9_grown_23 ?_
    refine lv_iload_n hx hb dX9_grown_24 rfl (lv_at hl 2 rfl) ?_
    refine wx_iast hC hH h_o7 ⟨rfl, rfl⟩ dX9_grown_25 hF (fun u8 H locs hF hH => ?_)
    refine lv_aload_n hx hb dX9_grown_26 rfl (lv_at hl 0 rfl) ?_
    refine wx_getR hC hH h_o1 rfl f_X9_72 dX9_grown_27 hF (fun o9 h_o9 hF => ?_)
    refine lv_bipush hx hb dX9_grown_30 k_bipush_64 ?_
    refine lv_aload_n hx hb dX9_grown_32 rfl (lv_at hl 0 rfl) ?_
    refine wx_getI hC hH h_o1 rfl f_X9_213 dX9_grown_33 ?_
    refine lv_iadd hx hb dX9_grown_36 ?_
    refine lv_iload_n hx hb dX9_grown_37 rfl (lv_at hl 3 rfl) ?_
    refine wx_iast hC hH h_o9 ⟨rfl, rfl⟩ dX9_grown_38 hF (fun u10 H locs hF hH => ?_)
    refine lv_aload_n hx hb dX9_grown_39 rfl (lv_at hl 0 rfl) ?_
    refine wx_getR hC hH h_o1 rfl f_X9_78 dX9_grown_40 hF (fun o11 h_o11 hF => ?_)
    refine lv_aload_n hx hb dX9_grown_43 rfl (lv_at hl 0 rfl) ?_
    refine wx_getI hC hH h_o1 rfl f_X9_265 dX9_grown_44 ?_
    refine lv_aload_n hx hb dX9_grown_47 rfl (lv_at hl 0 rfl) ?_
    refine wx_getI hC hH h_o1 rfl f_X9_213 dX9_grown_48 ?_
    refine wx_iast hC hH h_o11 ⟨rfl, rfl⟩ dX9_grown_51 hF (fun u12 H locs hF hH => ?_)
    refine lv_aload_n hx hb dX9_grown_52 rfl (lv_at hl 0 rfl) ?_
    refine lv_dup hx hb dX9_grown_53 rfl ?_
    refine wx_getI hC hH h_o1 rfl f_X9_265 dX9_grown_54 ?_
    refine lv_iconst hx hb dX9_grown_57 k_iconst_1 ?_
    refine lv_iadd hx hb dX9_grown_58 ?_
    refine wx_putI hC hH h_o1 rfl f_X9_265 g_9_41 dX9_grown_59 hF (fun u13 H locs hF hH => ?_)
    refine lv_aload_n hx hb dX9_grown_62 rfl (lv_at hl 0 rfl) ?_
    refine lv_dup hx hb dX9_grown_63 rfl ?_
    refine wx_getI hC hH h_o1 rfl f_X9_213 dX9_grown_64 ?_
    refine lv_iconst hx hb dX9_grown_67 k_iconst_1 ?_
    refine lv_iadd hx hb dX9_grown_68 ?_
    refine wx_putI hC hH h_o1 rfl f_X9_213 g_9_19 dX9_grown_69 hF (fun u14 H locs hF hH => ?_)
    exact wx_vret hC hH hr hlk dX9_grown_72 hF
  exact key _ _ hH
def F_X9_leafRead_j160 (o1 : Nat) (i12 : Int32) (u9 : wSt) (i14 : Int32) : Option (Int32 × wSt) :=
  wC (F_X9_grown o1 i12 i14 (0 : Int32) u9) (fun _ (u15 : wSt) => wB (w_sI u15 o1 44 (0 : Int32)) (fun (u16 : wSt) => wC (F_X9_token o1 u16) (fun _ (u17 : wSt) => some ((1 : Int32), u17))))
def F_X9_leafRead_j148 (i7 : Int32) (u9 : wSt) (o1 : Nat) (i12 : Int32) : Option (Int32 × wSt) :=
  wJ (X := Int32) (if i7 < 0 then (some (.inl (u9.1 o1 9))) else (some (.inl i7))) (fun x => F_X9_leafRead_j160 o1 i12 u9 x)
def F_X9_leafRead_j129 (o1 : Nat) (u0 : wSt) (i7 : Int32) : Option (Int32 × wSt) :=
  wC (F_X9_isCounted o1 u0) (fun (i10 : Int32) (u9 : wSt) => if i10 = 0 then (some ((0 : Int32), u9)) else (wJ (X := Int32) (if i7 < 0 then (some (.inl (0 : Int32))) else (some (.inl (1 : Int32)))) (fun x => F_X9_leafRead_j148 i7 u9 o1 x)))
def F_X9_leafRead_j109 (u0 : wSt) (o1 : Nat) (i7 : Int32) : Option (Int32 × wSt) :=
  wJ (X := Unit) (if 0 ≤ i7 then (some (.inl ())) else (if (u0.1 o1 9) ≤ (9999 : Int32) then (some (.inl ())) else (wC (F_X9_wrong o1 (2 : Int32) u0) (fun (i19 : Int32) (u18 : wSt) => wG (i19 = 0 ∨ i19 = 1) (some (.inr (i19, u18))))))) (fun x => F_X9_leafRead_j129 o1 u0 i7)
def F_X9_leafRead_j86 (o1 : Nat) (u0 : wSt) : Option (Int32 × wSt) :=
  wP (F_X9_nameMet o1 u0) (fun (i5 : Int32) => wJ (X := Int32) (if 0 ≤ i5 then (some (.inl i5)) else (if (u0.1 o1 8) = (3 : Int32) then (some (.inl i5)) else (wC (F_X9_wrong o1 (1 : Int32) u0) (fun (i21 : Int32) (u20 : wSt) => wG (i21 = 0 ∨ i21 = 1) (some (.inr (i21, u20))))))) (fun x => F_X9_leafRead_j109 u0 o1 x))
def F_X9_leafRead (o1 : Nat) (u0 : wSt) : Option (Int32 × wSt) :=
  wP (F_X9_isSign o1 (40 : Int32) u0) (fun (i2 : Int32) => if i2 = 0 then (wP (F_X9_isKey o1 (12 : Int32) u0) (fun (i3 : Int32) => wJ (X := Unit) (if i3 = 0 then (some (.inl ())) else (if (u0.1 o1 45) = 0 then (some (.inl ())) else (wC (F_X9_isCounted o1 u0) (fun (i23 : Int32) (u22 : wSt) => if i23 = 0 then (some (.inr ((0 : Int32), u22))) else (wC (F_X9_waitsFor o1 (2 : Int32) u22) (fun _ (u24 : wSt) => wC (F_X9_token o1 u24) (fun _ (u25 : wSt) => some (.inr ((1 : Int32), u25))))))))) (fun x => F_X9_leafRead_j86 o1 u0))) else (if (u0.1 o1 42) = (8 : Int32) then (wC (F_X9_wrong o1 (2 : Int32) u0) (fun (i31 : Int32) (u30 : wSt) => wG (i31 = 0 ∨ i31 = 1) (some (i31, u30)))) else (wB (w_sI u0 o1 42 ((u0.1 o1 42) + (1 : Int32))) (fun (u26 : wSt) => wC (F_X9_waitsFor o1 (0 : Int32) u26) (fun _ (u27 : wSt) => wB (w_sI u27 o1 45 (1 : Int32)) (fun (u28 : wSt) => wC (F_X9_token o1 u28) (fun _ (u29 : wSt) => some ((1 : Int32), u29))))))))
set_option maxRecDepth 100000 in
set_option maxHeartbeats 4000000 in
theorem c_X9_leafRead {l : Launch} {D : va_G} {κ : Nat → ClassId} {ρ : Nat → Nat} (o1 : Nat) (h_o1 : (w_sh o1).1 = 9) : wMI l yX9_leafRead cX9_leafRead 2 .boolean (wRm 2 47) [.ref (ρ o1)] D κ ρ 1 (fun u => F_X9_leafRead o1 u) := by
  refine wMI_of (F := fun u => F_X9_leafRead o1 u) rfl (Nat.le_of_ble_eq_true rfl) (fun u0 z p e s m args below meth c ls A hF hC hr hlk hH hl => ?_)
  have hl : lv_has ls 2 [(0, .ref (ρ o1))] := hl
  have hx := hC.1.1
  have hb := hC.1.2.1
  have hF : F_X9_leafRead o1 u0 = some z := hF
  unfold F_X9_leafRead at hF
  change W p l e (wRm 2 47) s m args below meth c s.heap [] 0 0 (wQI below args s A D κ ρ 1 z) (F0 m 0 ls [])
  have key : ∀ (H : Heap) (locs : List Loc), wHp D κ ρ 1 A s.heap H locs u0 → W p l e (wRm 2 47) s m args below meth c H locs 0 0 (wQI below args s A D κ ρ 1 z) (F0 m 0 ls []) := by
    intro H locs hH
    refine lv_aload_n hx hb dX9_leafRead_0 rfl (lv_at hl 0 rfl) ?_
    refine lv_bipush hx hb dX9_leafRead_1 k_bipush_40 ?_
    refine wx_pvi hC hH hl (c_X9_isSign o1 (40 : Int32) h_o1) y_X9_isSign v_X9_isSign h_o1 rfl m_X9_197 rfl ⟨Nat.le_of_ble_eq_true rfl, Nat.le_of_ble_eq_true rfl⟩ ⟨Nat.le_refl _, Nat.le_refl _⟩ rfl (Nat.le_of_ble_eq_true rfl) dX9_leafRead_3 hF (fun i2 H locs hF hH => ?_)
    refine lv_if_eq hx hb dX9_leafRead_6 (tgt := 50) rfl (fun h => ?_) (fun h => ?_)
    · have hF := wx_t h hF
      refine lv_aload_n hx hb dX9_leafRead_50 rfl (lv_at hl 0 rfl) ?_
      refine lv_bipush hx hb dX9_leafRead_51 k_bipush_12 ?_
      refine wx_pvi hC hH hl (c_X9_isKey o1 (12 : Int32) h_o1) y_X9_isKey v_X9_isKey h_o1 rfl m_X9_294 rfl ⟨Nat.le_of_ble_eq_true rfl, Nat.le_of_ble_eq_true rfl⟩ ⟨Nat.le_refl _, Nat.le_refl _⟩ rfl (Nat.le_of_ble_eq_true rfl) dX9_leafRead_53 hF (fun i3 H locs hF hH => ?_)
      obtain ⟨q4_, hF, hq4⟩ := wJ_some hF
      have hJ86 : ∀ (H : Heap) (locs : List Loc) (ls : Array Slot), F_X9_leafRead_j86 o1 u0 = some z → wHp D κ ρ 1 A s.heap H locs u0 → lv_has ls 2 [(0, .ref (ρ o1))] → W p l e (wRm 2 47) s m args below meth c H locs 0 0 (wQI below args s A D κ ρ 1 z) (F0 m 86 ls []) := by
        intro H locs ls hF hH hl
        unfold F_X9_leafRead_j86 at hF
        refine lv_aload_n hx hb dX9_leafRead_86 rfl (lv_at hl 0 rfl) ?_
        refine wx_pvi hC hH hl (c_X9_nameMet o1 h_o1) y_X9_nameMet v_X9_nameMet h_o1 rfl m_X9_300 rfl ⟨Nat.le_of_ble_eq_true rfl, Nat.le_of_ble_eq_true rfl⟩ ⟨Nat.le_refl _, Nat.le_refl _⟩ rfl (Nat.le_of_ble_eq_true rfl) dX9_leafRead_87 hF (fun i5 H locs hF hH => ?_)
        refine wx_istore_n hx hb dX9_leafRead_90 rfl hl (by decide) (fun ls hl => ?_)
        have hl : lv_has ls 2 [(1, .int i5), (0, .ref (ρ o1))] := hl
        refine lv_iload_n hx hb dX9_leafRead_91 rfl (lv_at hl 0 rfl) ?_
        obtain ⟨q6_, hF, hq6⟩ := wJ_some hF
        have hJ109 : ∀ (i7 : Int32) (H : Heap) (locs : List Loc) (ls : Array Slot), F_X9_leafRead_j109 u0 o1 i7 = some z → wHp D κ ρ 1 A s.heap H locs u0 → lv_has ls 2 [(0, .ref (ρ o1)), (1, .int i7)] → W p l e (wRm 2 47) s m args below meth c H locs 0 0 (wQI below args s A D κ ρ 1 z) (F0 m 109 ls []) := by
          intro i7 H locs ls hF hH hl
          unfold F_X9_leafRead_j109 at hF
          refine lv_iload_n hx hb dX9_leafRead_109 rfl (lv_at hl 1 rfl) ?_
          obtain ⟨q8_, hF, hq8⟩ := wJ_some hF
          have hJ129 : ∀ (H : Heap) (locs : List Loc) (ls : Array Slot), F_X9_leafRead_j129 o1 u0 i7 = some z → wHp D κ ρ 1 A s.heap H locs u0 → lv_has ls 2 [(0, .ref (ρ o1)), (1, .int i7)] → W p l e (wRm 2 47) s m args below meth c H locs 0 0 (wQI below args s A D κ ρ 1 z) (F0 m 129 ls []) := by
            intro H locs ls hF hH hl
            unfold F_X9_leafRead_j129 at hF
            refine lv_aload_n hx hb dX9_leafRead_129 rfl (lv_at hl 0 rfl) ?_
            refine wx_evi hC hH hl (c_X9_isCounted o1 h_o1) y_X9_isCounted v_X9_isCounted h_o1 rfl m_X9_297 rfl ⟨Nat.le_of_ble_eq_true rfl, Nat.le_of_ble_eq_true rfl⟩ ⟨Nat.le_refl _, Nat.le_refl _⟩ rfl (Nat.le_of_ble_eq_true rfl) dX9_leafRead_130 hF (fun i10 u9 H locs hF hH => ?_)
            refine lv_if_ne hx hb dX9_leafRead_133 (tgt := 138) rfl (fun h => ?_) (fun h => ?_)
            · have hF := wx_f h hF
              refine lv_aload_n hx hb dX9_leafRead_138 rfl (lv_at hl 0 rfl) ?_
              refine lv_iload_n hx hb dX9_leafRead_139 rfl (lv_at hl 1 rfl) ?_
              obtain ⟨q11_, hF, hq11⟩ := wJ_some hF
              have hJ148 : ∀ (i12 : Int32) (H : Heap) (locs : List Loc) (ls : Array Slot), F_X9_leafRead_j148 i7 u9 o1 i12 = some z → wHp D κ ρ 1 A s.heap H locs u9 → lv_has ls 2 [(0, .ref (ρ o1)), (1, .int i7)] → W p l e (wRm 2 47) s m args below meth c H locs 0 0 (wQI below args s A D κ ρ 1 z) (F0 m 148 ls [.int i12, .ref (ρ o1)]) := by
                intro i12 H locs ls hF hH hl
                unfold F_X9_leafRead_j148 at hF
                refine lv_iload_n hx hb dX9_leafRead_148 rfl (lv_at hl 1 rfl) ?_
                obtain ⟨q13_, hF, hq13⟩ := wJ_some hF
                have hJ160 : ∀ (i14 : Int32) (H : Heap) (locs : List Loc) (ls : Array Slot), F_X9_leafRead_j160 o1 i12 u9 i14 = some z → wHp D κ ρ 1 A s.heap H locs u9 → lv_has ls 2 [(0, .ref (ρ o1))] → W p l e (wRm 2 47) s m args below meth c H locs 0 0 (wQI below args s A D κ ρ 1 z) (F0 m 160 ls [.int i14, .int i12, .ref (ρ o1)]) := by
                  intro i14 H locs ls hF hH hl
                  unfold F_X9_leafRead_j160 at hF
                  refine lv_iconst hx hb dX9_leafRead_160 k_iconst_0 ?_
                  refine wx_evv hC hH hl (c_X9_grown o1 i12 i14 (0 : Int32) h_o1) y_X9_grown v_X9_grown h_o1 rfl m_X9_279 rfl ⟨Nat.le_of_ble_eq_true rfl, Nat.le_of_ble_eq_true rfl⟩ ⟨Nat.le_refl _, Nat.le_refl _⟩ rfl (Nat.le_of_ble_eq_true rfl) dX9_leafRead_161 hF (fun _ u15 H locs hF hH => ?_)
                  refine lv_aload_n hx hb dX9_leafRead_164 rfl (lv_at hl 0 rfl) ?_
                  refine lv_iconst hx hb dX9_leafRead_165 k_iconst_0 ?_
                  refine wx_putZ hC hH h_o1 rfl f_X9_303 g_9_44 dX9_leafRead_166 (Or.inl rfl) hF (fun u16 H locs hF hH => ?_)
                  refine lv_aload_n hx hb dX9_leafRead_169 rfl (lv_at hl 0 rfl) ?_
                  refine wx_evv hC hH hl (c_X9_token o1 h_o1) y_X9_token v_X9_token h_o1 rfl m_X9_194 rfl ⟨Nat.le_of_ble_eq_true rfl, Nat.le_of_ble_eq_true rfl⟩ ⟨Nat.le_refl _, Nat.le_refl _⟩ rfl (Nat.le_of_ble_eq_true rfl) dX9_leafRead_170 hF (fun _ u17 H locs hF hH => ?_)
                  refine lv_iconst hx hb dX9_leafRead_173 k_iconst_1 ?_
                  exact wx_zret hC hH hr hlk dX9_leafRead_174 (Or.inr rfl) hF
                refine lv_if_lt hx hb dX9_leafRead_149 (tgt := 156) rfl (fun h => ?_) (fun h => ?_)
                · have hF := wx_t h hF
                  refine lv_aload_n hx hb dX9_leafRead_156 rfl (lv_at hl 0 rfl) ?_
                  refine wx_getI hC hH h_o1 rfl f_X9_171 dX9_leafRead_157 ?_
                  have hF := wJ_l hq13 hF
                  exact hJ160 (u9.1 o1 9) H locs ls hF hH (lv_sub hl [0] rfl)
                have hF := wx_f h hF
                refine lv_iload_n hx hb dX9_leafRead_152 rfl (lv_at hl 1 rfl) ?_
                refine lv_goto hx hb dX9_leafRead_153 (tgt := 160) rfl ?_
                have hF := wJ_l hq13 hF
                exact hJ160 i7 H locs ls hF hH (lv_sub hl [0] rfl)
              refine lv_if_lt hx hb dX9_leafRead_140 (tgt := 147) rfl (fun h => ?_) (fun h => ?_)
              · have hF := wx_t h hF
                refine lv_iconst hx hb dX9_leafRead_147 k_iconst_0 ?_
                have hF := wJ_l hq11 hF
                exact hJ148 (0 : Int32) H locs ls hF hH (lv_sub hl [0, 1] rfl)
              have hF := wx_f h hF
              refine lv_iconst hx hb dX9_leafRead_143 k_iconst_1 ?_
              refine lv_goto hx hb dX9_leafRead_144 (tgt := 148) rfl ?_
              have hF := wJ_l hq11 hF
              exact hJ148 (1 : Int32) H locs ls hF hH (lv_sub hl [0, 1] rfl)
            have hF := wx_t h hF
            refine lv_iconst hx hb dX9_leafRead_136 k_iconst_0 ?_
            exact wx_zret hC hH hr hlk dX9_leafRead_137 (Or.inl rfl) hF
          refine lv_if_ge hx hb dX9_leafRead_110 (tgt := 129) rfl (fun h => ?_) (fun h => ?_)
          · have hF := wx_t h hF
            have hF := wJ_l hq8 hF
            exact hJ129 H locs ls hF hH (lv_sub hl [0, 1] rfl)
          have hF := wx_f h hF
          refine lv_aload_n hx hb dX9_leafRead_113 rfl (lv_at hl 0 rfl) ?_
          refine wx_getI hC hH h_o1 rfl f_X9_171 dX9_leafRead_114 ?_
          refine lv_sipush hx hb dX9_leafRead_117 k_sipush_9999 ?_
          refine lv_icmp_le hx hb dX9_leafRead_120 (tgt := 129) rfl (fun h => ?_) (fun h => ?_)
          · have hF := wx_t h hF
            have hF := wJ_l hq8 hF
            exact hJ129 H locs ls hF hH (lv_sub hl [0, 1] rfl)
          have hF := wx_f h hF
          refine lv_aload_n hx hb dX9_leafRead_123 rfl (lv_at hl 0 rfl) ?_
          refine lv_iconst hx hb dX9_leafRead_124 k_iconst_2 ?_
          refine wx_evi hC hH hl (c_X9_wrong o1 (2 : Int32) h_o1) y_X9_wrong v_X9_wrong h_o1 rfl m_X9_184 rfl ⟨Nat.le_of_ble_eq_true rfl, Nat.le_of_ble_eq_true rfl⟩ ⟨Nat.le_refl _, Nat.le_refl _⟩ rfl (Nat.le_of_ble_eq_true rfl) dX9_leafRead_125 hF (fun i19 u18 H locs hF hH => ?_)
          obtain ⟨h01, hF⟩ := wG_some hF
          have hF := wJ_r hq8 hF
          exact wx_zret hC hH hr hlk dX9_leafRead_128 h01 hF
        refine lv_if_ge hx hb dX9_leafRead_92 (tgt := 109) rfl (fun h => ?_) (fun h => ?_)
        · have hF := wx_t h hF
          have hF := wJ_l hq6 hF
          exact hJ109 i5 H locs ls hF hH (lv_sub hl [1, 0] rfl)
        have hF := wx_f h hF
        refine lv_aload_n hx hb dX9_leafRead_95 rfl (lv_at hl 1 rfl) ?_
        refine wx_getI hC hH h_o1 rfl f_X9_160 dX9_leafRead_96 ?_
        refine lv_iconst hx hb dX9_leafRead_99 k_iconst_3 ?_
        refine lv_icmp_eq hx hb dX9_leafRead_100 (tgt := 109) rfl (fun h => ?_) (fun h => ?_)
        · have hF := wx_t h hF
          have hF := wJ_l hq6 hF
          exact hJ109 i5 H locs ls hF hH (lv_sub hl [1, 0] rfl)
        have hF := wx_f h hF
        refine lv_aload_n hx hb dX9_leafRead_103 rfl (lv_at hl 1 rfl) ?_
        refine lv_iconst hx hb dX9_leafRead_104 k_iconst_1 ?_
        refine wx_evi hC hH hl (c_X9_wrong o1 (1 : Int32) h_o1) y_X9_wrong v_X9_wrong h_o1 rfl m_X9_184 rfl ⟨Nat.le_of_ble_eq_true rfl, Nat.le_of_ble_eq_true rfl⟩ ⟨Nat.le_refl _, Nat.le_refl _⟩ rfl (Nat.le_of_ble_eq_true rfl) dX9_leafRead_105 hF (fun i21 u20 H locs hF hH => ?_)
        obtain ⟨h01, hF⟩ := wG_some hF
        have hF := wJ_r hq6 hF
        exact wx_zret hC hH hr hlk dX9_leafRead_108 h01 hF
      refine lv_if_eq hx hb dX9_leafRead_56 (tgt := 86) rfl (fun h => ?_) (fun h => ?_)
      · have hF := wx_t h hF
        have hF := wJ_l hq4 hF
        exact hJ86 H locs ls hF hH (lv_sub hl [0] rfl)
      have hF := wx_f h hF
      refine lv_aload_n hx hb dX9_leafRead_59 rfl (lv_at hl 0 rfl) ?_
      refine wx_getI hC hH h_o1 rfl f_X9_290 dX9_leafRead_60 ?_
      refine lv_if_eq hx hb dX9_leafRead_63 (tgt := 86) rfl (fun h => ?_) (fun h => ?_)
      · have hF := wx_t h hF
        have hF := wJ_l hq4 hF
        exact hJ86 H locs ls hF hH (lv_sub hl [0] rfl)
      have hF := wx_f h hF
      refine lv_aload_n hx hb dX9_leafRead_66 rfl (lv_at hl 0 rfl) ?_
      refine wx_evi hC hH hl (c_X9_isCounted o1 h_o1) y_X9_isCounted v_X9_isCounted h_o1 rfl m_X9_297 rfl ⟨Nat.le_of_ble_eq_true rfl, Nat.le_of_ble_eq_true rfl⟩ ⟨Nat.le_refl _, Nat.le_refl _⟩ rfl (Nat.le_of_ble_eq_true rfl) dX9_leafRead_67 hF (fun i23 u22 H locs hF hH => ?_)
      refine lv_if_ne hx hb dX9_leafRead_70 (tgt := 75) rfl (fun h => ?_) (fun h => ?_)
      · have hF := wx_f h hF
        refine lv_aload_n hx hb dX9_leafRead_75 rfl (lv_at hl 0 rfl) ?_
        refine lv_iconst hx hb dX9_leafRead_76 k_iconst_2 ?_
        refine wx_evv hC hH hl (c_X9_waitsFor o1 (2 : Int32) h_o1) y_X9_waitsFor v_X9_waitsFor h_o1 rfl m_X9_286 rfl ⟨Nat.le_of_ble_eq_true rfl, Nat.le_of_ble_eq_true rfl⟩ ⟨Nat.le_refl _, Nat.le_refl _⟩ rfl (Nat.le_of_ble_eq_true rfl) dX9_leafRead_77 hF (fun _ u24 H locs hF hH => ?_)
        refine lv_aload_n hx hb dX9_leafRead_80 rfl (lv_at hl 0 rfl) ?_
        refine wx_evv hC hH hl (c_X9_token o1 h_o1) y_X9_token v_X9_token h_o1 rfl m_X9_194 rfl ⟨Nat.le_of_ble_eq_true rfl, Nat.le_of_ble_eq_true rfl⟩ ⟨Nat.le_refl _, Nat.le_refl _⟩ rfl (Nat.le_of_ble_eq_true rfl) dX9_leafRead_81 hF (fun _ u25 H locs hF hH => ?_)
        refine lv_iconst hx hb dX9_leafRead_84 k_iconst_1 ?_
        have hF := wJ_r hq4 hF
        exact wx_zret hC hH hr hlk dX9_leafRead_85 (Or.inr rfl) hF
      have hF := wx_t h hF
      refine lv_iconst hx hb dX9_leafRead_73 k_iconst_0 ?_
      have hF := wJ_r hq4 hF
      exact wx_zret hC hH hr hlk dX9_leafRead_74 (Or.inl rfl) hF
    have hF := wx_f h hF
    refine lv_aload_n hx hb dX9_leafRead_9 rfl (lv_at hl 0 rfl) ?_
    refine wx_getI hC hH h_o1 rfl f_X9_283 dX9_leafRead_10 ?_
    refine lv_bipush hx hb dX9_leafRead_13 k_bipush_8 ?_
    refine lv_icmp_ne hx hb dX9_leafRead_15 (tgt := 24) rfl (fun h => ?_) (fun h => ?_)
    · have hF := wx_f h hF
      refine lv_aload_n hx hb dX9_leafRead_24 rfl (lv_at hl 0 rfl) ?_
      refine lv_dup hx hb dX9_leafRead_25 rfl ?_
      refine wx_getI hC hH h_o1 rfl f_X9_283 dX9_leafRead_26 ?_
      refine lv_iconst hx hb dX9_leafRead_29 k_iconst_1 ?_
      refine lv_iadd hx hb dX9_leafRead_30 ?_
      refine wx_putI hC hH h_o1 rfl f_X9_283 g_9_42 dX9_leafRead_31 hF (fun u26 H locs hF hH => ?_)
      refine lv_aload_n hx hb dX9_leafRead_34 rfl (lv_at hl 0 rfl) ?_
      refine lv_iconst hx hb dX9_leafRead_35 k_iconst_0 ?_
      refine wx_evv hC hH hl (c_X9_waitsFor o1 (0 : Int32) h_o1) y_X9_waitsFor v_X9_waitsFor h_o1 rfl m_X9_286 rfl ⟨Nat.le_of_ble_eq_true rfl, Nat.le_of_ble_eq_true rfl⟩ ⟨Nat.le_refl _, Nat.le_refl _⟩ rfl (Nat.le_of_ble_eq_true rfl) dX9_leafRead_36 hF (fun _ u27 H locs hF hH => ?_)
      refine lv_aload_n hx hb dX9_leafRead_39 rfl (lv_at hl 0 rfl) ?_
      refine lv_iconst hx hb dX9_leafRead_40 k_iconst_1 ?_
      refine wx_putZ hC hH h_o1 rfl f_X9_290 g_9_45 dX9_leafRead_41 (Or.inr rfl) hF (fun u28 H locs hF hH => ?_)
      refine lv_aload_n hx hb dX9_leafRead_44 rfl (lv_at hl 0 rfl) ?_
      refine wx_evv hC hH hl (c_X9_token o1 h_o1) y_X9_token v_X9_token h_o1 rfl m_X9_194 rfl ⟨Nat.le_of_ble_eq_true rfl, Nat.le_of_ble_eq_true rfl⟩ ⟨Nat.le_refl _, Nat.le_refl _⟩ rfl (Nat.le_of_ble_eq_true rfl) dX9_leafRead_45 hF (fun _ u29 H locs hF hH => ?_)
      refine lv_iconst hx hb dX9_leafRead_48 k_iconst_1 ?_
      exact wx_zret hC hH hr hlk dX9_leafRead_49 (Or.inr rfl) hF
    have hF := wx_t h hF
    refine lv_aload_n hx hb dX9_leafRead_18 rfl (lv_at hl 0 rfl) ?_
    refine lv_iconst hx hb dX9_leafRead_19 k_iconst_2 ?_
    refine wx_evi hC hH hl (c_X9_wrong o1 (2 : Int32) h_o1) y_X9_wrong v_X9_wrong h_o1 rfl m_X9_184 rfl ⟨Nat.le_of_ble_eq_true rfl, Nat.le_of_ble_eq_true rfl⟩ ⟨Nat.le_refl _, Nat.le_refl _⟩ rfl (Nat.le_of_ble_eq_true rfl) dX9_leafRead_20 hF (fun i31 u30 H locs hF hH => ?_)
    obtain ⟨h01, hF⟩ := wG_some hF
    exact wx_zret hC hH hr hlk dX9_leafRead_23 h01 hF
  exact key _ _ hH
def F_X9_rank (i1 : Int32) (u0 : wSt) : Option Int32 :=
  if i1 < (13 : Int32) then (if i1 < (11 : Int32) then (if i1 < (5 : Int32) then (if i1 = (2 : Int32) then (some ((3 : Int32))) else (if i1 = (3 : Int32) then (some ((2 : Int32))) else (if i1 = (4 : Int32) then (some ((1 : Int32))) else (some ((0 : Int32)))))) else (some ((4 : Int32)))) else (some ((5 : Int32)))) else (some ((6 : Int32)))
set_option maxRecDepth 100000 in
set_option maxHeartbeats 4000000 in
theorem c_X9_rank {l : Launch} {D : va_G} {κ : Nat → ClassId} {ρ : Nat → Nat} (i1 : Int32) : wMI l yX9_rank cX9_rank 1 .int (wRm 0 0) [.int i1] D κ ρ 1 (fun u => wPu (F_X9_rank i1 u) u) := by
  refine wMP_of (F := fun u => F_X9_rank i1 u) rfl (Nat.le_of_ble_eq_true rfl) (fun u0 z p e s m args below meth c ls A hF hC hr hlk hH hl => ?_)
  have hl : lv_has ls 1 [(0, .int i1)] := hl
  have hx := hC.1.1
  have hb := hC.1.2.1
  have hF : F_X9_rank i1 u0 = some z := hF
  unfold F_X9_rank at hF
  change W p l e (wRm 0 0) s m args below meth c s.heap [] 0 0 (wQI below args s A D κ ρ 1 (z, u0)) (F0 m 0 ls [])
  have key : ∀ (H : Heap) (locs : List Loc), wHp D κ ρ 1 A s.heap H locs u0 → W p l e (wRm 0 0) s m args below meth c H locs 0 0 (wQI below args s A D κ ρ 1 (z, u0)) (F0 m 0 ls []) := by
    intro H locs hH
    refine lv_iload_n hx hb dX9_rank_0 rfl (lv_at hl 0 rfl) ?_
    refine lv_bipush hx hb dX9_rank_1 k_bipush_13 ?_
    refine lv_icmp_lt hx hb dX9_rank_3 (tgt := 11) rfl (fun h => ?_) (fun h => ?_)
    · have hF := wx_t h hF
      refine lv_iload_n hx hb dX9_rank_11 rfl (lv_at hl 0 rfl) ?_
      refine lv_bipush hx hb dX9_rank_12 k_bipush_11 ?_
      refine lv_icmp_lt hx hb dX9_rank_14 (tgt := 21) rfl (fun h => ?_) (fun h => ?_)
      · have hF := wx_t h hF
        refine lv_iload_n hx hb dX9_rank_21 rfl (lv_at hl 0 rfl) ?_
        refine lv_iconst hx hb dX9_rank_22 k_iconst_5 ?_
        refine lv_icmp_lt hx hb dX9_rank_23 (tgt := 30) rfl (fun h => ?_) (fun h => ?_)
        · have hF := wx_t h hF
          refine lv_iload_n hx hb dX9_rank_30 rfl (lv_at hl 0 rfl) ?_
          refine lv_iconst hx hb dX9_rank_31 k_iconst_2 ?_
          refine lv_icmp_ne hx hb dX9_rank_32 (tgt := 39) rfl (fun h => ?_) (fun h => ?_)
          · have hF := wx_f h hF
            refine lv_iload_n hx hb dX9_rank_39 rfl (lv_at hl 0 rfl) ?_
            refine lv_iconst hx hb dX9_rank_40 k_iconst_3 ?_
            refine lv_icmp_ne hx hb dX9_rank_41 (tgt := 48) rfl (fun h => ?_) (fun h => ?_)
            · have hF := wx_f h hF
              refine lv_iload_n hx hb dX9_rank_48 rfl (lv_at hl 0 rfl) ?_
              refine lv_iconst hx hb dX9_rank_49 k_iconst_4 ?_
              refine lv_icmp_ne hx hb dX9_rank_50 (tgt := 57) rfl (fun h => ?_) (fun h => ?_)
              · have hF := wx_f h hF
                refine lv_iconst hx hb dX9_rank_57 k_iconst_0 ?_
                exact wx_iret hC hH hr hlk dX9_rank_58 (wx_pr hF)
              have hF := wx_t h hF
              refine lv_iconst hx hb dX9_rank_53 k_iconst_1 ?_
              refine lv_goto hx hb dX9_rank_54 (tgt := 58) rfl ?_
              exact wx_iret hC hH hr hlk dX9_rank_58 (wx_pr hF)
            have hF := wx_t h hF
            refine lv_iconst hx hb dX9_rank_44 k_iconst_2 ?_
            refine lv_goto hx hb dX9_rank_45 (tgt := 58) rfl ?_
            exact wx_iret hC hH hr hlk dX9_rank_58 (wx_pr hF)
          have hF := wx_t h hF
          refine lv_iconst hx hb dX9_rank_35 k_iconst_3 ?_
          refine lv_goto hx hb dX9_rank_36 (tgt := 58) rfl ?_
          exact wx_iret hC hH hr hlk dX9_rank_58 (wx_pr hF)
        have hF := wx_f h hF
        refine lv_iconst hx hb dX9_rank_26 k_iconst_4 ?_
        refine lv_goto hx hb dX9_rank_27 (tgt := 58) rfl ?_
        exact wx_iret hC hH hr hlk dX9_rank_58 (wx_pr hF)
      have hF := wx_f h hF
      refine lv_iconst hx hb dX9_rank_17 k_iconst_5 ?_
      refine lv_goto hx hb dX9_rank_18 (tgt := 58) rfl ?_
      exact wx_iret hC hH hr hlk dX9_rank_58 (wx_pr hF)
    have hF := wx_f h hF
    refine lv_bipush hx hb dX9_rank_6 k_bipush_6 ?_
    refine lv_goto hx hb dX9_rank_8 (tgt := 58) rfl ?_
    exact wx_iret hC hH hr hlk dX9_rank_58 (wx_pr hF)
  exact key _ _ hH
def F_X9_dropHeld (o1 : Nat) (u0 : wSt) : Option (Int32 × wSt) :=
  wB (w_sI u0 o1 41 ((u0.1 o1 41) - (1 : Int32))) (fun (u2 : wSt) => wR (u2.2.2 o1 39) 14 (fun o3 => wN (u2.1 o1 41) o3 (fun j4 => some ((u2.1 o3 j4), u2))))
set_option maxRecDepth 100000 in
set_option maxHeartbeats 4000000 in
theorem c_X9_dropHeld {l : Launch} {D : va_G} {κ : Nat → ClassId} {ρ : Nat → Nat} (o1 : Nat) (h_o1 : (w_sh o1).1 = 9) : wMI l yX9_dropHeld cX9_dropHeld 1 .int (wRm 0 0) [.ref (ρ o1)] D κ ρ 1 (fun u => F_X9_dropHeld o1 u) := by
  refine wMI_of (F := fun u => F_X9_dropHeld o1 u) rfl (Nat.le_of_ble_eq_true rfl) (fun u0 z p e s m args below meth c ls A hF hC hr hlk hH hl => ?_)
  have hl : lv_has ls 1 [(0, .ref (ρ o1))] := hl
  have hx := hC.1.1
  have hb := hC.1.2.1
  have hF : F_X9_dropHeld o1 u0 = some z := hF
  unfold F_X9_dropHeld at hF
  change W p l e (wRm 0 0) s m args below meth c s.heap [] 0 0 (wQI below args s A D κ ρ 1 z) (F0 m 0 ls [])
  have key : ∀ (H : Heap) (locs : List Loc), wHp D κ ρ 1 A s.heap H locs u0 → W p l e (wRm 0 0) s m args below meth c H locs 0 0 (wQI below args s A D κ ρ 1 z) (F0 m 0 ls []) := by
    intro H locs hH
    refine lv_aload_n hx hb dX9_dropHeld_0 rfl (lv_at hl 0 rfl) ?_
    refine lv_dup hx hb dX9_dropHeld_1 rfl ?_
    refine wx_getI hC hH h_o1 rfl f_X9_265 dX9_dropHeld_2 ?_
    refine lv_iconst hx hb dX9_dropHeld_5 k_iconst_1 ?_
    refine lv_isub hx hb dX9_dropHeld_6 ?_
    refine wx_putI hC hH h_o1 rfl f_X9_265 g_9_41 dX9_dropHeld_7 hF (fun u2 H locs hF hH => ?_)
    refine lv_aload_n hx hb dX9_dropHeld_10 rfl (lv_at hl 0 rfl) ?_
    refine wx_getR hC hH h_o1 rfl f_X9_78 dX9_dropHeld_11 hF (fun o3 h_o3 hF => ?_)
    refine lv_aload_n hx hb dX9_dropHeld_14 rfl (lv_at hl 0 rfl) ?_
    refine wx_getI hC hH h_o1 rfl f_X9_265 dX9_dropHeld_15 ?_
    refine wx_iald hC hH h_o3 ⟨rfl, rfl⟩ dX9_dropHeld_18 hF (fun j4 hF => ?_)
    exact wx_iret hC hH hr hlk dX9_dropHeld_19 hF
  exact key _ _ hH
def F_X9_bind_j58 (o1 : Nat) (i13 : Int32) (i14 : Int32) (u15 : wSt) : Option ((wSt) ⊕ (Unit × wSt)) :=
  wC (F_X9_dropHeld o1 u15) (fun (i17 : Int32) (u16 : wSt) => wC (F_X9_grown o1 i13 i17 i14 u16) (fun _ (u18 : wSt) => some (.inl u18)))
def F_X9_bind_b0 (o1 : Nat) (i2 : Int32) (u4 : wSt) : Option ((wSt) ⊕ (Unit × wSt)) :=
  if (u4.1 o1 40) ≤ 0 then (some (.inr ((), u4))) else (wR (u4.2.2 o1 38) 14 (fun o5 => wN ((u4.1 o1 40) - (1 : Int32)) o5 (fun j6 => wP (F_X9_rank (u4.1 o5 j6) u4) (fun (i7 : Int32) => if i7 < i2 then (some (.inr ((), u4))) else (wB (w_sI u4 o1 40 ((u4.1 o1 40) - (1 : Int32))) (fun (u8 : wSt) => wR (u8.2.2 o1 38) 14 (fun o9 => wN (u8.1 o1 40) o9 (fun j10 => wB (u8.1 o9 j10) (fun (i11 : Int32) => wJ (X := Int32 × Int32 × wSt) (if i11 = (2 : Int32) then (some (.inl (i11, (-1 : Int32), u8))) else (wC (F_X9_dropHeld o1 u8) (fun (i20 : Int32) (u19 : wSt) => some (.inl (i11, i20, u19))))) (fun x => F_X9_bind_j58 o1 x.1 x.2.1 x.2.2))))))))))
def F_X9_bind (o1 : Nat) (i2 : Int32) (u0 : wSt) : Option (Unit × wSt) :=
  wL (S := wSt) (fun x => F_X9_bind_b0 o1 i2 x) wFu u0
set_option maxRecDepth 100000 in
set_option maxHeartbeats 4000000 in
theorem c_X9_bind {l : Launch} {D : va_G} {κ : Nat → ClassId} {ρ : Nat → Nat} (o1 : Nat) (i2 : Int32) (h_o1 : (w_sh o1).1 = 9) : wMV l yX9_bind cX9_bind 5 (wRm 1 23) [.ref (ρ o1), .int i2] D κ ρ 1 (fun u => F_X9_bind o1 i2 u) := by
  refine wMV_of (F := fun u => F_X9_bind o1 i2 u) rfl (Nat.le_of_ble_eq_true rfl) (fun u0 z p e s m args below meth c ls A hF hC hr hlk hH hl => ?_)
  have hl : lv_has ls 5 [(0, .ref (ρ o1)), (1, .int i2)] := hl
  have hx := hC.1.1
  have hb := hC.1.2.1
  have hF : F_X9_bind o1 i2 u0 = some z := hF
  unfold F_X9_bind at hF
  change W p l e (wRm 1 23) s m args below meth c s.heap [] 0 0 (wQV below args s A D κ ρ 1 z) (F0 m 0 ls [])
  have key : ∀ (H : Heap) (locs : List Loc), wHp D κ ρ 1 A s.heap H locs u0 → W p l e (wRm 1 23) s m args below meth c H locs 0 0 (wQV below args s A D κ ρ 1 z) (F0 m 0 ls []) := by
    intro H locs hH
    have hL0 : ∀ (k3_ : Nat) (u4 : wSt) (H : Heap) (locs : List Loc) (ls : Array Slot), wL (S := wSt) (fun x => F_X9_bind_b0 o1 i2 x) k3_ u4 = some z → wHp D κ ρ 1 A s.heap H locs u4 → lv_has ls 5 [(0, .ref (ρ o1)), (1, .int i2)] → W p l e (wRm 1 23) s m args below meth c H locs 0 0 (wQV below args s A D κ ρ 1 z) (F0 m 0 ls []) := by
      intro k3_
      induction k3_ with
      | zero => intro u4 H locs ls hF; exact wL_zero hF
      | succ k3_ ih3 =>
        intro u4 H locs ls hF hH hl
        obtain ⟨q3_, hF, hq3⟩ := wL_some hF
        have hF : F_X9_bind_b0 o1 i2 u4 = some q3_ := hF
        unfold F_X9_bind_b0 at hF
        refine lv_aload_n hx hb dX9_bind_0 rfl (lv_at hl 0 rfl) ?_
        refine wx_getI hC hH h_o1 rfl f_X9_268 dX9_bind_1 ?_
        refine lv_if_le hx hb dX9_bind_4 (tgt := 76) rfl (fun h => ?_) (fun h => ?_)
        · have hF := wx_t h hF
          have hF := wJ_r hq3 hF
          exact wx_vret hC hH hr hlk dX9_bind_76 hF
        have hF := wx_f h hF
        refine lv_aload_n hx hb dX9_bind_7 rfl (lv_at hl 0 rfl) ?_
        refine wx_getR hC hH h_o1 rfl f_X9_75 dX9_bind_8 hF (fun o5 h_o5 hF => ?_)
        refine lv_aload_n hx hb dX9_bind_11 rfl (lv_at hl 0 rfl) ?_
        refine wx_getI hC hH h_o1 rfl f_X9_268 dX9_bind_12 ?_
        refine lv_iconst hx hb dX9_bind_15 k_iconst_1 ?_
        refine lv_isub hx hb dX9_bind_16 ?_
        refine wx_iald hC hH h_o5 ⟨rfl, rfl⟩ dX9_bind_17 hF (fun j6 hF => ?_)
        refine wx_psi hC hH hl (c_X9_rank (u4.1 o5 j6)) y_X9_rank v_X9_rank m_X9_271 rfl ⟨Nat.le_of_ble_eq_true rfl, Nat.le_of_ble_eq_true rfl⟩ ⟨Nat.le_refl _, Nat.le_refl _⟩ rfl (Nat.le_of_ble_eq_true rfl) dX9_bind_18 hF (fun i7 H locs hF hH => ?_)
        refine lv_iload_n hx hb dX9_bind_21 rfl (lv_at hl 1 rfl) ?_
        refine lv_icmp_lt hx hb dX9_bind_22 (tgt := 76) rfl (fun h => ?_) (fun h => ?_)
        · have hF := wx_t h hF
          have hF := wJ_r hq3 hF
          exact wx_vret hC hH hr hlk dX9_bind_76 hF
        have hF := wx_f h hF
        refine lv_aload_n hx hb dX9_bind_25 rfl (lv_at hl 0 rfl) ?_
        refine lv_dup hx hb dX9_bind_26 rfl ?_
        refine wx_getI hC hH h_o1 rfl f_X9_268 dX9_bind_27 ?_
        refine lv_iconst hx hb dX9_bind_30 k_iconst_1 ?_
        refine lv_isub hx hb dX9_bind_31 ?_
        refine wx_putI hC hH h_o1 rfl f_X9_268 g_9_40 dX9_bind_32 hF (fun u8 H locs hF hH => ?_)
        refine lv_aload_n hx hb dX9_bind_35 rfl (lv_at hl 0 rfl) ?_
        refine wx_getR hC hH h_o1 rfl f_X9_75 dX9_bind_36 hF (fun o9 h_o9 hF => ?_)
        refine lv_aload_n hx hb dX9_bind_39 rfl (lv_at hl 0 rfl) ?_
        refine wx_getI hC hH h_o1 rfl f_X9_268 dX9_bind_40 ?_
        refine wx_iald hC hH h_o9 ⟨rfl, rfl⟩ dX9_bind_43 hF (fun j10 hF => ?_)
        refine wx_leti hF (fun i11 hF => ?_)
        refine wx_istore_n hx hb dX9_bind_44 rfl hl (by decide) (fun ls hl => ?_)
        have hl : lv_has ls 5 [(2, .int i11), (0, .ref (ρ o1)), (1, .int i2)] := hl
        refine lv_iload_n hx hb dX9_bind_45 rfl (lv_at hl 0 rfl) ?_
        refine lv_iconst hx hb dX9_bind_46 k_iconst_2 ?_
        obtain ⟨q12_, hF, hq12⟩ := wJ_some hF
        have hJ58 : ∀ (i13 : Int32) (i14 : Int32) (u15 : wSt) (H : Heap) (locs : List Loc) (ls : Array Slot), F_X9_bind_j58 o1 i13 i14 u15 = some q3_ → wHp D κ ρ 1 A s.heap H locs u15 → lv_has ls 5 [(0, .ref (ρ o1)), (1, .int i2), (2, .int i13)] → W p l e (wRm 1 23) s m args below meth c H locs 0 0 (wQV below args s A D κ ρ 1 z) (F0 m 58 ls [.int i14]) := by
          intro i13 i14 u15 H locs ls hF hH hl
          unfold F_X9_bind_j58 at hF
          refine wx_istore_n hx hb dX9_bind_58 rfl hl (by decide) (fun ls hl => ?_)
          have hl : lv_has ls 5 [(3, .int i14), (0, .ref (ρ o1)), (1, .int i2), (2, .int i13)] := hl
          refine lv_aload_n hx hb dX9_bind_59 rfl (lv_at hl 1 rfl) ?_
          refine wx_evi hC hH hl (c_X9_dropHeld o1 h_o1) y_X9_dropHeld v_X9_dropHeld h_o1 rfl m_X9_275 rfl ⟨Nat.le_of_ble_eq_true rfl, Nat.le_of_ble_eq_true rfl⟩ ⟨Nat.le_refl _, Nat.le_refl _⟩ rfl (Nat.le_of_ble_eq_true rfl) dX9_bind_60 hF (fun i17 u16 H locs hF hH => ?_)
          refine wx_istore hx hb dX9_bind_63 hl (by decide) (fun ls hl => ?_)
          have hl : lv_has ls 5 [(4, .int i17), (3, .int i14), (0, .ref (ρ o1)), (1, .int i2), (2, .int i13)] := hl
          refine lv_aload_n hx hb dX9_bind_65 rfl (lv_at hl 2 rfl) ?_
          refine lv_iload_n hx hb dX9_bind_66 rfl (lv_at hl 4 rfl) ?_
          refine lv_iload hx hb dX9_bind_67 (lv_at hl 0 rfl) ?_
          refine lv_iload_n hx hb dX9_bind_69 rfl (lv_at hl 1 rfl) ?_
          refine wx_evv hC hH hl (c_X9_grown o1 i13 i17 i14 h_o1) y_X9_grown v_X9_grown h_o1 rfl m_X9_279 rfl ⟨Nat.le_of_ble_eq_true rfl, Nat.le_of_ble_eq_true rfl⟩ ⟨Nat.le_refl _, Nat.le_refl _⟩ rfl (Nat.le_of_ble_eq_true rfl) dX9_bind_70 hF (fun _ u18 H locs hF hH => ?_)
          refine lv_goto hx hb dX9_bind_73 (tgt := 0) rfl ?_
          have hF := wJ_l hq3 hF
          exact ih3 u18 H locs ls hF hH (lv_sub hl [2, 3] rfl)
        refine lv_icmp_ne hx hb dX9_bind_47 (tgt := 54) rfl (fun h => ?_) (fun h => ?_)
        · have hF := wx_f h hF
          refine lv_aload_n hx hb dX9_bind_54 rfl (lv_at hl 1 rfl) ?_
          refine wx_evi hC hH hl (c_X9_dropHeld o1 h_o1) y_X9_dropHeld v_X9_dropHeld h_o1 rfl m_X9_275 rfl ⟨Nat.le_of_ble_eq_true rfl, Nat.le_of_ble_eq_true rfl⟩ ⟨Nat.le_refl _, Nat.le_refl _⟩ rfl (Nat.le_of_ble_eq_true rfl) dX9_bind_55 hF (fun i20 u19 H locs hF hH => ?_)
          have hF := wJ_l hq12 hF
          exact hJ58 i11 i20 u19 H locs ls hF hH (lv_sub hl [1, 2, 0] rfl)
        have hF := wx_t h hF
        refine lv_iconst hx hb dX9_bind_50 k_iconst_m1 ?_
        refine lv_goto hx hb dX9_bind_51 (tgt := 58) rfl ?_
        have hF := wJ_l hq12 hF
        exact hJ58 i11 (-1 : Int32) u8 H locs ls hF hH (lv_sub hl [1, 2, 0] rfl)
    exact hL0 wFu u0 H locs ls hF hH (lv_sub hl [0, 1] rfl)
  exact key _ _ hH
def F_X9_signs_j250 (o1 : Nat) (i20 : Int32) (u21 : wSt) : Option (Int32 × wSt) :=
  wG (i20 = 0 ∨ i20 = 1) (wB (w_sI u21 o1 45 i20) (fun (u22 : wSt) => wC (F_X9_token o1 u22) (fun _ (u23 : wSt) => some ((1 : Int32), u23))))
def F_X9_signs_j217 (o1 : Nat) (i6 : Int32) (u13 : wSt) : Option (Int32 × wSt) :=
  wC (F_X9_isCounted o1 u13) (fun (i15 : Int32) (u14 : wSt) => if i15 = 0 then (some ((0 : Int32), u14)) else (wC (F_X9_waitsFor o1 i6 u14) (fun _ (u16 : wSt) => wB (w_sI u16 o1 44 (1 : Int32)) (fun (u17 : wSt) => wP (F_X9_rank i6 u17) (fun (i18 : Int32) => wJ (X := Int32 × wSt) (if (3 : Int32) ≤ i18 then (some (.inl ((0 : Int32), u17))) else (some (.inl ((1 : Int32), u17)))) (fun x => F_X9_signs_j250 o1 x.1 x.2))))))
def F_X9_signs_j175 (o1 : Nat) (u0 : wSt) (i6 : Int32) (i9 : Int32) : Option (Int32 × wSt) :=
  wC (F_X9_bind o1 i9 u0) (fun _ (u10 : wSt) => wP (F_X9_rank i6 u10) (fun (i11 : Int32) => wJ (X := wSt) (if i11 = (4 : Int32) then (if (u10.1 o1 40) ≤ 0 then (some (.inl u10)) else (wR (u10.2.2 o1 38) 14 (fun o24 => wN ((u10.1 o1 40) - (1 : Int32)) o24 (fun j25 => wP (F_X9_rank (u10.1 o24 j25) u10) (fun (i26 : Int32) => if i26 = (4 : Int32) then (wC (F_X9_wrong o1 (1 : Int32) u10) (fun (i28 : Int32) (u27 : wSt) => wG (i28 = 0 ∨ i28 = 1) (some (.inr (i28, u27))))) else (some (.inl u10))))))) else (some (.inl u10))) (fun x => F_X9_signs_j217 o1 i6 x)))
def F_X9_signs_j147 (o1 : Nat) (u0 : wSt) (i6 : Int32) : Option (Int32 × wSt) :=
  if i6 = 0 then (wC (F_X9_wrong o1 (1 : Int32) u0) (fun (i31 : Int32) (u30 : wSt) => wG (i31 = 0 ∨ i31 = 1) (some (i31, u30)))) else (wP (F_X9_rank i6 u0) (fun (i7 : Int32) => wJ (X := Int32) (if i7 = (4 : Int32) then (some (.inl (5 : Int32))) else (wP (F_X9_rank i6 u0) (fun (i29 : Int32) => some (.inl i29)))) (fun x => F_X9_signs_j175 o1 u0 i6 x)))
def F_X9_signs_j47 (o1 : Nat) (u0 : wSt) : Option (Int32 × wSt) :=
  wP (F_X9_isKey o1 (10 : Int32) u0) (fun (i4 : Int32) => wJ (X := Int32) (if i4 = 0 then (wP (F_X9_isKey o1 (11 : Int32) u0) (fun (i32 : Int32) => if i32 = 0 then (if (u0.1 o1 8) = (5 : Int32) then (some (.inl ((5 : Int32) + (u0.1 o1 9)))) else (wP (F_X9_isSign o1 (43 : Int32) u0) (fun (i33 : Int32) => if i33 = 0 then (wP (F_X9_isSign o1 (45 : Int32) u0) (fun (i34 : Int32) => if i34 = 0 then (wP (F_X9_isSign o1 (42 : Int32) u0) (fun (i35 : Int32) => if i35 = 0 then (wP (F_X9_isSign o1 (47 : Int32) u0) (fun (i36 : Int32) => if i36 = 0 then (some (.inl (0 : Int32))) else (some (.inl (14 : Int32))))) else (some (.inl (13 : Int32))))) else (some (.inl (12 : Int32))))) else (some (.inl (11 : Int32)))))) else (some (.inl (4 : Int32))))) else (some (.inl (3 : Int32)))) (fun x => F_X9_signs_j147 o1 u0 x))
def F_X9_signs (o1 : Nat) (u0 : wSt) : Option (Int32 × wSt) :=
  wP (F_X9_isSign o1 (41 : Int32) u0) (fun (i2 : Int32) => wJ (X := Unit) (if i2 = 0 then (some (.inl ())) else (if (u0.1 o1 42) ≤ 0 then (some (.inl ())) else (wC (F_X9_bind o1 (1 : Int32) u0) (fun _ (u37 : wSt) => wB (w_sI u37 o1 40 ((u37.1 o1 40) - (1 : Int32))) (fun (u38 : wSt) => wB (w_sI u38 o1 42 ((u38.1 o1 42) - (1 : Int32))) (fun (u39 : wSt) => wC (F_X9_token o1 u39) (fun _ (u40 : wSt) => some (.inr ((1 : Int32), u40))))))))) (fun x => F_X9_signs_j47 o1 u0))
set_option maxRecDepth 100000 in
set_option maxHeartbeats 4000000 in
theorem c_X9_signs {l : Launch} {D : va_G} {κ : Nat → ClassId} {ρ : Nat → Nat} (o1 : Nat) (h_o1 : (w_sh o1).1 = 9) : wMI l yX9_signs cX9_signs 2 .boolean (wRm 2 47) [.ref (ρ o1)] D κ ρ 1 (fun u => F_X9_signs o1 u) := by
  refine wMI_of (F := fun u => F_X9_signs o1 u) rfl (Nat.le_of_ble_eq_true rfl) (fun u0 z p e s m args below meth c ls A hF hC hr hlk hH hl => ?_)
  have hl : lv_has ls 2 [(0, .ref (ρ o1))] := hl
  have hx := hC.1.1
  have hb := hC.1.2.1
  have hF : F_X9_signs o1 u0 = some z := hF
  unfold F_X9_signs at hF
  change W p l e (wRm 2 47) s m args below meth c s.heap [] 0 0 (wQI below args s A D κ ρ 1 z) (F0 m 0 ls [])
  have key : ∀ (H : Heap) (locs : List Loc), wHp D κ ρ 1 A s.heap H locs u0 → W p l e (wRm 2 47) s m args below meth c H locs 0 0 (wQI below args s A D κ ρ 1 z) (F0 m 0 ls []) := by
    intro H locs hH
    refine lv_aload_n hx hb dX9_signs_0 rfl (lv_at hl 0 rfl) ?_
    refine lv_bipush hx hb dX9_signs_1 k_bipush_41 ?_
    refine wx_pvi hC hH hl (c_X9_isSign o1 (41 : Int32) h_o1) y_X9_isSign v_X9_isSign h_o1 rfl m_X9_197 rfl ⟨Nat.le_of_ble_eq_true rfl, Nat.le_of_ble_eq_true rfl⟩ ⟨Nat.le_refl _, Nat.le_refl _⟩ rfl (Nat.le_of_ble_eq_true rfl) dX9_signs_3 hF (fun i2 H locs hF hH => ?_)
    obtain ⟨q3_, hF, hq3⟩ := wJ_some hF
    have hJ47 : ∀ (H : Heap) (locs : List Loc) (ls : Array Slot), F_X9_signs_j47 o1 u0 = some z → wHp D κ ρ 1 A s.heap H locs u0 → lv_has ls 2 [(0, .ref (ρ o1))] → W p l e (wRm 2 47) s m args below meth c H locs 0 0 (wQI below args s A D κ ρ 1 z) (F0 m 47 ls []) := by
      intro H locs ls hF hH hl
      unfold F_X9_signs_j47 at hF
      refine lv_aload_n hx hb dX9_signs_47 rfl (lv_at hl 0 rfl) ?_
      refine lv_bipush hx hb dX9_signs_48 k_bipush_10 ?_
      refine wx_pvi hC hH hl (c_X9_isKey o1 (10 : Int32) h_o1) y_X9_isKey v_X9_isKey h_o1 rfl m_X9_294 rfl ⟨Nat.le_of_ble_eq_true rfl, Nat.le_of_ble_eq_true rfl⟩ ⟨Nat.le_refl _, Nat.le_refl _⟩ rfl (Nat.le_of_ble_eq_true rfl) dX9_signs_50 hF (fun i4 H locs hF hH => ?_)
      obtain ⟨q5_, hF, hq5⟩ := wJ_some hF
      have hJ147 : ∀ (i6 : Int32) (H : Heap) (locs : List Loc) (ls : Array Slot), F_X9_signs_j147 o1 u0 i6 = some z → wHp D κ ρ 1 A s.heap H locs u0 → lv_has ls 2 [(0, .ref (ρ o1))] → W p l e (wRm 2 47) s m args below meth c H locs 0 0 (wQI below args s A D κ ρ 1 z) (F0 m 147 ls [.int i6]) := by
        intro i6 H locs ls hF hH hl
        unfold F_X9_signs_j147 at hF
        refine wx_istore_n hx hb dX9_signs_147 rfl hl (by decide) (fun ls hl => ?_)
        have hl : lv_has ls 2 [(1, .int i6), (0, .ref (ρ o1))] := hl
        refine lv_iload_n hx hb dX9_signs_148 rfl (lv_at hl 0 rfl) ?_
        refine lv_if_ne hx hb dX9_signs_149 (tgt := 158) rfl (fun h => ?_) (fun h => ?_)
        · have hF := wx_f h hF
          refine lv_aload_n hx hb dX9_signs_158 rfl (lv_at hl 1 rfl) ?_
          refine lv_iload_n hx hb dX9_signs_159 rfl (lv_at hl 0 rfl) ?_
          refine wx_psi hC hH hl (c_X9_rank i6) y_X9_rank v_X9_rank m_X9_271 rfl ⟨Nat.le_of_ble_eq_true rfl, Nat.le_of_ble_eq_true rfl⟩ ⟨Nat.le_refl _, Nat.le_refl _⟩ rfl (Nat.le_of_ble_eq_true rfl) dX9_signs_160 hF (fun i7 H locs hF hH => ?_)
          refine lv_iconst hx hb dX9_signs_163 k_iconst_4 ?_
          obtain ⟨q8_, hF, hq8⟩ := wJ_some hF
          have hJ175 : ∀ (i9 : Int32) (H : Heap) (locs : List Loc) (ls : Array Slot), F_X9_signs_j175 o1 u0 i6 i9 = some z → wHp D κ ρ 1 A s.heap H locs u0 → lv_has ls 2 [(0, .ref (ρ o1)), (1, .int i6)] → W p l e (wRm 2 47) s m args below meth c H locs 0 0 (wQI below args s A D κ ρ 1 z) (F0 m 175 ls [.int i9, .ref (ρ o1)]) := by
            intro i9 H locs ls hF hH hl
            unfold F_X9_signs_j175 at hF
            refine wx_evv hC hH hl (c_X9_bind o1 i9 h_o1) y_X9_bind v_X9_bind h_o1 rfl m_X9_306 rfl ⟨Nat.le_of_ble_eq_true rfl, Nat.le_of_ble_eq_true rfl⟩ ⟨Nat.le_refl _, Nat.le_refl _⟩ rfl (Nat.le_of_ble_eq_true rfl) dX9_signs_175 hF (fun _ u10 H locs hF hH => ?_)
            refine lv_iload_n hx hb dX9_signs_178 rfl (lv_at hl 1 rfl) ?_
            refine wx_psi hC hH hl (c_X9_rank i6) y_X9_rank v_X9_rank m_X9_271 rfl ⟨Nat.le_of_ble_eq_true rfl, Nat.le_of_ble_eq_true rfl⟩ ⟨Nat.le_refl _, Nat.le_refl _⟩ rfl (Nat.le_of_ble_eq_true rfl) dX9_signs_179 hF (fun i11 H locs hF hH => ?_)
            refine lv_iconst hx hb dX9_signs_182 k_iconst_4 ?_
            obtain ⟨q12_, hF, hq12⟩ := wJ_some hF
            have hJ217 : ∀ (u13 : wSt) (H : Heap) (locs : List Loc) (ls : Array Slot), F_X9_signs_j217 o1 i6 u13 = some z → wHp D κ ρ 1 A s.heap H locs u13 → lv_has ls 2 [(0, .ref (ρ o1)), (1, .int i6)] → W p l e (wRm 2 47) s m args below meth c H locs 0 0 (wQI below args s A D κ ρ 1 z) (F0 m 217 ls []) := by
              intro u13 H locs ls hF hH hl
              unfold F_X9_signs_j217 at hF
              refine lv_aload_n hx hb dX9_signs_217 rfl (lv_at hl 0 rfl) ?_
              refine wx_evi hC hH hl (c_X9_isCounted o1 h_o1) y_X9_isCounted v_X9_isCounted h_o1 rfl m_X9_297 rfl ⟨Nat.le_of_ble_eq_true rfl, Nat.le_of_ble_eq_true rfl⟩ ⟨Nat.le_refl _, Nat.le_refl _⟩ rfl (Nat.le_of_ble_eq_true rfl) dX9_signs_218 hF (fun i15 u14 H locs hF hH => ?_)
              refine lv_if_ne hx hb dX9_signs_221 (tgt := 226) rfl (fun h => ?_) (fun h => ?_)
              · have hF := wx_f h hF
                refine lv_aload_n hx hb dX9_signs_226 rfl (lv_at hl 0 rfl) ?_
                refine lv_iload_n hx hb dX9_signs_227 rfl (lv_at hl 1 rfl) ?_
                refine wx_evv hC hH hl (c_X9_waitsFor o1 i6 h_o1) y_X9_waitsFor v_X9_waitsFor h_o1 rfl m_X9_286 rfl ⟨Nat.le_of_ble_eq_true rfl, Nat.le_of_ble_eq_true rfl⟩ ⟨Nat.le_refl _, Nat.le_refl _⟩ rfl (Nat.le_of_ble_eq_true rfl) dX9_signs_228 hF (fun _ u16 H locs hF hH => ?_)
                refine lv_aload_n hx hb dX9_signs_231 rfl (lv_at hl 0 rfl) ?_
                refine lv_iconst hx hb dX9_signs_232 k_iconst_1 ?_
                refine wx_putZ hC hH h_o1 rfl f_X9_303 g_9_44 dX9_signs_233 (Or.inr rfl) hF (fun u17 H locs hF hH => ?_)
                refine lv_aload_n hx hb dX9_signs_236 rfl (lv_at hl 0 rfl) ?_
                refine lv_iload_n hx hb dX9_signs_237 rfl (lv_at hl 1 rfl) ?_
                refine wx_psi hC hH hl (c_X9_rank i6) y_X9_rank v_X9_rank m_X9_271 rfl ⟨Nat.le_of_ble_eq_true rfl, Nat.le_of_ble_eq_true rfl⟩ ⟨Nat.le_refl _, Nat.le_refl _⟩ rfl (Nat.le_of_ble_eq_true rfl) dX9_signs_238 hF (fun i18 H locs hF hH => ?_)
                refine lv_iconst hx hb dX9_signs_241 k_iconst_3 ?_
                obtain ⟨q19_, hF, hq19⟩ := wJ_some hF
                have hJ250 : ∀ (i20 : Int32) (u21 : wSt) (H : Heap) (locs : List Loc) (ls : Array Slot), F_X9_signs_j250 o1 i20 u21 = some z → wHp D κ ρ 1 A s.heap H locs u21 → lv_has ls 2 [(0, .ref (ρ o1))] → W p l e (wRm 2 47) s m args below meth c H locs 0 0 (wQI below args s A D κ ρ 1 z) (F0 m 250 ls [.int i20, .ref (ρ o1)]) := by
                  intro i20 u21 H locs ls hF hH hl
                  unfold F_X9_signs_j250 at hF
                  obtain ⟨h01, hF⟩ := wG_some hF
                  refine wx_putZ hC hH h_o1 rfl f_X9_290 g_9_45 dX9_signs_250 h01 hF (fun u22 H locs hF hH => ?_)
                  refine lv_aload_n hx hb dX9_signs_253 rfl (lv_at hl 0 rfl) ?_
                  refine wx_evv hC hH hl (c_X9_token o1 h_o1) y_X9_token v_X9_token h_o1 rfl m_X9_194 rfl ⟨Nat.le_of_ble_eq_true rfl, Nat.le_of_ble_eq_true rfl⟩ ⟨Nat.le_refl _, Nat.le_refl _⟩ rfl (Nat.le_of_ble_eq_true rfl) dX9_signs_254 hF (fun _ u23 H locs hF hH => ?_)
                  refine lv_iconst hx hb dX9_signs_257 k_iconst_1 ?_
                  exact wx_zret hC hH hr hlk dX9_signs_258 (Or.inr rfl) hF
                refine lv_icmp_ge hx hb dX9_signs_242 (tgt := 249) rfl (fun h => ?_) (fun h => ?_)
                · have hF := wx_t h hF
                  refine lv_iconst hx hb dX9_signs_249 k_iconst_0 ?_
                  have hF := wJ_l hq19 hF
                  exact hJ250 (0 : Int32) u17 H locs ls hF hH (lv_sub hl [0] rfl)
                have hF := wx_f h hF
                refine lv_iconst hx hb dX9_signs_245 k_iconst_1 ?_
                refine lv_goto hx hb dX9_signs_246 (tgt := 250) rfl ?_
                have hF := wJ_l hq19 hF
                exact hJ250 (1 : Int32) u17 H locs ls hF hH (lv_sub hl [0] rfl)
              have hF := wx_t h hF
              refine lv_iconst hx hb dX9_signs_224 k_iconst_0 ?_
              exact wx_zret hC hH hr hlk dX9_signs_225 (Or.inl rfl) hF
            refine lv_icmp_ne hx hb dX9_signs_183 (tgt := 217) rfl (fun h => ?_) (fun h => ?_)
            · have hF := wx_f h hF
              have hF := wJ_l hq12 hF
              exact hJ217 u10 H locs ls hF hH (lv_sub hl [0, 1] rfl)
            have hF := wx_t h hF
            refine lv_aload_n hx hb dX9_signs_186 rfl (lv_at hl 0 rfl) ?_
            refine wx_getI hC hH h_o1 rfl f_X9_268 dX9_signs_187 ?_
            refine lv_if_le hx hb dX9_signs_190 (tgt := 217) rfl (fun h => ?_) (fun h => ?_)
            · have hF := wx_t h hF
              have hF := wJ_l hq12 hF
              exact hJ217 u10 H locs ls hF hH (lv_sub hl [0, 1] rfl)
            have hF := wx_f h hF
            refine lv_aload_n hx hb dX9_signs_193 rfl (lv_at hl 0 rfl) ?_
            refine wx_getR hC hH h_o1 rfl f_X9_75 dX9_signs_194 hF (fun o24 h_o24 hF => ?_)
            refine lv_aload_n hx hb dX9_signs_197 rfl (lv_at hl 0 rfl) ?_
            refine wx_getI hC hH h_o1 rfl f_X9_268 dX9_signs_198 ?_
            refine lv_iconst hx hb dX9_signs_201 k_iconst_1 ?_
            refine lv_isub hx hb dX9_signs_202 ?_
            refine wx_iald hC hH h_o24 ⟨rfl, rfl⟩ dX9_signs_203 hF (fun j25 hF => ?_)
            refine wx_psi hC hH hl (c_X9_rank (u10.1 o24 j25)) y_X9_rank v_X9_rank m_X9_271 rfl ⟨Nat.le_of_ble_eq_true rfl, Nat.le_of_ble_eq_true rfl⟩ ⟨Nat.le_refl _, Nat.le_refl _⟩ rfl (Nat.le_of_ble_eq_true rfl) dX9_signs_204 hF (fun i26 H locs hF hH => ?_)
            refine lv_iconst hx hb dX9_signs_207 k_iconst_4 ?_
            refine lv_icmp_ne hx hb dX9_signs_208 (tgt := 217) rfl (fun h => ?_) (fun h => ?_)
            · have hF := wx_f h hF
              have hF := wJ_l hq12 hF
              exact hJ217 u10 H locs ls hF hH (lv_sub hl [0, 1] rfl)
            have hF := wx_t h hF
            refine lv_aload_n hx hb dX9_signs_211 rfl (lv_at hl 0 rfl) ?_
            refine lv_iconst hx hb dX9_signs_212 k_iconst_1 ?_
            refine wx_evi hC hH hl (c_X9_wrong o1 (1 : Int32) h_o1) y_X9_wrong v_X9_wrong h_o1 rfl m_X9_184 rfl ⟨Nat.le_of_ble_eq_true rfl, Nat.le_of_ble_eq_true rfl⟩ ⟨Nat.le_refl _, Nat.le_refl _⟩ rfl (Nat.le_of_ble_eq_true rfl) dX9_signs_213 hF (fun i28 u27 H locs hF hH => ?_)
            obtain ⟨h01, hF⟩ := wG_some hF
            have hF := wJ_r hq12 hF
            exact wx_zret hC hH hr hlk dX9_signs_216 h01 hF
          refine lv_icmp_ne hx hb dX9_signs_164 (tgt := 171) rfl (fun h => ?_) (fun h => ?_)
          · have hF := wx_f h hF
            refine lv_iload_n hx hb dX9_signs_171 rfl (lv_at hl 0 rfl) ?_
            refine wx_psi hC hH hl (c_X9_rank i6) y_X9_rank v_X9_rank m_X9_271 rfl ⟨Nat.le_of_ble_eq_true rfl, Nat.le_of_ble_eq_true rfl⟩ ⟨Nat.le_refl _, Nat.le_refl _⟩ rfl (Nat.le_of_ble_eq_true rfl) dX9_signs_172 hF (fun i29 H locs hF hH => ?_)
            have hF := wJ_l hq8 hF
            exact hJ175 i29 H locs ls hF hH (lv_sub hl [1, 0] rfl)
          have hF := wx_t h hF
          refine lv_iconst hx hb dX9_signs_167 k_iconst_5 ?_
          refine lv_goto hx hb dX9_signs_168 (tgt := 175) rfl ?_
          have hF := wJ_l hq8 hF
          exact hJ175 (5 : Int32) H locs ls hF hH (lv_sub hl [1, 0] rfl)
        have hF := wx_t h hF
        refine lv_aload_n hx hb dX9_signs_152 rfl (lv_at hl 1 rfl) ?_
        refine lv_iconst hx hb dX9_signs_153 k_iconst_1 ?_
        refine wx_evi hC hH hl (c_X9_wrong o1 (1 : Int32) h_o1) y_X9_wrong v_X9_wrong h_o1 rfl m_X9_184 rfl ⟨Nat.le_of_ble_eq_true rfl, Nat.le_of_ble_eq_true rfl⟩ ⟨Nat.le_refl _, Nat.le_refl _⟩ rfl (Nat.le_of_ble_eq_true rfl) dX9_signs_154 hF (fun i31 u30 H locs hF hH => ?_)
        obtain ⟨h01, hF⟩ := wG_some hF
        exact wx_zret hC hH hr hlk dX9_signs_157 h01 hF
      refine lv_if_eq hx hb dX9_signs_53 (tgt := 60) rfl (fun h => ?_) (fun h => ?_)
      · have hF := wx_t h hF
        refine lv_aload_n hx hb dX9_signs_60 rfl (lv_at hl 0 rfl) ?_
        refine lv_bipush hx hb dX9_signs_61 k_bipush_11 ?_
        refine wx_pvi hC hH hl (c_X9_isKey o1 (11 : Int32) h_o1) y_X9_isKey v_X9_isKey h_o1 rfl m_X9_294 rfl ⟨Nat.le_of_ble_eq_true rfl, Nat.le_of_ble_eq_true rfl⟩ ⟨Nat.le_refl _, Nat.le_refl _⟩ rfl (Nat.le_of_ble_eq_true rfl) dX9_signs_63 hF (fun i32 H locs hF hH => ?_)
        refine lv_if_eq hx hb dX9_signs_66 (tgt := 73) rfl (fun h => ?_) (fun h => ?_)
        · have hF := wx_t h hF
          refine lv_aload_n hx hb dX9_signs_73 rfl (lv_at hl 0 rfl) ?_
          refine wx_getI hC hH h_o1 rfl f_X9_160 dX9_signs_74 ?_
          refine lv_iconst hx hb dX9_signs_77 k_iconst_5 ?_
          refine lv_icmp_ne hx hb dX9_signs_78 (tgt := 90) rfl (fun h => ?_) (fun h => ?_)
          · have hF := wx_f h hF
            refine lv_aload_n hx hb dX9_signs_90 rfl (lv_at hl 0 rfl) ?_
            refine lv_bipush hx hb dX9_signs_91 k_bipush_43 ?_
            refine wx_pvi hC hH hl (c_X9_isSign o1 (43 : Int32) h_o1) y_X9_isSign v_X9_isSign h_o1 rfl m_X9_197 rfl ⟨Nat.le_of_ble_eq_true rfl, Nat.le_of_ble_eq_true rfl⟩ ⟨Nat.le_refl _, Nat.le_refl _⟩ rfl (Nat.le_of_ble_eq_true rfl) dX9_signs_93 hF (fun i33 H locs hF hH => ?_)
            refine lv_if_eq hx hb dX9_signs_96 (tgt := 104) rfl (fun h => ?_) (fun h => ?_)
            · have hF := wx_t h hF
              refine lv_aload_n hx hb dX9_signs_104 rfl (lv_at hl 0 rfl) ?_
              refine lv_bipush hx hb dX9_signs_105 k_bipush_45 ?_
              refine wx_pvi hC hH hl (c_X9_isSign o1 (45 : Int32) h_o1) y_X9_isSign v_X9_isSign h_o1 rfl m_X9_197 rfl ⟨Nat.le_of_ble_eq_true rfl, Nat.le_of_ble_eq_true rfl⟩ ⟨Nat.le_refl _, Nat.le_refl _⟩ rfl (Nat.le_of_ble_eq_true rfl) dX9_signs_107 hF (fun i34 H locs hF hH => ?_)
              refine lv_if_eq hx hb dX9_signs_110 (tgt := 118) rfl (fun h => ?_) (fun h => ?_)
              · have hF := wx_t h hF
                refine lv_aload_n hx hb dX9_signs_118 rfl (lv_at hl 0 rfl) ?_
                refine lv_bipush hx hb dX9_signs_119 k_bipush_42 ?_
                refine wx_pvi hC hH hl (c_X9_isSign o1 (42 : Int32) h_o1) y_X9_isSign v_X9_isSign h_o1 rfl m_X9_197 rfl ⟨Nat.le_of_ble_eq_true rfl, Nat.le_of_ble_eq_true rfl⟩ ⟨Nat.le_refl _, Nat.le_refl _⟩ rfl (Nat.le_of_ble_eq_true rfl) dX9_signs_121 hF (fun i35 H locs hF hH => ?_)
                refine lv_if_eq hx hb dX9_signs_124 (tgt := 132) rfl (fun h => ?_) (fun h => ?_)
                · have hF := wx_t h hF
                  refine lv_aload_n hx hb dX9_signs_132 rfl (lv_at hl 0 rfl) ?_
                  refine lv_bipush hx hb dX9_signs_133 k_bipush_47 ?_
                  refine wx_pvi hC hH hl (c_X9_isSign o1 (47 : Int32) h_o1) y_X9_isSign v_X9_isSign h_o1 rfl m_X9_197 rfl ⟨Nat.le_of_ble_eq_true rfl, Nat.le_of_ble_eq_true rfl⟩ ⟨Nat.le_refl _, Nat.le_refl _⟩ rfl (Nat.le_of_ble_eq_true rfl) dX9_signs_135 hF (fun i36 H locs hF hH => ?_)
                  refine lv_if_eq hx hb dX9_signs_138 (tgt := 146) rfl (fun h => ?_) (fun h => ?_)
                  · have hF := wx_t h hF
                    refine lv_iconst hx hb dX9_signs_146 k_iconst_0 ?_
                    have hF := wJ_l hq5 hF
                    exact hJ147 (0 : Int32) H locs ls hF hH (lv_sub hl [0] rfl)
                  have hF := wx_f h hF
                  refine lv_bipush hx hb dX9_signs_141 k_bipush_14 ?_
                  refine lv_goto hx hb dX9_signs_143 (tgt := 147) rfl ?_
                  have hF := wJ_l hq5 hF
                  exact hJ147 (14 : Int32) H locs ls hF hH (lv_sub hl [0] rfl)
                have hF := wx_f h hF
                refine lv_bipush hx hb dX9_signs_127 k_bipush_13 ?_
                refine lv_goto hx hb dX9_signs_129 (tgt := 147) rfl ?_
                have hF := wJ_l hq5 hF
                exact hJ147 (13 : Int32) H locs ls hF hH (lv_sub hl [0] rfl)
              have hF := wx_f h hF
              refine lv_bipush hx hb dX9_signs_113 k_bipush_12 ?_
              refine lv_goto hx hb dX9_signs_115 (tgt := 147) rfl ?_
              have hF := wJ_l hq5 hF
              exact hJ147 (12 : Int32) H locs ls hF hH (lv_sub hl [0] rfl)
            have hF := wx_f h hF
            refine lv_bipush hx hb dX9_signs_99 k_bipush_11 ?_
            refine lv_goto hx hb dX9_signs_101 (tgt := 147) rfl ?_
            have hF := wJ_l hq5 hF
            exact hJ147 (11 : Int32) H locs ls hF hH (lv_sub hl [0] rfl)
          have hF := wx_t h hF
          refine lv_iconst hx hb dX9_signs_81 k_iconst_5 ?_
          refine lv_aload_n hx hb dX9_signs_82 rfl (lv_at hl 0 rfl) ?_
          refine wx_getI hC hH h_o1 rfl f_X9_171 dX9_signs_83 ?_
          refine lv_iadd hx hb dX9_signs_86 ?_
          refine lv_goto hx hb dX9_signs_87 (tgt := 147) rfl ?_
          have hF := wJ_l hq5 hF
          exact hJ147 ((5 : Int32) + (u0.1 o1 9)) H locs ls hF hH (lv_sub hl [0] rfl)
        have hF := wx_f h hF
        refine lv_iconst hx hb dX9_signs_69 k_iconst_4 ?_
        refine lv_goto hx hb dX9_signs_70 (tgt := 147) rfl ?_
        have hF := wJ_l hq5 hF
        exact hJ147 (4 : Int32) H locs ls hF hH (lv_sub hl [0] rfl)
      have hF := wx_f h hF
      refine lv_iconst hx hb dX9_signs_56 k_iconst_3 ?_
      refine lv_goto hx hb dX9_signs_57 (tgt := 147) rfl ?_
      have hF := wJ_l hq5 hF
      exact hJ147 (3 : Int32) H locs ls hF hH (lv_sub hl [0] rfl)
    refine lv_if_eq hx hb dX9_signs_6 (tgt := 47) rfl (fun h => ?_) (fun h => ?_)
    · have hF := wx_t h hF
      have hF := wJ_l hq3 hF
      exact hJ47 H locs ls hF hH (lv_sub hl [0] rfl)
    have hF := wx_f h hF
    refine lv_aload_n hx hb dX9_signs_9 rfl (lv_at hl 0 rfl) ?_
    refine wx_getI hC hH h_o1 rfl f_X9_283 dX9_signs_10 ?_
    refine lv_if_le hx hb dX9_signs_13 (tgt := 47) rfl (fun h => ?_) (fun h => ?_)
    · have hF := wx_t h hF
      have hF := wJ_l hq3 hF
      exact hJ47 H locs ls hF hH (lv_sub hl [0] rfl)
    have hF := wx_f h hF
    refine lv_aload_n hx hb dX9_signs_16 rfl (lv_at hl 0 rfl) ?_
    refine lv_iconst hx hb dX9_signs_17 k_iconst_1 ?_
    refine wx_evv hC hH hl (c_X9_bind o1 (1 : Int32) h_o1) y_X9_bind v_X9_bind h_o1 rfl m_X9_306 rfl ⟨Nat.le_of_ble_eq_true rfl, Nat.le_of_ble_eq_true rfl⟩ ⟨Nat.le_refl _, Nat.le_refl _⟩ rfl (Nat.le_of_ble_eq_true rfl) dX9_signs_18 hF (fun _ u37 H locs hF hH => ?_)
    refine lv_aload_n hx hb dX9_signs_21 rfl (lv_at hl 0 rfl) ?_
    refine lv_dup hx hb dX9_signs_22 rfl ?_
    refine wx_getI hC hH h_o1 rfl f_X9_268 dX9_signs_23 ?_
    refine lv_iconst hx hb dX9_signs_26 k_iconst_1 ?_
    refine lv_isub hx hb dX9_signs_27 ?_
    refine wx_putI hC hH h_o1 rfl f_X9_268 g_9_40 dX9_signs_28 hF (fun u38 H locs hF hH => ?_)
    refine lv_aload_n hx hb dX9_signs_31 rfl (lv_at hl 0 rfl) ?_
    refine lv_dup hx hb dX9_signs_32 rfl ?_
    refine wx_getI hC hH h_o1 rfl f_X9_283 dX9_signs_33 ?_
    refine lv_iconst hx hb dX9_signs_36 k_iconst_1 ?_
    refine lv_isub hx hb dX9_signs_37 ?_
    refine wx_putI hC hH h_o1 rfl f_X9_283 g_9_42 dX9_signs_38 hF (fun u39 H locs hF hH => ?_)
    refine lv_aload_n hx hb dX9_signs_41 rfl (lv_at hl 0 rfl) ?_
    refine wx_evv hC hH hl (c_X9_token o1 h_o1) y_X9_token v_X9_token h_o1 rfl m_X9_194 rfl ⟨Nat.le_of_ble_eq_true rfl, Nat.le_of_ble_eq_true rfl⟩ ⟨Nat.le_refl _, Nat.le_refl _⟩ rfl (Nat.le_of_ble_eq_true rfl) dX9_signs_42 hF (fun _ u40 H locs hF hH => ?_)
    refine lv_iconst hx hb dX9_signs_45 k_iconst_1 ?_
    have hF := wJ_r hq3 hF
    exact wx_zret hC hH hr hlk dX9_signs_46 (Or.inr rfl) hF
  exact key _ _ hH
def F_X9_sumRead_j74 (o1 : Nat) (u8 : wSt) : Option (Int32 × wSt) :=
  wC (F_X9_bind o1 (1 : Int32) u8) (fun _ (u9 : wSt) => some ((1 : Int32), u9))
def F_X9_sumRead_j48 (u11 : wSt) (o1 : Nat) : Option ((wSt) ⊕ ((wSt) ⊕ (Int32 × wSt))) :=
  if (u11.1 o1 44) = 0 then (wC (F_X9_signs o1 u11) (fun (i15 : Int32) (u14 : wSt) => if i15 = 0 then (some (.inr (.inr ((0 : Int32), u14)))) else (some (.inl u14)))) else (wC (F_X9_leafRead o1 u11) (fun (i17 : Int32) (u16 : wSt) => if i17 = 0 then (some (.inr (.inr ((0 : Int32), u16)))) else (some (.inl u16))))
def F_X9_sumRead_b25 (o1 : Nat) (u11 : wSt) : Option ((wSt) ⊕ ((wSt) ⊕ (Int32 × wSt))) :=
  wP (F_X9_isSign o1 (59 : Int32) u11) (fun (i12 : Int32) => wJ (X := Unit) (if i12 = 0 then (some (.inl ())) else (if (u11.1 o1 44) = 0 then (if (u11.1 o1 42) ≤ 0 then (some (.inr (.inr (.inl u11)))) else (some (.inl ()))) else (some (.inl ())))) (fun x => F_X9_sumRead_j48 u11 o1))
def F_X9_sumRead (o1 : Nat) (u0 : wSt) : Option (Int32 × wSt) :=
  wB (w_sI u0 o1 40 (0 : Int32)) (fun (u2 : wSt) => wB (w_sI u2 o1 41 (0 : Int32)) (fun (u3 : wSt) => wB (w_sI u3 o1 42 (0 : Int32)) (fun (u4 : wSt) => wB (w_sI u4 o1 44 (1 : Int32)) (fun (u5 : wSt) => wB (w_sI u5 o1 45 (1 : Int32)) (fun (u6 : wSt) => wJ (X := wSt) (wL (S := wSt) (fun x => F_X9_sumRead_b25 o1 x) wFu u6) (fun x => F_X9_sumRead_j74 o1 x))))))
set_option maxRecDepth 100000 in
set_option maxHeartbeats 4000000 in
theorem c_X9_sumRead {l : Launch} {D : va_G} {κ : Nat → ClassId} {ρ : Nat → Nat} (o1 : Nat) (h_o1 : (w_sh o1).1 = 9) : wMI l yX9_sumRead cX9_sumRead 1 .boolean (wRm 3 68) [.ref (ρ o1)] D κ ρ 1 (fun u => F_X9_sumRead o1 u) := by
  refine wMI_of (F := fun u => F_X9_sumRead o1 u) rfl (Nat.le_of_ble_eq_true rfl) (fun u0 z p e s m args below meth c ls A hF hC hr hlk hH hl => ?_)
  have hl : lv_has ls 1 [(0, .ref (ρ o1))] := hl
  have hx := hC.1.1
  have hb := hC.1.2.1
  have hF : F_X9_sumRead o1 u0 = some z := hF
  unfold F_X9_sumRead at hF
  change W p l e (wRm 3 68) s m args below meth c s.heap [] 0 0 (wQI below args s A D κ ρ 1 z) (F0 m 0 ls [])
  have key : ∀ (H : Heap) (locs : List Loc), wHp D κ ρ 1 A s.heap H locs u0 → W p l e (wRm 3 68) s m args below meth c H locs 0 0 (wQI below args s A D κ ρ 1 z) (F0 m 0 ls []) := by
    intro H locs hH
    refine lv_aload_n hx hb dX9_sumRead_0 rfl (lv_at hl 0 rfl) ?_
    refine lv_iconst hx hb dX9_sumRead_1 k_iconst_0 ?_
    refine wx_putI hC hH h_o1 rfl f_X9_268 g_9_40 dX9_sumRead_2 hF (fun u2 H locs hF hH => ?_)
    refine lv_aload_n hx hb dX9_sumRead_5 rfl (lv_at hl 0 rfl) ?_
    refine lv_iconst hx hb dX9_sumRead_6 k_iconst_0 ?_
    refine wx_putI hC hH h_o1 rfl f_X9_265 g_9_41 dX9_sumRead_7 hF (fun u3 H locs hF hH => ?_)
    refine lv_aload_n hx hb dX9_sumRead_10 rfl (lv_at hl 0 rfl) ?_
    refine lv_iconst hx hb dX9_sumRead_11 k_iconst_0 ?_
    refine wx_putI hC hH h_o1 rfl f_X9_283 g_9_42 dX9_sumRead_12 hF (fun u4 H locs hF hH => ?_)
    refine lv_aload_n hx hb dX9_sumRead_15 rfl (lv_at hl 0 rfl) ?_
    refine lv_iconst hx hb dX9_sumRead_16 k_iconst_1 ?_
    refine wx_putZ hC hH h_o1 rfl f_X9_303 g_9_44 dX9_sumRead_17 (Or.inr rfl) hF (fun u5 H locs hF hH => ?_)
    refine lv_aload_n hx hb dX9_sumRead_20 rfl (lv_at hl 0 rfl) ?_
    refine lv_iconst hx hb dX9_sumRead_21 k_iconst_1 ?_
    refine wx_putZ hC hH h_o1 rfl f_X9_290 g_9_45 dX9_sumRead_22 (Or.inr rfl) hF (fun u6 H locs hF hH => ?_)
    obtain ⟨q7_, hF, hq7⟩ := wJ_some hF
    have hJ74 : ∀ (u8 : wSt) (H : Heap) (locs : List Loc) (ls : Array Slot), F_X9_sumRead_j74 o1 u8 = some z → wHp D κ ρ 1 A s.heap H locs u8 → lv_has ls 1 [(0, .ref (ρ o1))] → W p l e (wRm 3 68) s m args below meth c H locs 0 0 (wQI below args s A D κ ρ 1 z) (F0 m 74 ls []) := by
      intro u8 H locs ls hF hH hl
      unfold F_X9_sumRead_j74 at hF
      refine lv_aload_n hx hb dX9_sumRead_74 rfl (lv_at hl 0 rfl) ?_
      refine lv_iconst hx hb dX9_sumRead_75 k_iconst_1 ?_
      refine wx_evv hC hH hl (c_X9_bind o1 (1 : Int32) h_o1) y_X9_bind v_X9_bind h_o1 rfl m_X9_306 rfl ⟨Nat.le_of_ble_eq_true rfl, Nat.le_of_ble_eq_true rfl⟩ ⟨Nat.le_refl _, Nat.le_refl _⟩ rfl (Nat.le_of_ble_eq_true rfl) dX9_sumRead_76 hF (fun _ u9 H locs hF hH => ?_)
      refine lv_iconst hx hb dX9_sumRead_79 k_iconst_1 ?_
      exact wx_zret hC hH hr hlk dX9_sumRead_80 (Or.inr rfl) hF
    have hL25 : ∀ (k10_ : Nat) (u11 : wSt) (H : Heap) (locs : List Loc) (ls : Array Slot), wL (S := wSt) (fun x => F_X9_sumRead_b25 o1 x) k10_ u11 = some q7_ → wHp D κ ρ 1 A s.heap H locs u11 → lv_has ls 1 [(0, .ref (ρ o1))] → W p l e (wRm 3 68) s m args below meth c H locs 0 0 (wQI below args s A D κ ρ 1 z) (F0 m 25 ls []) := by
      intro k10_
      induction k10_ with
      | zero => intro u11 H locs ls hF; exact wL_zero hF
      | succ k10_ ih10 =>
        intro u11 H locs ls hF hH hl
        obtain ⟨q10_, hF, hq10⟩ := wL_some hF
        have hF : F_X9_sumRead_b25 o1 u11 = some q10_ := hF
        unfold F_X9_sumRead_b25 at hF
        refine lv_aload_n hx hb dX9_sumRead_25 rfl (lv_at hl 0 rfl) ?_
        refine lv_bipush hx hb dX9_sumRead_26 k_bipush_59 ?_
        refine wx_pvi hC hH hl (c_X9_isSign o1 (59 : Int32) h_o1) y_X9_isSign v_X9_isSign h_o1 rfl m_X9_197 rfl ⟨Nat.le_of_ble_eq_true rfl, Nat.le_of_ble_eq_true rfl⟩ ⟨Nat.le_refl _, Nat.le_refl _⟩ rfl (Nat.le_of_ble_eq_true rfl) dX9_sumRead_28 hF (fun i12 H locs hF hH => ?_)
        obtain ⟨q13_, hF, hq13⟩ := wJ_some hF
        have hJ48 : ∀ (H : Heap) (locs : List Loc) (ls : Array Slot), F_X9_sumRead_j48 u11 o1 = some q10_ → wHp D κ ρ 1 A s.heap H locs u11 → lv_has ls 1 [(0, .ref (ρ o1))] → W p l e (wRm 3 68) s m args below meth c H locs 0 0 (wQI below args s A D κ ρ 1 z) (F0 m 48 ls []) := by
          intro H locs ls hF hH hl
          unfold F_X9_sumRead_j48 at hF
          refine lv_aload_n hx hb dX9_sumRead_48 rfl (lv_at hl 0 rfl) ?_
          refine wx_getI hC hH h_o1 rfl f_X9_303 dX9_sumRead_49 ?_
          refine lv_if_eq hx hb dX9_sumRead_52 (tgt := 65) rfl (fun h => ?_) (fun h => ?_)
          · have hF := wx_t h hF
            refine lv_aload_n hx hb dX9_sumRead_65 rfl (lv_at hl 0 rfl) ?_
            refine wx_evi hC hH hl (c_X9_signs o1 h_o1) y_X9_signs v_X9_signs h_o1 rfl m_X9_312 rfl ⟨Nat.le_of_ble_eq_true rfl, Nat.le_of_ble_eq_true rfl⟩ ⟨Nat.le_refl _, Nat.le_refl _⟩ rfl (Nat.le_of_ble_eq_true rfl) dX9_sumRead_66 hF (fun i15 u14 H locs hF hH => ?_)
            refine lv_if_ne hx hb dX9_sumRead_69 (tgt := 25) rfl (fun h => ?_) (fun h => ?_)
            · have hF := wx_f h hF
              have hF := wJ_l hq10 hF
              exact ih10 u14 H locs ls hF hH (lv_sub hl [0] rfl)
            have hF := wx_t h hF
            refine lv_iconst hx hb dX9_sumRead_72 k_iconst_0 ?_
            have hF := wJ_r hq10 hF
            have hF := wJ_r hq7 hF
            exact wx_zret hC hH hr hlk dX9_sumRead_73 (Or.inl rfl) hF
          have hF := wx_f h hF
          refine lv_aload_n hx hb dX9_sumRead_55 rfl (lv_at hl 0 rfl) ?_
          refine wx_evi hC hH hl (c_X9_leafRead o1 h_o1) y_X9_leafRead v_X9_leafRead h_o1 rfl m_X9_309 rfl ⟨Nat.le_of_ble_eq_true rfl, Nat.le_of_ble_eq_true rfl⟩ ⟨Nat.le_refl _, Nat.le_refl _⟩ rfl (Nat.le_of_ble_eq_true rfl) dX9_sumRead_56 hF (fun i17 u16 H locs hF hH => ?_)
          refine lv_if_eq hx hb dX9_sumRead_59 (tgt := 72) rfl (fun h => ?_) (fun h => ?_)
          · have hF := wx_t h hF
            refine lv_iconst hx hb dX9_sumRead_72 k_iconst_0 ?_
            have hF := wJ_r hq10 hF
            have hF := wJ_r hq7 hF
            exact wx_zret hC hH hr hlk dX9_sumRead_73 (Or.inl rfl) hF
          have hF := wx_f h hF
          refine lv_goto hx hb dX9_sumRead_62 (tgt := 25) rfl ?_
          have hF := wJ_l hq10 hF
          exact ih10 u16 H locs ls hF hH (lv_sub hl [0] rfl)
        refine lv_if_eq hx hb dX9_sumRead_31 (tgt := 48) rfl (fun h => ?_) (fun h => ?_)
        · have hF := wx_t h hF
          have hF := wJ_l hq13 hF
          exact hJ48 H locs ls hF hH (lv_sub hl [0] rfl)
        have hF := wx_f h hF
        refine lv_aload_n hx hb dX9_sumRead_34 rfl (lv_at hl 0 rfl) ?_
        refine wx_getI hC hH h_o1 rfl f_X9_303 dX9_sumRead_35 ?_
        refine lv_if_ne hx hb dX9_sumRead_38 (tgt := 48) rfl (fun h => ?_) (fun h => ?_)
        · have hF := wx_f h hF
          have hF := wJ_l hq13 hF
          exact hJ48 H locs ls hF hH (lv_sub hl [0] rfl)
        have hF := wx_t h hF
        refine lv_aload_n hx hb dX9_sumRead_41 rfl (lv_at hl 0 rfl) ?_
        refine wx_getI hC hH h_o1 rfl f_X9_283 dX9_sumRead_42 ?_
        refine lv_if_le hx hb dX9_sumRead_45 (tgt := 74) rfl (fun h => ?_) (fun h => ?_)
        · have hF := wx_t h hF
          have hF := wJ_r hq13 hF
          have hF := wJ_r hq10 hF
          have hF := wJ_l hq7 hF
          exact hJ74 u11 H locs ls hF hH (lv_sub hl [0] rfl)
        have hF := wx_f h hF
        have hF := wJ_l hq13 hF
        exact hJ48 H locs ls hF hH (lv_sub hl [0] rfl)
    exact hL25 wFu u6 H locs ls hF hH (lv_sub hl [0] rfl)
  exact key _ _ hH
def F_X9_lineRead_j17 (o1 : Nat) (u0 : wSt) : Option (Int32 × wSt) :=
  wC (F_X9_wrong o1 (1 : Int32) u0) (fun (i4 : Int32) (u3 : wSt) => wG (i4 = 0 ∨ i4 = 1) (some (i4, u3)))
def F_X9_lineRead_j220 (o1 : Nat) (i7 : Int32) (u8 : wSt) : Option ((Unit) ⊕ (Int32 × wSt)) :=
  if i7 = 0 then (some (.inr ((0 : Int32), u8))) else (wP (F_X9_isSign o1 (59 : Int32) u8) (fun (i9 : Int32) => if i9 = 0 then (wC (F_X9_wrong o1 (1 : Int32) u8) (fun (i12 : Int32) (u11 : wSt) => wG (i12 = 0 ∨ i12 = 1) (some (.inr (i12, u11))))) else (wC (F_X9_token o1 u8) (fun _ (u10 : wSt) => some (.inr ((1 : Int32), u10))))))
def F_X9_lineRead_j153 (o1 : Nat) (u27 : wSt) : Option ((Int32 × wSt) ⊕ ((Unit) ⊕ (Int32 × wSt))) :=
  wC (F_X9_wrong o1 (1 : Int32) u27) (fun (i29 : Int32) (u28 : wSt) => wG (i29 = 0 ∨ i29 = 1) (some (.inr (.inr (i29, u28)))))
def F_X9_lineRead (o1 : Nat) (u0 : wSt) : Option (Int32 × wSt) :=
  wJ (X := Unit) (if (u0.1 o1 8) = (1 : Int32) then (if (u0.1 o1 9) ≤ (6 : Int32) then (wB (u0.1 o1 9) (fun (i5 : Int32) => wJ (X := Int32 × wSt) (if i5 = 0 then (wC (F_X9_guestLine o1 u0) (fun (i14 : Int32) (u13 : wSt) => some (.inl (i14, u13)))) else (if i5 = 1 then (wC (F_X9_fruitLine o1 u0) (fun (i16 : Int32) (u15 : wSt) => some (.inl (i16, u15)))) else (if i5 = 2 then (wC (F_X9_biteLine o1 u0) (fun (i18 : Int32) (u17 : wSt) => some (.inl (i18, u17)))) else (if i5 = 3 then (wC (F_X9_onceLine o1 (0 : Int32) (1 : Int32) (5 : Int32) u0) (fun (i20 : Int32) (u19 : wSt) => some (.inl (i20, u19)))) else (if i5 = 4 then (wC (F_X9_onceLine o1 (1 : Int32) (0 : Int32) (100 : Int32) u0) (fun (i22 : Int32) (u21 : wSt) => some (.inl (i22, u21)))) else (if i5 = 5 then (wC (F_X9_onceLine o1 (2 : Int32) (0 : Int32) (99999 : Int32) u0) (fun (i24 : Int32) (u23 : wSt) => some (.inl (i24, u23)))) else (wC (F_X9_token o1 u0) (fun _ (u25 : wSt) => wJ (X := wSt) (if (u25.1 o1 8) = (1 : Int32) then (if (u25.1 o1 9) < (7 : Int32) then (some (.inl u25)) else (if (u25.1 o1 9) ≤ (9 : Int32) then (wB (((3 : Int32) + (u25.1 o1 9)) - (7 : Int32)) (fun (i30 : Int32) => wR (u25.2.2 o1 31) 15 (fun o31 => wN i30 o31 (fun j32 => if (u25.1 o31 j32) = 0 then (wR (u25.2.2 o1 31) 15 (fun o33 => wSZ u25 o33 i30 (1 : Int32) (fun (u34 : wSt) => wC (F_X9_token o1 u34) (fun _ (u35 : wSt) => wR (u35.2.2 o1 32) 14 (fun o36 => wSI u35 o36 i30 (u35.1 o1 19) (fun (u37 : wSt) => wC (F_X9_sumRead o1 u37) (fun (i39 : Int32) (u38 : wSt) => wR (u38.2.2 o1 33) 14 (fun o40 => wSI u38 o40 i30 (u38.1 o1 19) (fun (u41 : wSt) => some (.inr (.inl (i39, u41)))))))))))) else (wC (F_X9_wrong o1 (3 : Int32) u25) (fun (i43 : Int32) (u42 : wSt) => wG (i43 = 0 ∨ i43 = 1) (some (.inr (.inr (.inr (i43, u42))))))))))) else (some (.inl u25)))) else (some (.inl u25))) (fun x => F_X9_lineRead_j153 o1 x))))))))) (fun x => F_X9_lineRead_j220 o1 x.1 x.2))) else (some (.inl ()))) else (some (.inl ()))) (fun x => F_X9_lineRead_j17 o1 u0)
set_option maxRecDepth 100000 in
set_option maxHeartbeats 4000000 in
theorem c_X9_lineRead {l : Launch} {D : va_G} {κ : Nat → ClassId} {ρ : Nat → Nat} (o1 : Nat) (h_o1 : (w_sh o1).1 = 9) : wMI l yX9_lineRead cX9_lineRead 3 .boolean (wRm 4 92) [.ref (ρ o1)] D κ ρ 1 (fun u => F_X9_lineRead o1 u) := by
  refine wMI_of (F := fun u => F_X9_lineRead o1 u) rfl (Nat.le_of_ble_eq_true rfl) (fun u0 z p e s m args below meth c ls A hF hC hr hlk hH hl => ?_)
  have hl : lv_has ls 3 [(0, .ref (ρ o1))] := hl
  have hx := hC.1.1
  have hb := hC.1.2.1
  have hF : F_X9_lineRead o1 u0 = some z := hF
  unfold F_X9_lineRead at hF
  change W p l e (wRm 4 92) s m args below meth c s.heap [] 0 0 (wQI below args s A D κ ρ 1 z) (F0 m 0 ls [])
  have key : ∀ (H : Heap) (locs : List Loc), wHp D κ ρ 1 A s.heap H locs u0 → W p l e (wRm 4 92) s m args below meth c H locs 0 0 (wQI below args s A D κ ρ 1 z) (F0 m 0 ls []) := by
    intro H locs hH
    refine lv_aload_n hx hb dX9_lineRead_0 rfl (lv_at hl 0 rfl) ?_
    refine wx_getI hC hH h_o1 rfl f_X9_160 dX9_lineRead_1 ?_
    refine lv_iconst hx hb dX9_lineRead_4 k_iconst_1 ?_
    obtain ⟨q2_, hF, hq2⟩ := wJ_some hF
    have hJ17 : ∀ (H : Heap) (locs : List Loc) (ls : Array Slot), F_X9_lineRead_j17 o1 u0 = some z → wHp D κ ρ 1 A s.heap H locs u0 → lv_has ls 3 [(0, .ref (ρ o1))] → W p l e (wRm 4 92) s m args below meth c H locs 0 0 (wQI below args s A D κ ρ 1 z) (F0 m 17 ls []) := by
      intro H locs ls hF hH hl
      unfold F_X9_lineRead_j17 at hF
      refine lv_aload_n hx hb dX9_lineRead_17 rfl (lv_at hl 0 rfl) ?_
      refine lv_iconst hx hb dX9_lineRead_18 k_iconst_1 ?_
      refine wx_evi hC hH hl (c_X9_wrong o1 (1 : Int32) h_o1) y_X9_wrong v_X9_wrong h_o1 rfl m_X9_184 rfl ⟨Nat.le_of_ble_eq_true rfl, Nat.le_of_ble_eq_true rfl⟩ ⟨Nat.le_refl _, Nat.le_refl _⟩ rfl (Nat.le_of_ble_eq_true rfl) dX9_lineRead_19 hF (fun i4 u3 H locs hF hH => ?_)
      obtain ⟨h01, hF⟩ := wG_some hF
      exact wx_zret hC hH hr hlk dX9_lineRead_22 h01 hF
    refine lv_icmp_ne hx hb dX9_lineRead_5 (tgt := 17) rfl (fun h => ?_) (fun h => ?_)
    · have hF := wx_f h hF
      have hF := wJ_l hq2 hF
      exact hJ17 H locs ls hF hH (lv_sub hl [0] rfl)
    have hF := wx_t h hF
    refine lv_aload_n hx hb dX9_lineRead_8 rfl (lv_at hl 0 rfl) ?_
    refine wx_getI hC hH h_o1 rfl f_X9_171 dX9_lineRead_9 ?_
    refine lv_bipush hx hb dX9_lineRead_12 k_bipush_6 ?_
    refine lv_icmp_le hx hb dX9_lineRead_14 (tgt := 23) rfl (fun h => ?_) (fun h => ?_)
    · have hF := wx_t h hF
      refine lv_aload_n hx hb dX9_lineRead_23 rfl (lv_at hl 0 rfl) ?_
      refine wx_getI hC hH h_o1 rfl f_X9_171 dX9_lineRead_24 ?_
      refine wx_leti hF (fun i5 hF => ?_)
      obtain ⟨q6_, hF, hq6⟩ := wJ_some hF
      have hJ220 : ∀ (i7 : Int32) (u8 : wSt) (H : Heap) (locs : List Loc) (ls : Array Slot), F_X9_lineRead_j220 o1 i7 u8 = some q2_ → wHp D κ ρ 1 A s.heap H locs u8 → lv_has ls 3 [(0, .ref (ρ o1)), (1, .int i7)] → W p l e (wRm 4 92) s m args below meth c H locs 0 0 (wQI below args s A D κ ρ 1 z) (F0 m 220 ls []) := by
        intro i7 u8 H locs ls hF hH hl
        unfold F_X9_lineRead_j220 at hF
        refine lv_iload_n hx hb dX9_lineRead_220 rfl (lv_at hl 1 rfl) ?_
        refine lv_if_ne hx hb dX9_lineRead_221 (tgt := 226) rfl (fun h => ?_) (fun h => ?_)
        · have hF := wx_f h hF
          refine lv_aload_n hx hb dX9_lineRead_226 rfl (lv_at hl 0 rfl) ?_
          refine lv_bipush hx hb dX9_lineRead_227 k_bipush_59 ?_
          refine wx_pvi hC hH hl (c_X9_isSign o1 (59 : Int32) h_o1) y_X9_isSign v_X9_isSign h_o1 rfl m_X9_197 rfl ⟨Nat.le_of_ble_eq_true rfl, Nat.le_of_ble_eq_true rfl⟩ ⟨Nat.le_refl _, Nat.le_refl _⟩ rfl (Nat.le_of_ble_eq_true rfl) dX9_lineRead_229 hF (fun i9 H locs hF hH => ?_)
          refine lv_if_ne hx hb dX9_lineRead_232 (tgt := 241) rfl (fun h => ?_) (fun h => ?_)
          · have hF := wx_f h hF
            refine lv_aload_n hx hb dX9_lineRead_241 rfl (lv_at hl 0 rfl) ?_
            refine wx_evv hC hH hl (c_X9_token o1 h_o1) y_X9_token v_X9_token h_o1 rfl m_X9_194 rfl ⟨Nat.le_of_ble_eq_true rfl, Nat.le_of_ble_eq_true rfl⟩ ⟨Nat.le_refl _, Nat.le_refl _⟩ rfl (Nat.le_of_ble_eq_true rfl) dX9_lineRead_242 hF (fun _ u10 H locs hF hH => ?_)
            refine lv_iconst hx hb dX9_lineRead_245 k_iconst_1 ?_
            have hF := wJ_r hq2 hF
            exact wx_zret hC hH hr hlk dX9_lineRead_246 (Or.inr rfl) hF
          have hF := wx_t h hF
          refine lv_aload_n hx hb dX9_lineRead_235 rfl (lv_at hl 0 rfl) ?_
          refine lv_iconst hx hb dX9_lineRead_236 k_iconst_1 ?_
          refine wx_evi hC hH hl (c_X9_wrong o1 (1 : Int32) h_o1) y_X9_wrong v_X9_wrong h_o1 rfl m_X9_184 rfl ⟨Nat.le_of_ble_eq_true rfl, Nat.le_of_ble_eq_true rfl⟩ ⟨Nat.le_refl _, Nat.le_refl _⟩ rfl (Nat.le_of_ble_eq_true rfl) dX9_lineRead_237 hF (fun i12 u11 H locs hF hH => ?_)
          obtain ⟨h01, hF⟩ := wG_some hF
          have hF := wJ_r hq2 hF
          exact wx_zret hC hH hr hlk dX9_lineRead_240 h01 hF
        have hF := wx_t h hF
        refine lv_iconst hx hb dX9_lineRead_224 k_iconst_0 ?_
        have hF := wJ_r hq2 hF
        exact wx_zret hC hH hr hlk dX9_lineRead_225 (Or.inl rfl) hF
      by_cases hs0 : i5 = 0
      · have hF := wx_t hs0 hF
        refine wx_sw hx hb dX9_lineRead_27 (by decide) (tgt := 64) (by rw [hs0]; decide) ?_
        refine lv_aload_n hx hb dX9_lineRead_64 rfl (lv_at hl 0 rfl) ?_
        refine wx_evi hC hH hl (c_X9_guestLine o1 h_o1) y_X9_guestLine v_X9_guestLine h_o1 rfl m_X9_246 rfl ⟨Nat.le_of_ble_eq_true rfl, Nat.le_of_ble_eq_true rfl⟩ ⟨Nat.le_refl _, Nat.le_refl _⟩ rfl (Nat.le_of_ble_eq_true rfl) dX9_lineRead_65 hF (fun i14 u13 H locs hF hH => ?_)
        refine wx_istore_n hx hb dX9_lineRead_68 rfl hl (by decide) (fun ls hl => ?_)
        have hl : lv_has ls 3 [(1, .int i14), (0, .ref (ρ o1))] := hl
        refine lv_goto hx hb dX9_lineRead_69 (tgt := 220) rfl ?_
        have hF := wJ_l hq6 hF
        exact hJ220 i14 u13 H locs ls hF hH (lv_sub hl [1, 0] rfl)
      have hF := wx_f hs0 hF
      by_cases hs1 : i5 = 1
      · have hF := wx_t hs1 hF
        refine wx_sw hx hb dX9_lineRead_27 (by decide) (tgt := 72) (by rw [hs1]; decide) ?_
        refine lv_aload_n hx hb dX9_lineRead_72 rfl (lv_at hl 0 rfl) ?_
        refine wx_evi hC hH hl (c_X9_fruitLine o1 h_o1) y_X9_fruitLine v_X9_fruitLine h_o1 rfl m_X9_250 rfl ⟨Nat.le_of_ble_eq_true rfl, Nat.le_of_ble_eq_true rfl⟩ ⟨Nat.le_refl _, Nat.le_refl _⟩ rfl (Nat.le_of_ble_eq_true rfl) dX9_lineRead_73 hF (fun i16 u15 H locs hF hH => ?_)
        refine wx_istore_n hx hb dX9_lineRead_76 rfl hl (by decide) (fun ls hl => ?_)
        have hl : lv_has ls 3 [(1, .int i16), (0, .ref (ρ o1))] := hl
        refine lv_goto hx hb dX9_lineRead_77 (tgt := 220) rfl ?_
        have hF := wJ_l hq6 hF
        exact hJ220 i16 u15 H locs ls hF hH (lv_sub hl [1, 0] rfl)
      have hF := wx_f hs1 hF
      by_cases hs2 : i5 = 2
      · have hF := wx_t hs2 hF
        refine wx_sw hx hb dX9_lineRead_27 (by decide) (tgt := 80) (by rw [hs2]; decide) ?_
        refine lv_aload_n hx hb dX9_lineRead_80 rfl (lv_at hl 0 rfl) ?_
        refine wx_evi hC hH hl (c_X9_biteLine o1 h_o1) y_X9_biteLine v_X9_biteLine h_o1 rfl m_X9_253 rfl ⟨Nat.le_of_ble_eq_true rfl, Nat.le_of_ble_eq_true rfl⟩ ⟨Nat.le_refl _, Nat.le_refl _⟩ rfl (Nat.le_of_ble_eq_true rfl) dX9_lineRead_81 hF (fun i18 u17 H locs hF hH => ?_)
        refine wx_istore_n hx hb dX9_lineRead_84 rfl hl (by decide) (fun ls hl => ?_)
        have hl : lv_has ls 3 [(1, .int i18), (0, .ref (ρ o1))] := hl
        refine lv_goto hx hb dX9_lineRead_85 (tgt := 220) rfl ?_
        have hF := wJ_l hq6 hF
        exact hJ220 i18 u17 H locs ls hF hH (lv_sub hl [1, 0] rfl)
      have hF := wx_f hs2 hF
      by_cases hs3 : i5 = 3
      · have hF := wx_t hs3 hF
        refine wx_sw hx hb dX9_lineRead_27 (by decide) (tgt := 88) (by rw [hs3]; decide) ?_
        refine lv_aload_n hx hb dX9_lineRead_88 rfl (lv_at hl 0 rfl) ?_
        refine lv_iconst hx hb dX9_lineRead_89 k_iconst_0 ?_
        refine lv_iconst hx hb dX9_lineRead_90 k_iconst_1 ?_
        refine lv_iconst hx hb dX9_lineRead_91 k_iconst_5 ?_
        refine wx_evi hC hH hl (c_X9_onceLine o1 (0 : Int32) (1 : Int32) (5 : Int32) h_o1) y_X9_onceLine v_X9_onceLine h_o1 rfl m_X9_256 rfl ⟨Nat.le_of_ble_eq_true rfl, Nat.le_of_ble_eq_true rfl⟩ ⟨Nat.le_refl _, Nat.le_refl _⟩ rfl (Nat.le_of_ble_eq_true rfl) dX9_lineRead_92 hF (fun i20 u19 H locs hF hH => ?_)
        refine wx_istore_n hx hb dX9_lineRead_95 rfl hl (by decide) (fun ls hl => ?_)
        have hl : lv_has ls 3 [(1, .int i20), (0, .ref (ρ o1))] := hl
        refine lv_goto hx hb dX9_lineRead_96 (tgt := 220) rfl ?_
        have hF := wJ_l hq6 hF
        exact hJ220 i20 u19 H locs ls hF hH (lv_sub hl [1, 0] rfl)
      have hF := wx_f hs3 hF
      by_cases hs4 : i5 = 4
      · have hF := wx_t hs4 hF
        refine wx_sw hx hb dX9_lineRead_27 (by decide) (tgt := 99) (by rw [hs4]; decide) ?_
        refine lv_aload_n hx hb dX9_lineRead_99 rfl (lv_at hl 0 rfl) ?_
        refine lv_iconst hx hb dX9_lineRead_100 k_iconst_1 ?_
        refine lv_iconst hx hb dX9_lineRead_101 k_iconst_0 ?_
        refine lv_bipush hx hb dX9_lineRead_102 k_bipush_100 ?_
        refine wx_evi hC hH hl (c_X9_onceLine o1 (1 : Int32) (0 : Int32) (100 : Int32) h_o1) y_X9_onceLine v_X9_onceLine h_o1 rfl m_X9_256 rfl ⟨Nat.le_of_ble_eq_true rfl, Nat.le_of_ble_eq_true rfl⟩ ⟨Nat.le_refl _, Nat.le_refl _⟩ rfl (Nat.le_of_ble_eq_true rfl) dX9_lineRead_104 hF (fun i22 u21 H locs hF hH => ?_)
        refine wx_istore_n hx hb dX9_lineRead_107 rfl hl (by decide) (fun ls hl => ?_)
        have hl : lv_has ls 3 [(1, .int i22), (0, .ref (ρ o1))] := hl
        refine lv_goto hx hb dX9_lineRead_108 (tgt := 220) rfl ?_
        have hF := wJ_l hq6 hF
        exact hJ220 i22 u21 H locs ls hF hH (lv_sub hl [1, 0] rfl)
      have hF := wx_f hs4 hF
      by_cases hs5 : i5 = 5
      · have hF := wx_t hs5 hF
        refine wx_sw hx hb dX9_lineRead_27 (by decide) (tgt := 111) (by rw [hs5]; decide) ?_
        refine lv_aload_n hx hb dX9_lineRead_111 rfl (lv_at hl 0 rfl) ?_
        refine lv_iconst hx hb dX9_lineRead_112 k_iconst_2 ?_
        refine lv_iconst hx hb dX9_lineRead_113 k_iconst_0 ?_
        refine lv_ldc hx hb hC.1.2.2.2.1 (hC.1.2.2.2.2 _ l_X9_180) dX9_lineRead_114 ?_
        refine wx_evi hC hH hl (c_X9_onceLine o1 (2 : Int32) (0 : Int32) (99999 : Int32) h_o1) y_X9_onceLine v_X9_onceLine h_o1 rfl m_X9_256 rfl ⟨Nat.le_of_ble_eq_true rfl, Nat.le_of_ble_eq_true rfl⟩ ⟨Nat.le_refl _, Nat.le_refl _⟩ rfl (Nat.le_of_ble_eq_true rfl) dX9_lineRead_116 hF (fun i24 u23 H locs hF hH => ?_)
        refine wx_istore_n hx hb dX9_lineRead_119 rfl hl (by decide) (fun ls hl => ?_)
        have hl : lv_has ls 3 [(1, .int i24), (0, .ref (ρ o1))] := hl
        refine lv_goto hx hb dX9_lineRead_120 (tgt := 220) rfl ?_
        have hF := wJ_l hq6 hF
        exact hJ220 i24 u23 H locs ls hF hH (lv_sub hl [1, 0] rfl)
      have hF := wx_f hs5 hF
      have htg : ((27 : Nat) : Int) + wTg (96) (0) (5) #[37, 45, 53, 61, 72, 84] i5 = ((123 : Nat) : Int) := by
        have n0 : ¬ (i5).toInt = 0 := lv_neT (k := 0) (a := 0) (fun q => hs0 (q)) (by decide)
        have n1 : ¬ (i5).toInt = 1 := lv_neT (k := 1) (a := 1) (fun q => hs1 (q)) (by decide)
        have n2 : ¬ (i5).toInt = 2 := lv_neT (k := 2) (a := 2) (fun q => hs2 (q)) (by decide)
        have n3 : ¬ (i5).toInt = 3 := lv_neT (k := 3) (a := 3) (fun q => hs3 (q)) (by decide)
        have n4 : ¬ (i5).toInt = 4 := lv_neT (k := 4) (a := 4) (fun q => hs4 (q)) (by decide)
        have n5 : ¬ (i5).toInt = 5 := lv_neT (k := 5) (a := 5) (fun q => hs5 (q)) (by decide)
        rw [wTg_lo (by omega)]; rfl
      refine wx_sw hx hb dX9_lineRead_27 (by decide) (tgt := 123) htg ?_
      refine lv_aload_n hx hb dX9_lineRead_123 rfl (lv_at hl 0 rfl) ?_
      refine wx_evv hC hH hl (c_X9_token o1 h_o1) y_X9_token v_X9_token h_o1 rfl m_X9_194 rfl ⟨Nat.le_of_ble_eq_true rfl, Nat.le_of_ble_eq_true rfl⟩ ⟨Nat.le_refl _, Nat.le_refl _⟩ rfl (Nat.le_of_ble_eq_true rfl) dX9_lineRead_124 hF (fun _ u25 H locs hF hH => ?_)
      refine lv_aload_n hx hb dX9_lineRead_127 rfl (lv_at hl 0 rfl) ?_
      refine wx_getI hC hH h_o1 rfl f_X9_160 dX9_lineRead_128 ?_
      refine lv_iconst hx hb dX9_lineRead_131 k_iconst_1 ?_
      obtain ⟨q26_, hF, hq26⟩ := wJ_some hF
      have hJ153 : ∀ (u27 : wSt) (H : Heap) (locs : List Loc) (ls : Array Slot), F_X9_lineRead_j153 o1 u27 = some q6_ → wHp D κ ρ 1 A s.heap H locs u27 → lv_has ls 3 [(0, .ref (ρ o1))] → W p l e (wRm 4 92) s m args below meth c H locs 0 0 (wQI below args s A D κ ρ 1 z) (F0 m 153 ls []) := by
        intro u27 H locs ls hF hH hl
        unfold F_X9_lineRead_j153 at hF
        refine lv_aload_n hx hb dX9_lineRead_153 rfl (lv_at hl 0 rfl) ?_
        refine lv_iconst hx hb dX9_lineRead_154 k_iconst_1 ?_
        refine wx_evi hC hH hl (c_X9_wrong o1 (1 : Int32) h_o1) y_X9_wrong v_X9_wrong h_o1 rfl m_X9_184 rfl ⟨Nat.le_of_ble_eq_true rfl, Nat.le_of_ble_eq_true rfl⟩ ⟨Nat.le_refl _, Nat.le_refl _⟩ rfl (Nat.le_of_ble_eq_true rfl) dX9_lineRead_155 hF (fun i29 u28 H locs hF hH => ?_)
        obtain ⟨h01, hF⟩ := wG_some hF
        have hF := wJ_r hq6 hF
        have hF := wJ_r hq2 hF
        exact wx_zret hC hH hr hlk dX9_lineRead_158 h01 hF
      refine lv_icmp_ne hx hb dX9_lineRead_132 (tgt := 153) rfl (fun h => ?_) (fun h => ?_)
      · have hF := wx_f h hF
        have hF := wJ_l hq26 hF
        exact hJ153 u25 H locs ls hF hH (lv_sub hl [0] rfl)
      have hF := wx_t h hF
      refine lv_aload_n hx hb dX9_lineRead_135 rfl (lv_at hl 0 rfl) ?_
      refine wx_getI hC hH h_o1 rfl f_X9_171 dX9_lineRead_136 ?_
      refine lv_bipush hx hb dX9_lineRead_139 k_bipush_7 ?_
      refine lv_icmp_lt hx hb dX9_lineRead_141 (tgt := 153) rfl (fun h => ?_) (fun h => ?_)
      · have hF := wx_t h hF
        have hF := wJ_l hq26 hF
        exact hJ153 u25 H locs ls hF hH (lv_sub hl [0] rfl)
      have hF := wx_f h hF
      refine lv_aload_n hx hb dX9_lineRead_144 rfl (lv_at hl 0 rfl) ?_
      refine wx_getI hC hH h_o1 rfl f_X9_171 dX9_lineRead_145 ?_
      refine lv_bipush hx hb dX9_lineRead_148 k_bipush_9 ?_
      refine lv_icmp_le hx hb dX9_lineRead_150 (tgt := 159) rfl (fun h => ?_) (fun h => ?_)
      · have hF := wx_t h hF
        refine lv_iconst hx hb dX9_lineRead_159 k_iconst_3 ?_
        refine lv_aload_n hx hb dX9_lineRead_160 rfl (lv_at hl 0 rfl) ?_
        refine wx_getI hC hH h_o1 rfl f_X9_171 dX9_lineRead_161 ?_
        refine lv_iadd hx hb dX9_lineRead_164 ?_
        refine lv_bipush hx hb dX9_lineRead_165 k_bipush_7 ?_
        refine lv_isub hx hb dX9_lineRead_167 ?_
        refine wx_leti hF (fun i30 hF => ?_)
        refine wx_istore_n hx hb dX9_lineRead_168 rfl hl (by decide) (fun ls hl => ?_)
        have hl : lv_has ls 3 [(2, .int i30), (0, .ref (ρ o1))] := hl
        refine lv_aload_n hx hb dX9_lineRead_169 rfl (lv_at hl 1 rfl) ?_
        refine wx_getR hC hH h_o1 rfl f_X9_54 dX9_lineRead_170 hF (fun o31 h_o31 hF => ?_)
        refine lv_iload_n hx hb dX9_lineRead_173 rfl (lv_at hl 0 rfl) ?_
        refine wx_zald hC hH h_o31 ⟨rfl, rfl⟩ dX9_lineRead_174 hF (fun j32 hF => ?_)
        refine lv_if_eq hx hb dX9_lineRead_175 (tgt := 184) rfl (fun h => ?_) (fun h => ?_)
        · have hF := wx_t h hF
          refine lv_aload_n hx hb dX9_lineRead_184 rfl (lv_at hl 1 rfl) ?_
          refine wx_getR hC hH h_o1 rfl f_X9_54 dX9_lineRead_185 hF (fun o33 h_o33 hF => ?_)
          refine lv_iload_n hx hb dX9_lineRead_188 rfl (lv_at hl 0 rfl) ?_
          refine lv_iconst hx hb dX9_lineRead_189 k_iconst_1 ?_
          refine wx_zast hC hH h_o33 ⟨rfl, rfl⟩ dX9_lineRead_190 hF (fun u34 H locs hF hH => ?_)
          refine lv_aload_n hx hb dX9_lineRead_191 rfl (lv_at hl 1 rfl) ?_
          refine wx_evv hC hH hl (c_X9_token o1 h_o1) y_X9_token v_X9_token h_o1 rfl m_X9_194 rfl ⟨Nat.le_of_ble_eq_true rfl, Nat.le_of_ble_eq_true rfl⟩ ⟨Nat.le_refl _, Nat.le_refl _⟩ rfl (Nat.le_of_ble_eq_true rfl) dX9_lineRead_192 hF (fun _ u35 H locs hF hH => ?_)
          refine lv_aload_n hx hb dX9_lineRead_195 rfl (lv_at hl 1 rfl) ?_
          refine wx_getR hC hH h_o1 rfl f_X9_57 dX9_lineRead_196 hF (fun o36 h_o36 hF => ?_)
          refine lv_iload_n hx hb dX9_lineRead_199 rfl (lv_at hl 0 rfl) ?_
          refine lv_aload_n hx hb dX9_lineRead_200 rfl (lv_at hl 1 rfl) ?_
          refine wx_getI hC hH h_o1 rfl f_X9_213 dX9_lineRead_201 ?_
          refine wx_iast hC hH h_o36 ⟨rfl, rfl⟩ dX9_lineRead_204 hF (fun u37 H locs hF hH => ?_)
          refine lv_aload_n hx hb dX9_lineRead_205 rfl (lv_at hl 1 rfl) ?_
          refine wx_evi hC hH hl (c_X9_sumRead o1 h_o1) y_X9_sumRead v_X9_sumRead h_o1 rfl m_X9_259 rfl ⟨Nat.le_of_ble_eq_true rfl, Nat.le_of_ble_eq_true rfl⟩ ⟨Nat.le_refl _, Nat.le_refl _⟩ rfl (Nat.le_of_ble_eq_true rfl) dX9_lineRead_206 hF (fun i39 u38 H locs hF hH => ?_)
          refine wx_istore_n hx hb dX9_lineRead_209 rfl hl (by decide) (fun ls hl => ?_)
          have hl : lv_has ls 3 [(1, .int i39), (2, .int i30), (0, .ref (ρ o1))] := hl
          refine lv_aload_n hx hb dX9_lineRead_210 rfl (lv_at hl 2 rfl) ?_
          refine wx_getR hC hH h_o1 rfl f_X9_60 dX9_lineRead_211 hF (fun o40 h_o40 hF => ?_)
          refine lv_iload_n hx hb dX9_lineRead_214 rfl (lv_at hl 1 rfl) ?_
          refine lv_aload_n hx hb dX9_lineRead_215 rfl (lv_at hl 2 rfl) ?_
          refine wx_getI hC hH h_o1 rfl f_X9_213 dX9_lineRead_216 ?_
          refine wx_iast hC hH h_o40 ⟨rfl, rfl⟩ dX9_lineRead_219 hF (fun u41 H locs hF hH => ?_)
          have hF := wJ_r hq26 hF
          have hF := wJ_l hq6 hF
          exact hJ220 i39 u41 H locs ls hF hH (lv_sub hl [2, 0] rfl)
        have hF := wx_f h hF
        refine lv_aload_n hx hb dX9_lineRead_178 rfl (lv_at hl 1 rfl) ?_
        refine lv_iconst hx hb dX9_lineRead_179 k_iconst_3 ?_
        refine wx_evi hC hH hl (c_X9_wrong o1 (3 : Int32) h_o1) y_X9_wrong v_X9_wrong h_o1 rfl m_X9_184 rfl ⟨Nat.le_of_ble_eq_true rfl, Nat.le_of_ble_eq_true rfl⟩ ⟨Nat.le_refl _, Nat.le_refl _⟩ rfl (Nat.le_of_ble_eq_true rfl) dX9_lineRead_180 hF (fun i43 u42 H locs hF hH => ?_)
        obtain ⟨h01, hF⟩ := wG_some hF
        have hF := wJ_r hq26 hF
        have hF := wJ_r hq6 hF
        have hF := wJ_r hq2 hF
        exact wx_zret hC hH hr hlk dX9_lineRead_183 h01 hF
      have hF := wx_f h hF
      have hF := wJ_l hq26 hF
      exact hJ153 u25 H locs ls hF hH (lv_sub hl [0] rfl)
    have hF := wx_f h hF
    have hF := wJ_l hq2 hF
    exact hJ17 H locs ls hF hH (lv_sub hl [0] rfl)
  exact key _ _ hH
def F_X9_text_j77 (o1 : Nat) (i12 : Int32) (u13 : wSt) : Option (Int32 × wSt) :=
  wC (F_X9_keepText o1 u13) (fun _ (u14 : wSt) => some (i12, u14))
def F_X9_text_b55 (o1 : Nat) (i16 : Int32) (u17 : wSt) : Option ((Int32 × wSt) ⊕ ((Int32 × wSt) ⊕ (Int32 × wSt))) :=
  if (u17.1 o1 8) = 0 then (some (.inr (.inl (i16, u17)))) else (wC (F_X9_lineRead o1 u17) (fun (i19 : Int32) (u18 : wSt) => if i19 = 0 then (some (.inr (.inr ((-1 : Int32), u18)))) else (wB (i16 + (1 : Int32)) (fun (i20 : Int32) => some (.inl (i20, u18))))))
def F_X9_text (o1 : Nat) (i2 : Int32) (u0 : wSt) : Option (Int32 × wSt) :=
  wB (w_sI u0 o1 2 (0 : Int32)) (fun (u3 : wSt) => if i2 < 0 then (some ((-2 : Int32), u3)) else (if i2 ≤ (u3.1 o1 1) then (wB (w_sI u3 o1 6 i2) (fun (u4 : wSt) => wB (w_sI u4 o1 1 (0 : Int32)) (fun (u5 : wSt) => wB (w_sI u5 o1 4 (0 : Int32)) (fun (u6 : wSt) => wB (w_sI u6 o1 5 (-1 : Int32)) (fun (u7 : wSt) => wB (w_sI u7 o1 7 (0 : Int32)) (fun (u8 : wSt) => wC (F_X9_plain o1 u8) (fun _ (u9 : wSt) => wC (F_X9_token o1 u9) (fun _ (u10 : wSt) => wJ (X := Int32 × wSt) (wL (S := Int32 × wSt) (fun x => F_X9_text_b55 o1 x.1 x.2) wFu ((0 : Int32), u10)) (fun x => F_X9_text_j77 o1 x.1 x.2))))))))) else (some ((-2 : Int32), u3))))
set_option maxRecDepth 100000 in
set_option maxHeartbeats 4000000 in
theorem c_X9_text {l : Launch} {D : va_G} {κ : Nat → ClassId} {ρ : Nat → Nat} (o1 : Nat) (i2 : Int32) (h_o1 : (w_sh o1).1 = 9) : wMI l yX9_text cX9_text 3 .int (wRm 5 114) [.ref (ρ o1), .int i2] D κ ρ 1 (fun u => F_X9_text o1 i2 u) := by
  refine wMI_of (F := fun u => F_X9_text o1 i2 u) rfl (Nat.le_of_ble_eq_true rfl) (fun u0 z p e s m args below meth c ls A hF hC hr hlk hH hl => ?_)
  have hl : lv_has ls 3 [(0, .ref (ρ o1)), (1, .int i2)] := hl
  have hx := hC.1.1
  have hb := hC.1.2.1
  have hF : F_X9_text o1 i2 u0 = some z := hF
  unfold F_X9_text at hF
  change W p l e (wRm 5 114) s m args below meth c s.heap [] 0 0 (wQI below args s A D κ ρ 1 z) (F0 m 0 ls [])
  have key : ∀ (H : Heap) (locs : List Loc), wHp D κ ρ 1 A s.heap H locs u0 → W p l e (wRm 5 114) s m args below meth c H locs 0 0 (wQI below args s A D κ ρ 1 z) (F0 m 0 ls []) := by
    intro H locs hH
    refine lv_aload_n hx hb dX9_text_0 rfl (lv_at hl 0 rfl) ?_
    refine lv_iconst hx hb dX9_text_1 k_iconst_0 ?_
    refine wx_putI hC hH h_o1 rfl f_X9_142 g_9_2 dX9_text_2 hF (fun u3 H locs hF hH => ?_)
    refine lv_iload_n hx hb dX9_text_5 rfl (lv_at hl 1 rfl) ?_
    refine lv_if_lt hx hb dX9_text_6 (tgt := 17) rfl (fun h => ?_) (fun h => ?_)
    · have hF := wx_t h hF
      refine lv_bipush hx hb dX9_text_17 k_bipush_m2 ?_
      exact wx_iret hC hH hr hlk dX9_text_19 hF
    have hF := wx_f h hF
    refine lv_iload_n hx hb dX9_text_9 rfl (lv_at hl 1 rfl) ?_
    refine lv_aload_n hx hb dX9_text_10 rfl (lv_at hl 0 rfl) ?_
    refine wx_getI hC hH h_o1 rfl f_X9_145 dX9_text_11 ?_
    refine lv_icmp_le hx hb dX9_text_14 (tgt := 20) rfl (fun h => ?_) (fun h => ?_)
    · have hF := wx_t h hF
      refine lv_aload_n hx hb dX9_text_20 rfl (lv_at hl 0 rfl) ?_
      refine lv_iload_n hx hb dX9_text_21 rfl (lv_at hl 1 rfl) ?_
      refine wx_putI hC hH h_o1 rfl f_X9_154 g_9_6 dX9_text_22 hF (fun u4 H locs hF hH => ?_)
      refine lv_aload_n hx hb dX9_text_25 rfl (lv_at hl 0 rfl) ?_
      refine lv_iconst hx hb dX9_text_26 k_iconst_0 ?_
      refine wx_putI hC hH h_o1 rfl f_X9_145 g_9_1 dX9_text_27 hF (fun u5 H locs hF hH => ?_)
      refine lv_aload_n hx hb dX9_text_30 rfl (lv_at hl 0 rfl) ?_
      refine lv_iconst hx hb dX9_text_31 k_iconst_0 ?_
      refine wx_putI hC hH h_o1 rfl f_X9_148 g_9_4 dX9_text_32 hF (fun u6 H locs hF hH => ?_)
      refine lv_aload_n hx hb dX9_text_35 rfl (lv_at hl 0 rfl) ?_
      refine lv_iconst hx hb dX9_text_36 k_iconst_m1 ?_
      refine wx_putI hC hH h_o1 rfl f_X9_16 g_9_5 dX9_text_37 hF (fun u7 H locs hF hH => ?_)
      refine lv_aload_n hx hb dX9_text_40 rfl (lv_at hl 0 rfl) ?_
      refine lv_iconst hx hb dX9_text_41 k_iconst_0 ?_
      refine wx_putI hC hH h_o1 rfl f_X9_157 g_9_7 dX9_text_42 hF (fun u8 H locs hF hH => ?_)
      refine lv_aload_n hx hb dX9_text_45 rfl (lv_at hl 0 rfl) ?_
      refine wx_evv hC hH hl (c_X9_plain o1 h_o1) y_X9_plain v_X9_plain h_o1 rfl m_X9_136 rfl ⟨Nat.le_of_ble_eq_true rfl, Nat.le_of_ble_eq_true rfl⟩ ⟨Nat.le_refl _, Nat.le_refl _⟩ rfl (Nat.le_of_ble_eq_true rfl) dX9_text_46 hF (fun _ u9 H locs hF hH => ?_)
      refine lv_aload_n hx hb dX9_text_49 rfl (lv_at hl 0 rfl) ?_
      refine wx_evv hC hH hl (c_X9_token o1 h_o1) y_X9_token v_X9_token h_o1 rfl m_X9_194 rfl ⟨Nat.le_of_ble_eq_true rfl, Nat.le_of_ble_eq_true rfl⟩ ⟨Nat.le_refl _, Nat.le_refl _⟩ rfl (Nat.le_of_ble_eq_true rfl) dX9_text_50 hF (fun _ u10 H locs hF hH => ?_)
      refine lv_iconst hx hb dX9_text_53 k_iconst_0 ?_
      refine wx_istore_n hx hb dX9_text_54 rfl hl (by decide) (fun ls hl => ?_)
      have hl : lv_has ls 3 [(2, .int (0 : Int32)), (0, .ref (ρ o1)), (1, .int i2)] := hl
      obtain ⟨q11_, hF, hq11⟩ := wJ_some hF
      have hJ77 : ∀ (i12 : Int32) (u13 : wSt) (H : Heap) (locs : List Loc) (ls : Array Slot), F_X9_text_j77 o1 i12 u13 = some z → wHp D κ ρ 1 A s.heap H locs u13 → lv_has ls 3 [(0, .ref (ρ o1)), (2, .int i12)] → W p l e (wRm 5 114) s m args below meth c H locs 0 0 (wQI below args s A D κ ρ 1 z) (F0 m 77 ls []) := by
        intro i12 u13 H locs ls hF hH hl
        unfold F_X9_text_j77 at hF
        refine lv_aload_n hx hb dX9_text_77 rfl (lv_at hl 0 rfl) ?_
        refine wx_evv hC hH hl (c_X9_keepText o1 h_o1) y_X9_keepText v_X9_keepText h_o1 rfl m_X9_139 rfl ⟨Nat.le_of_ble_eq_true rfl, Nat.le_of_ble_eq_true rfl⟩ ⟨Nat.le_refl _, Nat.le_refl _⟩ rfl (Nat.le_of_ble_eq_true rfl) dX9_text_78 hF (fun _ u14 H locs hF hH => ?_)
        refine lv_iload_n hx hb dX9_text_81 rfl (lv_at hl 1 rfl) ?_
        exact wx_iret hC hH hr hlk dX9_text_82 hF
      have hL55 : ∀ (k15_ : Nat) (i16 : Int32) (u17 : wSt) (H : Heap) (locs : List Loc) (ls : Array Slot), wL (S := Int32 × wSt) (fun x => F_X9_text_b55 o1 x.1 x.2) k15_ (i16, u17) = some q11_ → wHp D κ ρ 1 A s.heap H locs u17 → lv_has ls 3 [(0, .ref (ρ o1)), (2, .int i16)] → W p l e (wRm 5 114) s m args below meth c H locs 0 0 (wQI below args s A D κ ρ 1 z) (F0 m 55 ls []) := by
        intro k15_
        induction k15_ with
        | zero => intro i16 u17 H locs ls hF; exact wL_zero hF
        | succ k15_ ih15 =>
          intro i16 u17 H locs ls hF hH hl
          obtain ⟨q15_, hF, hq15⟩ := wL_some hF
          have hF : F_X9_text_b55 o1 i16 u17 = some q15_ := hF
          unfold F_X9_text_b55 at hF
          refine lv_aload_n hx hb dX9_text_55 rfl (lv_at hl 0 rfl) ?_
          refine wx_getI hC hH h_o1 rfl f_X9_160 dX9_text_56 ?_
          refine lv_if_eq hx hb dX9_text_59 (tgt := 77) rfl (fun h => ?_) (fun h => ?_)
          · have hF := wx_t h hF
            have hF := wJ_r hq15 hF
            have hF := wJ_l hq11 hF
            exact hJ77 i16 u17 H locs ls hF hH (lv_sub hl [0, 1] rfl)
          have hF := wx_f h hF
          refine lv_aload_n hx hb dX9_text_62 rfl (lv_at hl 0 rfl) ?_
          refine wx_evi hC hH hl (c_X9_lineRead o1 h_o1) y_X9_lineRead v_X9_lineRead h_o1 rfl m_X9_262 rfl ⟨Nat.le_of_ble_eq_true rfl, Nat.le_of_ble_eq_true rfl⟩ ⟨Nat.le_refl _, Nat.le_refl _⟩ rfl (Nat.le_of_ble_eq_true rfl) dX9_text_63 hF (fun i19 u18 H locs hF hH => ?_)
          refine lv_if_ne hx hb dX9_text_66 (tgt := 71) rfl (fun h => ?_) (fun h => ?_)
          · have hF := wx_f h hF
            refine wx_iinc hx hb dX9_text_71 k_iconst_1 hl (k := 1) rfl (by decide) hF (fun i20 ls hF hl => ?_)
            have hl : lv_has ls 3 [(2, .int i20), (0, .ref (ρ o1))] := hl
            refine lv_goto hx hb dX9_text_74 (tgt := 55) rfl ?_
            have hF := wJ_l hq15 hF
            exact ih15 i20 u18 H locs ls hF hH (lv_sub hl [1, 0] rfl)
          have hF := wx_t h hF
          refine lv_iconst hx hb dX9_text_69 k_iconst_m1 ?_
          have hF := wJ_r hq15 hF
          have hF := wJ_r hq11 hF
          exact wx_iret hC hH hr hlk dX9_text_70 hF
      exact hL55 wFu (0 : Int32) u10 H locs ls hF hH (lv_sub hl [1, 0] rfl)
    have hF := wx_f h hF
    refine lv_bipush hx hb dX9_text_17 k_bipush_m2 ?_
    exact wx_iret hC hH hr hlk dX9_text_19 hF
  exact key _ _ hH
def F_X9_fault (o1 : Nat) (i2 : Int32) (u0 : wSt) : Option (Int32 × wSt) :=
  wB (w_sI u0 o1 2 (0 : Int32)) (fun (u3 : wSt) => if i2 = 0 then (some ((u3.1 o1 4), u3)) else (if i2 = (1 : Int32) then (some ((u3.1 o1 5), u3)) else (some ((-1 : Int32), u3))))
set_option maxRecDepth 100000 in
set_option maxHeartbeats 4000000 in
theorem c_X9_fault {l : Launch} {D : va_G} {κ : Nat → ClassId} {ρ : Nat → Nat} (o1 : Nat) (i2 : Int32) (h_o1 : (w_sh o1).1 = 9) : wMI l yX9_fault cX9_fault 2 .int (wRm 0 0) [.ref (ρ o1), .int i2] D κ ρ 1 (fun u => F_X9_fault o1 i2 u) := by
  refine wMI_of (F := fun u => F_X9_fault o1 i2 u) rfl (Nat.le_of_ble_eq_true rfl) (fun u0 z p e s m args below meth c ls A hF hC hr hlk hH hl => ?_)
  have hl : lv_has ls 2 [(0, .ref (ρ o1)), (1, .int i2)] := hl
  have hx := hC.1.1
  have hb := hC.1.2.1
  have hF : F_X9_fault o1 i2 u0 = some z := hF
  unfold F_X9_fault at hF
  change W p l e (wRm 0 0) s m args below meth c s.heap [] 0 0 (wQI below args s A D κ ρ 1 z) (F0 m 0 ls [])
  have key : ∀ (H : Heap) (locs : List Loc), wHp D κ ρ 1 A s.heap H locs u0 → W p l e (wRm 0 0) s m args below meth c H locs 0 0 (wQI below args s A D κ ρ 1 z) (F0 m 0 ls []) := by
    intro H locs hH
    refine lv_aload_n hx hb dX9_fault_0 rfl (lv_at hl 0 rfl) ?_
    refine lv_iconst hx hb dX9_fault_1 k_iconst_0 ?_
    refine wx_putI hC hH h_o1 rfl f_X9_142 g_9_2 dX9_fault_2 hF (fun u3 H locs hF hH => ?_)
    refine lv_iload_n hx hb dX9_fault_5 rfl (lv_at hl 1 rfl) ?_
    refine lv_if_ne hx hb dX9_fault_6 (tgt := 16) rfl (fun h => ?_) (fun h => ?_)
    · have hF := wx_f h hF
      refine lv_iload_n hx hb dX9_fault_16 rfl (lv_at hl 1 rfl) ?_
      refine lv_iconst hx hb dX9_fault_17 k_iconst_1 ?_
      refine lv_icmp_ne hx hb dX9_fault_18 (tgt := 28) rfl (fun h => ?_) (fun h => ?_)
      · have hF := wx_f h hF
        refine lv_iconst hx hb dX9_fault_28 k_iconst_m1 ?_
        exact wx_iret hC hH hr hlk dX9_fault_29 hF
      have hF := wx_t h hF
      refine lv_aload_n hx hb dX9_fault_21 rfl (lv_at hl 0 rfl) ?_
      refine wx_getI hC hH h_o1 rfl f_X9_16 dX9_fault_22 ?_
      refine lv_goto hx hb dX9_fault_25 (tgt := 29) rfl ?_
      exact wx_iret hC hH hr hlk dX9_fault_29 hF
    have hF := wx_t h hF
    refine lv_aload_n hx hb dX9_fault_9 rfl (lv_at hl 0 rfl) ?_
    refine wx_getI hC hH h_o1 rfl f_X9_148 dX9_fault_10 ?_
    refine lv_goto hx hb dX9_fault_13 (tgt := 29) rfl ?_
    exact wx_iret hC hH hr hlk dX9_fault_29 hF
  exact key _ _ hH
def F_X9_named (o1 : Nat) (i2 : Int32) (i3 : Int32) (u0 : wSt) : Option (Int32 × wSt) :=
  wB (w_sI u0 o1 2 (0 : Int32)) (fun (u4 : wSt) => if i2 = 0 then (wR (u4.2.2 o1 22) 14 (fun o7 => wP (F_X9_find o7 (0 : Int32) (u4.1 o1 12) i3 u4) (fun (i8 : Int32) => some (i8, u4)))) else (if i2 = (1 : Int32) then (wR (u4.2.2 o1 26) 14 (fun o5 => wP (F_X9_find o5 (0 : Int32) (u4.1 o1 13) i3 u4) (fun (i6 : Int32) => some (i6, u4)))) else (some ((-1 : Int32), u4))))
set_option maxRecDepth 100000 in
set_option maxHeartbeats 4000000 in
theorem c_X9_named {l : Launch} {D : va_G} {κ : Nat → ClassId} {ρ : Nat → Nat} (o1 : Nat) (i2 : Int32) (i3 : Int32) (h_o1 : (w_sh o1).1 = 9) : wMI l yX9_named cX9_named 3 .int (wRm 1 24) [.ref (ρ o1), .int i2, .int i3] D κ ρ 1 (fun u => F_X9_named o1 i2 i3 u) := by
  refine wMI_of (F := fun u => F_X9_named o1 i2 i3 u) rfl (Nat.le_of_ble_eq_true rfl) (fun u0 z p e s m args below meth c ls A hF hC hr hlk hH hl => ?_)
  have hl : lv_has ls 3 [(0, .ref (ρ o1)), (1, .int i2), (2, .int i3)] := hl
  have hx := hC.1.1
  have hb := hC.1.2.1
  have hF : F_X9_named o1 i2 i3 u0 = some z := hF
  unfold F_X9_named at hF
  change W p l e (wRm 1 24) s m args below meth c s.heap [] 0 0 (wQI below args s A D κ ρ 1 z) (F0 m 0 ls [])
  have key : ∀ (H : Heap) (locs : List Loc), wHp D κ ρ 1 A s.heap H locs u0 → W p l e (wRm 1 24) s m args below meth c H locs 0 0 (wQI below args s A D κ ρ 1 z) (F0 m 0 ls []) := by
    intro H locs hH
    refine lv_aload_n hx hb dX9_named_0 rfl (lv_at hl 0 rfl) ?_
    refine lv_iconst hx hb dX9_named_1 k_iconst_0 ?_
    refine wx_putI hC hH h_o1 rfl f_X9_142 g_9_2 dX9_named_2 hF (fun u4 H locs hF hH => ?_)
    refine lv_iload_n hx hb dX9_named_5 rfl (lv_at hl 1 rfl) ?_
    refine lv_if_ne hx hb dX9_named_6 (tgt := 25) rfl (fun h => ?_) (fun h => ?_)
    · have hF := wx_f h hF
      refine lv_iload_n hx hb dX9_named_25 rfl (lv_at hl 1 rfl) ?_
      refine lv_iconst hx hb dX9_named_26 k_iconst_1 ?_
      refine lv_icmp_ne hx hb dX9_named_27 (tgt := 46) rfl (fun h => ?_) (fun h => ?_)
      · have hF := wx_f h hF
        refine lv_iconst hx hb dX9_named_46 k_iconst_m1 ?_
        exact wx_iret hC hH hr hlk dX9_named_47 hF
      have hF := wx_t h hF
      refine lv_aload_n hx hb dX9_named_30 rfl (lv_at hl 0 rfl) ?_
      refine wx_getR hC hH h_o1 rfl f_X9_39 dX9_named_31 hF (fun o5 h_o5 hF => ?_)
      refine lv_iconst hx hb dX9_named_34 k_iconst_0 ?_
      refine lv_aload_n hx hb dX9_named_35 rfl (lv_at hl 0 rfl) ?_
      refine wx_getI hC hH h_o1 rfl f_X9_222 dX9_named_36 ?_
      refine lv_iload_n hx hb dX9_named_39 rfl (lv_at hl 2 rfl) ?_
      refine wx_psi hC hH hl (c_X9_find o5 (0 : Int32) (u4.1 o1 13) i3 h_o5) y_X9_find v_X9_find m_X9_238 rfl ⟨Nat.le_of_ble_eq_true rfl, Nat.le_of_ble_eq_true rfl⟩ ⟨Nat.le_refl _, Nat.le_refl _⟩ rfl (Nat.le_of_ble_eq_true rfl) dX9_named_40 hF (fun i6 H locs hF hH => ?_)
      refine lv_goto hx hb dX9_named_43 (tgt := 47) rfl ?_
      exact wx_iret hC hH hr hlk dX9_named_47 hF
    have hF := wx_t h hF
    refine lv_aload_n hx hb dX9_named_9 rfl (lv_at hl 0 rfl) ?_
    refine wx_getR hC hH h_o1 rfl f_X9_27 dX9_named_10 hF (fun o7 h_o7 hF => ?_)
    refine lv_iconst hx hb dX9_named_13 k_iconst_0 ?_
    refine lv_aload_n hx hb dX9_named_14 rfl (lv_at hl 0 rfl) ?_
    refine wx_getI hC hH h_o1 rfl f_X9_219 dX9_named_15 ?_
    refine lv_iload_n hx hb dX9_named_18 rfl (lv_at hl 2 rfl) ?_
    refine wx_psi hC hH hl (c_X9_find o7 (0 : Int32) (u4.1 o1 12) i3 h_o7) y_X9_find v_X9_find m_X9_238 rfl ⟨Nat.le_of_ble_eq_true rfl, Nat.le_of_ble_eq_true rfl⟩ ⟨Nat.le_refl _, Nat.le_refl _⟩ rfl (Nat.le_of_ble_eq_true rfl) dX9_named_19 hF (fun i8 H locs hF hH => ?_)
    refine lv_goto hx hb dX9_named_22 (tgt := 47) rfl ?_
    exact wx_iret hC hH hr hlk dX9_named_47 hF
  exact key _ _ hH
def F_X9_bounded_j29 (u0 : wSt) (o1 : Nat) (q2 : Int64) (i5 : Int32) : Option (Int64 × wSt) :=
  wG (i5 = 0 ∨ i5 = 1) (wB (w_sI u0 o1 48 i5) (fun (u6 : wSt) => if (u6.1 o1 48) = 0 then (some (q2, u6)) else (some ((0 : Int64), u6))))
def F_X9_bounded_j24 : Option ((Int32) ⊕ (Int64 × wSt)) :=
  some (.inl (1 : Int32))
def F_X9_bounded (o1 : Nat) (q2 : Int64) (u0 : wSt) : Option (Int64 × wSt) :=
  wJ (X := Int32) (wJ (X := Unit) (if (u0.1 o1 48) = 0 then (if 0 < (lg_cmp q2 (1000000000000 : Int64)) then (some (.inl ())) else (if 0 ≤ (lg_cmp q2 (-1000000000000 : Int64)) then (some (.inr (.inl (0 : Int32)))) else (some (.inl ())))) else (some (.inl ()))) (fun x => F_X9_bounded_j24)) (fun x => F_X9_bounded_j29 u0 o1 q2 x)
set_option maxRecDepth 100000 in
set_option maxHeartbeats 4000000 in
theorem c_X9_bounded {l : Launch} {D : va_G} {κ : Nat → ClassId} {ρ : Nat → Nat} (o1 : Nat) (q2 : Int64) (h_o1 : (w_sh o1).1 = 9) : wML l yX9_bounded cX9_bounded 3 (wRm 0 0) [.ref (ρ o1), .long q2] D κ ρ 1 (fun u => F_X9_bounded o1 q2 u) := by
  refine wML_of (F := fun u => F_X9_bounded o1 q2 u) rfl (Nat.le_of_ble_eq_true rfl) (fun u0 z p e s m args below meth c ls A hF hC hr hlk hH hl => ?_)
  have hl : lv_has ls 3 [(0, .ref (ρ o1)), (1, .long q2)] := hl
  have hx := hC.1.1
  have hb := hC.1.2.1
  have hF : F_X9_bounded o1 q2 u0 = some z := hF
  unfold F_X9_bounded at hF
  change W p l e (wRm 0 0) s m args below meth c s.heap [] 0 0 (wQL below args s A D κ ρ 1 z) (F0 m 0 ls [])
  have key : ∀ (H : Heap) (locs : List Loc), wHp D κ ρ 1 A s.heap H locs u0 → W p l e (wRm 0 0) s m args below meth c H locs 0 0 (wQL below args s A D κ ρ 1 z) (F0 m 0 ls []) := by
    intro H locs hH
    refine lv_aload_n hx hb dX9_bounded_0 rfl (lv_at hl 0 rfl) ?_
    refine lv_aload_n hx hb dX9_bounded_1 rfl (lv_at hl 0 rfl) ?_
    refine wx_getI hC hH h_o1 rfl f_X9_315 dX9_bounded_2 ?_
    obtain ⟨q3_, hF, hq3⟩ := wJ_some hF
    obtain ⟨q4_, hF, hq4⟩ := wJ_some hF
    have hJ29 : ∀ (i5 : Int32) (H : Heap) (locs : List Loc) (ls : Array Slot), F_X9_bounded_j29 u0 o1 q2 i5 = some z → wHp D κ ρ 1 A s.heap H locs u0 → lv_has ls 3 [(0, .ref (ρ o1)), (1, .long q2)] → W p l e (wRm 0 0) s m args below meth c H locs 0 0 (wQL below args s A D κ ρ 1 z) (F0 m 29 ls [.int i5, .ref (ρ o1)]) := by
      intro i5 H locs ls hF hH hl
      unfold F_X9_bounded_j29 at hF
      obtain ⟨h01, hF⟩ := wG_some hF
      refine wx_putZ hC hH h_o1 rfl f_X9_315 g_9_48 dX9_bounded_29 h01 hF (fun u6 H locs hF hH => ?_)
      refine lv_aload_n hx hb dX9_bounded_32 rfl (lv_at hl 0 rfl) ?_
      refine wx_getI hC hH h_o1 rfl f_X9_315 dX9_bounded_33 ?_
      refine lv_if_eq hx hb dX9_bounded_36 (tgt := 43) rfl (fun h => ?_) (fun h => ?_)
      · have hF := wx_t h hF
        refine lv_lload_n hx hb dX9_bounded_43 rfl (lv_at hl 1 rfl) ?_
        exact wx_lret hC hH hr hlk dX9_bounded_44 hF
      have hF := wx_f h hF
      refine lv_lconst hx hb dX9_bounded_39 k_lconst_0 ?_
      refine lv_goto hx hb dX9_bounded_40 (tgt := 44) rfl ?_
      exact wx_lret hC hH hr hlk dX9_bounded_44 hF
    have hJ24 : ∀ (H : Heap) (locs : List Loc) (ls : Array Slot), F_X9_bounded_j24 = some q3_ → wHp D κ ρ 1 A s.heap H locs u0 → lv_has ls 3 [(0, .ref (ρ o1)), (1, .long q2)] → W p l e (wRm 0 0) s m args below meth c H locs 0 0 (wQL below args s A D κ ρ 1 z) (F0 m 24 ls [.ref (ρ o1)]) := by
      intro H locs ls hF hH hl
      unfold F_X9_bounded_j24 at hF
      refine lv_iconst hx hb dX9_bounded_24 k_iconst_1 ?_
      refine lv_goto hx hb dX9_bounded_25 (tgt := 29) rfl ?_
      have hF := wJ_l hq3 hF
      exact hJ29 (1 : Int32) H locs ls hF hH (lv_sub hl [0, 1] rfl)
    refine lv_if_ne hx hb dX9_bounded_5 (tgt := 24) rfl (fun h => ?_) (fun h => ?_)
    · have hF := wx_f h hF
      have hF := wJ_l hq4 hF
      exact hJ24 H locs ls hF hH (lv_sub hl [0, 1] rfl)
    have hF := wx_t h hF
    refine lv_lload_n hx hb dX9_bounded_8 rfl (lv_at hl 1 rfl) ?_
    refine lv_ldc2 hx hb hC.1.2.2.2.1 (hC.1.2.2.2.2 _ l_X9_318) dX9_bounded_9 ?_
    refine W.lcmp hx hb dX9_bounded_12 ?_
    refine lv_if_gt hx hb dX9_bounded_13 (tgt := 24) rfl (fun h => ?_) (fun h => ?_)
    · have hF := wx_t h hF
      have hF := wJ_l hq4 hF
      exact hJ24 H locs ls hF hH (lv_sub hl [0, 1] rfl)
    have hF := wx_f h hF
    refine lv_lload_n hx hb dX9_bounded_16 rfl (lv_at hl 1 rfl) ?_
    refine lv_ldc2 hx hb hC.1.2.2.2.1 (hC.1.2.2.2.2 _ l_X9_320) dX9_bounded_17 ?_
    refine W.lcmp hx hb dX9_bounded_20 ?_
    refine lv_if_ge hx hb dX9_bounded_21 (tgt := 28) rfl (fun h => ?_) (fun h => ?_)
    · have hF := wx_t h hF
      refine lv_iconst hx hb dX9_bounded_28 k_iconst_0 ?_
      have hF := wJ_r hq4 hF
      have hF := wJ_l hq3 hF
      exact hJ29 (0 : Int32) H locs ls hF hH (lv_sub hl [0, 1] rfl)
    have hF := wx_f h hF
    have hF := wJ_l hq4 hF
    exact hJ24 H locs ls hF hH (lv_sub hl [0, 1] rfl)
  exact key _ _ hH
def F_X9_compares (i1 : Int32) (q2 : Int64) (q3 : Int64) (u0 : wSt) : Option Int32 :=
  if i1 = 5 then (if 0 ≤ (lg_cmp q2 q3) then (some ((0 : Int32))) else (some ((1 : Int32)))) else (if i1 = 6 then (if 0 < (lg_cmp q2 q3) then (some ((0 : Int32))) else (some ((1 : Int32)))) else (if i1 = 7 then (if (lg_cmp q2 q3) = 0 then (some ((1 : Int32))) else (some ((0 : Int32)))) else (if i1 = 8 then (if (lg_cmp q2 q3) = 0 then (some ((0 : Int32))) else (some ((1 : Int32)))) else (if i1 = 9 then (if (lg_cmp q2 q3) < 0 then (some ((0 : Int32))) else (some ((1 : Int32)))) else (if (lg_cmp q2 q3) ≤ 0 then (some ((0 : Int32))) else (some ((1 : Int32))))))))
set_option maxRecDepth 100000 in
set_option maxHeartbeats 4000000 in
theorem c_X9_compares {l : Launch} {D : va_G} {κ : Nat → ClassId} {ρ : Nat → Nat} (i1 : Int32) (q2 : Int64) (q3 : Int64) : wMI l yX9_compares cX9_compares 5 .boolean (wRm 0 0) [.int i1, .long q2, .long q3] D κ ρ 1 (fun u => wPu (F_X9_compares i1 q2 q3 u) u) := by
  refine wMP_of (F := fun u => F_X9_compares i1 q2 q3 u) rfl (Nat.le_of_ble_eq_true rfl) (fun u0 z p e s m args below meth c ls A hF hC hr hlk hH hl => ?_)
  have hl : lv_has ls 5 [(0, .int i1), (1, .long q2), (3, .long q3)] := hl
  have hx := hC.1.1
  have hb := hC.1.2.1
  have hF : F_X9_compares i1 q2 q3 u0 = some z := hF
  unfold F_X9_compares at hF
  change W p l e (wRm 0 0) s m args below meth c s.heap [] 0 0 (wQI below args s A D κ ρ 1 (z, u0)) (F0 m 0 ls [])
  have key : ∀ (H : Heap) (locs : List Loc), wHp D κ ρ 1 A s.heap H locs u0 → W p l e (wRm 0 0) s m args below meth c H locs 0 0 (wQI below args s A D κ ρ 1 (z, u0)) (F0 m 0 ls []) := by
    intro H locs hH
    refine lv_iload_n hx hb dX9_compares_0 rfl (lv_at hl 0 rfl) ?_
    by_cases hs0 : i1 = 5
    · have hF := wx_t hs0 hF
      refine wx_sw hx hb dX9_compares_1 (by decide) (tgt := 36) (by rw [hs0]; decide) ?_
      refine lv_lload_n hx hb dX9_compares_36 rfl (lv_at hl 1 rfl) ?_
      refine lv_lload_n hx hb dX9_compares_37 rfl (lv_at hl 2 rfl) ?_
      refine W.lcmp hx hb dX9_compares_38 ?_
      refine lv_if_ge hx hb dX9_compares_39 (tgt := 46) rfl (fun h => ?_) (fun h => ?_)
      · have hF := wx_t h hF
        refine lv_iconst hx hb dX9_compares_46 k_iconst_0 ?_
        exact wx_zret hC hH hr hlk dX9_compares_47 (Or.inl rfl) (wx_pr hF)
      have hF := wx_f h hF
      refine lv_iconst hx hb dX9_compares_42 k_iconst_1 ?_
      refine lv_goto hx hb dX9_compares_43 (tgt := 47) rfl ?_
      exact wx_zret hC hH hr hlk dX9_compares_47 (Or.inr rfl) (wx_pr hF)
    have hF := wx_f hs0 hF
    by_cases hs1 : i1 = 6
    · have hF := wx_t hs1 hF
      refine wx_sw hx hb dX9_compares_1 (by decide) (tgt := 48) (by rw [hs1]; decide) ?_
      refine lv_lload_n hx hb dX9_compares_48 rfl (lv_at hl 1 rfl) ?_
      refine lv_lload_n hx hb dX9_compares_49 rfl (lv_at hl 2 rfl) ?_
      refine W.lcmp hx hb dX9_compares_50 ?_
      refine lv_if_gt hx hb dX9_compares_51 (tgt := 58) rfl (fun h => ?_) (fun h => ?_)
      · have hF := wx_t h hF
        refine lv_iconst hx hb dX9_compares_58 k_iconst_0 ?_
        exact wx_zret hC hH hr hlk dX9_compares_59 (Or.inl rfl) (wx_pr hF)
      have hF := wx_f h hF
      refine lv_iconst hx hb dX9_compares_54 k_iconst_1 ?_
      refine lv_goto hx hb dX9_compares_55 (tgt := 59) rfl ?_
      exact wx_zret hC hH hr hlk dX9_compares_59 (Or.inr rfl) (wx_pr hF)
    have hF := wx_f hs1 hF
    by_cases hs2 : i1 = 7
    · have hF := wx_t hs2 hF
      refine wx_sw hx hb dX9_compares_1 (by decide) (tgt := 60) (by rw [hs2]; decide) ?_
      refine lv_lload_n hx hb dX9_compares_60 rfl (lv_at hl 1 rfl) ?_
      refine lv_lload_n hx hb dX9_compares_61 rfl (lv_at hl 2 rfl) ?_
      refine W.lcmp hx hb dX9_compares_62 ?_
      refine lv_if_ne hx hb dX9_compares_63 (tgt := 70) rfl (fun h => ?_) (fun h => ?_)
      · have hF := wx_f h hF
        refine lv_iconst hx hb dX9_compares_70 k_iconst_0 ?_
        exact wx_zret hC hH hr hlk dX9_compares_71 (Or.inl rfl) (wx_pr hF)
      have hF := wx_t h hF
      refine lv_iconst hx hb dX9_compares_66 k_iconst_1 ?_
      refine lv_goto hx hb dX9_compares_67 (tgt := 71) rfl ?_
      exact wx_zret hC hH hr hlk dX9_compares_71 (Or.inr rfl) (wx_pr hF)
    have hF := wx_f hs2 hF
    by_cases hs3 : i1 = 8
    · have hF := wx_t hs3 hF
      refine wx_sw hx hb dX9_compares_1 (by decide) (tgt := 72) (by rw [hs3]; decide) ?_
      refine lv_lload_n hx hb dX9_compares_72 rfl (lv_at hl 1 rfl) ?_
      refine lv_lload_n hx hb dX9_compares_73 rfl (lv_at hl 2 rfl) ?_
      refine W.lcmp hx hb dX9_compares_74 ?_
      refine lv_if_eq hx hb dX9_compares_75 (tgt := 82) rfl (fun h => ?_) (fun h => ?_)
      · have hF := wx_t h hF
        refine lv_iconst hx hb dX9_compares_82 k_iconst_0 ?_
        exact wx_zret hC hH hr hlk dX9_compares_83 (Or.inl rfl) (wx_pr hF)
      have hF := wx_f h hF
      refine lv_iconst hx hb dX9_compares_78 k_iconst_1 ?_
      refine lv_goto hx hb dX9_compares_79 (tgt := 83) rfl ?_
      exact wx_zret hC hH hr hlk dX9_compares_83 (Or.inr rfl) (wx_pr hF)
    have hF := wx_f hs3 hF
    by_cases hs4 : i1 = 9
    · have hF := wx_t hs4 hF
      refine wx_sw hx hb dX9_compares_1 (by decide) (tgt := 84) (by rw [hs4]; decide) ?_
      refine lv_lload_n hx hb dX9_compares_84 rfl (lv_at hl 1 rfl) ?_
      refine lv_lload_n hx hb dX9_compares_85 rfl (lv_at hl 2 rfl) ?_
      refine W.lcmp hx hb dX9_compares_86 ?_
      refine lv_if_lt hx hb dX9_compares_87 (tgt := 94) rfl (fun h => ?_) (fun h => ?_)
      · have hF := wx_t h hF
        refine lv_iconst hx hb dX9_compares_94 k_iconst_0 ?_
        exact wx_zret hC hH hr hlk dX9_compares_95 (Or.inl rfl) (wx_pr hF)
      have hF := wx_f h hF
      refine lv_iconst hx hb dX9_compares_90 k_iconst_1 ?_
      refine lv_goto hx hb dX9_compares_91 (tgt := 95) rfl ?_
      exact wx_zret hC hH hr hlk dX9_compares_95 (Or.inr rfl) (wx_pr hF)
    have hF := wx_f hs4 hF
    have htg : ((1 : Nat) : Int) + wTg (95) (5) (9) #[35, 47, 59, 71, 83] i1 = ((96 : Nat) : Int) := by
      have n0 : ¬ (i1).toInt = 5 := lv_neT (k := 5) (a := 5) (fun q => hs0 (q)) (by decide)
      have n1 : ¬ (i1).toInt = 6 := lv_neT (k := 6) (a := 6) (fun q => hs1 (q)) (by decide)
      have n2 : ¬ (i1).toInt = 7 := lv_neT (k := 7) (a := 7) (fun q => hs2 (q)) (by decide)
      have n3 : ¬ (i1).toInt = 8 := lv_neT (k := 8) (a := 8) (fun q => hs3 (q)) (by decide)
      have n4 : ¬ (i1).toInt = 9 := lv_neT (k := 9) (a := 9) (fun q => hs4 (q)) (by decide)
      rw [wTg_lo (by omega)]; rfl
    refine wx_sw hx hb dX9_compares_1 (by decide) (tgt := 96) htg ?_
    refine lv_lload_n hx hb dX9_compares_96 rfl (lv_at hl 1 rfl) ?_
    refine lv_lload_n hx hb dX9_compares_97 rfl (lv_at hl 2 rfl) ?_
    refine W.lcmp hx hb dX9_compares_98 ?_
    refine lv_if_le hx hb dX9_compares_99 (tgt := 106) rfl (fun h => ?_) (fun h => ?_)
    · have hF := wx_t h hF
      refine lv_iconst hx hb dX9_compares_106 k_iconst_0 ?_
      exact wx_zret hC hH hr hlk dX9_compares_107 (Or.inl rfl) (wx_pr hF)
    have hF := wx_f h hF
    refine lv_iconst hx hb dX9_compares_102 k_iconst_1 ?_
    refine lv_goto hx hb dX9_compares_103 (tgt := 107) rfl ?_
    exact wx_zret hC hH hr hlk dX9_compares_107 (Or.inr rfl) (wx_pr hF)
  exact key _ _ hH

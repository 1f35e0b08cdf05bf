def F_X5_e (w l c i : Int32) (u : wSt) : Option ((Int32 × Int32 × Int32 × Int32 × wSt) ⊕ (Unit × wSt)) :=
  wG (u.2.2 38 8 = 39 + 1) (wSI u 39 w (c <<< (((5 : Int32) * ((6 : Int32) - l)) &&& 31)) (fun (u1 : wSt) => some (.inl (w + (1 : Int32), (0 : Int32), (0 : Int32), i + (1 : Int32), u1))))
def F_X5_b (w l c i : Int32) (u : wSt) : Option ((Int32 × Int32 × Int32 × Int32 × wSt) ⊕ (Unit × wSt)) :=
  if (105 : Int32) < i then some (.inr ((), u)) else (if (20 : Int32) ≤ w then some (.inr ((), u)) else (if (105 : Int32) ≤ i then F_X5_e w l c i u else (wX i 105 (fun j => if w_ch j = 32 then F_X5_e w l c i u else (some (.inl (w, l + (1 : Int32), c * (32 : Int32) + (w_ch j - (97 : Int32) + (1 : Int32)), i + (1 : Int32), u)))))))
def F_X5_t (u : wSt) : Option (Unit × wSt) := wL (S := Int32 × Int32 × Int32 × Int32 × wSt) (fun x => F_X5_b x.1 x.2.1 x.2.2.1 x.2.2.2.1 x.2.2.2.2) wFu ((0 : Int32), (0 : Int32), (0 : Int32), (0 : Int32), u)
theorem wr_str {D : va_G} {κ : Nat → ClassId} {ρ : Nat → Nat} {lo n : Nat} {A : Nat → Prop} {H0 H H1 : Heap} {locs locs1 : List Loc} {σ : wSt} (hH : wHr D κ ρ lo n A H0 H locs σ) (hk : ∀ q : Nat, q < H.size → H1[q]? = H[q]?) (hS : va_S A H0 H1 locs1) : wHr D κ ρ lo n A H0 H1 locs1 σ :=
  ⟨fun k q hq => (hH.1 k q hq).kept (hk q.1 (hH.1 k q hq).lt), hH.2.1, hS, hH.2.2.2⟩
theorem w_lt105 {i : Int32} {j : Nat} (h0 : 0 ≤ i) (hj : i.toNatClampNeg < 105) : ¬ i < 0 ∧ i < 105 := by
  have h1 : (0 : Int32).toInt = 0 := by decide
  have h2 : (105 : Int32).toInt = 105 := by decide
  rw [Int32.le_iff_toInt_le, h1] at h0
  rw [Int32.lt_iff_toInt_lt, Int32.lt_iff_toInt_lt, h1, h2]
  have h3 : i.toNatClampNeg = i.toInt.toNat := rfl
  omega
set_option maxRecDepth 100000 in
set_option maxHeartbeats 4000000 in
theorem x5_loop {p : Program} {l : Launch} {e : Env} {R : Room} {s : State} {m : MethodId} {args : Array Value} {below : List Frame} {meth : Method} {c : Code} {D : va_G} {κ : Nat → ClassId} {ρ : Nat → Nat} {A : Nat → Prop} {kA vA : Nat} {Q : State → Prop} {cells slots : Nat} {z : Unit × wSt} (hC : wCr p m c cX5_init 6 s args RX5 D κ) (hE : wEX kA vA A s s.heap) (hR : 4 ≤ R.frames ∧ 85 ≤ R.locals) (hcs : cells ≤ R.cells ∧ slots ≤ R.slots)
    (hQ : ∀ (u : wSt) (H : Heap) (locs : List Loc) (ls : Array Slot), some ((), u) = some z → wZr (0 + 43) u → wPt (0 + 43) u → wHr D κ ρ 0 43 A s.heap H locs u → W p l e R s m args below meth c H locs cells slots Q (F0 m 183 ls [])) :
    ∀ (k : Nat) (w1 l1 c1 i1 : Int32) (u : wSt) (H : Heap) (locs : List Loc) (ls : Array Slot), wL (S := Int32 × Int32 × Int32 × Int32 × wSt) (fun x => F_X5_b x.1 x.2.1 x.2.2.1 x.2.2.2.1 x.2.2.2.2) k (w1, l1, c1, i1, u) = some z → wZr (0 + 43) u → wPt (0 + 43) u → wHr D κ ρ 0 43 A s.heap H locs u → lv_has ls 6 [(0, .ref (ρ 38)), (2, .int w1), (3, .int l1), (4, .int c1), (5, .int i1)] → W p l e R s m args below meth c H locs cells slots Q (F0 m 90 ls []) := by
  have hx := hC.1.1
  have hb := hC.1.2.1
  have hown := hC.1.2.2.2.1
  intro k
  induction k with
  | zero => intro w1 l1 c1 i1 u H locs ls hF; exact wL_zero hF
  | succ k ih =>
    intro w1 l1 c1 i1 u H locs ls hF hz hpt hH hl
    obtain ⟨q, hF, hq⟩ := wL_some hF
    have hF : F_X5_b w1 l1 c1 i1 u = some q := hF
    unfold F_X5_b at hF
    have hT : ∀ (w2 l2 c2 : Int32) (u : wSt) (H : Heap) (locs : List Loc) (ls : Array Slot), wL (S := Int32 × Int32 × Int32 × Int32 × wSt) (fun x => F_X5_b x.1 x.2.1 x.2.2.1 x.2.2.2.1 x.2.2.2.2) k (w2, l2, c2, i1 + (1 : Int32), u) = some z → wZr (0 + 43) u → wPt (0 + 43) u → wHr D κ ρ 0 43 A s.heap H locs u → lv_has ls 6 [(0, .ref (ρ 38)), (2, .int w2), (3, .int l2), (4, .int c2), (5, .int i1)] → W p l e R s m args below meth c H locs cells slots Q (F0 m 177 ls []) := by
      intro w2 l2 c2 u H locs ls hF hz hpt hH hl
      refine lv_iinc (v := i1 + (1 : Int32)) hx hb dX5_init_177 hl (k := 4) rfl (by rw [k_iconst_1]) (by decide) rfl (fun ls hl => ?_)
      refine lv_goto hx hb dX5_init_180 (tgt := 90) rfl ?_
      exact ih w2 l2 c2 _ u H locs ls hF hz hpt hH (lv_sub hl [1, 2, 3, 4, 0] rfl)
    have hB : ∀ (H : Heap) (locs : List Loc), F_X5_e w1 l1 c1 i1 u = some q → wHr D κ ρ 0 43 A s.heap H locs u → W p l e R s m args below meth c H locs cells slots Q (F0 m 154 ls []) := by
      intro H locs hF hH
      unfold F_X5_e at hF
      obtain ⟨hg, hF⟩ := wG_some hF
      refine lv_aload_n hx hb dX5_init_154 rfl (lv_at hl 0 rfl) ?_
      refine wr_getR hC hH rfl ⟨by decide, by decide⟩ f_X5_33 dX5_init_155 hg ?_
      refine lv_iload_n hx hb dX5_init_158 rfl (lv_at hl 1 rfl) ?_
      refine lv_iload hx hb dX5_init_159 (lv_at hl 3 rfl) ?_
      refine lv_iconst hx hb dX5_init_161 k_iconst_5 ?_
      refine lv_bipush hx hb dX5_init_162 k_bipush_6 ?_
      refine lv_iload_n hx hb dX5_init_164 rfl (lv_at hl 2 rfl) ?_
      refine lv_isub hx hb dX5_init_165 ?_
      refine lv_imul hx hb dX5_init_166 ?_
      refine lv_ishl hx hb dX5_init_167 ?_
      refine wr_iast hC hH rfl rfl ⟨by decide, by decide⟩ dX5_init_168 hz hpt hF (fun u H locs hz hpt hF hH => ?_)
      refine lv_iinc (v := w1 + (1 : Int32)) hx hb dX5_init_169 hl (k := 1) rfl (by rw [k_iconst_1]) (by decide) rfl (fun ls hl => ?_)
      have hl : lv_has ls 6 [(2, .int (w1 + (1 : Int32))), (0, .ref (ρ 38)), (3, .int l1), (4, .int c1), (5, .int i1)] := hl
      refine lv_iconst hx hb dX5_init_172 k_iconst_0 ?_
      refine wx_istore_n hx hb dX5_init_173 rfl hl (by decide) (fun ls hl => ?_)
      have hl : lv_has ls 6 [(3, .int (0 : Int32)), (2, .int (w1 + (1 : Int32))), (0, .ref (ρ 38)), (4, .int c1), (5, .int i1)] := hl
      refine lv_iconst hx hb dX5_init_174 k_iconst_0 ?_
      refine wx_istore hx hb dX5_init_175 hl (by decide) (fun ls hl => ?_)
      have hl : lv_has ls 6 [(4, .int (0 : Int32)), (3, .int (0 : Int32)), (2, .int (w1 + (1 : Int32))), (0, .ref (ρ 38)), (5, .int i1)] := hl
      exact hT _ _ _ u H locs ls (wJ_l hq hF) hz hpt hH (lv_sub hl [3, 2, 1, 0, 4] rfl)
    have len : ∀ {H : Heap} {locs : List Loc} {pc : Nat} {rest : List Value} (_ : decode cX5_init pc = .ok (.invokevirtual 52, 3)) (_ : (rest.map fun v => v.category).sum ≤ 8) (_ : wHr D κ ρ 0 43 A s.heap H locs u) (_ : ∀ (H : Heap) (locs : List Loc), wHr D κ ρ 0 43 A s.heap H locs u → W p l e R s m args below meth c H locs cells slots Q (F0 m (pc + 3) ls (.int 105 :: rest))), W p l e R s m args below meth c H locs cells slots Q (F0 m pc ls (.ref kA :: rest)) := by
      intro H locs pc rest hd hw hH kk
      exact wj_v hC.1 hE hH.2.2.1 hH.2.2.1 hl.1 (fun A sz => cJ_length A sz) y_J0_length_8abf5 vj_J0_length_8abf5 rfl m_X5_52 rfl ⟨by have := hR.1; omega, by have := hR.2; omega⟩ hcs rfl hw hd (fun H1 locs1 _ hk hS => kk H1 locs1 (wr_str hH hk hS))
    have chr : ∀ {H : Heap} {locs : List Loc} {pc : Nat} {rest : List Value} (_ : ¬ i1 < 0) (_ : i1.toNatClampNeg < 105) (_ : i1 < 105) (_ : decode cX5_init pc = .ok (.invokevirtual 57, 3)) (_ : (rest.map fun v => v.category).sum ≤ 8) (_ : wHr D κ ρ 0 43 A s.heap H locs u) (_ : ∀ (H : Heap) (locs : List Loc), wHr D κ ρ 0 43 A s.heap H locs u → W p l e R s m args below meth c H locs cells slots Q (F0 m (pc + 3) ls (.int (w_ch i1.toNatClampNeg) :: rest))), W p l e R s m args below meth c H locs cells slots Q (F0 m pc ls (.int i1 :: .ref kA :: rest)) := by
      intro H locs pc rest g0 g1 g2 hd hw hH kk
      exact wj_v hC.1 hE hH.2.2.1 hH.2.2.1 hl.1 (fun A sz => cJ_charAt i1 g0 g1 g2 A sz) y_J0_charAt_5068e vj_J0_charAt_5068e rfl m_X5_57 rfl ⟨by have := hR.1; omega, by have := hR.2; omega⟩ hcs rfl hw hd (fun H1 locs1 _ hk hS => kk H1 locs1 (wr_str hH hk hS))
    refine lv_iload hx hb dX5_init_90 (lv_at hl 4 rfl) ?_
    refine va_ldcS hx hb hown hE.2.1 dX5_init_92 ?_
    refine len dX5_init_94 (Nat.le_of_ble_eq_true rfl) hH (fun H locs hH => ?_)
    refine lv_icmp_gt hx hb dX5_init_97 (tgt := 183) rfl (fun h => ?_) (fun h => ?_)
    · have hF := wx_t h hF
      exact hQ u H locs ls (wJ_r hq hF) hz hpt hH
    have hF := wx_f h hF
    refine lv_iload_n hx hb dX5_init_100 rfl (lv_at hl 1 rfl) ?_
    refine lv_bipush hx hb dX5_init_101 k_bipush_20 ?_
    refine lv_icmp_ge hx hb dX5_init_103 (tgt := 183) rfl (fun h => ?_) (fun h => ?_)
    · have hF := wx_t h hF
      exact hQ u H locs ls (wJ_r hq hF) hz hpt hH
    have hF := wx_f h hF
    refine lv_iload hx hb dX5_init_106 (lv_at hl 4 rfl) ?_
    refine va_ldcS hx hb hown hE.2.1 dX5_init_108 ?_
    refine len dX5_init_110 (Nat.le_of_ble_eq_true rfl) hH (fun H locs hH => ?_)
    refine lv_icmp_ge hx hb dX5_init_113 (tgt := 154) rfl (fun h => ?_) (fun h => ?_)
    · have hF := wx_t h hF
      exact hB H locs hF hH
    have hF := wx_f h hF
    have hin : 0 ≤ i1 ∧ i1.toNatClampNeg < 105 := by
      unfold wX at hF
      by_cases hc : 0 ≤ i1 ∧ i1.toNatClampNeg < 105
      · exact hc
      · rw [if_neg hc] at hF; cases hF
    have hF := (wX_some hF).2
    obtain ⟨g0, g2⟩ := w_lt105 (j := 0) hin.1 hin.2
    refine va_ldcS hx hb hown hE.2.1 dX5_init_116 ?_
    refine lv_iload hx hb dX5_init_118 (lv_at hl 4 rfl) ?_
    refine chr g0 hin.2 g2 dX5_init_120 (Nat.le_of_ble_eq_true rfl) hH (fun H locs hH => ?_)
    refine lv_bipush hx hb dX5_init_123 k_bipush_32 ?_
    refine lv_icmp_eq hx hb dX5_init_125 (tgt := 154) rfl (fun h => ?_) (fun h => ?_)
    · have hF := wx_t h hF
      exact hB H locs hF hH
    have hF := wx_f h hF
    refine lv_iload hx hb dX5_init_128 (lv_at hl 3 rfl) ?_
    refine lv_bipush hx hb dX5_init_130 k_bipush_32 ?_
    refine lv_imul hx hb dX5_init_132 ?_
    refine va_ldcS hx hb hown hE.2.1 dX5_init_133 ?_
    refine lv_iload hx hb dX5_init_135 (lv_at hl 4 rfl) ?_
    refine chr g0 hin.2 g2 dX5_init_137 (Nat.le_of_ble_eq_true rfl) hH (fun H locs hH => ?_)
    refine lv_bipush hx hb dX5_init_140 k_bipush_97 ?_
    refine lv_isub hx hb dX5_init_142 ?_
    refine lv_iconst hx hb dX5_init_143 k_iconst_1 ?_
    refine lv_iadd hx hb dX5_init_144 ?_
    refine lv_iadd hx hb dX5_init_145 ?_
    refine wx_istore hx hb dX5_init_146 hl (by decide) (fun ls hl => ?_)
    have hl : lv_has ls 6 [(4, .int (c1 * (32 : Int32) + (w_ch i1.toNatClampNeg - (97 : Int32) + (1 : Int32)))), (0, .ref (ρ 38)), (2, .int w1), (3, .int l1), (5, .int i1)] := hl
    refine lv_iinc (v := l1 + (1 : Int32)) hx hb dX5_init_148 hl (k := 3) rfl (by rw [k_iconst_1]) (by decide) rfl (fun ls hl => ?_)
    refine lv_goto hx hb dX5_init_151 (tgt := 177) rfl ?_
    exact hT _ _ _ u H locs ls (wJ_l hq hF) hz hpt hH (lv_sub hl [2, 3, 0, 1, 4] rfl)

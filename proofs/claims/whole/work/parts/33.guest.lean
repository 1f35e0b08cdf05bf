theorem x_io1 : Cond.classLink RX8 122 "java/lang/IndexOutOfBoundsException" ∈ lw_tb := lw_in (tb_5 _ (List.mem_of_getElem? (i := 183) rfl)) rfl
theorem x_io2 : Cond.initialized "java/lang/IndexOutOfBoundsException" ∈ lw_tb := lw_in (tb_1 _ (List.mem_of_getElem? (i := 19) rfl)) rfl
theorem x_ns1 : Cond.classLink RX8 155 "java/util/NoSuchElementException" ∈ lw_tb := lw_in (tb_6 _ (List.mem_of_getElem? (i := 9) rfl)) rfl
theorem x_ns2 : Cond.initialized "java/util/NoSuchElementException" ∈ lw_tb := lw_in (tb_1 _ (List.mem_of_getElem? (i := 20) rfl)) rfl
theorem x_lg1 : Cond.classLink RL 13 "java/lang/IndexOutOfBoundsException" ∈ lw_tb := lw_in (tb_5 _ (List.mem_of_getElem? (i := 177) rfl)) rfl
theorem x_lg2 : Cond.classLink RL 15 "java/util/NoSuchElementException" ∈ lw_tb := lw_in (tb_5 _ (List.mem_of_getElem? (i := 178) rfl)) rfl
/-! WaxBowl.guest, which throws, and the law's own guest, which catches -/
abbrev wIO : String := "java/lang/IndexOutOfBoundsException"
abbrev wNS : String := "java/util/NoSuchElementException"
abbrev wUp : List String := ["java/lang/RuntimeException", "java/lang/Exception"]
def wBad : List Cond := (vx_atS RX8 126 wIO wUp).filter (fun w => !goodWord w) ++ ((vyAtoms RX8 159 wNS).filter vx_no).filter (fun w => !goodWord w)
theorem wBad_kind : wBad.all (fun w => match w with | .castable _ _ => true | .declares _ => true | _ => false) = true := by decide +kernel
theorem wBad_warm {s U : State} (hW : s.WarmedH U.vm) (h : ∀ w ∈ wBad, va_Nw w s) : ∀ w ∈ wBad, va_Nw w U := by
  intro w hw
  have h1 := h w hw
  have h2 := List.all_eq_true.mp wBad_kind w hw
  cases w <;> first | exact va_Nw.warmC hW h1 | exact va_Nw.warmD hW h1 | cases h2
theorem wBad_on : ∀ w ∈ wBad, w.onTables = true := by
  intro w hw
  have h2 := List.all_eq_true.mp wBad_kind w hw
  cases w <;> first | rfl | cases h2
def wEY (s1 s2 : Nat) (A : Nat → Prop) (U : State) (H : Heap) : Prop :=
  vk_R RX8 124 "no such guest" s1 U ∧ vk_R RX8 157 "no such what" s2 U ∧ vx_Zq Bundle.tN "UNASSIGNED_STACK" Bundle.steD A U H ∧ vx_Zq Bundle.tN "SUPPRESSED_SENTINEL" Bundle.listD A U H ∧ (∀ w ∈ wBad, va_Nw w U) ∧ va_Nc wNS wIO U
theorem wEY.pass {s1 s2 : Nat} {A A' : Nat → Prop} {s U : State} {H : Heap} {locs : List Loc} (h : wEY s1 s2 A s s.heap) (hS : va_S A s.heap H locs) (hAA : ∀ q, A' q → A q) (hU : U.heap = H) (hW : s.WarmedH U.vm) : wEY s1 s2 A' U U.heap := by
  obtain ⟨h1, h2, h3, h4, h5, h6⟩ := h
  rw [hU]
  exact ⟨vk_R.warm hW h1, vk_R.warm hW h2, ((vx_Zq.moved hW.alike h3).kept hS.2.1).narrow hAA, ((vx_Zq.moved hW.alike h4).kept hS.2.1).narrow hAA, wBad_warm hW h5, va_Nc.moved hW.alike h6⟩
theorem wEY.blind {s1 s2 : Nat} {A : Nat → Prop} {U : State} {g : JFrame} {mk : MethodId} {a : Array Value} (h : wEY s1 s2 A U U.heap) : wEY s1 s2 A (U.calling g mk a) (U.calling g mk a).heap := by
  obtain ⟨h1, h2, h3, h4, h5, h6⟩ := h
  have hv : U.vm.Alike (U.calling g mk a).vm := Vm.Alike.refl U.vm
  exact ⟨vk_R.same (u := U) rfl h1, vk_R.same (u := U) rfl h2, vx_Zq.moved hv h3, vx_Zq.moved hv h4, fun w hw => va_Nw.same (wBad_on w hw) (u := U) rfl (h5 w hw), va_Nc.moved hv h6⟩
theorem w_xio : ∀ w ∈ (vx_atS RX8 126 wIO wUp).filter goodWord, w ∈ lw_tbl := by decide +kernel
theorem w_xns : ∀ w ∈ ((vyAtoms RX8 159 wNS).filter vx_no).filter goodWord, w ∈ lw_tbl := by decide +kernel
theorem w_oio : ∀ w ∈ Cond.classLink RX8 122 wIO :: Cond.initialized wIO :: vx_atS RX8 126 wIO wUp, vx_ot w = true := by decide +kernel
theorem w_ons : ∀ w ∈ Cond.classLink RX8 155 wNS :: Cond.initialized wNS :: (vyAtoms RX8 159 wNS).filter vx_no, vx_ot w = true := by decide +kernel
theorem w_hat {args : Array Value} {s : State} {L : List Cond} (hts : ∀ w ∈ lw_tb, w.before args s = true) (h1 : ∀ w ∈ L.filter goodWord, w ∈ lw_tbl) (h2 : ∀ w ∈ L.filter (fun w => !goodWord w), w ∈ wBad) (h5 : ∀ w ∈ wBad, va_Nw w s) : ∀ w ∈ L, w.before args s = true :=
  vx_hat (fun w hw => hts w (List.mem_filter.mpr ⟨h1 w hw, (List.mem_filter.mp hw).2⟩)) h2 (fun w hw => va_Nw.use (wBad_on w hw) (h5 w hw))
def wQg (D : va_G) (κ : Nat → ClassId) (ρ : Nat → Nat) (A : Nat → Prop) (z : Int32 × Int32 × wSt) : Array Value → State → Outcome → State → Prop := va_Qi (S := wSt) (fun r u => ((0 : Int32), r, u) = z) (fun u t => va_P D vwCl (w_ws κ ρ 0 u) t.heap) A
def wXg (D : va_G) (κ : Nat → ClassId) (ρ : Nat → Nat) (A : Nat → Prop) (z : Int32 × Int32 × wSt) : String → State → State → Prop := vx_X (S := wSt) (fun _ => True) (fun E u t => ((E = wIO ∧ ((1 : Int32), (0 : Int32), u) = z) ∨ (E = wNS ∧ ((2 : Int32), (0 : Int32), u) = z)) ∧ va_P D vwCl (w_ws κ ρ 0 u) t.heap) A
def wQG (below : List Frame) (args : Array Value) (s : State) (A : Nat → Prop) (D : va_G) (κ : Nat → ClassId) (ρ : Nat → Nat) (z : Int32 × Int32 × wSt) : State → Prop := vx_MQ below (wQg D κ ρ A z) (wXg D κ ρ A z) args s 1 6 A
section WG
variable {p : Program} {l : Launch} {e : Env} {R : Room} {s : State} {m : MethodId} {args : Array Value} {below : List Frame} {meth : Method} {c : Code} {H : Heap} {locs : List Loc} {cells slots : Nat} {Q : State → Prop}
variable {pc nL : Nat} {ls : Array Slot} {rest : List Value} {D : va_G} {κ : Nat → ClassId} {ρ : Nat → Nat} {A : Nat → Prop} {σ : wSt} {z : Int32 × Int32 × wSt} {s1 s2 : Nat}
theorem wg_iret {cc : ByteArray} {own : String} {v : Int32} (hC : wCx p m c cc nL s args own D κ 0) (hH : wHp D κ ρ 0 A s.heap H locs σ) (hr : meth.sig.returnType = some .int) (hlk : meth.locks = false) (hdg : decode cc pc = .ok (.ireturn, 1)) (hF : some ((0 : Int32), v, σ) = some z) :
    W p l e R s m args below meth c H locs 0 0 (wQG below args s A D κ ρ z) (F0 m pc ls [.int v]) := by
  refine vx_ret ?_
  refine W.widen (k := 1) (n := 6) (by decide) (by decide) ?_
  exact W.iret hC.1.1 hC.1.2.1 hr (fun t ht hW => ⟨⟨v, σ, rfl, Option.some.inj hF, by show va_P D vwCl _ t.heap; rw [ht]; exact hH.1⟩, hH.2.2.1.F ht⟩) hH.2.2.1.2.2 hdg (hlocks := hlk)
theorem w_thrown {t : State} (hH : wHp D κ ρ 0 A s.heap H locs σ) (h1 : H.size ≤ t.heap.size) (h2 : ∀ q : Nat, q < H.size → t.heap[q]? = H[q]?) : va_P D vwCl (w_ws κ ρ 0 σ) t.heap ∧ va_F A s t := by
  refine ⟨fun k q hq => (hH.1 k q hq).kept (h2 q.1 (hH.1 k q hq).lt), Nat.le_trans hH.2.2.1.1 h1, fun q h3 h4 => ?_⟩
  rw [h2 q (Nat.lt_of_lt_of_le h3 hH.2.2.1.1)]
  exact hH.2.2.1.2.1 q h3 h4
theorem wg_io (hC : wCx p m c cX8_guest 3 s args RX8 D κ 0) (hH : wHp D κ ρ 0 A s.heap H locs σ) (hfl : l.stackTraces = false) (hE : wEY s1 s2 A s s.heap) (hls : ls.size = 3) (hlk : meth.locks = false) (hout : ∀ x ∈ c.exceptionTable.toList, False) (hR : 5 < R.frames ∧ 82 ≤ R.locals ∧ 1 ≤ R.cells ∧ 6 ≤ R.slots) (hF : some ((1 : Int32), (0 : Int32), σ) = some z) : W p l e R s m args below meth c H locs 0 0 (wQG below args s A D κ ρ z) (F0 m 8 ls []) := by
  obtain ⟨⟨hx, hb, hml, hown, hts⟩, hK, hn⟩ := hC
  exact vx_throwS (own := RX8) (cls := wIO) (text := "no such guest") (names := wUp) (ik := 122) (is := 124) (ic := 126) hx hb hfl hown (by decide +kernel) (by decide +kernel) (hts _ x_io1) (hts _ x_io2) hE.1 (w_hat hts w_xio (fun w hw => List.mem_append_left _ hw) hE.2.2.2.2.1) w_oio hE.2.2.1 hE.2.2.2.1 hH.2.2.1 (hls.trans hml.symm) dX8_guest_8 dX8_guest_11 dX8_guest_12 dX8_guest_14 dX8_guest_17 (fun x hx => (hout x hx).elim) hR.1 (by show 0 + (13 * (2 + 1) + 43) ≤ _; exact hR.2.1) (by omega) (by omega) hlk (fun t hv g1 g2 => ⟨σ, trivial, ⟨Or.inl ⟨rfl, Option.some.inj hF⟩, (w_thrown hH g1 g2).1⟩, (w_thrown hH g1 g2).2⟩) hH.2.2.1.2.2 (by decide) (by decide)
theorem wg_ns (hC : wCx p m c cX8_guest 3 s args RX8 D κ 0) (hH : wHp D κ ρ 0 A s.heap H locs σ) (hfl : l.stackTraces = false) (hE : wEY s1 s2 A s s.heap) (hls : ls.size = 3) (hlk : meth.locks = false) (hout : ∀ x ∈ c.exceptionTable.toList, False) (hR : 5 < R.frames ∧ 82 ≤ R.locals ∧ 1 ≤ R.cells ∧ 6 ≤ R.slots) (hF : some ((2 : Int32), (0 : Int32), σ) = some z) : W p l e R s m args below meth c H locs 0 0 (wQG below args s A D κ ρ z) (F0 m 140 ls []) := by
  obtain ⟨⟨hx, hb, hml, hown, hts⟩, hK, hn⟩ := hC
  exact vy_throw (own := RX8) (cls := wNS) (text := "no such what") (ik := 155) (is := 157) (ic := 159) hx hb hfl hown (by decide +kernel) (hts _ x_ns1) (hts _ x_ns2) hE.2.1 (w_hat hts w_xns (fun w hw => List.mem_append_right _ hw) hE.2.2.2.2.1) w_ons hE.2.2.1 hE.2.2.2.1 hH.2.2.1 (hls.trans hml.symm) dX8_guest_140 dX8_guest_143 dX8_guest_144 dX8_guest_146 dX8_guest_149 (fun x hx => (hout x hx).elim) hR.1 (by show 0 + (13 * (2 + 1) + 43) ≤ _; exact hR.2.1) (by omega) (by omega) hlk (fun t hv g1 g2 => ⟨σ, trivial, ⟨Or.inr ⟨rfl, Option.some.inj hF⟩, (w_thrown hH g1 g2).1⟩, (w_thrown hH g1 g2).2⟩) hH.2.2.1.2.2 (by decide) (by decide)
end WG
def wPg (D : va_G) (κ : Nat → ClassId) (ρ : Nat → Nat) (s1 s2 : Nat) (avs : List Value) (σ : wSt) (sz : Nat) : Array Value → State → Prop := va_Pc avs (fun U => U.heap.size = sz ∧ va_P D vwCl (w_ws κ ρ 0 σ) U.heap ∧ va_K D vwCl (w_ty κ) U ∧ va_D (fun _ => True) (w_ws κ ρ 0 σ) ∧ wEY s1 s2 (wA ρ 0 sz) U U.heap)
set_option maxRecDepth 100000 in
set_option maxHeartbeats 4000000 in
theorem c_X8_guest {l : Launch} (hfl : l.stackTraces = false) {D : va_G} {κ : Nat → ClassId} {ρ : Nat → Nat} {s1 s2 : Nat} (o1 : Nat) (i2 i3 : Int32) (h_o1 : (w_sh o1).1 = 8) (σ : wSt) (z : Int32 × Int32 × wSt) (sz : Nat) (hF : F_X8_guest o1 i2 i3 σ = some z) : vx_Met l yX8_guest (.code yX8_guest cX8_guest 3 (some .int) :: lw_tb) (wRk 6 1 6 97) (wPg D κ ρ s1 s2 [.ref (ρ o1), .int i2, .int i3] σ sz) (wQg D κ ρ (wA ρ 0 sz) z) (wXg D κ ρ (wA ρ 0 sz) z) 1 6 (wA ρ 0 sz) := by
  refine vx_ofW (cc := cX8_guest) (maxL := 3) (ret := some .int) rfl rfl ?_
  intro p e s m args below meth c s₁ B hml hout hv
  obtain ⟨rfl, hsz, hP, hK, hD, hE⟩ := hv
  subst hsz
  have hts := atoms_spec (ws := .code yX8_guest cX8_guest 3 (some .int) :: lw_tb) B.pre
  have hl := lv_entry [.ref (ρ o1), .int i2, .int i3] (n := 3) (Nat.le_of_ble_eq_true rfl)
  rw [lg_entry_eq]
  generalize (lg_sl [.ref (ρ o1), .int i2, .int i3] ++ List.replicate (3 - (lg_sl [.ref (ρ o1), .int i2, .int i3]).length) Slot.unset).toArray = ls at hl ⊢
  have hl : lv_has ls 3 [(0, .ref (ρ o1)), (1, .int i2), (2, .int i3)] := hl
  have hC : wCx p m c cX8_guest 3 s _ RX8 D κ 0 := ⟨⟨B.exec, B.bytes, hml, findClass_of_methodNamed B.named, fun w hw => hts w (List.mem_cons_of_mem _ hw)⟩, hK, by decide⟩
  have hr := B.returns
  have hlk := B.notSynchronized
  have hx := hC.1.1
  have hb := hC.1.2.1
  generalize [Value.ref (ρ o1), Value.int i2, Value.int i3].toArray = args at hC ⊢
  have hH : wHp D κ ρ 0 (wA ρ 0 s.heap.size) s.heap s.heap [] σ := ⟨hP, wA_D hD, va_S.rf, fun q h => Or.inr h⟩
  generalize wA ρ 0 s.heap.size = A at hH hE ⊢
  unfold F_X8_guest at hF
  have key : ∀ (H : Heap) (locs : List Loc), wHp D κ ρ 0 A s.heap H locs σ → W p l e (wRk 6 1 6 97) s m args below meth c H locs 0 0 (wQG below args s A D κ ρ z) (F0 m 0 ls []) := by
    intro H locs hH
    refine lv_aload_n hx hb dX8_guest_0 rfl (lv_at hl 0 rfl) ?_
    refine lv_iload_n hx hb dX8_guest_1 rfl (lv_at hl 1 rfl) ?_
    refine wx_pvi hC hH hl (c_X8_isGuest o1 i2 h_o1) y_X8_isGuest v_X8_isGuest h_o1 rfl m_X8_118 rfl ⟨Nat.le_of_ble_eq_true rfl, Nat.le_of_ble_eq_true rfl⟩ ⟨Nat.zero_le _, Nat.zero_le _⟩ rfl (Nat.le_of_ble_eq_true rfl) dX8_guest_2 hF (fun i4 H locs hF hH => ?_)
    refine lv_if_ne hx hb dX8_guest_5 (tgt := 18) rfl (fun h => ?_) (fun h => ?_)
    · have hF := wx_f h hF
      refine lv_iload_n hx hb dX8_guest_18 rfl (lv_at hl 2 rfl) ?_
      by_cases hs0 : i3 = 0
      · have hF := wx_t hs0 hF
        refine wx_sw hx hb dX8_guest_19 (by decide) (tgt := 60) (by rw [hs0]; decide) ?_
        refine lv_aload_n hx hb dX8_guest_60 rfl (lv_at hl 0 rfl) ?_
        refine wx_getR hC hH h_o1 rfl f_X8_41 dX8_guest_61 hF (fun o5 h_o5 hF => ?_)
        refine wx_getR hC hH h_o5 rfl f_X8_129 dX8_guest_64 hF (fun o6 h_o6 hF => ?_)
        refine lv_iload_n hx hb dX8_guest_67 rfl (lv_at hl 1 rfl) ?_
        refine wx_iald hC hH h_o6 ⟨rfl, rfl⟩ dX8_guest_68 hF (fun j7 hF => ?_)
        exact wg_iret hC hH hr hlk dX8_guest_69 hF
      have hF := wx_f hs0 hF
      by_cases hs1 : i3 = 1
      · have hF := wx_t hs1 hF
        refine wx_sw hx hb dX8_guest_19 (by decide) (tgt := 70) (by rw [hs1]; decide) ?_
        refine lv_aload_n hx hb dX8_guest_70 rfl (lv_at hl 0 rfl) ?_
        refine wx_getR hC hH h_o1 rfl f_X8_41 dX8_guest_71 hF (fun o8 h_o8 hF => ?_)
        refine wx_getR hC hH h_o8 rfl f_X8_132 dX8_guest_74 hF (fun o9 h_o9 hF => ?_)
        refine lv_iload_n hx hb dX8_guest_77 rfl (lv_at hl 1 rfl) ?_
        refine wx_iald hC hH h_o9 ⟨rfl, rfl⟩ dX8_guest_78 hF (fun j10 hF => ?_)
        exact wg_iret hC hH hr hlk dX8_guest_79 hF
      have hF := wx_f hs1 hF
      by_cases hs2 : i3 = 2
      · have hF := wx_t hs2 hF
        refine wx_sw hx hb dX8_guest_19 (by decide) (tgt := 80) (by rw [hs2]; decide) ?_
        refine lv_aload_n hx hb dX8_guest_80 rfl (lv_at hl 0 rfl) ?_
        refine wx_getR hC hH h_o1 rfl f_X8_22 dX8_guest_81 hF (fun o11 h_o11 hF => ?_)
        refine wx_getR hC hH h_o11 rfl f_X8_135 dX8_guest_84 hF (fun o12 h_o12 hF => ?_)
        refine lv_iload_n hx hb dX8_guest_87 rfl (lv_at hl 1 rfl) ?_
        refine wx_iald hC hH h_o12 ⟨rfl, rfl⟩ dX8_guest_88 hF (fun j13 hF => ?_)
        exact wg_iret hC hH hr hlk dX8_guest_89 hF
      have hF := wx_f hs2 hF
      by_cases hs3 : i3 = 3
      · have hF := wx_t hs3 hF
        refine wx_sw hx hb dX8_guest_19 (by decide) (tgt := 90) (by rw [hs3]; decide) ?_
        refine lv_aload_n hx hb dX8_guest_90 rfl (lv_at hl 0 rfl) ?_
        refine wx_getR hC hH h_o1 rfl f_X8_41 dX8_guest_91 hF (fun o14 h_o14 hF => ?_)
        refine wx_getR hC hH h_o14 rfl f_X8_138 dX8_guest_94 hF (fun o15 h_o15 hF => ?_)
        refine lv_iload_n hx hb dX8_guest_97 rfl (lv_at hl 1 rfl) ?_
        refine wx_iald hC hH h_o15 ⟨rfl, rfl⟩ dX8_guest_98 hF (fun j16 hF => ?_)
        exact wg_iret hC hH hr hlk dX8_guest_99 hF
      have hF := wx_f hs3 hF
      by_cases hs4 : i3 = 4
      · have hF := wx_t hs4 hF
        refine wx_sw hx hb dX8_guest_19 (by decide) (tgt := 100) (by rw [hs4]; decide) ?_
        refine lv_aload_n hx hb dX8_guest_100 rfl (lv_at hl 0 rfl) ?_
        refine wx_getR hC hH h_o1 rfl f_X8_41 dX8_guest_101 hF (fun o17 h_o17 hF => ?_)
        refine lv_iload_n hx hb dX8_guest_104 rfl (lv_at hl 1 rfl) ?_
        refine wx_pvi hC hH hl (c_X3_hasFainted o17 i2 h_o17) y_X3_hasFainted v_X3_hasFainted h_o17 rfl m_X8_141 rfl ⟨Nat.le_of_ble_eq_true rfl, Nat.le_of_ble_eq_true rfl⟩ ⟨Nat.zero_le _, Nat.zero_le _⟩ rfl (Nat.le_of_ble_eq_true rfl) dX8_guest_105 hF (fun i18 H locs hF hH => ?_)
        refine lv_if_eq hx hb dX8_guest_108 (tgt := 115) rfl (fun h => ?_) (fun h => ?_)
        · have hF := wx_t h hF
          refine lv_iconst hx hb dX8_guest_115 k_iconst_1 ?_
          exact wg_iret hC hH hr hlk dX8_guest_116 hF
        have hF := wx_f h hF
        refine lv_iconst hx hb dX8_guest_111 k_iconst_0 ?_
        refine lv_goto hx hb dX8_guest_112 (tgt := 116) rfl ?_
        exact wg_iret hC hH hr hlk dX8_guest_116 hF
      have hF := wx_f hs4 hF
      by_cases hs5 : i3 = 5
      · have hF := wx_t hs5 hF
        refine wx_sw hx hb dX8_guest_19 (by decide) (tgt := 117) (by rw [hs5]; decide) ?_
        refine lv_aload_n hx hb dX8_guest_117 rfl (lv_at hl 0 rfl) ?_
        refine wx_evr hC hH hl (c_X8_plainCourse o1 h_o1) y_X8_plainCourse v_X8_plainCourse h_o1 rfl m_X8_144 rfl ⟨Nat.le_of_ble_eq_true rfl, Nat.le_of_ble_eq_true rfl⟩ ⟨Nat.zero_le _, Nat.zero_le _⟩ rfl (Nat.le_of_ble_eq_true rfl) dX8_guest_118 hF (fun o20 u19 H locs hF hH => ?_)
        obtain ⟨h_o20, hF⟩ := wG_some hF
        refine lv_aload_n hx hb dX8_guest_121 rfl (lv_at hl 0 rfl) ?_
        refine wx_getR hC hH h_o1 rfl f_X8_41 dX8_guest_122 hF (fun o21 h_o21 hF => ?_)
        refine lv_iload_n hx hb dX8_guest_125 rfl (lv_at hl 1 rfl) ?_
        refine wx_pvi hC hH hl (c_X0_hearers o20 o21 i2 h_o20 h_o21) y_X0_hearers v_X0_hearers h_o20 rfl m_X8_148 rfl ⟨Nat.le_of_ble_eq_true rfl, Nat.le_of_ble_eq_true rfl⟩ ⟨Nat.zero_le _, Nat.zero_le _⟩ rfl (Nat.le_of_ble_eq_true rfl) dX8_guest_126 hF (fun i22 H locs hF hH => ?_)
        exact wg_iret hC hH hr hlk dX8_guest_129 hF
      have hF := wx_f hs5 hF
      by_cases hs6 : i3 = 6
      · have hF := wx_t hs6 hF
        refine wx_sw hx hb dX8_guest_19 (by decide) (tgt := 130) (by rw [hs6]; decide) ?_
        refine lv_aload_n hx hb dX8_guest_130 rfl (lv_at hl 0 rfl) ?_
        refine wx_getR hC hH h_o1 rfl f_X8_41 dX8_guest_131 hF (fun o23 h_o23 hF => ?_)
        refine wx_getR hC hH h_o23 rfl f_X8_152 dX8_guest_134 hF (fun o24 h_o24 hF => ?_)
        refine lv_iload_n hx hb dX8_guest_137 rfl (lv_at hl 1 rfl) ?_
        refine wx_iald hC hH h_o24 ⟨rfl, rfl⟩ dX8_guest_138 hF (fun j25 hF => ?_)
        exact wg_iret hC hH hr hlk dX8_guest_139 hF
      have hF := wx_f hs6 hF
      have htg : ((19 : Nat) : Int) + wTg (121) (0) (6) #[41, 51, 61, 71, 81, 98, 111] i3 = ((140 : Nat) : Int) := by
        have n0 : ¬ (i3).toInt = 0 := lv_neT (k := 0) (a := 0) (fun q => hs0 (q)) (by decide)
        have n1 : ¬ (i3).toInt = 1 := lv_neT (k := 1) (a := 1) (fun q => hs1 (q)) (by decide)
        have n2 : ¬ (i3).toInt = 2 := lv_neT (k := 2) (a := 2) (fun q => hs2 (q)) (by decide)
        have n3 : ¬ (i3).toInt = 3 := lv_neT (k := 3) (a := 3) (fun q => hs3 (q)) (by decide)
        have n4 : ¬ (i3).toInt = 4 := lv_neT (k := 4) (a := 4) (fun q => hs4 (q)) (by decide)
        have n5 : ¬ (i3).toInt = 5 := lv_neT (k := 5) (a := 5) (fun q => hs5 (q)) (by decide)
        have n6 : ¬ (i3).toInt = 6 := lv_neT (k := 6) (a := 6) (fun q => hs6 (q)) (by decide)
        rw [wTg_lo (by omega)]; rfl
      refine wx_sw hx hb dX8_guest_19 (by decide) (tgt := 140) htg ?_
      exact wg_ns hC hH hfl hE hl.1 hlk hout ⟨Nat.le_of_ble_eq_true rfl, Nat.le_of_ble_eq_true rfl, Nat.le_of_ble_eq_true rfl, Nat.le_of_ble_eq_true rfl⟩ hF
    have hF := wx_t h hF
    exact wg_io hC hH hfl hE hl.1 hlk hout ⟨Nat.le_of_ble_eq_true rfl, Nat.le_of_ble_eq_true rfl, Nat.le_of_ble_eq_true rfl, Nat.le_of_ble_eq_true rfl⟩ hF
  exact key _ _ hH

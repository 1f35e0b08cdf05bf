theorem x_c1 : Cond.castable "java/lang/IndexOutOfBoundsException" "java/lang/IndexOutOfBoundsException" ∈ wBad := by decide +kernel
theorem x_c2 : Cond.castable "java/util/NoSuchElementException" "java/util/NoSuchElementException" ∈ wBad := by decide +kernel
theorem x_cw : Cond.codeWith yL_guest cL_guest 5 (some .int) [(0, 10, 13, 13), (0, 10, 17, 15)] ∈ lw_tb := lw_at 1270 (by decide +kernel) (by decide +kernel)
theorem x_st : Cond.static yL_guest ∈ lw_tb := lw_in (tb_5 _ (List.mem_of_getElem? (i := 175) rfl)) rfl
theorem x_in : Cond.initialized RL ∈ lw_tb := lw_in (tb_1 _ (List.mem_of_getElem? (i := 0) rfl)) rfl
/-! the law's own guest: it catches -/
def wAg (ρ : Nat → Nat) (sz : Nat) : Nat → Prop := fun q => wA ρ 0 sz q ∨ q = ρ 119
def wPl (D : va_G) (κ : Nat → ClassId) (ρ : Nat → Nat) (s1 s2 : Nat) (avs : List Value) (σ : wSt) (v : Int64) (sz : Nat) : Array Value → State → Prop := va_Pc avs (fun U => U.heap.size = sz ∧ va_P D vwCl (w_ws κ ρ 0 σ ++ wOut κ ρ v) U.heap ∧ va_K D vwCl (w_ty κ) U ∧ va_D (fun _ => True) (w_ws κ ρ 0 σ ++ wOut κ ρ v) ∧ wEY s1 s2 (wAg ρ sz) U U.heap)
theorem wPl_blind {D : va_G} {κ : Nat → ClassId} {ρ : Nat → Nat} {s1 s2 : Nat} {avs : List Value} {σ : wSt} {v : Int64} {sz : Nat} : FrameBlind (wPl D κ ρ s1 s2 avs σ v sz) := fun a U g mk q => by
  obtain ⟨q0, q1, qP, qK, qD, qE⟩ := q
  exact ⟨q0, q1, qP, va_K.moved (u := U) (U := U.calling g mk a) (Vm.Alike.refl U.vm) qK, qD, qE.blind⟩
theorem wPg_blind {D : va_G} {κ : Nat → ClassId} {ρ : Nat → Nat} {s1 s2 : Nat} {avs : List Value} {σ : wSt} {sz : Nat} : FrameBlind (wPg D κ ρ s1 s2 avs σ sz) := fun a U g mk q => by
  obtain ⟨q0, q1, qP, qK, qD, qE⟩ := q
  exact ⟨q0, q1, qP, va_K.moved (u := U) (U := U.calling g mk a) (Vm.Alike.refl U.vm) qK, qD, qE.blind⟩
def wQl (D : va_G) (κ : Nat → ClassId) (ρ : Nat → Nat) (A : Nat → Prop) (k : Int32) (σ1 : wSt) (w : Int64) : Array Value → State → Outcome → State → Prop := va_Qi (S := Unit) (fun r _ => r = k) (fun _ t => va_P D vwCl (w_ws κ ρ 0 σ1 ++ wOut κ ρ w) t.heap) A
theorem w_ws0_len {κ : Nat → ClassId} {ρ : Nat → Nat} {σ : wSt} : (w_ws κ ρ 0 σ).length = 79 := by simp [w_wr, w_n]
theorem w_app_l {κ : Nat → ClassId} {ρ : Nat → Nat} {σ : wSt} {v : Int64} {k : Nat} {q : Nat × va_E} (h : (w_ws κ ρ 0 σ)[k]? = some q) : (w_ws κ ρ 0 σ ++ wOut κ ρ v)[k]? = some q := by
  rw [List.getElem?_append_left (List.getElem?_eq_some_iff.mp h).1]; exact h
theorem w_app_o {κ : Nat → ClassId} {ρ : Nat → Nat} {σ : wSt} {v : Int64} : (w_ws κ ρ 0 σ ++ wOut κ ρ v)[79]? = some (ρ 119, .inl (κ 3, 1, .inr (.inl (fun _ => v)))) := by
  rw [List.getElem?_append_right (by rw [w_ws0_len]; exact Nat.le_refl _), w_ws0_len]; rfl
theorem w_app_P {D : va_G} {κ : Nat → ClassId} {ρ : Nat → Nat} {σ : wSt} {v : Int64} {H : Heap} (h : va_P D vwCl (w_ws κ ρ 0 σ ++ wOut κ ρ v) H) : va_P D vwCl (w_ws κ ρ 0 σ) H ∧ va_P D vwCl (wOut κ ρ v) H := by
  refine ⟨fun k q hq => h k q (w_app_l hq), fun k q hq => ?_⟩
  have hz : k < 1 := (List.getElem?_eq_some_iff.mp hq).1
  rw [show k = 0 by omega] at hq
  cases hq
  exact h 79 _ w_app_o
theorem w_app_D {κ : Nat → ClassId} {ρ : Nat → Nat} {A : Nat → Prop} {σ σ' : wSt} {v v' : Int64} (h : va_D A (w_ws κ ρ 0 σ ++ wOut κ ρ v)) : va_D A (w_ws κ ρ 0 σ' ++ wOut κ ρ v') := by
  have key : ∀ (k : Nat) (q : Nat × va_E), (w_ws κ ρ 0 σ' ++ wOut κ ρ v')[k]? = some q → ∃ e, (w_ws κ ρ 0 σ ++ wOut κ ρ v)[k]? = some (q.1, e) := by
    intro k q hq
    by_cases hk : k < 79
    · rw [List.getElem?_append_left (by rw [w_ws0_len]; exact hk)] at hq
      have h1 := w_wr_addr hq
      refine ⟨w_ce κ ρ σ (w_lo 0 + k), ?_⟩
      rw [List.getElem?_append_left (by rw [w_ws0_len]; exact hk), w_wr_ix h1.1, ← h1.2]
    · rw [List.getElem?_append_right (by rw [w_ws0_len]; omega), w_ws0_len] at hq
      have hz : k - 79 < 1 := (List.getElem?_eq_some_iff.mp hq).1
      rw [show k - 79 = 0 by omega] at hq
      cases hq
      rw [show k = 79 by omega]
      exact ⟨_, w_app_o⟩
  refine ⟨fun i j x y hi hj hxy => ?_, fun k q hk => ?_⟩
  · obtain ⟨e1, g1⟩ := key i x hi
    obtain ⟨e2, g2⟩ := key j y hj
    exact h.1 i j _ _ g1 g2 hxy
  · obtain ⟨e1, g1⟩ := key k q hk
    exact h.2 k (q.1, e1) g1
theorem w_app_ne {κ : Nat → ClassId} {ρ : Nat → Nat} {A : Nat → Prop} {σ : wSt} {v : Int64} (h : va_D A (w_ws κ ρ 0 σ ++ wOut κ ρ v)) : ∀ j, j < 79 → ρ 119 ≠ ρ (0 + j) := by
  intro j hj he
  have h1 : (w_ws κ ρ 0 σ ++ wOut κ ρ v)[j]? = some (ρ (0 + j), w_ce κ ρ σ (0 + j)) := w_app_l (w_wr_ix hj)
  have := h.1 79 j _ _ w_app_o h1 he
  omega
/-- the class's cells have moved, the law's row has not -/
theorem w_app_in {D : va_G} {κ : Nat → ClassId} {ρ : Nat → Nat} {A : Nat → Prop} {σ σ1 : wSt} {v : Int64} {H H1 : Heap} (hP : va_P D vwCl (w_ws κ ρ 0 σ ++ wOut κ ρ v) H) (hD : va_D A (w_ws κ ρ 0 σ ++ wOut κ ρ v)) (h1 : va_P D vwCl (w_ws κ ρ 0 σ1) H1) (hk : ∀ q : Nat, q < H.size → ¬ wA ρ 0 H.size q → H1[q]? = H[q]?) : va_P D vwCl (w_ws κ ρ 0 σ1 ++ wOut κ ρ v) H1 := by
  refine va_P.app h1 (w2_kept (sd := 0) (w_app_P hP).2 hk ?_)
  intro k q hq j hj
  have hz : k < 1 := (List.getElem?_eq_some_iff.mp hq).1
  rw [show k = 0 by omega] at hq
  cases hq
  exact w_app_ne hD j hj
theorem w_app_put {D : va_G} {κ : Nat → ClassId} {ρ : Nat → Nat} {σ : wSt} {v w : Int64} {H : Heap} (h : va_P D vwCl ((w_ws κ ρ 0 σ ++ wOut κ ρ v).set 79 (ρ 119, .inl (κ 3, 1, .inr (.inl (vp_updL (fun _ => v) (0 : Int32).toNatClampNeg w))))) H) : va_P D vwCl (w_ws κ ρ 0 σ ++ wOut κ ρ w) H := by
  intro k q hq
  by_cases hk : k < 79
  · have h1 : (w_ws κ ρ 0 σ ++ wOut κ ρ w)[k]? = (w_ws κ ρ 0 σ ++ wOut κ ρ v)[k]? := by
      rw [List.getElem?_append_left (by rw [w_ws0_len]; exact hk), List.getElem?_append_left (by rw [w_ws0_len]; exact hk)]
    rw [h1] at hq
    exact h k q (by rw [List.getElem?_set_ne (by omega)]; exact hq)
  · rw [List.getElem?_append_right (by rw [w_ws0_len]; omega), w_ws0_len] at hq
    have hz : k - 79 < 1 := (List.getElem?_eq_some_iff.mp hq).1
    rw [show k - 79 = 0 by omega] at hq
    cases hq
    have h2 := h 79 _ (by rw [List.getElem?_set_self (by rw [List.length_append, w_ws0_len]; exact Nat.lt_succ_self 79)])
    have h3 : vp_cell (κ 3) (1, .inr (.inl (vp_updL (fun _ => v) (0 : Int32).toNatClampNeg w))) = vp_cell (κ 3) (1, .inr (.inl (fun _ => w))) := by
      rw [vp_cell_l, vp_cell_l]
      unfold arrV
      congr 1
    show H[ρ 119]? = some (vp_cell (κ 3) (1, .inr (.inl (fun _ => w))))
    rw [← h3]
    exact h2
section WLG
variable {l : Launch} {D : va_G} {κ : Nat → ClassId} {ρ : Nat → Nat} {s1 s2 : Nat}
set_option maxRecDepth 100000 in
set_option maxHeartbeats 4000000 in
theorem c_L_guest (hfl : l.stackTraces = false) (a2 b2 : Int32) (σ : wSt) (v : Int64) (k v1 : Int32) (σ1 : wSt) (sz : Nat) (hF : F_X8_guest 0 a2 b2 σ = some (k, v1, σ1)) : Met l yL_guest (.codeWith yL_guest cL_guest 5 (some .int) [(0, 10, 13, 13), (0, 10, 17, 15)] :: lw_tb) (wRk 7 1 6 150) (wPl D κ ρ s1 s2 [.ref (ρ 0), .int a2, .int b2, .ref (ρ 119)] σ v sz) (wQl D κ ρ (wAg ρ sz) k σ1 (if k = 0 then v1.toInt64 else v)) 1 6 (wAg ρ sz) := by
  refine va_MetW (cc := cL_guest) (maxL := 5) (ret := some .int) (hh := [(0, 10, 13, 13), (0, 10, 17, 15)]) rfl rfl ?_
  intro p e s m args below meth c s₁ B hml hv
  obtain ⟨rfl, hsz, hP, hK, hD, hE⟩ := hv
  subst hsz
  have hts0 := atoms_spec (ws := .codeWith yL_guest cL_guest 5 (some .int) [(0, 10, 13, 13), (0, 10, 17, 15)] :: lw_tb) B.pre
  have htab := vx_table (x := yL_guest) B (hts0 _ List.mem_cons_self)
  have hl := lv_entry [.ref (ρ 0), .int a2, .int b2, .ref (ρ 119)] (n := 5) (Nat.le_of_ble_eq_true rfl)
  rw [lg_entry_eq]
  generalize (lg_sl [.ref (ρ 0), .int a2, .int b2, .ref (ρ 119)] ++ List.replicate (5 - (lg_sl [.ref (ρ 0), .int a2, .int b2, .ref (ρ 119)]).length) Slot.unset).toArray = ls at hl ⊢
  have hl : lv_has ls 5 [(0, .ref (ρ 0)), (1, .int a2), (2, .int b2), (3, .ref (ρ 119))] := hl
  have hx := B.exec
  have hb := B.bytes
  have hr := B.returns
  have hlk := B.notSynchronized
  have hown : s.vm.findClass RL = some m.cls := findClass_of_methodNamed B.named
  generalize hag : [Value.ref (ρ 0), Value.int a2, Value.int b2, Value.ref (ρ 119)].toArray = args at hts0 ⊢
  have hts : ∀ w ∈ lw_tb, w.before args s = true := fun w hw => hts0 w (List.mem_cons_of_mem _ hw)
  have hS0 : va_S (wAg ρ s.heap.size) s.heap s.heap [] := va_S.rf
  have hDA : va_D (wAg ρ s.heap.size) (w_ws κ ρ 0 σ ++ wOut κ ρ v) := by
    refine ⟨hD.1, fun i q hq => ?_⟩
    by_cases hk : i < 79
    · rw [List.getElem?_append_left (by rw [w_ws0_len]; exact hk)] at hq
      have h1 := w_wr_addr hq
      exact Or.inl (Or.inl ⟨i, h1.1, h1.2⟩)
    · rw [List.getElem?_append_right (by rw [w_ws0_len]; omega), w_ws0_len] at hq
      have hz : i - 79 < 1 := (List.getElem?_eq_some_iff.mp hq).1
      rw [show i - 79 = 0 by omega] at hq
      cases hq
      exact Or.inr rfl
  have hAg : ∀ q, wA ρ 0 s.heap.size q → wAg ρ s.heap.size q := fun q h => Or.inl h
  have hnew : ∀ q, s.heap.size ≤ q → wAg ρ s.heap.size q := fun q h => Or.inl (Or.inr h)
  have hP0 := (w_app_P hP).1
  have hDl : va_D (fun _ => True) (w_ws κ ρ 0 σ) := ⟨fun i j x y hi hj hxy => hD.1 i j x y (w_app_l hi) (w_app_l hj) hxy, fun _ _ _ => trivial⟩
  refine lv_aload_n hx hb dL_guest_0 rfl (lv_at hl 3 rfl) ?_
  refine lv_iconst hx hb dL_guest_1 k_iconst_0 ?_
  refine lv_aload_n hx hb dL_guest_2 rfl (lv_at hl 0 rfl) ?_
  refine lv_iload_n hx hb dL_guest_3 rfl (lv_at hl 1 rfl) ?_
  refine lv_iload_n hx hb dL_guest_4 rfl (lv_at hl 2 rfl) ?_
  have hrec : ∃ cell : Cell, s.heap[ρ 0]? = some cell ∧ cell.vm.isStatics = false ∧ s.vm.findClass RX8 = some cell.cls := by
    have he : (w_ws κ ρ 0 σ)[0]? = some (ρ (0 + 0), w_ce κ ρ σ (0 + 0)) := w_wr_ix (by decide)
    rw [w_ce_obj (ci := 8) rfl (by decide)] at he
    exact va_recv (q := (RX8, TX8, 14)) hK hP0 rfl he
  refine vx_calli (A1 := wA ρ 0 s.heap.size) (AX := wA ρ 0 s.heap.size) (vx_runV (As := [.int a2, .int b2]) (rest := [.int 0, .ref (ρ 119)]) (nL := 5) (C := RX8) ⟨hx, hb, hml, hown, hts⟩ (c_X8_guest (s1 := s1) (s2 := s2) hfl 0 a2 b2 rfl σ _ s.heap.size hF) ⟨callB_of 2 hts (lw_good y_X8_guest.1) rfl rfl rfl (hts _ y_X8_guest.2.1) (hts _ m_L_7) ⟨y_X8_guest.2.2.1, y_X8_guest.2.2.2.1, y_X8_guest.2.2.2.2⟩ ⟨Nat.le_of_ble_eq_true rfl, Nat.le_of_ble_eq_true rfl⟩, hts _ v_X8_guest.1.1, hts _ v_X8_guest.1.2⟩ ⟨wPg_blind, hrec, fun U hU hW => ⟨rfl, by rw [hU], by rw [hU]; exact hP0, va_K.moved hW.alike hK, hDl, hE.pass hS0 hAg hU hW⟩⟩ rfl rfl hl.1 rfl (lv_room (Nat.le_of_ble_eq_true rfl)) dL_guest_5 ⟨Nat.le_of_ble_eq_true rfl, Nat.le_of_ble_eq_true rfl⟩) hS0 (fun q _ h => hAg q h) hAg (fun q _ h => hAg q h) (fun E ce q9 u t H1 locs1 ht hvm _ hB hz1 hk1 hS hc1 hc2 hc3 => ?_) (fun r u t H1 locs1 ht hvm hw hB hz1 hk1 hS => ?_)
  · obtain ⟨hcase, hB⟩ := hB
    rw [ht] at hB
    rcases hcase with ⟨rfl, hz⟩ | ⟨rfl, hz⟩
    · cases hz
      refine vx_catch hown [] ⟨0, 10, 13, 13⟩ [⟨0, 10, 17, 15⟩] (by rw [htab]; rfl) (fun _ h => nomatch h) (by decide) (by decide) (hts _ x_lg1) (va_Nw.use rfl (hE.2.2.2.2.1 _ x_c1)) hc1 hc2 hc3 ?_
      refine lv_astore (lv' := _) hx hb dL_guest_13 hl (by decide) rfl (fun ls hl => ?_)
      refine lv_iconst hx hb dL_guest_15 k_iconst_1 ?_
      refine W.widen (k := 1) (n := 6) (by decide) (by decide) ?_
      exact W.iret hx hb hr (fun t ht hW => ⟨⟨1, (), rfl, rfl, by show va_P D vwCl _ t.heap; rw [ht]; exact w_app_in hP hDA hB hk1⟩, hS.F ht⟩) hS.2.2 dL_guest_16 (hlocks := hlk)
    · cases hz
      refine vx_catch hown [⟨0, 10, 13, 13⟩] ⟨0, 10, 17, 15⟩ [] (by rw [htab]; rfl) (fun z hz => ?_) (by decide) (by decide) (hts _ x_lg2) (va_Nw.use rfl (hE.2.2.2.2.1 _ x_c2)) hc1 hc2 hc3 ?_
      · rw [List.mem_singleton.mp hz]
        exact Or.inr ⟨by decide, _, hts _ x_lg1, hE.2.2.2.2.2⟩
      refine lv_astore (lv' := _) hx hb dL_guest_17 hl (by decide) rfl (fun ls hl => ?_)
      refine lv_iconst hx hb dL_guest_19 k_iconst_2 ?_
      refine W.widen (k := 1) (n := 6) (by decide) (by decide) ?_
      exact W.iret hx hb hr (fun t ht hW => ⟨⟨2, (), rfl, rfl, by show va_P D vwCl _ t.heap; rw [ht]; exact w_app_in hP hDA hB hk1⟩, hS.F ht⟩) hS.2.2 dL_guest_20 (hlocks := hlk)
  · cases hw
    rw [ht] at hB
    have hPn := w_app_in hP hDA hB hk1
    have hDn : va_D (wAg ρ s.heap.size) (w_ws κ ρ 0 σ1 ++ wOut κ ρ v) := w_app_D hDA
    refine lv_i2l hx hb dL_guest_8 rfl ?_
    refine va_last (n := 1) (f := fun _ => v) hx hb hK hPn hDn hS 79 3 w_app_o rfl (by intro h; rcases h with h | h <;> revert h <;> decide) dL_guest_9 (fun H1 locs1 q1 q2 q3 => ?_)
    have q1 := w_app_put q1
    refine lv_goto hx hb dL_guest_10 (tgt := 21) rfl ?_
    refine lv_iconst hx hb dL_guest_21 k_iconst_0 ?_
    refine W.widen (k := 1) (n := 6) (by decide) (by decide) ?_
    exact W.iret hx hb hr (fun t ht hW => ⟨⟨0, (), rfl, rfl, by show va_P D vwCl _ t.heap; rw [ht]; exact q1⟩, q3.F ht⟩) q3.2.2 dL_guest_22 (hlocks := hlk)
end WLG

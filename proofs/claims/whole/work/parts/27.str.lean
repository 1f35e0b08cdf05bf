theorem l_J0_38 : Cond.fieldLink RJ0 38 "java/lang/String" "COMPACT_STRINGS" "Z" ∈ lw_tb := lw_in (tb_1 _ (List.mem_of_getElem? (i := 180) rfl)) rfl
theorem l_J0_1053 : Cond.fieldLink RJ0 1053 "jdk/internal/util/Preconditions" "SIOOBE_FORMATTER" "Ljava/util/function/BiFunction;" ∈ lw_tb := lw_in (tb_1 _ (List.mem_of_getElem? (i := 196) rfl)) rfl
theorem l_J0_9 : Cond.fieldLink RJ0 9 "java/lang/String" "value" "[B" ∈ lw_tb := lw_in (tb_9 _ (List.mem_of_getElem? (i := 82) rfl)) rfl
theorem l_J0_15 : Cond.fieldLink RJ0 15 "java/lang/String" "coder" "B" ∈ lw_tb := lw_in (tb_9 _ (List.mem_of_getElem? (i := 83) rfl)) rfl
theorem vj_J0_coder_7d493 : wYv yJ0_coder_7d493 := ⟨lw_in (tb_1 _ (List.mem_of_getElem? (i := 177) rfl)) rfl, lw_in (tb_1 _ (List.mem_of_getElem? (i := 178) rfl)) rfl⟩
theorem vj_J0_isLatin1_aae02 : wYv yJ0_isLatin1_aae02 := ⟨lw_in (tb_1 _ (List.mem_of_getElem? (i := 187) rfl)) rfl, lw_in (tb_1 _ (List.mem_of_getElem? (i := 188) rfl)) rfl⟩
theorem vj_J0_length_8abf5 : wYv yJ0_length_8abf5 := ⟨lw_in (tb_1 _ (List.mem_of_getElem? (i := 173) rfl)) rfl, lw_in (tb_1 _ (List.mem_of_getElem? (i := 174) rfl)) rfl⟩
theorem vj_J0_charAt_5068e : wYv yJ0_charAt_5068e := ⟨lw_in (tb_1 _ (List.mem_of_getElem? (i := 183) rfl)) rfl, lw_in (tb_1 _ (List.mem_of_getElem? (i := 184) rfl)) rfl⟩
/-! the words' text: String.length and String.charAt of that one constant -/
abbrev wFl : Nat → Prop := fun _ => False
def wPj (kA vA : Nat) (A : Nat → Prop) (sz : Nat) (avs : List Value) : Array Value → State → Prop := va_Pc avs (fun U => U.heap.size = sz ∧ wEX kA vA A U U.heap)
def wQj (v : Int32) : Array Value → State → Outcome → State → Prop := va_Qi (S := Unit) (fun r _ => r = v) (fun _ _ => True) wFl
def wQjv : Array Value → State → Outcome → State → Prop := va_Qv (S := Unit) (fun _ => True) (fun _ _ => True) wFl
theorem wPj_blind {kA vA : Nat} {A : Nat → Prop} {sz : Nat} {avs : List Value} : FrameBlind (wPj kA vA A sz avs) := fun a U g mk q => by
  obtain ⟨q0, q1, qE⟩ := q
  exact ⟨q0, q1, qE.blind⟩
theorem wS_fl {A : Nat → Prop} {H0 H : Heap} {locs : List Loc} (h : va_S wFl H0 H locs) : va_S A H0 H locs := ⟨h.1, fun q h1 _ => h.2.1 q h1 (fun z => z), fun q hq => (h.2.2 q hq).elim⟩
theorem wj_enter {l : Launch} {y : MethodName} {cc : ByteArray} {mL f lo kA vA sz : Nat} {ret : Option FieldType} {A : Nat → Prop} {avs : List Value} {Qc : Array Value → State → Outcome → State → Prop} (hy : plainName y.cls = true) (hfit : (lg_sl avs).length ≤ mL)
    (body : ∀ (p : Program) (e : Env) (s : State) (m : MethodId) (args : Array Value) (below : List Frame) (meth : Method) (c : Code) (ls : Array Slot), CallFix p m c cc mL s args lw_tb y.cls → meth.sig.returnType = ret → meth.locks = false → wEX kA vA A s s.heap → lv_has ls mL (lv_args 0 avs) →
      W p l e (wRm f lo) s m args below meth c s.heap [] 0 0 (MQ below Qc args s 0 0 wFl) (F0 m 0 ls [])) :
    Met l y (.code y cc mL ret :: lw_tb) (wRm f lo) (wPj kA vA A sz avs) Qc 0 0 wFl := by
  refine Met.ofW (cc := cc) (maxL := mL) (ret := ret) hy rfl ?_
  intro p e s m args below meth c s₁ B hml hv
  obtain ⟨rfl, hsz, hE⟩ := hv
  have hts := atoms_spec (ws := .code y cc mL ret :: lw_tb) B.pre
  have hl := lv_entry avs (n := mL) hfit
  rw [lg_entry_eq]
  generalize (lg_sl avs ++ List.replicate (mL - (lg_sl avs).length) Slot.unset).toArray = ls at hl ⊢
  exact body p e s m avs.toArray below meth c ls ⟨B.exec, B.bytes, hml, findClass_of_methodNamed B.named, fun w hw => hts w (List.mem_cons_of_mem _ hw)⟩ B.returns B.notSynchronized hE hl
section WJ
variable {p : Program} {l : Launch} {e : Env} {R : Room} {s : State} {m : MethodId} {args : Array Value} {below : List Frame} {meth : Method} {c : Code} {H H0 : Heap} {locs : List Loc} {cells slots : Nat} {Q : State → Prop}
variable {cc bytes : ByteArray} {pc nL mL f lo np idx kA vA : Nat} {ls : Array Slot} {rest st0 As : List Value} {A A0 : Nat → Prop} {own : String} {y : MethodName} {ret : Option FieldType} {lv : List (Nat × Value)} {v : Int32}
theorem wj_v (hC : CallFix p m c cc nL s args lw_tb own) (hE : wEX kA vA A s s.heap) (hSA : va_S A s.heap H locs) (hS : va_S A0 s.heap H locs) (hls : ls.size = nL) (hM : ∀ (A : Nat → Prop) (sz : Nat), Met l y (.code y bytes mL ret :: lw_tb) (wRm f lo) (wPj kA vA A sz (.ref kA :: As)) (wQj v) 0 0 wFl) (hY : wYc y bytes mL ret np) (hV : wYv y) (hq : y.cls = "java/lang/String") (hlink : Cond.methodLink own idx y ∈ lw_tb) (hlen : As.length = np) (hR : f + 1 ≤ R.frames ∧ 8 + (mL + 11) + lo ≤ R.locals) (hcs : cells ≤ R.cells ∧ slots ≤ R.slots) (hst : st0 = As.reverse ++ .ref kA :: rest) (hw : (rest.map fun v => v.category).sum ≤ 8) (hdg : decode cc pc = .ok (.invokevirtual idx, 3))
    (kk : ∀ (H1 : Heap) (locs1 : List Loc), H.size ≤ H1.size → (∀ q : Nat, q < H.size → H1[q]? = H[q]?) → va_S A0 s.heap H1 locs1 → W p l e R s m args below meth c H1 locs1 cells slots Q (F0 m (pc + 3) ls (.int v :: rest))) : W p l e R s m args below meth c H locs cells slots Q (F0 m pc ls st0) := by
  have hts := hC.2.2.2.2
  refine va_calli (va_runV (C := y.cls) hC (hM A H.size) ⟨callB_of np hts (lw_good hY.1) rfl rfl rfl (hts _ hY.2.1) (hts _ hlink) ⟨hY.2.2.1, hY.2.2.2.1, hY.2.2.2.2⟩ hR, hts _ hV.1, hts _ hV.2⟩ ⟨wPj_blind, ?_, fun U hU hW => ⟨rfl, by rw [hU], hE.pass hSA (fun _ h => h) hU hW⟩⟩ rfl hlen hls hst (by show 2 * 0 + _ ≤ 8; omega) hdg hcs) hS (fun q _ h => h.elim) (fun q h => h.elim) (fun r u t H1 locs1 ht hvm hw hB hz1 hk1 hS => ?_)
  · obtain ⟨cell, h1, h2, h3, -⟩ := hE.2.2.1.1.kept hSA.2.1
    rw [hq]
    exact ⟨cell, h1, h2, h3⟩
  · rw [hw]
    exact kk H1 locs1 hz1 (fun q h => hk1 q h (fun z => z)) hS
theorem wj_s (hC : CallFix p m c cc nL s args lw_tb own) (hE : wEX kA vA A s s.heap) (hSA : va_S A s.heap H locs) (hS : va_S A0 s.heap H locs) (hls : ls.size = nL) (hM : ∀ (A : Nat → Prop) (sz : Nat), Met l y (.code y bytes mL ret :: lw_tb) (wRm f lo) (wPj kA vA A sz As) (wQj v) 0 0 wFl) (hY : wYc y bytes mL ret np) (hV : Cond.static y ∈ lw_tb) (hlink : Cond.methodLink own idx y ∈ lw_tb) (hlen : As.length = np) (hR : f + 1 ≤ R.frames ∧ 8 + (mL + 11) + lo ≤ R.locals) (hcs : cells ≤ R.cells ∧ slots ≤ R.slots) (hst : st0 = As.reverse ++ rest) (hw : (rest.map fun v => v.category).sum ≤ 8) (hdg : decode cc pc = .ok (.invokestatic idx, 3))
    (kk : ∀ (H1 : Heap) (locs1 : List Loc), va_S A0 s.heap H1 locs1 → W p l e R s m args below meth c H1 locs1 cells slots Q (F0 m (pc + 3) ls (.int v :: rest))) : W p l e R s m args below meth c H locs cells slots Q (F0 m pc ls st0) := by
  have hts := hC.2.2.2.2
  refine va_calli (va_runS hC (hM A H.size) ⟨callB_of np hts (lw_good hY.1) rfl rfl rfl (hts _ hY.2.1) (hts _ hlink) ⟨hY.2.2.1, hY.2.2.2.1, hY.2.2.2.2⟩ hR, hts _ hV⟩ ⟨wPj_blind, fun U hU hW => ⟨rfl, by rw [hU], hE.pass hSA (fun _ h => h) hU hW⟩⟩ rfl hlen hls hst (by show 2 * 0 + _ ≤ 8; omega) hdg hcs) hS (fun q _ h => h.elim) (fun q h => h.elim) (fun r u t H1 locs1 ht hvm hw hB hz1 hk1 hS => ?_)
  rw [hw]
  exact kk H1 locs1 hS
theorem wj_sv (hC : CallFix p m c cc nL s args lw_tb own) (hE : wEX kA vA A s s.heap) (hSA : va_S A s.heap H locs) (hS : va_S A0 s.heap H locs) (hls : ls.size = nL) (hM : ∀ (A : Nat → Prop) (sz : Nat), Met l y (.code y bytes mL none :: lw_tb) (wRm f lo) (wPj kA vA A sz As) wQjv 0 0 wFl) (hY : wYc y bytes mL none np) (hV : Cond.static y ∈ lw_tb) (hlink : Cond.methodLink own idx y ∈ lw_tb) (hlen : As.length = np) (hR : f + 1 ≤ R.frames ∧ 8 + (mL + 11) + lo ≤ R.locals) (hcs : cells ≤ R.cells ∧ slots ≤ R.slots) (hst : st0 = As.reverse ++ rest) (hw : (rest.map fun v => v.category).sum ≤ 8) (hdg : decode cc pc = .ok (.invokestatic idx, 3))
    (kk : ∀ (H1 : Heap) (locs1 : List Loc), va_S A0 s.heap H1 locs1 → W p l e R s m args below meth c H1 locs1 cells slots Q (F0 m (pc + 3) ls rest)) : W p l e R s m args below meth c H locs cells slots Q (F0 m pc ls st0) := by
  have hts := hC.2.2.2.2
  refine va_callv (va_runS hC (hM A H.size) ⟨callB_of np hts (lw_good hY.1) rfl rfl rfl (hts _ hY.2.1) (hts _ hlink) ⟨hY.2.2.1, hY.2.2.2.1, hY.2.2.2.2⟩ hR, hts _ hV⟩ ⟨wPj_blind, fun U hU hW => ⟨rfl, by rw [hU], hE.pass hSA (fun _ h => h) hU hW⟩⟩ rfl hlen hls hst (by show 2 * 0 + _ ≤ 8; omega) hdg hcs) hS (fun q _ h => h.elim) (fun q h => h.elim) (fun u t H1 locs1 ht hvm hw hB hz1 hk1 hS => ?_)
  exact kk H1 locs1 hS
theorem wj_ret {ty : FieldType} (hC : CallFix p m c cc nL s args lw_tb own) (hS : va_S wFl s.heap H locs) (hr : meth.sig.returnType = some ty) (hn : narrow ty (.int v) = .int v) (hlk : meth.locks = false) (hdg : decode cc pc = .ok (.ireturn, 1)) : W p l e R s m args below meth c H locs 0 0 (MQ below (wQj v) args s 0 0 wFl) (F0 m pc ls [.int v]) :=
  W.zret hC.1 hC.2.1 hr hn (fun t ht hW => ⟨⟨v, (), rfl, rfl, trivial⟩, hS.F ht⟩) hS.2.2 hdg (hlocks := hlk)
end WJ
set_option maxRecDepth 100000 in
theorem cJ_coder {l : Launch} {kA vA : Nat} (A : Nat → Prop) (sz : Nat) : Met l yJ0_coder_7d493 (.code yJ0_coder_7d493 cJ0_coder_7d493 1 (some .byte) :: lw_tb) (wRm 0 0) (wPj kA vA A sz [.ref kA]) (wQj 0) 0 0 wFl := by
  refine wj_enter rfl (Nat.le_of_ble_eq_true rfl) (fun p e s m args below meth c ls hC hr hlk hE hl => ?_)
  have hl : lv_has ls 1 [(0, .ref kA)] := hl
  have hx := hC.1
  have hb := hC.2.1
  have hts := hC.2.2.2.2
  have hS : va_S wFl s.heap s.heap [] := va_S.rf
  refine va_gets hx hb hE.2.2.2.1 (wS_fl hS) hC.2.2.2.1 (hts _ l_J0_38) (fun _ h => h) dJ0_coder_7d493_0 ?_
  refine lv_if_eq hx hb dJ0_coder_7d493_3 (tgt := 13) rfl (fun h => absurd h (by decide)) (fun h => ?_)
  refine lv_aload_n hx hb dJ0_coder_7d493_6 rfl (lv_at hl 0 rfl) ?_
  refine vk_getf hx hb hE.2.2.1.2.1 (wS_fl hS) hC.2.2.2.1 (hts _ l_J0_15) (fun _ h => h) dJ0_coder_7d493_7 ?_
  refine lv_goto hx hb dJ0_coder_7d493_10 (tgt := 14) rfl ?_
  exact wj_ret hC hS hr (by decide) hlk dJ0_coder_7d493_14
set_option maxRecDepth 100000 in
theorem cJ_isLatin1 {l : Launch} {kA vA : Nat} (A : Nat → Prop) (sz : Nat) : Met l yJ0_isLatin1_aae02 (.code yJ0_isLatin1_aae02 cJ0_isLatin1_aae02 1 (some .boolean) :: lw_tb) (wRm 0 0) (wPj kA vA A sz [.ref kA]) (wQj 1) 0 0 wFl := by
  refine wj_enter rfl (Nat.le_of_ble_eq_true rfl) (fun p e s m args below meth c ls hC hr hlk hE hl => ?_)
  have hl : lv_has ls 1 [(0, .ref kA)] := hl
  have hx := hC.1
  have hb := hC.2.1
  have hts := hC.2.2.2.2
  have hS : va_S wFl s.heap s.heap [] := va_S.rf
  refine va_gets hx hb hE.2.2.2.1 (wS_fl hS) hC.2.2.2.1 (hts _ l_J0_38) (fun _ h => h) dJ0_isLatin1_aae02_0 ?_
  refine lv_if_eq hx hb dJ0_isLatin1_aae02_3 (tgt := 17) rfl (fun h => absurd h (by decide)) (fun h => ?_)
  refine lv_aload_n hx hb dJ0_isLatin1_aae02_6 rfl (lv_at hl 0 rfl) ?_
  refine vk_getf hx hb hE.2.2.1.2.1 (wS_fl hS) hC.2.2.2.1 (hts _ l_J0_15) (fun _ h => h) dJ0_isLatin1_aae02_7 ?_
  refine lv_if_ne hx hb dJ0_isLatin1_aae02_10 (tgt := 17) rfl (fun h => absurd rfl h) (fun h => ?_)
  refine lv_iconst hx hb dJ0_isLatin1_aae02_13 k_iconst_1 ?_
  refine lv_goto hx hb dJ0_isLatin1_aae02_14 (tgt := 18) rfl ?_
  exact wj_ret hC hS hr (by decide) hlk dJ0_isLatin1_aae02_18
set_option maxRecDepth 100000 in
theorem cJ_length {l : Launch} {kA vA : Nat} (A : Nat → Prop) (sz : Nat) : Met l yJ0_length_8abf5 (.code yJ0_length_8abf5 cJ0_length_8abf5 1 (some .int) :: lw_tb) (wRm 1 20) (wPj kA vA A sz [.ref kA]) (wQj 105) 0 0 wFl := by
  refine wj_enter rfl (Nat.le_of_ble_eq_true rfl) (fun p e s m args below meth c ls hC hr hlk hE hl => ?_)
  have hl : lv_has ls 1 [(0, .ref kA)] := hl
  have hx := hC.1
  have hb := hC.2.1
  have hts := hC.2.2.2.2
  have hS : va_S wFl s.heap s.heap [] := va_S.rf
  refine lv_aload_n hx hb dJ0_length_8abf5_0 rfl (lv_at hl 0 rfl) ?_
  refine vk_getf hx hb hE.2.2.1.2.2.1 (wS_fl hS) hC.2.2.2.1 (hts _ l_J0_9) (fun _ h => h) dJ0_length_8abf5_1 ?_
  refine va_tlen (v := 105) hx hb hE.2.2.1.2.2.2 (wS_fl hS) rfl dJ0_length_8abf5_4 ?_
  refine lv_aload_n hx hb dJ0_length_8abf5_5 rfl (lv_at hl 0 rfl) ?_
  refine wj_v hC hE (wS_fl hS) hS hl.1 (fun A sz => cJ_coder A sz) y_J0_coder_7d493 vj_J0_coder_7d493 rfl m_J0_335 rfl ⟨Nat.le_of_ble_eq_true rfl, Nat.le_of_ble_eq_true rfl⟩ ⟨Nat.le_refl _, Nat.le_refl _⟩ rfl (Nat.le_of_ble_eq_true rfl) dJ0_length_8abf5_6 (fun H locs _ _ hS => ?_)
  refine lv_ishr hx hb dJ0_length_8abf5_9 ?_
  rw [show (105 : Int32) >>> ((0 : Int32) &&& 31) = 105 by decide]
  exact wj_ret hC hS hr rfl hlk dJ0_length_8abf5_10
set_option maxRecDepth 100000 in
theorem cJ_pre {l : Launch} {kA vA : Nat} (i n : Int32) (w : Value) (hw : w = .null ∨ ∃ q, w = .ref q) (h0 : ¬ i < 0) (h1 : i < n) (A : Nat → Prop) (sz : Nat) : Met l yJ3_checkIndex_8e157 (.code yJ3_checkIndex_8e157 cJ3_checkIndex_8e157 3 (some .int) :: lw_tb) (wRm 0 0) (wPj kA vA A sz [.int i, .int n, w]) (wQj i) 0 0 wFl := by
  refine wj_enter rfl (by rcases hw with rfl | ⟨q, rfl⟩ <;> exact Nat.le_of_ble_eq_true rfl) (fun p e s m args below meth c ls hC hr hlk hE hl => ?_)
  have hl : lv_has ls 3 [(0, .int i), (1, .int n)] := by
    rcases hw with rfl | ⟨q, rfl⟩
    · exact lv_sub (l := [(0, .int i), (1, .int n), (2, .null)]) hl [0, 1] rfl
    · exact lv_sub (l := [(0, .int i), (1, .int n), (2, .ref q)]) hl [0, 1] rfl
  have hx := hC.1
  have hb := hC.2.1
  have hS : va_S wFl s.heap s.heap [] := va_S.rf
  refine lv_iload_n hx hb dJ3_checkIndex_8e157_0 rfl (lv_at hl 0 rfl) ?_
  refine lv_if_lt hx hb dJ3_checkIndex_8e157_1 (tgt := 9) rfl (fun h => absurd h h0) (fun h => ?_)
  refine lv_iload_n hx hb dJ3_checkIndex_8e157_4 rfl (lv_at hl 0 rfl) ?_
  refine lv_iload_n hx hb dJ3_checkIndex_8e157_5 rfl (lv_at hl 1 rfl) ?_
  refine lv_icmp_lt hx hb dJ3_checkIndex_8e157_6 (tgt := 16) rfl (fun h => ?_) (fun h => absurd h1 h)
  refine lv_iload_n hx hb dJ3_checkIndex_8e157_16 rfl (lv_at hl 0 rfl) ?_
  exact wj_ret hC hS hr rfl hlk dJ3_checkIndex_8e157_17
set_option maxRecDepth 100000 in
theorem cJ_check {l : Launch} {kA vA : Nat} (i n : Int32) (h0 : ¬ i < 0) (h1 : i < n) (A : Nat → Prop) (sz : Nat) : Met l yJ0_checkIndex_df160 (.code yJ0_checkIndex_df160 cJ0_checkIndex_df160 2 none :: lw_tb) (wRm 1 22) (wPj kA vA A sz [.int i, .int n]) wQjv 0 0 wFl := by
  refine wj_enter rfl (Nat.le_of_ble_eq_true rfl) (fun p e s m args below meth c ls hC hr hlk hE hl => ?_)
  have hl : lv_has ls 2 [(0, .int i), (1, .int n)] := hl
  have hx := hC.1
  have hb := hC.2.1
  have hts := hC.2.2.2.2
  have hS : va_S wFl s.heap s.heap [] := va_S.rf
  refine lv_iload_n hx hb dJ0_checkIndex_df160_0 rfl (lv_at hl 0 rfl) ?_
  refine lv_iload_n hx hb dJ0_checkIndex_df160_1 rfl (lv_at hl 1 rfl) ?_
  have key : ∀ w : Value, w = .null ∨ (∃ q, w = .ref q) → W p l e (wRm 1 22) s m args below meth c s.heap [] 0 0 (MQ below wQjv args s 0 0 wFl) (F0 m 5 ls [w, .int n, .int i]) := by
    intro w hw
    refine wj_s hC hE (wS_fl hS) hS hl.1 (fun A sz => cJ_pre i n w hw h0 h1 A sz) y_J3_checkIndex_8e157 v_J3_checkIndex_8e157 m_J0_1059 rfl ⟨Nat.le_of_ble_eq_true rfl, Nat.le_of_ble_eq_true rfl⟩ ⟨Nat.le_refl _, Nat.le_refl _⟩ rfl (Nat.le_of_ble_eq_true rfl) dJ0_checkIndex_df160_5 (fun H locs hS => ?_)
    refine lv_pop hx hb dJ0_checkIndex_df160_8 rfl ?_
    exact W.vret hx hb hr (fun t ht hW => ⟨⟨(), rfl, trivial, trivial⟩, hS.F ht⟩) hS.2.2 dJ0_checkIndex_df160_9 (hlocks := hlk)
  rcases hE.2.2.2.2 with h | ⟨q, h⟩
  · refine va_gets hx hb h (wS_fl hS) hC.2.2.2.1 (hts _ l_J0_1053) (fun _ h => h) dJ0_checkIndex_df160_2 ?_
    exact key _ (Or.inl rfl)
  · refine va_gets hx hb h (wS_fl hS) hC.2.2.2.1 (hts _ l_J0_1053) (fun _ h => h) dJ0_checkIndex_df160_2 ?_
    exact key _ (Or.inr ⟨q, rfl⟩)
/-- the char at a place -/
def w_ch (j : Nat) : Int32 := ((wS0.getD j 0 &&& (255 : Int32)).toUInt32 % 65536).toInt32
theorem w_ch_ok : ∀ j, j < 105 → narrow .char (.int (w_ch j)) = .int (w_ch j) := by decide +kernel
set_option maxRecDepth 100000 in
theorem cJ_latin {l : Launch} {kA vA : Nat} (i : Int32) (h0 : ¬ i < 0) (h1 : i.toNatClampNeg < 105) (h2 : i < 105) (A : Nat → Prop) (sz : Nat) : Met l yJ1_charAt_3b067 (.code yJ1_charAt_3b067 cJ1_charAt_3b067 2 (some .char) :: lw_tb) (wRm 2 43) (wPj kA vA A sz [.ref vA, .int i]) (wQj (w_ch i.toNatClampNeg)) 0 0 wFl := by
  refine wj_enter rfl (Nat.le_of_ble_eq_true rfl) (fun p e s m args below meth c ls hC hr hlk hE hl => ?_)
  have hl : lv_has ls 2 [(0, .ref vA), (1, .int i)] := hl
  have hx := hC.1
  have hb := hC.2.1
  have hts := hC.2.2.2.2
  have hS : va_S wFl s.heap s.heap [] := va_S.rf
  refine lv_iload_n hx hb dJ1_charAt_3b067_0 rfl (lv_at hl 1 rfl) ?_
  refine lv_aload_n hx hb dJ1_charAt_3b067_1 rfl (lv_at hl 0 rfl) ?_
  refine va_tlen (v := 105) hx hb hE.2.2.1.2.2.2 (wS_fl hS) rfl dJ1_charAt_3b067_2 ?_
  refine wj_sv hC hE (wS_fl hS) hS hl.1 (fun A sz => cJ_check i 105 h0 h2 A sz) y_J0_checkIndex_df160 v_J0_checkIndex_df160 m_J1_9 rfl ⟨Nat.le_of_ble_eq_true rfl, Nat.le_of_ble_eq_true rfl⟩ ⟨Nat.le_refl _, Nat.le_refl _⟩ rfl (Nat.le_of_ble_eq_true rfl) dJ1_charAt_3b067_3 (fun H locs hS => ?_)
  refine lv_aload_n hx hb dJ1_charAt_3b067_6 rfl (lv_at hl 0 rfl) ?_
  refine lv_iload_n hx hb dJ1_charAt_3b067_7 rfl (lv_at hl 1 rfl) ?_
  refine va_tb hx hb hE.2.2.1.2.2.2 (wS_fl hS) (fun q => q.elim h0 (fun q => by omega)) rfl dJ1_charAt_3b067_8 ?_
  refine lv_sipush hx hb dJ1_charAt_3b067_9 k_sipush_255 ?_
  refine lv_iand hx hb dJ1_charAt_3b067_12 ?_
  refine lv_i2c (v := w_ch i.toNatClampNeg) hx hb dJ1_charAt_3b067_13 rfl ?_
  exact wj_ret hC hS hr (w_ch_ok _ h1) hlk dJ1_charAt_3b067_14
set_option maxRecDepth 100000 in
theorem cJ_charAt {l : Launch} {kA vA : Nat} (i : Int32) (h0 : ¬ i < 0) (h1 : i.toNatClampNeg < 105) (h2 : i < 105) (A : Nat → Prop) (sz : Nat) : Met l yJ0_charAt_5068e (.code yJ0_charAt_5068e cJ0_charAt_5068e 2 (some .char) :: lw_tb) (wRm 3 64) (wPj kA vA A sz [.ref kA, .int i]) (wQj (w_ch i.toNatClampNeg)) 0 0 wFl := by
  refine wj_enter rfl (Nat.le_of_ble_eq_true rfl) (fun p e s m args below meth c ls hC hr hlk hE hl => ?_)
  have hl : lv_has ls 2 [(0, .ref kA), (1, .int i)] := hl
  have hx := hC.1
  have hb := hC.2.1
  have hts := hC.2.2.2.2
  have hS : va_S wFl s.heap s.heap [] := va_S.rf
  refine lv_aload_n hx hb dJ0_charAt_5068e_0 rfl (lv_at hl 0 rfl) ?_
  refine wj_v hC hE (wS_fl hS) hS hl.1 (fun A sz => cJ_isLatin1 A sz) y_J0_isLatin1_aae02 vj_J0_isLatin1_aae02 rfl m_J0_492 rfl ⟨Nat.le_of_ble_eq_true rfl, Nat.le_of_ble_eq_true rfl⟩ ⟨Nat.le_refl _, Nat.le_refl _⟩ rfl (Nat.le_of_ble_eq_true rfl) dJ0_charAt_5068e_1 (fun H locs _ _ hS => ?_)
  refine lv_if_eq hx hb dJ0_charAt_5068e_4 (tgt := 16) rfl (fun h => absurd h (by decide)) (fun h => ?_)
  refine lv_aload_n hx hb dJ0_charAt_5068e_7 rfl (lv_at hl 0 rfl) ?_
  refine vk_getf hx hb hE.2.2.1.2.2.1 (wS_fl hS) hC.2.2.2.1 (hts _ l_J0_9) (fun _ h => h) dJ0_charAt_5068e_8 ?_
  refine lv_iload_n hx hb dJ0_charAt_5068e_11 rfl (lv_at hl 1 rfl) ?_
  refine wj_s hC hE (wS_fl hS) hS hl.1 (fun A sz => cJ_latin i h0 h1 h2 A sz) y_J1_charAt_3b067 v_J1_charAt_3b067 m_J0_495 rfl ⟨Nat.le_of_ble_eq_true rfl, Nat.le_of_ble_eq_true rfl⟩ ⟨Nat.le_refl _, Nat.le_refl _⟩ rfl (Nat.le_of_ble_eq_true rfl) dJ0_charAt_5068e_12 (fun H locs hS => ?_)
  exact wj_ret hC hS hr (w_ch_ok _ h1) hlk dJ0_charAt_5068e_15

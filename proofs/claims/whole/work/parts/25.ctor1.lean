theorem i_obj1 : Cond.instanceMethod objectInit ∈ lw_tb := lw_in (tb_1 _ (List.mem_of_getElem? (i := 29) rfl)) rfl
theorem i_obj2 : Cond.code objectInit ⟨#[0xb1]⟩ 1 none ∈ lw_tb := lw_at 164 (by decide +kernel) (by decide +kernel)
theorem m_X8_3 : Cond.methodLink RX8 3 objectInit ∈ lw_tb := lw_in (tb_1 _ (List.mem_of_getElem? (i := 28) rfl)) rfl
theorem m_X6_3 : Cond.methodLink RX6 3 objectInit ∈ lw_tb := lw_in (tb_1 _ (List.mem_of_getElem? (i := 36) rfl)) rfl
theorem m_X1_3 : Cond.methodLink RX1 3 objectInit ∈ lw_tb := lw_in (tb_1 _ (List.mem_of_getElem? (i := 42) rfl)) rfl
theorem m_X2_3 : Cond.methodLink RX2 3 objectInit ∈ lw_tb := lw_in (tb_1 _ (List.mem_of_getElem? (i := 164) rfl)) rfl
theorem m_X5_3 : Cond.methodLink RX5 3 objectInit ∈ lw_tb := lw_in (tb_1 _ (List.mem_of_getElem? (i := 170) rfl)) rfl
theorem m_X3_3 : Cond.methodLink RX3 3 objectInit ∈ lw_tb := lw_in (tb_2 _ (List.mem_of_getElem? (i := 58) rfl)) rfl
theorem m_X0_3 : Cond.methodLink RX0 3 objectInit ∈ lw_tb := lw_in (tb_2 _ (List.mem_of_getElem? (i := 116) rfl)) rfl
theorem m_X7_3 : Cond.methodLink RX7 3 objectInit ∈ lw_tb := lw_in (tb_2 _ (List.mem_of_getElem? (i := 161) rfl)) rfl
theorem m_X4_3 : Cond.methodLink RX4 3 objectInit ∈ lw_tb := lw_in (tb_2 _ (List.mem_of_getElem? (i := 181) rfl)) rfl
theorem m_X9_1 : Cond.methodLink RX9 1 objectInit ∈ lw_tb := lw_in (tb_6 _ (List.mem_of_getElem? (i := 30) rfl)) rfl
theorem n_L_8 : Cond.classLink RL 8 RX8 ∈ lw_tb := lw_in (tb_1 _ (List.mem_of_getElem? (i := 23) rfl)) rfl
theorem n_X8_19 : Cond.classLink RX8 19 RX6 ∈ lw_tb := lw_in (tb_1 _ (List.mem_of_getElem? (i := 31) rfl)) rfl
theorem n_X6_61 : Cond.classLink RX6 61 RX1 ∈ lw_tb := lw_in (tb_1 _ (List.mem_of_getElem? (i := 37) rfl)) rfl
theorem n_X8_29 : Cond.classLink RX8 29 RX2 ∈ lw_tb := lw_in (tb_1 _ (List.mem_of_getElem? (i := 159) rfl)) rfl
theorem n_X2_37 : Cond.classLink RX2 37 RX5 ∈ lw_tb := lw_in (tb_1 _ (List.mem_of_getElem? (i := 165) rfl)) rfl
theorem n_X8_38 : Cond.classLink RX8 38 RX3 ∈ lw_tb := lw_in (tb_2 _ (List.mem_of_getElem? (i := 53) rfl)) rfl
theorem n_X8_55 : Cond.classLink RX8 55 RX0 ∈ lw_tb := lw_in (tb_2 _ (List.mem_of_getElem? (i := 111) rfl)) rfl
theorem n_X8_64 : Cond.classLink RX8 64 RX7 ∈ lw_tb := lw_in (tb_2 _ (List.mem_of_getElem? (i := 156) rfl)) rfl
theorem n_X8_71 : Cond.classLink RX8 71 RX4 ∈ lw_tb := lw_in (tb_2 _ (List.mem_of_getElem? (i := 176) rfl)) rfl
theorem n_L_18 : Cond.classLink RL 18 RX9 ∈ lw_tb := lw_in (tb_6 _ (List.mem_of_getElem? (i := 25) rfl)) rfl
theorem z_X0 : Cond.instantiable RX0 10 ∈ lw_tb := lw_in (tb_2 _ (List.mem_of_getElem? (i := 112) rfl)) rfl
theorem zi_X0 : Cond.initialized RX0 ∈ lw_tb := lw_in (tb_1 _ (List.mem_of_getElem? (i := 11) rfl)) rfl
theorem zd_X0 : ∀ k, k < 10 → defaultValue (tyX0 k) = w_dv (w_ft 0 k) := by decide
theorem zn_X0 : yX0_init.name = "<init>" ∧ Cond.instanceMethod yX0_init ∈ lw_tb := ⟨rfl, lw_in (tb_2 _ (List.mem_of_getElem? (i := 114) rfl)) rfl⟩
theorem z_X1 : Cond.instantiable RX1 7 ∈ lw_tb := lw_in (tb_1 _ (List.mem_of_getElem? (i := 38) rfl)) rfl
theorem zi_X1 : Cond.initialized RX1 ∈ lw_tb := lw_in (tb_1 _ (List.mem_of_getElem? (i := 3) rfl)) rfl
theorem zd_X1 : ∀ k, k < 7 → defaultValue (tyX1 k) = w_dv (w_ft 1 k) := by decide
theorem zn_X1 : yX1_init.name = "<init>" ∧ Cond.instanceMethod yX1_init ∈ lw_tb := ⟨rfl, lw_in (tb_1 _ (List.mem_of_getElem? (i := 40) rfl)) rfl⟩
theorem z_X2 : Cond.instantiable RX2 10 ∈ lw_tb := lw_in (tb_1 _ (List.mem_of_getElem? (i := 160) rfl)) rfl
theorem zi_X2 : Cond.initialized RX2 ∈ lw_tb := lw_in (tb_1 _ (List.mem_of_getElem? (i := 4) rfl)) rfl
theorem zd_X2 : ∀ k, k < 10 → defaultValue (tyX2 k) = w_dv (w_ft 2 k) := by decide
theorem zn_X2 : yX2_init.name = "<init>" ∧ Cond.instanceMethod yX2_init ∈ lw_tb := ⟨rfl, lw_in (tb_1 _ (List.mem_of_getElem? (i := 162) rfl)) rfl⟩
theorem z_X3 : Cond.instantiable RX3 10 ∈ lw_tb := lw_in (tb_2 _ (List.mem_of_getElem? (i := 54) rfl)) rfl
theorem zi_X3 : Cond.initialized RX3 ∈ lw_tb := lw_in (tb_1 _ (List.mem_of_getElem? (i := 10) rfl)) rfl
theorem zd_X3 : ∀ k, k < 10 → defaultValue (tyX3 k) = w_dv (w_ft 3 k) := by decide
theorem zn_X3 : yX3_init.name = "<init>" ∧ Cond.instanceMethod yX3_init ∈ lw_tb := ⟨rfl, lw_in (tb_2 _ (List.mem_of_getElem? (i := 56) rfl)) rfl⟩
theorem z_X4 : Cond.instantiable RX4 8 ∈ lw_tb := lw_in (tb_2 _ (List.mem_of_getElem? (i := 177) rfl)) rfl
theorem zi_X4 : Cond.initialized RX4 ∈ lw_tb := lw_in (tb_1 _ (List.mem_of_getElem? (i := 13) rfl)) rfl
theorem zd_X4 : ∀ k, k < 8 → defaultValue (tyX4 k) = w_dv (w_ft 4 k) := by decide
theorem zn_X4 : yX4_init.name = "<init>" ∧ Cond.instanceMethod yX4_init ∈ lw_tb := ⟨rfl, lw_in (tb_2 _ (List.mem_of_getElem? (i := 179) rfl)) rfl⟩
theorem z_X5 : Cond.instantiable RX5 12 ∈ lw_tb := lw_in (tb_1 _ (List.mem_of_getElem? (i := 166) rfl)) rfl
theorem zi_X5 : Cond.initialized RX5 ∈ lw_tb := lw_in (tb_1 _ (List.mem_of_getElem? (i := 5) rfl)) rfl
theorem zd_X5 : ∀ k, k < 12 → defaultValue (tyX5 k) = w_dv (w_ft 5 k) := by decide
theorem zn_X5 : yX5_init.name = "<init>" ∧ Cond.instanceMethod yX5_init ∈ lw_tb := ⟨rfl, lw_in (tb_1 _ (List.mem_of_getElem? (i := 168) rfl)) rfl⟩
theorem z_X6 : Cond.instantiable RX6 17 ∈ lw_tb := lw_in (tb_1 _ (List.mem_of_getElem? (i := 32) rfl)) rfl
theorem zi_X6 : Cond.initialized RX6 ∈ lw_tb := lw_in (tb_1 _ (List.mem_of_getElem? (i := 2) rfl)) rfl
theorem zd_X6 : ∀ k, k < 17 → defaultValue (tyX6 k) = w_dv (w_ft 6 k) := by decide
theorem zn_X6 : yX6_init.name = "<init>" ∧ Cond.instanceMethod yX6_init ∈ lw_tb := ⟨rfl, lw_in (tb_1 _ (List.mem_of_getElem? (i := 34) rfl)) rfl⟩
theorem z_X7 : Cond.instantiable RX7 4 ∈ lw_tb := lw_in (tb_2 _ (List.mem_of_getElem? (i := 157) rfl)) rfl
theorem zi_X7 : Cond.initialized RX7 ∈ lw_tb := lw_in (tb_1 _ (List.mem_of_getElem? (i := 12) rfl)) rfl
theorem zd_X7 : ∀ k, k < 4 → defaultValue (tyX7 k) = w_dv (w_ft 7 k) := by decide
theorem zn_X7 : yX7_init.name = "<init>" ∧ Cond.instanceMethod yX7_init ∈ lw_tb := ⟨rfl, lw_in (tb_2 _ (List.mem_of_getElem? (i := 159) rfl)) rfl⟩
theorem z_X8 : Cond.instantiable RX8 14 ∈ lw_tb := lw_in (tb_1 _ (List.mem_of_getElem? (i := 24) rfl)) rfl
theorem zi_X8 : Cond.initialized RX8 ∈ lw_tb := lw_in (tb_1 _ (List.mem_of_getElem? (i := 1) rfl)) rfl
theorem zd_X8 : ∀ k, k < 14 → defaultValue (tyX8 k) = w_dv (w_ft 8 k) := by decide
theorem zn_X8 : yX8_init.name = "<init>" ∧ Cond.instanceMethod yX8_init ∈ lw_tb := ⟨rfl, lw_in (tb_1 _ (List.mem_of_getElem? (i := 26) rfl)) rfl⟩
theorem z_X9 : Cond.instantiable RX9 80 ∈ lw_tb := lw_in (tb_6 _ (List.mem_of_getElem? (i := 26) rfl)) rfl
theorem zi_X9 : Cond.initialized RX9 ∈ lw_tb := lw_in (tb_1 _ (List.mem_of_getElem? (i := 14) rfl)) rfl
theorem zd_X9 : ∀ k, k < 80 → defaultValue (tyX9 k) = w_dv (w_ft 9 k) := by decide
theorem zn_X9 : yX9_init.name = "<init>" ∧ Cond.instanceMethod yX9_init ∈ lw_tb := ⟨rfl, lw_in (tb_6 _ (List.mem_of_getElem? (i := 28) rfl)) rfl⟩
theorem za_int : Cond.arrayClass (newarray.typeOf .int) ∈ lw_tb := lw_at 201 (by decide +kernel) (by decide +kernel)
theorem za_byte : Cond.arrayClass (newarray.typeOf .byte) ∈ lw_tb := lw_at 200 (by decide +kernel) (by decide +kernel)
theorem za_boolean : Cond.arrayClass (newarray.typeOf .boolean) ∈ lw_tb := lw_at 202 (by decide +kernel) (by decide +kernel)
theorem za_long : Cond.arrayClass (newarray.typeOf .long) ∈ lw_tb := lw_at 203 (by decide +kernel) (by decide +kernel)
/-- what constructors need beside the world: links of nest mates, the words' text -/
def wS0 : List Int32 := [103, 117, 101, 115, 116, 32, 102, 114, 117, 105, 116, 32, 98, 105, 116, 101, 32, 110, 101, 97, 114, 32, 99, 111, 108, 100, 32, 115, 101, 101, 100, 32, 108, 97, 119, 32, 112, 114, 97, 105, 115, 101, 32, 100, 97, 114, 101, 32, 115, 104, 111, 99, 107, 32, 111, 114, 32, 97, 110, 100, 32, 110, 111, 116, 32, 109, 97, 110, 110, 101, 114, 32, 104, 117, 110, 103, 101, 114, 32, 119, 105, 116, 32, 115, 119, 101, 101, 116, 32, 109, 97, 114, 107, 115, 32, 116, 104, 101, 114, 101, 32, 115, 116, 101, 112]
def wSt0 : String := "guest fruit bite near cold seed law praise dare shock or and not manner hunger wit sweet marks there step"
def wNest : List Cond := [.methodLinkNest RX8 21 yX6_init "WaxBowl", .methodLinkNest RX6 63 yX1_init "WaxBowl", .methodLinkNest RX8 40 yX3_init "WaxBowl", .methodLinkNest RX8 66 yX7_init "WaxBowl", .methodLinkNest RX8 73 yX4_init "WaxBowl"]
def wEX (kA vA : Nat) (A : Nat → Prop) (U : State) (H : Heap) : Prop :=
  (∀ w ∈ wNest, va_Nw w U) ∧ vk_R RX5 50 wSt0 kA U ∧ (va_O "java/lang/String" kA A U H ∧ va_OF "java/lang/String" "coder" "B" (.int 0) kA A U H ∧ va_OF "java/lang/String" "value" "[B" (.ref vA) kA A U H ∧ va_T .byte vA 105 (fun j => .int (wS0.getD j 0)) A U H) ∧
  va_Z "java/lang/String" "COMPACT_STRINGS" "Z" (.int 1) A U H ∧ va_Zq "jdk/internal/util/Preconditions" "SIOOBE_FORMATTER" "Ljava/util/function/BiFunction;" A U H
theorem wNest_warm {s U : State} (hW : s.WarmedH U.vm) (h : ∀ w ∈ wNest, va_Nw w s) : ∀ w ∈ wNest, va_Nw w U := by
  intro w hw
  have h1 := h w hw
  simp only [wNest, List.mem_cons, List.not_mem_nil, or_false] at hw
  rcases hw with rfl | rfl | rfl | rfl | rfl <;> exact va_Nw.warmM hW h1
theorem wEX.pass {kA vA : Nat} {A A' : Nat → Prop} {s U : State} {H : Heap} {locs : List Loc} (h : wEX kA vA A s s.heap) (hS : va_S A s.heap H locs) (hAA : ∀ q, A' q → A q) (hU : U.heap = H) (hW : s.WarmedH U.vm) : wEX kA vA A' U U.heap := by
  obtain ⟨h1, h2, ⟨h3, h4, h5, h6⟩, h7, h8⟩ := h
  rw [hU]
  refine ⟨wNest_warm hW h1, vk_R.warm hW h2, ⟨?_, ?_, ?_, ?_⟩, ?_, ?_⟩
  · exact ((va_O.moved hW.alike h3).kept hS.2.1).narrow hAA
  · exact ((va_OF.moved hW.alike h4).kept hS.2.1).narrow hAA
  · exact ((va_OF.moved hW.alike h5).kept hS.2.1).narrow hAA
  · exact ((va_T.moved hW.alike h6).kept hS.2.1).narrow hAA
  · exact ((va_Z.moved hW.alike h7).kept hS.2.1).narrow hAA
  · rcases h8 with h8 | ⟨t, h8⟩
    · exact Or.inl (((va_Z.moved hW.alike h8).kept hS.2.1).narrow hAA)
    · exact Or.inr ⟨t, ((va_Z.moved hW.alike h8).kept hS.2.1).narrow hAA⟩
theorem wEX.blind {kA vA : Nat} {A : Nat → Prop} {U : State} {g : JFrame} {mk : MethodId} {a : Array Value} (h : wEX kA vA A U U.heap) : wEX kA vA A (U.calling g mk a) (U.calling g mk a).heap := by
  obtain ⟨h1, h2, ⟨h3, h4, h5, h6⟩, h7, h8⟩ := h
  have hv : U.vm.Alike (U.calling g mk a).vm := Vm.Alike.refl U.vm
  refine ⟨fun w hw => ?_, vk_R.same (u := U) rfl h2, ⟨va_O.moved hv h3, va_OF.moved hv h4, va_OF.moved hv h5, va_T.moved hv h6⟩, va_Z.moved hv h7, ?_⟩
  · have h9 := h1 w hw
    have hon : w.onTables = true := by
      simp only [wNest, List.mem_cons, List.not_mem_nil, or_false] at hw
      rcases hw with rfl | rfl | rfl | rfl | rfl <;> rfl
    exact va_Nw.same hon (u := U) rfl h9
  · rcases h8 with h8 | ⟨t, h8⟩
    · exact Or.inl (va_Z.moved hv h8)
    · exact Or.inr ⟨t, va_Z.moved hv h8⟩
def wAr (ρ : Nat → Nat) (lo n sz : Nat) : Nat → Prop := fun q => (∃ j, j < n ∧ q = ρ (lo + j)) ∨ sz ≤ q
def wRk (f mc ms lo : Nat) : Room := { frames := f, cells := mc, slots := ms, locals := lo }
def wPr (D : va_G) (κ : Nat → ClassId) (ρ : Nat → Nat) (lo n kA vA : Nat) (avs : List Value) (σ : wSt) (sz : Nat) : Array Value → State → Prop := va_Pc avs (fun U => U.heap.size = sz ∧ va_P D vwCl (w_wr κ ρ lo n σ) U.heap ∧ va_K D vwCl (w_ty κ) U ∧ va_D (fun _ => True) (w_wr κ ρ lo n σ) ∧ wEX kA vA (wAr ρ lo n sz) U U.heap)
def wQk (D : va_G) (κ : Nat → ClassId) (ρ : Nat → Nat) (lo n n1 : Nat) (A : Nat → Prop) (z : Unit × wSt) : Array Value → State → Outcome → State → Prop :=
  va_Qv (S := (Nat → Nat) × wSt) (fun u => ((), u.2) = z ∧ (∀ c, c < lo + n → u.1 c = ρ c) ∧ (lo = 0 → wZr (lo + n1) u.2 ∧ wPt (lo + n1) u.2)) (fun u t => va_P D vwCl (w_wr κ u.1 lo n1 u.2) t.heap ∧ va_D A (w_wr κ u.1 lo n1 u.2)) A
def wMK (l : Launch) (y : MethodName) (cc : ByteArray) (mL : Nat) (rm : Room) (mc ms lo n n1 : Nat) (avs : (Nat → Nat) → List Value) (F : wSt → Option (Unit × wSt)) : Prop :=
  ∀ (D : va_G) (κ : Nat → ClassId) (ρ : Nat → Nat) (kA vA : Nat) (σ : wSt) (z : Unit × wSt) (sz : Nat), wZr (lo + n) σ → wPt (lo + n) σ → F σ = some z → Met l y (.code y cc mL none :: lw_tb) rm (wPr D κ ρ lo n kA vA (avs ρ) σ sz) (wQk D κ ρ lo n n1 (wAr ρ lo n sz) z) mc ms (wAr ρ lo n sz)
theorem wAr_D {κ : Nat → ClassId} {ρ : Nat → Nat} {lo n sz : Nat} {A : Nat → Prop} {σ : wSt} (h : va_D A (w_wr κ ρ lo n σ)) : va_D (wAr ρ lo n sz) (w_wr κ ρ lo n σ) := by
  refine ⟨h.1, fun k q hk => ?_⟩
  by_cases hn : k < n
  · rw [w_wr_ix hn] at hk
    cases hk
    exact Or.inl ⟨k, hn, rfl⟩
  · rw [w_wr_none (Nat.le_of_not_lt hn)] at hk
    cases hk
theorem wAr_in {κ : Nat → ClassId} {ρ : Nat → Nat} {lo n : Nat} {A : Nat → Prop} {σ : wSt} {D : va_G} {H0 H : Heap} {locs : List Loc} (hH : wHr D κ ρ lo n A H0 H locs σ) : ∀ q, wAr ρ lo n H.size q → A q := by
  intro q hq
  rcases hq with ⟨j, hj, rfl⟩ | hq
  · exact hH.2.1.2 j _ (w_wr_ix hj)
  · exact hH.2.2.2 q (Nat.le_trans hH.2.2.1.1 hq)
def wQK (below : List Frame) (args : Array Value) (s : State) (A : Nat → Prop) (D : va_G) (κ : Nat → ClassId) (ρ : Nat → Nat) (lo n n1 mc ms : Nat) (z : Unit × wSt) : State → Prop := MQ below (wQk D κ ρ lo n n1 A z) args s mc ms A
theorem wMK_of {l : Launch} {y : MethodName} {cc : ByteArray} {mL f lc mc ms lo n n1 : Nat} {avs : (Nat → Nat) → List Value} {F : wSt → Option (Unit × wSt)} (hy : plainName y.cls = true) (hfit : ∀ ρ, (lg_sl (avs ρ)).length ≤ mL)
    (body : ∀ (D : va_G) (κ : Nat → ClassId) (ρ : Nat → Nat) (kA vA : Nat) (u0 : wSt) (z : Unit × wSt) (p : Program) (e : Env) (s : State) (m : MethodId) (args : Array Value) (below : List Frame) (meth : Method) (c : Code) (ls : Array Slot) (A : Nat → Prop), F u0 = some z → wZr (lo + n) u0 → wPt (lo + n) u0 → wCr p m c cc mL s args y.cls D κ → meth.sig.returnType = none → meth.locks = false → meth.name = y.name → wEX kA vA A s s.heap → wHr D κ ρ lo n A s.heap s.heap [] u0 → lv_has ls mL (lv_args 0 (avs ρ)) →
      W p l e (wRk f mc ms lc) s m args below meth c s.heap [] 0 0 (wQK below args s A D κ ρ lo n n1 mc ms z) (F0 m 0 ls [])) : wMK l y cc mL (wRk f mc ms lc) mc ms lo n n1 avs F := by
  intro D κ ρ kA vA σ z sz hz hpt hF
  refine Met.ofW (cc := cc) (maxL := mL) (ret := none) hy rfl ?_
  intro p e s m args below meth c s₁ B hml hv
  obtain ⟨rfl, hsz, hP, hK, hD, hE⟩ := hv
  subst hsz
  have hts := atoms_spec (ws := .code y cc mL none :: lw_tb) B.pre
  have hl := lv_entry (avs ρ) (n := mL) (hfit ρ)
  rw [lg_entry_eq]
  generalize (lg_sl (avs ρ) ++ List.replicate (mL - (lg_sl (avs ρ)).length) Slot.unset).toArray = ls at hl ⊢
  exact body D κ ρ kA vA σ z p e s m (avs ρ).toArray below meth c ls _ hF hz hpt ⟨⟨B.exec, B.bytes, hml, findClass_of_methodNamed B.named, fun w hw => hts w (List.mem_cons_of_mem _ hw)⟩, hK⟩ B.returns B.notSynchronized (name_of_methodNamed B.named B.method).1 hE ⟨hP, wAr_D hD, va_S.rf, fun q h => Or.inr h⟩ hl
theorem wPr_blind {D : va_G} {κ : Nat → ClassId} {ρ : Nat → Nat} {lo n kA vA : Nat} {avs : List Value} {σ : wSt} {sz : Nat} : FrameBlind (wPr D κ ρ lo n kA vA avs σ sz) := fun a U g mk q => by
  obtain ⟨q0, q1, qP, qK, qD, qE⟩ := q
  exact ⟨q0, q1, qP, va_K.moved (u := U) (U := U.calling g mk a) (Vm.Alike.refl U.vm) qK, qD, qE.blind⟩
section WK
variable {p : Program} {l : Launch} {e : Env} {R : Room} {s : State} {m : MethodId} {args : Array Value} {below : List Frame} {meth : Method} {c : Code} {H : Heap} {locs : List Loc} {cells slots : Nat} {Q : State → Prop}
variable {cc bytes : ByteArray} {pc nL mL f lc mc ms np idx : Nat} {ls : Array Slot} {rest st0 As : List Value} {D : va_G} {κ : Nat → ClassId} {ρ ρ0 : Nat → Nat} {lo n n1 n0 kA vA : Nat} {A : Nat → Prop} {c0 : Nat} {own : String} {σ : wSt} {β : Type} {z : β} {y : MethodName}
theorem wr_vret {z : Unit × wSt} (hC : wCr p m c cc nL s args own D κ) (hH : wHr D κ ρ lo n1 A s.heap H locs σ) (hρ : ∀ c, c < lo + n → ρ c = ρ0 c) (hzp : lo = 0 → wZr (lo + n1) σ ∧ wPt (lo + n1) σ) (hr : meth.sig.returnType = none) (hlk : meth.locks = false) (hdg : decode cc pc = .ok (.return_, 1)) (hF : some ((), σ) = some z) :
    W p l e R s m args below meth c H locs mc ms (wQK below args s A D κ ρ0 lo n n1 mc ms z) (F0 m pc ls []) :=
  W.vret hC.1.1 hC.1.2.1 hr (fun t ht hW => ⟨⟨(ρ, σ), rfl, ⟨Option.some.inj hF, hρ, hzp⟩, by show va_P D vwCl _ t.heap; rw [ht]; exact hH.1, hH.2.1⟩, hH.2.2.1.F ht⟩) hH.2.2.1.2.2 hdg (hlocks := hlk)
theorem wr_obj {q : Nat} (hC : wCr p m c cc nL s args own D κ) (hls : ls.size = nL) (hlink : Cond.methodLink own idx objectInit ∈ lw_tb) (hR : 1 ≤ R.frames ∧ (rest.map fun v => v.category).sum + 12 ≤ R.locals) (hdg : decode cc pc = .ok (.invokespecial idx, 3))
    (kk : W p l e R s m args below meth c H locs cells slots Q (F0 m (pc + 3) ls rest)) : W p l e R s m args below meth c H locs cells slots Q (F0 m pc ls (.ref q :: rest)) := by
  obtain ⟨⟨hx, hb, hml, hown, hts⟩, hK⟩ := hC
  exact W.objInit hx hb hown (hts _ hlink) (hts _ i_obj1) (hts _ i_obj2) rfl (hls.trans hml.symm) rfl hdg hR.1 (by show 2 * 0 + _ + 12 ≤ _; omega) kk
theorem wr_after {ρ' : Nat → Nat} {σ1 : wSt} {H1 : Heap} {locs1 : List Loc} {H0 : Heap} (hH : wHr D κ ρ lo n A H0 H locs σ) (hP : va_P D vwCl (w_wr κ ρ' lo n1 σ1) H1) (hD : va_D (wAr ρ lo n H.size) (w_wr κ ρ' lo n1 σ1)) (hS : va_S A H0 H1 locs1) : wHr D κ ρ' lo n1 A H0 H1 locs1 σ1 :=
  ⟨hP, hD.weaken (fun _ q _ h => wAr_in hH q.1 h), hS, hH.2.2.2⟩
theorem wr_ctor {F : wSt → Option (Unit × wSt)} {K : Unit → wSt → Option β} {avs : (Nat → Nat) → List Value} (hlo : lo = 0) (hC : wCr p m c cc nL s args own D κ) (hE : wEX kA vA A s s.heap) (hH : wHr D κ ρ lo n A s.heap H locs σ) (hz : wZr (lo + n) σ) (hpt : wPt (lo + n) σ) (hls : ls.size = nL) (hM : wMK l y bytes mL (wRk f mc ms lc) mc ms lo n n1 avs F) (hav : avs ρ = .ref (ρ c0) :: As) (hY : wYc y bytes mL none np) (hI : y.name = "<init>" ∧ Cond.instanceMethod y ∈ lw_tb) (hlink : Cond.methodLink own idx y ∈ lw_tb) (hlen : As.length = np) (hR : f + 1 ≤ R.frames ∧ 8 + (mL + 11) + lc ≤ R.locals) (hcs : cells + mc ≤ R.cells ∧ slots + ms ≤ R.slots) (hst : st0 = As.reverse ++ .ref (ρ c0) :: rest) (hw : (rest.map fun v => v.category).sum ≤ 8) (hdg : decode cc pc = .ok (.invokespecial idx, 3)) (hF : wC (F σ) K = some z)
    (kk : ∀ (ρ' : Nat → Nat) (σ1 : wSt) (H1 : Heap) (locs1 : List Loc), (∀ c, c < lo + n → ρ' c = ρ c) → wZr (lo + n1) σ1 → wPt (lo + n1) σ1 → K () σ1 = some z → wHr D κ ρ' lo n1 A s.heap H1 locs1 σ1 → W p l e R s m args below meth c H1 locs1 (cells + mc) (slots + ms) Q (F0 m (pc + 3) ls rest)) : W p l e R s m args below meth c H locs cells slots Q (F0 m pc ls st0) := by
  obtain ⟨r, σ1, h1, h2⟩ := wC_some hF
  have hts := hC.1.2.2.2.2
  have hM := hM D κ ρ kA vA σ _ H.size hz hpt h1
  rw [hav] at hM
  refine va_callv (va_runI hC.1 hM ⟨callB_of np hts (lw_good hY.1) rfl rfl rfl (hts _ hY.2.1) (hts _ hlink) ⟨hY.2.2.1, hY.2.2.2.1, hY.2.2.2.2⟩ hR, hI.1, hts _ hI.2⟩ ⟨wPr_blind, fun U hU hW => ⟨rfl, by rw [hU], by rw [hU]; exact hH.1, va_K.moved hW.alike hC.2, hH.2.1.weaken (fun _ _ _ _ => trivial), hE.pass hH.2.2.1 (wAr_in hH) hU hW⟩⟩ rfl hlen hls hst (by show 2 * 0 + _ ≤ 8; omega) hdg hcs) hH.2.2.1 (fun q _ h => wAr_in hH q h) (wAr_in hH) (fun u t H1 locs1 ht hvm hw hB hz1 hk1 hS => ?_)
  obtain ⟨ρ', σ2⟩ := u
  obtain ⟨he, hρ, hzp⟩ := hw
  obtain ⟨hz2, hp2⟩ := hzp hlo
  cases he
  obtain ⟨hP, hD⟩ := hB
  rw [ht] at hP
  exact kk ρ' _ H1 locs1 hρ hz2 hp2 h2 (wr_after hH hP hD hS)
theorem wr_ctorN {host : String} {F : wSt → Option (Unit × wSt)} {K : Unit → wSt → Option β} {avs : (Nat → Nat) → List Value} (hlo : lo = 0) (hC : wCr p m c cc nL s args own D κ) (hE : wEX kA vA A s s.heap) (hH : wHr D κ ρ lo n A s.heap H locs σ) (hz : wZr (lo + n) σ) (hpt : wPt (lo + n) σ) (hls : ls.size = nL) (hM : wMK l y bytes mL (wRk f mc ms lc) mc ms lo n n1 avs F) (hav : avs ρ = .ref (ρ c0) :: As) (hY : wYc y bytes mL none np) (hI : y.name = "<init>" ∧ Cond.instanceMethod y ∈ lw_tb) (hlink : Cond.methodLinkNest own idx y host ∈ wNest) (hlen : As.length = np) (hR : f + 1 ≤ R.frames ∧ 8 + (mL + 11) + lc ≤ R.locals) (hcs : cells + mc ≤ R.cells ∧ slots + ms ≤ R.slots) (hst : st0 = As.reverse ++ .ref (ρ c0) :: rest) (hw : (rest.map fun v => v.category).sum ≤ 8) (hdg : decode cc pc = .ok (.invokespecial idx, 3)) (hF : wC (F σ) K = some z)
    (kk : ∀ (ρ' : Nat → Nat) (σ1 : wSt) (H1 : Heap) (locs1 : List Loc), (∀ c, c < lo + n → ρ' c = ρ c) → wZr (lo + n1) σ1 → wPt (lo + n1) σ1 → K () σ1 = some z → wHr D κ ρ' lo n1 A s.heap H1 locs1 σ1 → W p l e R s m args below meth c H1 locs1 (cells + mc) (slots + ms) Q (F0 m (pc + 3) ls rest)) : W p l e R s m args below meth c H locs cells slots Q (F0 m pc ls st0) := by
  obtain ⟨r, σ1, h1, h2⟩ := wC_some hF
  have hts := hC.1.2.2.2.2
  have hM := hM D κ ρ kA vA σ _ H.size hz hpt h1
  rw [hav] at hM
  refine va_callv (va_runIN hC.1 hM ⟨va_cnB np hts (lw_good hY.1) rfl rfl rfl (hE.1 _ hlink) (hts _ hY.2.1) ⟨hY.2.2.1, hY.2.2.2.1, hY.2.2.2.2⟩ hR, hI.1, hts _ hI.2⟩ ⟨wPr_blind, fun U hU hW => ⟨rfl, by rw [hU], by rw [hU]; exact hH.1, va_K.moved hW.alike hC.2, hH.2.1.weaken (fun _ _ _ _ => trivial), hE.pass hH.2.2.1 (wAr_in hH) hU hW⟩⟩ rfl hlen hls hst (by show 2 * 0 + _ ≤ 8; omega) hdg hcs) hH.2.2.1 (fun q _ h => wAr_in hH q h) (wAr_in hH) (fun u t H1 locs1 ht hvm hw hB hz1 hk1 hS => ?_)
  obtain ⟨ρ', σ2⟩ := u
  obtain ⟨he, hρ, hzp⟩ := hw
  obtain ⟨hz2, hp2⟩ := hzp hlo
  cases he
  obtain ⟨hP, hD⟩ := hB
  rw [ht] at hP
  exact kk ρ' _ H1 locs1 hρ hz2 hp2 h2 (wr_after hH hP hD hS)
theorem wr_getR {ci k j : Nat} (hC : wCr p m c cc nL s args own D κ) (hH : wHr D κ ρ lo n A s.heap H locs σ) (hs : (w_sh c0).1 = ci) (hin : lo ≤ c0 ∧ c0 < lo + n) (hf : wFG own idx ci k 2) (hdg : decode cc pc = .ok (.getfield idx, 3)) (hg : σ.2.2 c0 k = j + 1)
    (kk : W p l e R s m args below meth c H locs cells slots Q (F0 m (pc + 3) ls (.ref (ρ j) :: rest))) : W p l e R s m args below meth c H locs cells slots Q (F0 m pc ls (.ref (ρ c0) :: rest)) := by
  refine wr_get hC hH hs hin hf hdg ?_
  have h4 : w_v ρ σ c0 k 2 = .ref (ρ j) := by show w_rv ρ (σ.2.2 c0 k) = _; rw [hg]; rfl
  rw [h4]
  exact kk
end WK
theorem q_X8_21 : Cond.methodLinkNest RX8 21 yX6_init "WaxBowl" ∈ wNest := List.mem_of_getElem? (i := 0) rfl
theorem q_X6_63 : Cond.methodLinkNest RX6 63 yX1_init "WaxBowl" ∈ wNest := List.mem_of_getElem? (i := 1) rfl
theorem q_X8_40 : Cond.methodLinkNest RX8 40 yX3_init "WaxBowl" ∈ wNest := List.mem_of_getElem? (i := 2) rfl
theorem q_X8_66 : Cond.methodLinkNest RX8 66 yX7_init "WaxBowl" ∈ wNest := List.mem_of_getElem? (i := 3) rfl
theorem q_X8_73 : Cond.methodLinkNest RX8 73 yX4_init "WaxBowl" ∈ wNest := List.mem_of_getElem? (i := 4) rfl

theorem x_s0 : Cond.stringRef RX5 50 wSt0 ∈ lw_tbl := tb_1 _ (List.mem_of_getElem? (i := 171) rfl)
theorem x_s1 : Cond.stringRef RX8 124 "no such guest" ∈ lw_tbl := tb_5 _ (List.mem_of_getElem? (i := 223) rfl)
theorem x_s2 : Cond.stringRef RX8 157 "no such what" ∈ lw_tbl := tb_6 _ (List.mem_of_getElem? (i := 18) rfl)
theorem x_l1 : Cond.laysStatic "java/lang/String" "COMPACT_STRINGS" "Z" ∈ lw_tbl := tb_1 _ (List.mem_of_getElem? (i := 181) rfl)
theorem x_l2 : Cond.laysStatic "jdk/internal/util/Preconditions" "SIOOBE_FORMATTER" "Ljava/util/function/BiFunction;" ∈ lw_tbl := tb_1 _ (List.mem_of_getElem? (i := 197) rfl)
theorem x_l3 : Cond.laysStatic Bundle.tN "UNASSIGNED_STACK" Bundle.steD ∈ lw_tbl := tb_5 _ (List.mem_of_getElem? (i := 210) rfl)
theorem x_l4 : Cond.laysStatic Bundle.tN "SUPPRESSED_SENTINEL" Bundle.listD ∈ lw_tbl := tb_5 _ (List.mem_of_getElem? (i := 212) rfl)
theorem x_i1 : Cond.initialized "java/lang/String" ∈ lw_tbl := tb_1 _ (List.mem_of_getElem? (i := 6) rfl)
theorem x_i2 : Cond.initialized "jdk/internal/util/Preconditions" ∈ lw_tbl := tb_1 _ (List.mem_of_getElem? (i := 8) rfl)
theorem x_i3 : Cond.initialized Bundle.tN ∈ lw_tbl := tb_1 _ (List.mem_of_getElem? (i := 16) rfl)
theorem wNest_in : ∀ w ∈ wNest, w ∈ lw_tbl := by decide +kernel
theorem wBad_in : ∀ w ∈ wBad, w ∈ lw_tbl := by decide +kernel
theorem wNest_on : ∀ w ∈ wNest, w.onTables = true := by
  intro w hw
  simp only [wNest, List.mem_cons, List.not_mem_nil, or_false] at hw
  rcases hw with rfl | rfl | rfl | rfl | rfl <;> rfl
abbrev wFC : List Cond := flatC (Jvm.Cond.and given_1 narrow_1)
abbrev wTm : Term := .string RX5 50
theorem wFC_el : ∀ j, j < 105 → Cond.eq (.elem (.field wTm "java/lang/String" "value" "[B") (.int (Int32.ofNat j))) (.int (wS0.getD j 0)) ∈ wFC := by decide +kernel
theorem start_K {args : Array Value} {s : State} (hts : ∀ w ∈ lw_tb, w.before args s = true) : ∃ (D : va_G) (κ : Nat → ClassId), va_K D vwCl (w_ty κ) s := by
  have hc : ∀ c : Nat, ∃ x : ClassId × (Nat → Nat), ∀ q : vw_C, vwCl[c]? = some q → u_Kn s q.1 q.2.1 q.2.2 x.1 x.2 := by
    intro c
    by_cases h10 : c < 10
    · rcases (show c = 0 ∨ c = 1 ∨ c = 2 ∨ c = 3 ∨ c = 4 ∨ c = 5 ∨ c = 6 ∨ c = 7 ∨ c = 8 ∨ c = 9 by omega) with rfl | rfl | rfl | rfl | rfl | rfl | rfl | rfl | rfl | rfl
      · obtain ⟨cC, iS, h⟩ := u_known hts gwX0 (hts _ z_X0); exact ⟨(cC, iS), fun q hq => by cases hq; exact h⟩
      · obtain ⟨cC, iS, h⟩ := u_known hts gwX1 (hts _ z_X1); exact ⟨(cC, iS), fun q hq => by cases hq; exact h⟩
      · obtain ⟨cC, iS, h⟩ := u_known hts gwX2 (hts _ z_X2); exact ⟨(cC, iS), fun q hq => by cases hq; exact h⟩
      · obtain ⟨cC, iS, h⟩ := u_known hts gwX3 (hts _ z_X3); exact ⟨(cC, iS), fun q hq => by cases hq; exact h⟩
      · obtain ⟨cC, iS, h⟩ := u_known hts gwX4 (hts _ z_X4); exact ⟨(cC, iS), fun q hq => by cases hq; exact h⟩
      · obtain ⟨cC, iS, h⟩ := u_known hts gwX5 (hts _ z_X5); exact ⟨(cC, iS), fun q hq => by cases hq; exact h⟩
      · obtain ⟨cC, iS, h⟩ := u_known hts gwX6 (hts _ z_X6); exact ⟨(cC, iS), fun q hq => by cases hq; exact h⟩
      · obtain ⟨cC, iS, h⟩ := u_known hts gwX7 (hts _ z_X7); exact ⟨(cC, iS), fun q hq => by cases hq; exact h⟩
      · obtain ⟨cC, iS, h⟩ := u_known hts gwX8 (hts _ z_X8); exact ⟨(cC, iS), fun q hq => by cases hq; exact h⟩
      · obtain ⟨cC, iS, h⟩ := u_known hts gwX9 (hts _ z_X9); exact ⟨(cC, iS), fun q hq => by cases hq; exact h⟩
    · obtain ⟨cC, iS, h⟩ := u_known hts gwX0 (hts _ z_X0)
      refine ⟨(cC, iS), fun q hq => ?_⟩
      rw [List.getElem?_eq_none (show vwCl.length ≤ c from Nat.le_of_not_lt h10)] at hq
      cases hq
  obtain ⟨f, hf⟩ := Classical.axiomOfChoice hc
  obtain ⟨cI, kI, pI, i1, i2, i3⟩ := Cond.arrayClass_spec (type := .int) (hts _ za_int)
  obtain ⟨cB, kB, pB, b1, b2, b3⟩ := Cond.arrayClass_spec (type := .byte) (hts _ za_byte)
  obtain ⟨cZ, kZ, pZ, z1, z2, z3⟩ := Cond.arrayClass_spec (type := .boolean) (hts _ za_boolean)
  obtain ⟨cJ, kJ, pJ, j1, j2, j3⟩ := Cond.arrayClass_spec (type := .long) (hts _ za_long)
  refine ⟨(fun c => (f c).1, fun c => (f c).2), fun t => match t with | 0 => cI | 1 => cB | 2 => cZ | _ => cJ, fun c q hq => hf c q hq, fun k q hk => ?_⟩
  have hk4 : k < 4 := (List.getElem?_eq_some_iff.mp hk).1
  rcases (show k = 0 ∨ k = 1 ∨ k = 2 ∨ k = 3 by omega) with rfl | rfl | rfl | rfl <;> cases hk
  · exact ⟨fun n z => ⟨fun k h => (by cases h), kI, i2, pI, i3⟩, i1⟩
  · exact ⟨fun n z => ⟨fun k h => (by cases h), kB, b2, pB, b3⟩, b1⟩
  · exact ⟨fun n z => ⟨fun k h => (by cases h), kZ, z2, pZ, z3⟩, z1⟩
  · exact ⟨fun n z => ⟨fun k h => (by cases h), kJ, j2, pJ, j3⟩, j1⟩
theorem start_X {args : Array Value} {s : State} (hts : ∀ w ∈ lw_tbl, w.before args s = true) (hgv : (Jvm.Cond.and given_1 narrow_1).before args s = true) : ∃ kA vA, wEX kA vA (fun q => s.heap.size ≤ q) s s.heap := by
  have hs := flat_of_before _ hgv
  have hA : ∀ a : Nat, a < s.heap.size → ¬ s.heap.size ≤ a := fun a h => by omega
  obtain ⟨adK, adV, hS, hev⟩ := vk_Sof (args := args) (s := s) (N := 1) (tm := fun _ => wTm) (len := [105]) (byt := [wS0]) (A := fun q => s.heap.size ≤ q) (fun i hi => by rw [show i = 0 by omega]; decide) (fun i _ => hs _ (by decide +kernel)) (fun i _ => hs _ (by decide +kernel)) (fun i _ => hs _ (by decide +kernel)) (fun i hi => by rw [show i = 0 by omega]; exact hs _ (by decide +kernel)) (fun i hi j hj => by rw [show i = 0 by omega] at hj ⊢; exact hs _ (wFC_el j hj)) (fun i j hi hj hne => absurd (show i = j by omega) hne) hA
  refine ⟨adK 0, adV 0, fun w hw => va_Nw.of (wNest_on w hw) (hts w (wNest_in w hw)), vk_R.of (hts _ x_s0) (hev 0 (by decide)), hS.1 0 (by decide), ?_, ?_⟩
  · exact va_Zof (hts _ x_l1) (hts _ x_i1) (va_eqi (hs _ (by decide +kernel))) hA
  · exact va_Zqof (hts _ x_l2) (hts _ x_i2) (hs _ (by decide +kernel)) hA
theorem start_Y {args : Array Value} {s : State} (hts : ∀ w ∈ lw_tbl, w.before args s = true) (hgv : (Jvm.Cond.and given_1 narrow_1).before args s = true) : ∃ s1 s2, wEY s1 s2 (fun q => s.heap.size ≤ q) s s.heap := by
  have hs := flat_of_before _ hgv
  have hA : ∀ a : Nat, a < s.heap.size → ¬ s.heap.size ≤ a := fun a h => by omega
  obtain ⟨a1, c1, e1, k1, q1, -⟩ := Cond.exactly_spec (args := args) (first := s) (o := none) (s := s) (idx := []) (t := .string RX8 124) (cls := "java/lang/String") (hs _ (by decide +kernel))
  obtain ⟨a2, c2, e2, k2, q2, -⟩ := Cond.exactly_spec (args := args) (first := s) (o := none) (s := s) (idx := []) (t := .string RX8 157) (cls := "java/lang/String") (hs _ (by decide +kernel))
  exact ⟨a1, a2, vk_R.of (hts _ x_s1) q1, vk_R.of (hts _ x_s2) q2, vx_Zqof (hts _ x_l3) (hts _ x_i3) (hs _ (by decide +kernel)) hA, vx_Zqof (hts _ x_l4) (hts _ x_i3) (hs _ (by decide +kernel)) hA, fun w hw => va_Nw.of (wBad_on w hw) (hts w (wBad_in w hw)), va_Nc.of (hs _ (by decide +kernel))⟩

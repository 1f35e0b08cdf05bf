def wS00 : wSt := (fun _ _ => 0, fun _ _ => 0, fun _ _ => 0)
/-- what is left of the claim: the two systems' pure programs, from their constructors on -/
def wPURE : Prop := ∀ (L : Nat) (xs : Nat → Int32), L ≤ 3072 → ∃ σ0 τ0 : wSt, F_X8_init_0 wS00 = some ((), σ0) ∧ F_X9_init_79 σ0 = some ((), τ0) ∧ (∀ k, k < 80 → τ0.2.2 79 k ≤ 119) ∧ F_law L xs σ0 τ0 0 = some 1
theorem w_wr_rho {κ : Nat → ClassId} {ρ ρ' : Nat → Nat} {lo n b : Nat} {σ : wSt} (hpt : ∀ c, lo ≤ c → c < lo + n → ∀ k, k < w_nf (w_sh c).1 → σ.2.2 c k ≤ b) (hρ : ∀ q, q < b → ρ' q = ρ q) (hn : lo + n ≤ b) : w_wr κ ρ' lo n σ = w_wr κ ρ lo n σ := by
  unfold w_wr
  apply List.map_congr_left
  intro c hc
  have hc := List.mem_range.mp hc
  rw [hρ (lo + c) (by omega)]
  congr 1
  unfold w_ce
  have h1 : w_fs ρ' σ (lo + c) (w_sh (lo + c)).1 = w_fs ρ σ (lo + c) (w_sh (lo + c)).1 := by
    unfold w_fs
    apply List.map_congr_left
    intro k hk
    have hk := List.mem_range.mp hk
    have h2 := hpt (lo + c) (by omega) (by omega) k hk
    unfold w_v
    split
    · rfl
    · rfl
    · unfold w_rv
      split
      · rfl
      · rename_i j hj
        rw [hρ j (by omega)]
  rw [h1]
theorem w_nilP {D : va_G} {κ : Nat → ClassId} {ρ : Nat → Nat} {H : Heap} {σ : wSt} : va_P D vwCl (w_wr κ ρ 0 0 σ) H := fun k q hq => by
  rw [w_wr_none (Nat.zero_le _)] at hq
  cases hq
theorem w_nilD {κ : Nat → ClassId} {ρ : Nat → Nat} {A : Nat → Prop} {σ : wSt} : va_D A (w_wr κ ρ 0 0 σ) := by
  refine ⟨fun i j x y hi => ?_, fun k q hq => ?_⟩
  · rw [w_wr_none (Nat.zero_le _)] at hi
    cases hi
  · rw [w_wr_none (Nat.zero_le _)] at hq
    cases hq
theorem w_sub1 {D : va_G} {κ : Nat → ClassId} {ρ : Nat → Nat} {A : Nat → Prop} {H0 H : Heap} {locs : List Loc} {σ : wSt} (h : wHr D κ ρ 0 80 A H0 H locs σ) : wHr D κ ρ 79 1 A H0 H locs σ ∧ wHr D κ ρ 0 79 A H0 H locs σ ∧ ∀ j, j < 79 → ρ j ≠ ρ 79 := by
  have k1 : ∀ (k : Nat) (q : Nat × va_E), (w_wr κ ρ 79 1 σ)[k]? = some q → (w_wr κ ρ 0 80 σ)[79]? = some q ∧ k = 0 := by
    intro k q hq
    have h1 := w_wr_addr hq
    have hk : k = 0 := by omega
    subst hk
    rw [w_wr_ix (by decide)] at hq ⊢
    exact ⟨hq, rfl⟩
  have k2 : ∀ (k : Nat) (q : Nat × va_E), (w_wr κ ρ 0 79 σ)[k]? = some q → (w_wr κ ρ 0 80 σ)[k]? = some q := by
    intro k q hq
    have h1 := w_wr_addr hq
    rw [w_wr_ix h1.1] at hq
    rw [w_wr_ix (by omega)]
    exact hq
  refine ⟨⟨fun k q hq => h.1 _ q (k1 k q hq).1, ⟨fun i j x y hi hj _ => ?_, fun k q hq => h.2.1.2 _ q (k1 k q hq).1⟩, h.2.2⟩, ⟨fun k q hq => h.1 _ q (k2 k q hq), ⟨fun i j x y hi hj hxy => h.2.1.1 i j x y (k2 i x hi) (k2 j y hj) hxy, fun k q hq => h.2.1.2 _ q (k2 k q hq)⟩, h.2.2⟩, fun j hj he => ?_⟩
  · rw [(k1 i x hi).2, (k1 j y hj).2]
  · have g1 : (w_wr κ ρ 0 80 σ)[j]? = some (ρ (0 + j), w_ce κ ρ σ (0 + j)) := w_wr_ix (by omega)
    have g2 : (w_wr κ ρ 0 80 σ)[79]? = some (ρ (0 + 79), w_ce κ ρ σ (0 + 79)) := w_wr_ix (by decide)
    have := h.2.1.1 j 79 _ _ g1 g2 (by show ρ (0 + j) = ρ (0 + 79); rw [Nat.zero_add]; exact he)
    omega
set_option maxRecDepth 100000 in
set_option maxHeartbeats 8000000 in
theorem whole_open (hpure : wPURE) {p : Program} {e : Env} {s : State} {m : MethodId} {below : List Frame} {meth : Method} {c : Code} (l : Launch) (hflags : l.flags = flags0) {b L : Nat} {xs : Nat → Int32} (hL : L ≤ 3072) (C0 : lw_At p s m meth c b L xs) : W p l e room_1 s m #[Value.ref b] below meth c s.heap [] 0 0 (lw_Z below #[Value.ref b] s) (entryFrame m ([Value.ref b] : List Value).toArray 7) := by
  obtain ⟨hx, hb, hr, hml, hown, hts0, hX, hbl, hlk, hgv⟩ := C0
  have hts : ∀ w ∈ lw_tb, w.before #[Value.ref b] s = true := fun w hw => hts0 w (lw_tb_in hw).1
  obtain ⟨D, κ, hK⟩ := start_K hts
  obtain ⟨kA, vA, hE⟩ := start_X hts0 hgv
  obtain ⟨s1, s2, hEY⟩ := start_Y hts0 hgv
  have hfl : l.stackTraces = false := by
    unfold Launch.stackTraces
    rw [hflags]
    decide +kernel
  obtain ⟨σ0, τ0, f1, f2, fp, f3⟩ := hpure L xs hL
  have hl := lv_entry [Value.ref b] (n := 7) (Nat.le_of_ble_eq_true rfl)
  rw [lg_entry_eq]
  generalize (lg_sl [Value.ref b] ++ List.replicate (7 - (lg_sl [Value.ref b]).length) Slot.unset).toArray = ls at hl ⊢
  have hl : lv_has ls 7 [(0, .ref b)] := hl
  have hC : wCr p m c cL_law 7 s #[Value.ref b] RL D κ := ⟨⟨hx, hb, hml, hown, hts⟩, hK⟩
  have hz : wZr (0 + 0) wS00 := fun _ _ _ => ⟨rfl, rfl, rfl⟩
  have hpt : wPt (0 + 0) wS00 := fun _ _ => Nat.le_refl _
  have hH : wHr D κ (fun _ => 0) 0 0 (fun q => s.heap.size ≤ q) s.heap s.heap [] wS00 := ⟨w_nilP, w_nilD, va_S.rf, fun q h => h⟩
  refine wr_new (ci := 8) (C := RX8) (T := TX8) (N := 14) tyX8 hC hH hz hpt rfl rfl (by decide) gwX8 tyX8_ok zd_X8 n_L_8 z_X8 zi_X8 rfl (Nat.le_of_ble_eq_true rfl) (Nat.le_of_ble_eq_true rfl) dL_law_0 (fun ρ1 H hr1 hz hpt hH => ?_)
  have hz : wZr (0 + 1) wS00 := hz
  have hpt : wPt (0 + 1) wS00 := hpt
  have hH : wHr D κ ρ1 0 1 (fun q => s.heap.size ≤ q) s.heap H [] wS00 := hH
  refine lv_dup hx hb dL_law_3 rfl ?_
  refine wr_ctor (z := σ0) (K := fun _ u => some u) rfl hC hE hH hz hpt hl.1 c_X8_init_0 rfl y_X8_init zn_X8 m_L_17 rfl ⟨Nat.le_of_ble_eq_true rfl, Nat.le_of_ble_eq_true rfl⟩ ⟨Nat.le_of_ble_eq_true rfl, Nat.le_of_ble_eq_true rfl⟩ rfl (Nat.le_of_ble_eq_true rfl) dL_law_4 (by show wC (F_X8_init_0 wS00) _ = _; rw [f1]; rfl) (fun ρ2 u H locs hr2 hz hpt hu hH => ?_)
  cases hu
  have e0 : ρ2 0 = ρ1 0 := hr2 0 (by decide)
  refine wx_astore_n hx hb dL_law_7 rfl hl (by decide) (fun ls hl => ?_)
  have hl : lv_has ls 7 [(1, .ref (ρ2 0)), (0, .ref b)] := by rw [e0]; exact hl
  refine wr_new (ci := 9) (C := RX9) (T := TX9) (N := 80) tyX9 hC hH hz hpt rfl rfl (by decide) gwX9 tyX9_ok zd_X9 n_L_18 z_X9 zi_X9 rfl (Nat.le_of_ble_eq_true rfl) (Nat.le_of_ble_eq_true rfl) dL_law_8 (fun ρ3 H hr3 hz hpt hH => ?_)
  have hz : wZr (0 + 80) σ0 := hz
  have hpt : wPt (0 + 80) σ0 := hpt
  have hH : wHr D κ ρ3 0 80 (fun q => s.heap.size ≤ q) s.heap H locs σ0 := hH
  have e1 : ρ3 0 = ρ2 0 := hr3 0 (by decide)
  have hl : lv_has ls 7 [(1, .ref (ρ3 0)), (0, .ref b)] := by rw [e1]; exact hl
  refine lv_dup hx hb dL_law_11 rfl ?_
  obtain ⟨hH1, hH0, hne⟩ := w_sub1 hH
  have hM := c_X9_init_79 (l := l) D κ ρ3 kA vA σ0 ((), τ0) H.size hz hpt f2
  refine va_callv (va_runI (As := []) (b := ρ3 79) (rest := [.ref (ρ3 79)]) hC.1 hM ⟨callB_of 0 hts (lw_good y_X9_init.1) rfl rfl rfl (hts _ y_X9_init.2.1) (hts _ m_L_20) ⟨y_X9_init.2.2.1, y_X9_init.2.2.2.1, y_X9_init.2.2.2.2⟩ ⟨Nat.le_of_ble_eq_true rfl, Nat.le_of_ble_eq_true rfl⟩, zn_X9.1, hts _ zn_X9.2⟩ ⟨wPr_blind, fun U hU hW => ⟨rfl, by rw [hU], by rw [hU]; exact hH1.1, va_K.moved hW.alike hK, hH1.2.1.weaken (fun _ _ _ _ => trivial), hE.pass hH.2.2.1 (wAr_in hH1) hU hW⟩⟩ rfl rfl hl.1 rfl (lv_room (Nat.le_of_ble_eq_true rfl)) dL_law_12 ⟨Nat.le_of_ble_eq_true rfl, Nat.le_of_ble_eq_true rfl⟩) hH.2.2.1 (fun q _ h => wAr_in hH1 q h) (wAr_in hH1) (fun u t H1 locs1 ht hvm hw hB hz1 hk1 hS => ?_)
  obtain ⟨ρ4, τ1⟩ := u
  obtain ⟨he, hr4, -⟩ := hw
  cases he
  obtain ⟨hP1, hD1⟩ := hB
  rw [ht] at hP1
  have hP1 : va_P D vwCl (w_wr κ ρ4 79 40 τ1) H1 := hP1
  have hD1 : va_D (wAr ρ3 79 1 H.size) (w_wr κ ρ4 79 40 τ1) := hD1
  have hw0 : w_wr κ ρ4 0 79 σ0 = w_wr κ ρ3 0 79 σ0 := w_wr_rho (b := 80) (fun c _ _ k _ => hpt c k) (fun q hq => hr4 q hq) (by decide)
  have hP0 : va_P D vwCl (w_wr κ ρ4 0 79 σ0) H1 := by
    rw [hw0]
    intro k q hq
    have ha := w_wr_addr hq
    have hlt := (hH0.1 k q hq).lt
    refine (hH0.1 k q hq).kept (hk1 q.1 hlt ?_)
    intro h9
    rcases h9 with ⟨j, hj, h9⟩ | h9
    · rw [ha.2, show j = 0 by omega, Nat.zero_add] at h9
      exact hne k ha.1 h9
    · omega
  have hD0 : va_D (fun q => s.heap.size ≤ q) (w_wr κ ρ4 0 79 σ0) := by rw [hw0]; exact hH0.2.1
  have hD1' : va_D (fun q => s.heap.size ≤ q) (w_wr κ ρ4 79 40 τ1) := hD1.weaken (fun _ q _ h => wAr_in hH1 q.1 h)
  have hDc : va_D (fun q => s.heap.size ≤ q) (w_wr κ ρ4 0 79 σ0 ++ w_wr κ ρ4 79 40 τ1) := by
    refine va_D.app hD0 hD1' (fun i j x y hi hj hxy => ?_)
    have hi' : (w_wr κ ρ3 0 79 σ0)[i]? = some x := by rw [← hw0]; exact hi
    have ha := w_wr_addr hi'
    have hlt := (hH0.1 i x hi').lt
    have hA9 := hD1.2 j y hj
    rw [← hxy] at hA9
    rcases hA9 with ⟨k, hk, h9⟩ | h9
    · rw [ha.2, show k = 0 by omega, Nat.zero_add] at h9
      exact hne i ha.1 h9
    · omega
  have e2 : ρ4 0 = ρ3 0 := hr4 0 (by decide)
  have e3 : ρ4 79 = ρ3 79 := hr4 79 (by decide)
  refine wx_astore_n hx hb dL_law_15 rfl hl (by decide) (fun ls hl => ?_)
  have hl : lv_has ls 7 [(2, .ref (ρ4 79)), (1, .ref (ρ4 0)), (0, .ref b)] := by rw [e2, e3]; exact hl
  refine lv_iconst hx hb dL_law_16 k_iconst_1 ?_
  refine va_newa (atype := .long) (N' := 1) (a0 := (1, .inr (.inl (fun _ => 0)))) hx hb (hts _ za_long) rfl hK (va_P.app hP0 hP1) hDc hS (fun q h => h) (fun _ => rfl) (by decide) (by decide) (by decide) (Nat.le_of_ble_eq_true rfl) (Nat.le_of_ble_eq_true rfl) dL_law_17 (fun q cA H2 k1 q1 q2 q3 => ?_)
  have g1 := (k1.2 4 (cA, .long) rfl).2
  have g2 := (hK.2 3 _ rfl).2
  have g3 : cA = κ 3 := Option.some.inj (g1.symm.trans g2)
  subst g3
  obtain ⟨ρ5, hρ5⟩ : ∃ f : Nat → Nat, f = fun c => if c = 119 then q else ρ4 c := ⟨_, rfl⟩
  have r1 : ∀ c, c < 119 → ρ5 c = ρ4 c := fun c hc => by rw [hρ5]; exact if_neg (by omega)
  have r2 : ρ5 119 = q := by rw [hρ5]; exact if_pos rfl
  have w0 : w_wr κ ρ5 0 79 σ0 = w_wr κ ρ4 0 79 σ0 := w_wr_rho (b := 80) (fun c _ _ k _ => hpt c k) (fun q hq => r1 q (by omega)) (by decide)
  have w1 : w_wr κ ρ5 79 40 τ1 = w_wr κ ρ4 79 40 τ1 := by
    refine w_wr_rho (b := 119) (fun c h1 h2 k hk => ?_) (fun q hq => r1 q hq) (by decide)
    by_cases h79 : c = 79
    · subst h79
      exact fp k hk
    · have hob : ∀ c, c < 119 → 79 ≤ c → c ≠ 79 → w_nf (w_sh c).1 = 0 := by decide +kernel
      rw [hob c (by omega) h1 h79] at hk
      omega
  have len0 : (w_wr κ ρ4 0 79 σ0).length = 79 := by simp [w_wr]
  have len1 : (w_wr κ ρ4 79 40 τ1).length = 40 := by simp [w_wr]
  have adr : ∀ i, i < 120 → ∃ ee, ((w_wr κ ρ4 0 79 σ0 ++ w_wr κ ρ4 79 40 τ1) ++ [(q, Sum.inl (κ 3, 1, Sum.inr (Sum.inl (fun _ => (0 : Int64)))))])[i]? = some (ρ5 i, ee) := by
    intro i hi
    by_cases hi1 : i < 79
    · refine ⟨w_ce κ ρ4 σ0 (0 + i), ?_⟩
      rw [List.getElem?_append_left (by rw [List.length_append, len0, len1]; omega), List.getElem?_append_left (by rw [len0]; exact hi1), w_wr_ix hi1, r1 i (by omega), Nat.zero_add]
    · by_cases hi2 : i < 119
      · refine ⟨w_ce κ ρ4 τ1 (79 + (i - 79)), ?_⟩
        rw [List.getElem?_append_left (by rw [List.length_append, len0, len1]; omega), List.getElem?_append_right (by rw [len0]; omega), len0, w_wr_ix (by omega), r1 i hi2, show 79 + (i - 79) = i by omega]
      · have hi3 : i = 119 := by omega
        subst hi3
        refine ⟨Sum.inl (κ 3, 1, Sum.inr (Sum.inl (fun _ => (0 : Int64)))), ?_⟩
        rw [List.getElem?_append_right (by rw [List.length_append, len0, len1]; omega), List.length_append, len0, len1, r2]
        rfl
  have h2 : wH2 D κ ρ5 (fun q => s.heap.size ≤ q) s.heap H2 locs1 σ0 τ1 0 := by
    have qa : va_P D vwCl (w_wr κ ρ4 0 79 σ0 ++ w_wr κ ρ4 79 40 τ1) H2 := fun k x hx => q1 k x (by rw [List.getElem?_append_left (List.getElem?_eq_some_iff.mp hx).1]; exact hx)
    refine ⟨?_, ?_, ?_, fun i j hi hj hij => ?_, fun i hi => ?_, q3, fun q h => h⟩
    · show va_P D vwCl (w_wr κ ρ5 0 79 σ0) H2
      rw [w0]
      exact fun k x hx => qa k x (by rw [List.getElem?_append_left (List.getElem?_eq_some_iff.mp hx).1]; exact hx)
    · show va_P D vwCl (w_wr κ ρ5 79 40 τ1) H2
      rw [w1]
      exact fun k x hx => qa (79 + k) x (by rw [List.getElem?_append_right (by rw [len0]; omega), len0, Nat.add_sub_cancel_left]; exact hx)
    · intro k x hx
      have hk1 : k < 1 := (List.getElem?_eq_some_iff.mp hx).1
      rw [show k = 0 by omega] at hx
      cases hx
      rw [r2]
      exact q1 119 _ (by rw [List.getElem?_append_right (by rw [List.length_append, len0, len1]; omega), List.length_append, len0, len1]; rfl)
    · obtain ⟨ee1, x1⟩ := adr i hi
      obtain ⟨ee2, x2⟩ := adr j hj
      exact q2.1 i j _ _ x1 x2 hij
    · obtain ⟨ee1, x1⟩ := adr i hi
      exact q2.2 i _ x1
  refine wx_astore_n hx hb dL_law_19 rfl hl (by decide) (fun ls hl => ?_)
  have hl : lv_has ls 7 [(3, .ref (ρ5 119)), (2, .ref (ρ5 79)), (1, .ref (ρ5 0)), (0, .ref b)] := by rw [r2, r1 79 (by decide), r1 0 (by decide)]; exact hl
  refine lv_iconst hx hb dL_law_20 k_iconst_0 ?_
  refine wx_istore hx hb dL_law_21 hl (by decide) (fun ls hl => ?_)
  have hl : lv_has ls 7 [(4, .int (0 : Int32)), (3, .ref (ρ5 119)), (2, .ref (ρ5 79)), (1, .ref (ρ5 0)), (0, .ref b)] := hl
  refine W.widen (k := 120 + 2 * 0) (n := 6245 + 16 * 0) (Nat.le_of_ble_eq_true rfl) (Nat.le_of_ble_eq_true rfl) ?_
  have hC0 : wCx p m c cL_law 7 s #[Value.ref b] RL D κ 0 := ⟨hC.1, hC.2, by decide⟩
  have hC1 : wCx p m c cL_law 7 s #[Value.ref b] RL D κ 1 := ⟨hC.1, hC.2, by decide⟩
  exact law_loop hC0 hC1 hr hlk hX hbl (by omega) (fun q h => h) hL (gst_ok hfl hC0 hEY) wFu 0 (0 : Int32) σ0 τ1 0 H2 locs1 ls (by decide) rfl f3 h2 (lv_sub hl [4, 3, 2, 1, 0] rfl)

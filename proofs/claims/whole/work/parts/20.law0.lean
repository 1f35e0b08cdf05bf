/-! the law's own world: both systems and its row -/
def wOut (κ : Nat → ClassId) (ρ : Nat → Nat) (v : Int64) : va_W := [(ρ 119, .inl (κ 3, 1, .inr (.inl (fun _ => v))))]
def wH2 (D : va_G) (κ : Nat → ClassId) (ρ : Nat → Nat) (A : Nat → Prop) (H0 H : Heap) (locs : List Loc) (σ τ : wSt) (v : Int64) : Prop :=
  va_P D vwCl (w_ws κ ρ 0 σ) H ∧ va_P D vwCl (w_ws κ ρ 1 τ) H ∧ va_P D vwCl (wOut κ ρ v) H ∧ (∀ i j, i < 120 → j < 120 → ρ i = ρ j → i = j) ∧ (∀ i, i < 120 → A (ρ i)) ∧ va_S A H0 H locs ∧ ∀ q, H0.size ≤ q → A q
theorem w_Dof {κ : Nat → ClassId} {ρ : Nat → Nat} {A : Nat → Prop} {σ : wSt} {lo n : Nat} (hj : ∀ i j, i < 120 → j < 120 → ρ i = ρ j → i = j) (hA : ∀ i, i < 120 → A (ρ i)) (hn : lo + n ≤ 120) : va_D A (w_wr κ ρ lo n σ) := by
  have key : ∀ (k : Nat) (q : Nat × va_E), (w_wr κ ρ lo n σ)[k]? = some q → k < n ∧ q.1 = ρ (lo + k) := by
    intro k q hq
    by_cases hk : k < n
    · rw [w_wr_ix hk] at hq
      cases hq
      exact ⟨hk, rfl⟩
    · rw [w_wr_none (Nat.le_of_not_lt hk)] at hq
      cases hq
  refine ⟨fun i j x y hi hj2 hxy => ?_, fun k q hk => ?_⟩
  · obtain ⟨h1, h2⟩ := key i x hi
    obtain ⟨h3, h4⟩ := key j y hj2
    rw [h2, h4] at hxy
    have := hj _ _ (by omega) (by omega) hxy
    omega
  · obtain ⟨h1, h2⟩ := key k q hk
    rw [h2]
    exact hA _ (by omega)
section W2
variable {p : Program} {l : Launch} {e : Env} {R : Room} {s : State} {m : MethodId} {args : Array Value} {below : List Frame} {meth : Method} {c : Code} {H H1 : Heap} {locs locs1 : List Loc} {cells slots : Nat} {Q : State → Prop}
variable {cc bytes : ByteArray} {pc nL mL f lo np idx : Nat} {ls : Array Slot} {rest st0 As : List Value} {D : va_G} {κ : Nat → ClassId} {ρ : Nat → Nat} {sd : Nat} {A : Nat → Prop} {c0 ci : Nat} {H0 : Heap} {own : String} {σ τ σ1 τ1 : wSt} {v : Int64} {β : Type} {z : β} {y : MethodName} {ty : FieldType} {lv : List (Nat × Value)}
theorem w2_0 (h : wH2 D κ ρ A H0 H locs σ τ v) : wHp D κ ρ 0 A H0 H locs σ := ⟨h.1, w_Dof h.2.2.2.1 h.2.2.2.2.1 (by decide), h.2.2.2.2.2⟩
theorem w2_1 (h : wH2 D κ ρ A H0 H locs σ τ v) : wHp D κ ρ 1 A H0 H locs τ := ⟨h.2.1, w_Dof h.2.2.2.1 h.2.2.2.2.1 (by decide), h.2.2.2.2.2⟩
theorem w2_kept {ws : va_W} (hP : va_P D vwCl ws H) (hk : ∀ q : Nat, q < H.size → ¬ wA ρ sd H.size q → H1[q]? = H[q]?) (hd : ∀ (k : Nat) (q : Nat × va_E), ws[k]? = some q → ∀ j, j < w_n sd → q.1 ≠ ρ (w_lo sd + j)) : va_P D vwCl ws H1 := by
  intro k q hq
  refine (hP k q hq).kept (hk q.1 (hP k q hq).lt ?_)
  intro h
  rcases h with ⟨j, hj, h⟩ | h
  · exact hd k q hq j hj h
  · have := (hP k q hq).lt
    omega
theorem w_wr_addr {κ : Nat → ClassId} {ρ : Nat → Nat} {σ : wSt} {lo n k : Nat} {q : Nat × va_E} (hq : (w_wr κ ρ lo n σ)[k]? = some q) : k < n ∧ q.1 = ρ (lo + k) := by
  by_cases hk : k < n
  · rw [w_wr_ix hk] at hq
    cases hq
    exact ⟨hk, rfl⟩
  · rw [w_wr_none (Nat.le_of_not_lt hk)] at hq
    cases hq
theorem w2_call0 (h : wH2 D κ ρ A H0 H locs σ τ v) (h0 : wHp D κ ρ 0 A H0 H1 locs1 σ1) (hk : ∀ q : Nat, q < H.size → ¬ wA ρ 0 H.size q → H1[q]? = H[q]?) : wH2 D κ ρ A H0 H1 locs1 σ1 τ v := by
  obtain ⟨p0, p1, p2, hj, hA, hS, hn⟩ := h
  refine ⟨h0.1, w2_kept p1 hk ?_, w2_kept p2 hk ?_, hj, hA, h0.2.2⟩
  · intro k q hq j hj2 he
    obtain ⟨h1, h2⟩ := w_wr_addr hq
    rw [h2] at he
    have hn1 : w_n 1 = 40 := rfl
    have hn0 : w_n 0 = 79 := rfl
    have hl1 : w_lo 1 = 79 := rfl
    have hl0 : w_lo 0 = 0 := rfl
    rw [hl1, hl0] at he
    have := hj _ _ (by omega) (by omega) he
    omega
  · intro k q hq j hj2 he
    have hz : k < 1 := (List.getElem?_eq_some_iff.mp hq).1
    rw [show k = 0 by omega] at hq
    cases hq
    have hn0 : w_n 0 = 79 := rfl
    have hl0 : w_lo 0 = 0 := rfl
    rw [hl0] at he
    have := hj 119 _ (by omega) (by omega) he
    omega
theorem w2_call1 (h : wH2 D κ ρ A H0 H locs σ τ v) (h0 : wHp D κ ρ 1 A H0 H1 locs1 τ1) (hk : ∀ q : Nat, q < H.size → ¬ wA ρ 1 H.size q → H1[q]? = H[q]?) : wH2 D κ ρ A H0 H1 locs1 σ τ1 v := by
  obtain ⟨p0, p1, p2, hj, hA, hS, hn⟩ := h
  refine ⟨w2_kept p0 hk ?_, h0.1, w2_kept p2 hk ?_, hj, hA, h0.2.2⟩
  · intro k q hq j hj2 he
    obtain ⟨h1, h2⟩ := w_wr_addr hq
    rw [h2] at he
    have hn1 : w_n 1 = 40 := rfl
    have hn0 : w_n 0 = 79 := rfl
    have hl1 : w_lo 1 = 79 := rfl
    have hl0 : w_lo 0 = 0 := rfl
    rw [hl1, hl0] at he
    have := hj _ _ (by omega) (by omega) he
    omega
  · intro k q hq j hj2 he
    have hz : k < 1 := (List.getElem?_eq_some_iff.mp hq).1
    rw [show k = 0 by omega] at hq
    cases hq
    have hn0 : w_n 1 = 40 := rfl
    have hl0 : w_lo 1 = 79 := rfl
    rw [hl0] at he
    have := hj 119 _ (by omega) (by omega) he
    omega
theorem wl_e0i {F : wSt → Option (Int32 × wSt)} {K : Int32 → wSt → Option β} (hC : wCx p m c cc nL s args own D κ 0) (h2 : wH2 D κ ρ A H0 H locs σ τ v) (hl : lv_has ls nL lv) (hM : wMI l y bytes mL ty (wRm f lo) (.ref (ρ c0) :: As) D κ ρ 0 F) (hY : wYc y bytes mL (some ty) np) (hV : wYi y ci) (hk : (w_sh c0).1 = ci) (hsd : w_sd ci = 0) (hlink : Cond.methodLink own idx y ∈ lw_tb) (hlen : As.length = np) (hR : f + 1 ≤ R.frames ∧ 8 + (mL + 11) + lo ≤ R.locals) (hcs : cells ≤ R.cells ∧ slots ≤ R.slots) (hst : st0 = As.reverse ++ .ref (ρ c0) :: rest) (hw : (rest.map fun v => v.category).sum ≤ 8) (hdg : decode cc pc = .ok (.invokevirtual idx, 3)) (hF : wC (F σ) K = some z)
    (kk : ∀ (r : Int32) (u1 : wSt) (H1 : Heap) (locs1 : List Loc), K r u1 = some z → wH2 D κ ρ A H0 H1 locs1 u1 τ v → W p l e R s m args below meth c H1 locs1 cells slots Q (F0 m (pc + 3) ls (.int r :: rest))) : W p l e R s m args below meth c H locs cells slots Q (F0 m pc ls st0) := by
  obtain ⟨q, g1, g2, g3⟩ := hV.2
  obtain ⟨r, u1, h1, h3⟩ := wC_some hF
  have hM := hM σ _ H.size hC.2.2 h1
  refine va_calli (w_runV hC (w2_0 h2) hl.1 hM hY hV.1 hk hsd g1 g2 g3 hlink hlen hR hcs hst hw hdg) (w2_0 h2).2.2.1 (fun q _ h => wA_in (w2_0 h2) q h) (wA_in (w2_0 h2)) (fun r1 u t H1 locs1 ht hvm hw hB hz1 hk1 hS => ?_)
  cases hw
  rw [ht] at hB
  exact kk r u1 H1 locs1 h3 (w2_call0 h2 (wx_behind (w2_0 h2) hB hS) hk1)
theorem wl_e0l {F : wSt → Option (Int64 × wSt)} {K : Int64 → wSt → Option β} (hC : wCx p m c cc nL s args own D κ 0) (h2 : wH2 D κ ρ A H0 H locs σ τ v) (hl : lv_has ls nL lv) (hM : wML l y bytes mL (wRm f lo) (.ref (ρ c0) :: As) D κ ρ 0 F) (hY : wYc y bytes mL (some .long) np) (hV : wYi y ci) (hk : (w_sh c0).1 = ci) (hsd : w_sd ci = 0) (hlink : Cond.methodLink own idx y ∈ lw_tb) (hlen : As.length = np) (hR : f + 1 ≤ R.frames ∧ 8 + (mL + 11) + lo ≤ R.locals) (hcs : cells ≤ R.cells ∧ slots ≤ R.slots) (hst : st0 = As.reverse ++ .ref (ρ c0) :: rest) (hw : (rest.map fun v => v.category).sum ≤ 8) (hdg : decode cc pc = .ok (.invokevirtual idx, 3)) (hF : wC (F σ) K = some z)
    (kk : ∀ (r : Int64) (u1 : wSt) (H1 : Heap) (locs1 : List Loc), K r u1 = some z → wH2 D κ ρ A H0 H1 locs1 u1 τ v → W p l e R s m args below meth c H1 locs1 cells slots Q (F0 m (pc + 3) ls (.long r :: rest))) : W p l e R s m args below meth c H locs cells slots Q (F0 m pc ls st0) := by
  obtain ⟨q, g1, g2, g3⟩ := hV.2
  obtain ⟨r, u1, h1, h3⟩ := wC_some hF
  have hM := hM σ _ H.size hC.2.2 h1
  refine va_calll (w_runV hC (w2_0 h2) hl.1 hM hY hV.1 hk hsd g1 g2 g3 hlink hlen hR hcs hst hw hdg) (w2_0 h2).2.2.1 (fun q _ h => wA_in (w2_0 h2) q h) (wA_in (w2_0 h2)) (fun r1 u t H1 locs1 ht hvm hw hB hz1 hk1 hS => ?_)
  cases hw
  rw [ht] at hB
  exact kk r u1 H1 locs1 h3 (w2_call0 h2 (wx_behind (w2_0 h2) hB hS) hk1)
theorem wl_p0i {F : wSt → Option Int32} {K : Int32 → Option β} (hC : wCx p m c cc nL s args own D κ 0) (h2 : wH2 D κ ρ A H0 H locs σ τ v) (hl : lv_has ls nL lv) (hM : wMI l y bytes mL ty (wRm f lo) (.ref (ρ c0) :: As) D κ ρ 0 (fun u => wPu (F u) u)) (hY : wYc y bytes mL (some ty) np) (hV : wYi y ci) (hk : (w_sh c0).1 = ci) (hsd : w_sd ci = 0) (hlink : Cond.methodLink own idx y ∈ lw_tb) (hlen : As.length = np) (hR : f + 1 ≤ R.frames ∧ 8 + (mL + 11) + lo ≤ R.locals) (hcs : cells ≤ R.cells ∧ slots ≤ R.slots) (hst : st0 = As.reverse ++ .ref (ρ c0) :: rest) (hw : (rest.map fun v => v.category).sum ≤ 8) (hdg : decode cc pc = .ok (.invokevirtual idx, 3)) (hF : wP (F σ) K = some z)
    (kk : ∀ (r : Int32) (H1 : Heap) (locs1 : List Loc), K r = some z → wH2 D κ ρ A H0 H1 locs1 σ τ v → W p l e R s m args below meth c H1 locs1 cells slots Q (F0 m (pc + 3) ls (.int r :: rest))) : W p l e R s m args below meth c H locs cells slots Q (F0 m pc ls st0) := by
  obtain ⟨q, g1, g2, g3⟩ := hV.2
  obtain ⟨r, h1, h3⟩ := wP_some hF
  have hM := hM σ (r, σ) H.size hC.2.2 (by show wPu (F σ) σ = _; rw [h1]; rfl)
  refine va_calli (w_runV hC (w2_0 h2) hl.1 hM hY hV.1 hk hsd g1 g2 g3 hlink hlen hR hcs hst hw hdg) (w2_0 h2).2.2.1 (fun q _ h => wA_in (w2_0 h2) q h) (wA_in (w2_0 h2)) (fun r1 u t H1 locs1 ht hvm hw hB hz1 hk1 hS => ?_)
  cases hw
  rw [ht] at hB
  exact kk r H1 locs1 h3 (w2_call0 h2 (wx_behind (w2_0 h2) hB hS) hk1)
theorem wl_p0l {F : wSt → Option Int64} {K : Int64 → Option β} (hC : wCx p m c cc nL s args own D κ 0) (h2 : wH2 D κ ρ A H0 H locs σ τ v) (hl : lv_has ls nL lv) (hM : wML l y bytes mL (wRm f lo) (.ref (ρ c0) :: As) D κ ρ 0 (fun u => wPu (F u) u)) (hY : wYc y bytes mL (some .long) np) (hV : wYi y ci) (hk : (w_sh c0).1 = ci) (hsd : w_sd ci = 0) (hlink : Cond.methodLink own idx y ∈ lw_tb) (hlen : As.length = np) (hR : f + 1 ≤ R.frames ∧ 8 + (mL + 11) + lo ≤ R.locals) (hcs : cells ≤ R.cells ∧ slots ≤ R.slots) (hst : st0 = As.reverse ++ .ref (ρ c0) :: rest) (hw : (rest.map fun v => v.category).sum ≤ 8) (hdg : decode cc pc = .ok (.invokevirtual idx, 3)) (hF : wP (F σ) K = some z)
    (kk : ∀ (r : Int64) (H1 : Heap) (locs1 : List Loc), K r = some z → wH2 D κ ρ A H0 H1 locs1 σ τ v → W p l e R s m args below meth c H1 locs1 cells slots Q (F0 m (pc + 3) ls (.long r :: rest))) : W p l e R s m args below meth c H locs cells slots Q (F0 m pc ls st0) := by
  obtain ⟨q, g1, g2, g3⟩ := hV.2
  obtain ⟨r, h1, h3⟩ := wP_some hF
  have hM := hM σ (r, σ) H.size hC.2.2 (by show wPu (F σ) σ = _; rw [h1]; rfl)
  refine va_calll (w_runV hC (w2_0 h2) hl.1 hM hY hV.1 hk hsd g1 g2 g3 hlink hlen hR hcs hst hw hdg) (w2_0 h2).2.2.1 (fun q _ h => wA_in (w2_0 h2) q h) (wA_in (w2_0 h2)) (fun r1 u t H1 locs1 ht hvm hw hB hz1 hk1 hS => ?_)
  cases hw
  rw [ht] at hB
  exact kk r H1 locs1 h3 (w2_call0 h2 (wx_behind (w2_0 h2) hB hS) hk1)
theorem wl_e1i {F : wSt → Option (Int32 × wSt)} {K : Int32 → wSt → Option β} (hC : wCx p m c cc nL s args own D κ 1) (h2 : wH2 D κ ρ A H0 H locs σ τ v) (hl : lv_has ls nL lv) (hM : wMI l y bytes mL ty (wRm f lo) (.ref (ρ c0) :: As) D κ ρ 1 F) (hY : wYc y bytes mL (some ty) np) (hV : wYi y ci) (hk : (w_sh c0).1 = ci) (hsd : w_sd ci = 1) (hlink : Cond.methodLink own idx y ∈ lw_tb) (hlen : As.length = np) (hR : f + 1 ≤ R.frames ∧ 8 + (mL + 11) + lo ≤ R.locals) (hcs : cells ≤ R.cells ∧ slots ≤ R.slots) (hst : st0 = As.reverse ++ .ref (ρ c0) :: rest) (hw : (rest.map fun v => v.category).sum ≤ 8) (hdg : decode cc pc = .ok (.invokevirtual idx, 3)) (hF : wC (F τ) K = some z)
    (kk : ∀ (r : Int32) (u1 : wSt) (H1 : Heap) (locs1 : List Loc), K r u1 = some z → wH2 D κ ρ A H0 H1 locs1 σ u1 v → W p l e R s m args below meth c H1 locs1 cells slots Q (F0 m (pc + 3) ls (.int r :: rest))) : W p l e R s m args below meth c H locs cells slots Q (F0 m pc ls st0) := by
  obtain ⟨q, g1, g2, g3⟩ := hV.2
  obtain ⟨r, u1, h1, h3⟩ := wC_some hF
  have hM := hM τ _ H.size hC.2.2 h1
  refine va_calli (w_runV hC (w2_1 h2) hl.1 hM hY hV.1 hk hsd g1 g2 g3 hlink hlen hR hcs hst hw hdg) (w2_1 h2).2.2.1 (fun q _ h => wA_in (w2_1 h2) q h) (wA_in (w2_1 h2)) (fun r1 u t H1 locs1 ht hvm hw hB hz1 hk1 hS => ?_)
  cases hw
  rw [ht] at hB
  exact kk r u1 H1 locs1 h3 (w2_call1 h2 (wx_behind (w2_1 h2) hB hS) hk1)
theorem wl_e1l {F : wSt → Option (Int64 × wSt)} {K : Int64 → wSt → Option β} (hC : wCx p m c cc nL s args own D κ 1) (h2 : wH2 D κ ρ A H0 H locs σ τ v) (hl : lv_has ls nL lv) (hM : wML l y bytes mL (wRm f lo) (.ref (ρ c0) :: As) D κ ρ 1 F) (hY : wYc y bytes mL (some .long) np) (hV : wYi y ci) (hk : (w_sh c0).1 = ci) (hsd : w_sd ci = 1) (hlink : Cond.methodLink own idx y ∈ lw_tb) (hlen : As.length = np) (hR : f + 1 ≤ R.frames ∧ 8 + (mL + 11) + lo ≤ R.locals) (hcs : cells ≤ R.cells ∧ slots ≤ R.slots) (hst : st0 = As.reverse ++ .ref (ρ c0) :: rest) (hw : (rest.map fun v => v.category).sum ≤ 8) (hdg : decode cc pc = .ok (.invokevirtual idx, 3)) (hF : wC (F τ) K = some z)
    (kk : ∀ (r : Int64) (u1 : wSt) (H1 : Heap) (locs1 : List Loc), K r u1 = some z → wH2 D κ ρ A H0 H1 locs1 σ u1 v → W p l e R s m args below meth c H1 locs1 cells slots Q (F0 m (pc + 3) ls (.long r :: rest))) : W p l e R s m args below meth c H locs cells slots Q (F0 m pc ls st0) := by
  obtain ⟨q, g1, g2, g3⟩ := hV.2
  obtain ⟨r, u1, h1, h3⟩ := wC_some hF
  have hM := hM τ _ H.size hC.2.2 h1
  refine va_calll (w_runV hC (w2_1 h2) hl.1 hM hY hV.1 hk hsd g1 g2 g3 hlink hlen hR hcs hst hw hdg) (w2_1 h2).2.2.1 (fun q _ h => wA_in (w2_1 h2) q h) (wA_in (w2_1 h2)) (fun r1 u t H1 locs1 ht hvm hw hB hz1 hk1 hS => ?_)
  cases hw
  rw [ht] at hB
  exact kk r u1 H1 locs1 h3 (w2_call1 h2 (wx_behind (w2_1 h2) hB hS) hk1)
theorem wl_p1i {F : wSt → Option Int32} {K : Int32 → Option β} (hC : wCx p m c cc nL s args own D κ 1) (h2 : wH2 D κ ρ A H0 H locs σ τ v) (hl : lv_has ls nL lv) (hM : wMI l y bytes mL ty (wRm f lo) (.ref (ρ c0) :: As) D κ ρ 1 (fun u => wPu (F u) u)) (hY : wYc y bytes mL (some ty) np) (hV : wYi y ci) (hk : (w_sh c0).1 = ci) (hsd : w_sd ci = 1) (hlink : Cond.methodLink own idx y ∈ lw_tb) (hlen : As.length = np) (hR : f + 1 ≤ R.frames ∧ 8 + (mL + 11) + lo ≤ R.locals) (hcs : cells ≤ R.cells ∧ slots ≤ R.slots) (hst : st0 = As.reverse ++ .ref (ρ c0) :: rest) (hw : (rest.map fun v => v.category).sum ≤ 8) (hdg : decode cc pc = .ok (.invokevirtual idx, 3)) (hF : wP (F τ) K = some z)
    (kk : ∀ (r : Int32) (H1 : Heap) (locs1 : List Loc), K r = some z → wH2 D κ ρ A H0 H1 locs1 σ τ v → W p l e R s m args below meth c H1 locs1 cells slots Q (F0 m (pc + 3) ls (.int r :: rest))) : W p l e R s m args below meth c H locs cells slots Q (F0 m pc ls st0) := by
  obtain ⟨q, g1, g2, g3⟩ := hV.2
  obtain ⟨r, h1, h3⟩ := wP_some hF
  have hM := hM τ (r, τ) H.size hC.2.2 (by show wPu (F τ) τ = _; rw [h1]; rfl)
  refine va_calli (w_runV hC (w2_1 h2) hl.1 hM hY hV.1 hk hsd g1 g2 g3 hlink hlen hR hcs hst hw hdg) (w2_1 h2).2.2.1 (fun q _ h => wA_in (w2_1 h2) q h) (wA_in (w2_1 h2)) (fun r1 u t H1 locs1 ht hvm hw hB hz1 hk1 hS => ?_)
  cases hw
  rw [ht] at hB
  exact kk r H1 locs1 h3 (w2_call1 h2 (wx_behind (w2_1 h2) hB hS) hk1)
theorem wl_p1l {F : wSt → Option Int64} {K : Int64 → Option β} (hC : wCx p m c cc nL s args own D κ 1) (h2 : wH2 D κ ρ A H0 H locs σ τ v) (hl : lv_has ls nL lv) (hM : wML l y bytes mL (wRm f lo) (.ref (ρ c0) :: As) D κ ρ 1 (fun u => wPu (F u) u)) (hY : wYc y bytes mL (some .long) np) (hV : wYi y ci) (hk : (w_sh c0).1 = ci) (hsd : w_sd ci = 1) (hlink : Cond.methodLink own idx y ∈ lw_tb) (hlen : As.length = np) (hR : f + 1 ≤ R.frames ∧ 8 + (mL + 11) + lo ≤ R.locals) (hcs : cells ≤ R.cells ∧ slots ≤ R.slots) (hst : st0 = As.reverse ++ .ref (ρ c0) :: rest) (hw : (rest.map fun v => v.category).sum ≤ 8) (hdg : decode cc pc = .ok (.invokevirtual idx, 3)) (hF : wP (F τ) K = some z)
    (kk : ∀ (r : Int64) (H1 : Heap) (locs1 : List Loc), K r = some z → wH2 D κ ρ A H0 H1 locs1 σ τ v → W p l e R s m args below meth c H1 locs1 cells slots Q (F0 m (pc + 3) ls (.long r :: rest))) : W p l e R s m args below meth c H locs cells slots Q (F0 m pc ls st0) := by
  obtain ⟨q, g1, g2, g3⟩ := hV.2
  obtain ⟨r, h1, h3⟩ := wP_some hF
  have hM := hM τ (r, τ) H.size hC.2.2 (by show wPu (F τ) τ = _; rw [h1]; rfl)
  refine va_calll (w_runV hC (w2_1 h2) hl.1 hM hY hV.1 hk hsd g1 g2 g3 hlink hlen hR hcs hst hw hdg) (w2_1 h2).2.2.1 (fun q _ h => wA_in (w2_1 h2) q h) (wA_in (w2_1 h2)) (fun r1 u t H1 locs1 ht hvm hw hB hz1 hk1 hS => ?_)
  cases hw
  rw [ht] at hB
  exact kk r H1 locs1 h3 (w2_call1 h2 (wx_behind (w2_1 h2) hB hS) hk1)
/-- the script is read -/
def wX {β : Type} (i : Int32) (L : Nat) (k : Nat → Option β) : Option β := if 0 ≤ i ∧ i.toNatClampNeg < L then k i.toNatClampNeg else none
theorem wX_some {i : Int32} {L : Nat} {K : Nat → Option β} (h : wX i L K = some z) : vp_in i L ∧ K i.toNatClampNeg = some z := by
  unfold wX at h
  by_cases hc : 0 ≤ i ∧ i.toNatClampNeg < L
  · rw [if_pos hc] at h
    refine ⟨fun q => ?_, h⟩
    rcases q with q | q
    · have h1 := hc.1
      rw [Int32.le_iff_toInt_le] at h1
      rw [Int32.lt_iff_toInt_lt] at q
      omega
    · omega
  · rw [if_neg hc] at h; cases h
theorem wx_sld {b L : Nat} {xs : Nat → Int32} {i : Int32} {K : Nat → Option β} (hexec : p.tables.exec = Jvm.exec) (hb : c.code = cc) (hX : va_X b L xs s s.heap) (hbl : b < s.heap.size) (hbA : ¬ A b) (h2 : wH2 D κ ρ A s.heap H locs σ τ v) (hdg : decode cc pc = .ok (.iaload, 1)) (hF : wX i L K = some z)
    (kk : ∀ j, K j = some z → W p l e R s m args below meth c H locs cells slots Q (F0 m (pc + 1) ls (.int (xs j) :: rest))) : W p l e R s m args below meth c H locs cells slots Q (F0 m pc ls (.int i :: .ref b :: rest)) :=
  va_sld hexec hb hX hbl hbA h2.2.2.2.2.2.1 (wX_some hF).1 hdg (kk _ (wX_some hF).2)
theorem wx_slen {b L : Nat} {xs : Nat → Int32} (hexec : p.tables.exec = Jvm.exec) (hb : c.code = cc) (hX : va_X b L xs s s.heap) (hbl : b < s.heap.size) (hbA : ¬ A b) (h2 : wH2 D κ ρ A s.heap H locs σ τ v) (hdg : decode cc pc = .ok (.arraylength, 1))
    (kk : W p l e R s m args below meth c H locs cells slots Q (F0 m (pc + 1) ls (.int (Int32.ofNat L) :: rest))) : W p l e R s m args below meth c H locs cells slots Q (F0 m pc ls (.ref b :: rest)) :=
  va_slen hexec hb hX hbl hbA h2.2.2.2.2.2.1 hdg kk
/-- the law's own row is read -/
theorem wx_outld (hK : va_K D vwCl (w_ty κ) s) (hexec : p.tables.exec = Jvm.exec) (hb : c.code = cc) (h2 : wH2 D κ ρ A H0 H locs σ τ v) (hdg : decode cc pc = .ok (.laload, 1))
    (kk : W p l e R s m args below meth c H locs cells slots Q (F0 m (pc + 1) ls (.long v :: rest))) : W p l e R s m args below meth c H locs cells slots Q (F0 m pc ls (.int 0 :: .ref (ρ 119) :: rest)) :=
  va_lald (n := 1) (f := fun _ => v) hexec hb hK h2.2.2.1 0 3 rfl rfl (by intro h; rcases h with h | h <;> revert h <;> decide) hdg kk
end W2

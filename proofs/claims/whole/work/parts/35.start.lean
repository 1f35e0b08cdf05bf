theorem wC3_some {β : Type} {o : Option (Int32 × Int32 × wSt)} {k : Int32 → Int32 → wSt → Option β} {z : β} (h : wC3 o k = some z) : ∃ a b u, o = some (a, b, u) ∧ k a b u = some z := by
  cases o with
  | none => cases h
  | some q => exact ⟨q.1, q.2.1, q.2.2, rfl, h⟩
theorem w2_app {D : va_G} {κ : Nat → ClassId} {ρ : Nat → Nat} {A : Nat → Prop} {H0 H : Heap} {locs : List Loc} {σ τ : wSt} {v : Int64} (h : wH2 D κ ρ A H0 H locs σ τ v) : va_P D vwCl (w_ws κ ρ 0 σ ++ wOut κ ρ v) H ∧ va_D (fun _ => True) (w_ws κ ρ 0 σ ++ wOut κ ρ v) := by
  refine ⟨va_P.app h.1 h.2.2.1, fun i j x y hi hj hxy => ?_, fun _ _ _ => trivial⟩
  have key : ∀ (k : Nat) (q : Nat × va_E), (w_ws κ ρ 0 σ ++ wOut κ ρ v)[k]? = some q → (k < 79 ∧ q.1 = ρ k) ∨ (k = 79 ∧ q.1 = ρ 119) := by
    intro k q hq
    by_cases hk : k < 79
    · rw [List.getElem?_append_left (by rw [w_ws0_len]; exact hk)] at hq
      have h1 := w_wr_addr hq
      exact Or.inl ⟨hk, by rw [h1.2]; show ρ (0 + k) = ρ k; rw [Nat.zero_add]⟩
    · rw [List.getElem?_append_right (by rw [w_ws0_len]; omega), w_ws0_len] at hq
      have hz : k - 79 < 1 := (List.getElem?_eq_some_iff.mp hq).1
      rw [show k - 79 = 0 by omega] at hq
      cases hq
      exact Or.inr ⟨by omega, rfl⟩
  rcases key i x hi with ⟨a1, a2⟩ | ⟨a1, a2⟩ <;> rcases key j y hj with ⟨b1, b2⟩ | ⟨b1, b2⟩ <;> rw [a2, b2] at hxy
  · exact h.2.2.2.1 _ _ (by omega) (by omega) hxy
  · have := h.2.2.2.1 _ _ (by omega) (by omega) hxy; omega
  · have := h.2.2.2.1 _ _ (by omega) (by omega) hxy; omega
  · omega
set_option maxRecDepth 100000 in
set_option maxHeartbeats 4000000 in
theorem gst_ok {p : Program} {l : Launch} {e : Env} {s : State} {m : MethodId} {below : List Frame} {meth : Method} {c : Code} {D : va_G} {κ : Nat → ClassId} {ρ : Nat → Nat} {A : Nat → Prop} {b s1 s2 : Nat} (hfl : l.stackTraces = false) (hC : wCx p m c cL_law 7 s #[Value.ref b] RL D κ 0) (hE : wEY s1 s2 A s s.heap) : wGst p l e s m below meth c b D κ ρ A := by
  intro σ τ v a2 b2 cells slots H locs ls rest pc K z Q hcs h2 hls hd hF hw kk
  obtain ⟨k, v1, σ1, h1, hF⟩ := wC3_some hF
  have hts := hC.1.2.2.2.2
  obtain ⟨hPa, hDa⟩ := w2_app h2
  have hAA : ∀ q, wAg ρ H.size q → A q := by
    intro q hq
    rcases hq with hq | rfl
    · exact wA_in (w2_0 h2) q hq
    · exact h2.2.2.2.2.1 119 (by decide)
  refine va_calli (cells := cells) (slots := slots) (vx_runSW (hh := [(0, 10, 13, 13), (0, 10, 17, 15)]) (bytes := cL_guest) (maxL := 5) (ret := some .int) (n := 4) (As := [.ref (ρ 0), .int a2, .int b2, .ref (ρ 119)]) (rest := rest) hC.1 (c_L_guest (D := D) (κ := κ) (ρ := ρ) (s1 := s1) (s2 := s2) hfl a2 b2 σ v k v1 σ1 H.size h1) ⟨⟨rfl, rfl, Nat.le_of_ble_eq_true rfl, Nat.le_of_ble_eq_true rfl, pay_in hts (lw_good x_cw), List.mem_cons_self⟩, hts _ x_cw, hts _ x_in, ⟨by decide, by decide⟩, fun sig h => ?_, hts _ m_L_39, hts _ x_st⟩ ⟨wPl_blind, fun U hU hW => ⟨rfl, by rw [hU], by rw [hU]; exact hPa, va_K.moved hW.alike hC.2.1, hDa, hE.pass h2.2.2.2.2.2.1 hAA hU hW⟩⟩ rfl rfl hls rfl (by show 2 * 0 + _ ≤ 8; omega) hd ⟨by show cells + 1 ≤ 1146; omega, by show slots + 6 ≤ 14449; omega⟩) h2.2.2.2.2.2.1 (fun q _ h => hAA q h) hAA (fun r u t H1 locs1 ht hvm hw hB hz1 hk1 hS => ?_)
  · have h9 : (parseMethodDescriptor yL_guest.desc).map (fun d => d.parameters.length) = some 4 := by decide +kernel
    rw [h] at h9
    exact (Option.some.inj h9).symm
  · have hw : r = k := hw
    subst hw
    have hB : va_P D vwCl (w_ws κ ρ 0 σ1 ++ wOut κ ρ (if r = 0 then v1.toInt64 else v)) t.heap := hB
    rw [ht] at hB
    obtain ⟨p0, p2⟩ := w_app_P hB
    refine W.widen (k := cells + 2) (n := slots + 16) (by omega) (by omega) ?_
    refine kk r _ σ1 H1 locs1 hF ⟨p0, fun i q hq => ?_, p2, h2.2.2.2.1, h2.2.2.2.2.1, hS, h2.2.2.2.2.2.2⟩
    have hlt := (h2.2.1 i q hq).lt
    refine (h2.2.1 i q hq).kept (hk1 q.1 hlt ?_)
    have ha := w_wr_addr hq
    have hn1 : w_n 1 = 40 := rfl
    have hl1 : w_lo 1 = 79 := rfl
    have hn0 : w_n 0 = 79 := rfl
    have hl0 : w_lo 0 = 0 := rfl
    rw [hl1] at ha
    intro hq2
    rcases hq2 with (⟨j, hj, he⟩ | he) | he
    · rw [ha.2, hl0] at he
      have := h2.2.2.2.1 _ _ (by omega) (by omega) he
      omega
    · omega
    · rw [ha.2] at he
      have := h2.2.2.2.1 _ _ (by omega) (by omega) he
      omega

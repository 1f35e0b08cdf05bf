/-! words of the two systems -/
def sw (k : Nat) : Nat := if k = 10 then 11 else if k = 11 then 10 else k
def wb (j : Nat) : Nat := (wlet.getD j 0).toNatClampNeg
theorem wb_e : ∀ k, k < 20 → sw k < 20 ∧ sw (sw k) = k ∧ wcod.getD (sw k) 0 = nI (pk wb (wof k) (wln k) 6) ∧ ∀ i, i < wln k → 97 ≤ wb (wof k + i) ∧ wb (wof k + i) ≤ 122 ∧ wlet.getD (wof k + i) 0 = nI (wb (wof k + i)) := by decide +kernel
theorem wc_inj : ∀ w, w < 20 → ∀ w', w' < 20 → wcod.getD w 0 = wcod.getD w' 0 → w = w' := by decide +kernel
theorem pk_congr {b b' : Nat → Nat} {P P' L : Nat} (h : ∀ i, i < L → b (P + i) = b' (P' + i)) : ∀ j, pk b P L j = pk b' P' L j := by
  intro j
  induction j with
  | zero => rfl
  | succ j ih =>
    show pk b P L j * 32 + dg b P L j = pk b' P' L j * 32 + dg b' P' L j
    have : dg b P L j = dg b' P' L j := by
      unfold dg
      by_cases q : j < L
      · rw [if_pos q, if_pos q, h j q]
      · rw [if_neg q, if_neg q]
    rw [ih, this]
section
variable {P L : Nat} {b : Nat → Nat} {W K r : Int32}
theorem kw_sm (hL : L ≤ 6) (hall : ∀ i, i < L → 97 ≤ b (P + i) ∧ b (P + i) ≤ 122) (hW : W = nI (pk b P L 6)) (hK : KW W K) (hr : (∃ k : Nat, k < 20 ∧ r = nI k ∧ SmW b P L k) ∨ (r = -1 ∧ ∀ k, k < 20 → ¬ SmW b P L k)) : (∃ k : Nat, k < 20 ∧ r = nI k ∧ K = nI (sw k)) ∨ (r = -1 ∧ K = 34) := by
  have v6 : (32 : Nat) ^ 6 = 1073741824 := by decide
  have lt := pk6_lt (b := b) (P := P) (L := L) (fun i hi => (hall i hi).2) 6
  rcases hr with ⟨k, hk, hrk, hl, hs⟩ | ⟨hr1, hno⟩
  · left
    obtain ⟨e1, e2, e3, e4⟩ := wb_e k hk
    have hbb : ∀ i, i < L → b (P + i) = wb (wof k + i) := fun i hi => by
      have z := hs i hi
      obtain ⟨y1, y2, y3⟩ := e4 i (by omega)
      have := hall i hi
      rw [y3, nI_eqI (by omega) (by omega)] at z
      exact z.symm
    have hWk : wcod.getD (sw k) 0 = W := by
      rw [e3, hW, hl, pk_congr hbb 6]
    refine ⟨k, hk, hrk, ?_⟩
    rcases hK with ⟨w, hw, rfl, q⟩ | ⟨-, q⟩
    · rw [wc_inj w hw (sw k) e1 (by rw [q, hWk])]
    · exact absurd hWk (q (sw k) e1)
  · right
    refine ⟨hr1, ?_⟩
    rcases hK with ⟨w, hw, rfl, q⟩ | ⟨q, -⟩
    · exfalso
      have hk : sw w < 20 := (wb_e w hw).1
      obtain ⟨e1, e2, e3, e4⟩ := wb_e (sw w) hk
      have eww : sw (sw w) = w := (wb_e w hw).2.1
      rw [eww, q, hW] at e3
      have l6 := (w_tb (sw w) hk).2.2.2
      have lt' := pk6_lt (b := wb) (P := wof (sw w)) (L := wln (sw w)) (fun i hi => (e4 i hi).2.1) 6
      rw [nI_eqI (by omega) (by omega)] at e3
      obtain ⟨g1, g2⟩ := pk_inj hL l6 hall (fun i hi => ⟨(e4 i hi).1, (e4 i hi).2.1⟩) e3
      exact hno (sw w) hk ⟨g1.symm, fun i hi => by rw [(e4 i (by omega)).2.2, g2 i hi]⟩
    · exact q
end

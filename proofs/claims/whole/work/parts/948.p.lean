/-! what is read so far, on both sides -/
def TrG (a e : Nat) (U T : Nat → Nat → Int32) : Prop := a ≤ 6 ∧ U e 1 = nI a ∧ T 79 16 = nI a ∧ ∀ g, g < a → T 84 (6 + g) = U (e + 1) g ∧ T 85 (6 + g) = U (e + 2) g ∧ T 86 (6 + g) = U (e + 3) g ∧ T 87 (6 + g) = U (e + 4) g ∧ ∃ q : Nat, q ≤ 98 ∧ U (e + 3) g = nI q
def TrF (f e : Nat) (U T : Nat → Nat → Int32) : Prop := f ≤ 8 ∧ U e 2 = nI f ∧ T 79 17 = nI f ∧ ∀ g, g < f → T 88 (8 + g) = U (e + 5) g ∧ T 89 (8 + g) = U (e + 6) g ∧ T 90 (8 + g) = U (e + 7) g
def TrB (k e : Nat) (U T : Nat → Nat → Int32) : Prop := k ≤ 8 ∧ U e 3 = nI k ∧ T 79 18 = nI k ∧ ∀ g, g < k → T 91 (8 + g) = U (e + 8) g ∧ T 92 (8 + g) = U (e + 9) g
def TrO (e : Nat) (U T : Nat → Nat → Int32) : Prop := T 83 3 = U e 4 ∧ T 83 4 = U e 5 ∧ T 83 5 = U e 6 ∧ (∃ q : Nat, q ≤ 100 ∧ U e 5 = nI q) ∧ (∃ q : Nat, q ≤ 99999 ∧ U e 6 = nI q) ∧ ∀ v, v < 3 → T 82 v = bI (bt (U 36 4) (3 + v) = true)
def TrL (w p e : Nat) (U T : Nat → Nat → Int32) : Prop := p ≤ 64 ∧ ∀ v, v < 3 → v ≠ w → T 93 (3 + v) = U (e + 11) v ∧ (U (e + 11) v = 0 ∨ U (e + 11) v = 1) ∧ (U (e + 11) v = 1 → ∃ x y : Nat, U (e + 12) v = nI x ∧ U (e + 13) v = nI y ∧ T 94 (3 + v) = nI x ∧ T 95 (3 + v) = nI y ∧ y ≤ p ∧ Pg (U (e + 14)) (U (e + 15)) (fun i => T 96 (64 + i)) (fun i => T 98 (64 + i)) (fun i => T 99 (64 + i)) x y)
def TrK (c K e : Nat) (U T : Nat → Nat → Int32) : Prop := U (e + 10) 0 = nI K ∧ T 79 19 = nI K ∧ U 36 6 = nI c ∧ T 79 43 = nI c
def Ls (n : Nat) (b ps : Nat → Nat) (s e a f k p L i : Nat) (u t : wSt) : Prop := Rd n b ps s e u t ∧ Tk ps s i u t ∧ Nf u t ∧ TrG a e u.1 t.1 ∧ TrF f e u.1 t.1 ∧ TrB k e u.1 t.1 ∧ TrO e u.1 t.1 ∧ TrL 3 p e u.1 t.1 ∧ TrK p p e u.1 t.1 ∧ u.1 e 0 = nI L
/-- what a line's reading gives -/
def Pl (n : Nat) (b ps : Nat → Nat) (s e L i : Nat) (u t : wSt) (o : Option (Unit × wSt)) (o' : Option (Int32 × wSt)) : Prop := ∃ (u' : wSt) (r : Int32) (t' : wSt), o = some ((), u') ∧ o' = some (r, t') ∧ uG e u u' ∧ tG t t' ∧ ((r = 1 ∧ ∃ i' a f k p : Nat, i < i' ∧ Ls n b ps s e a f k p L i' u' t') ∨ (r = 0 ∧ Bd u' t'))
theorem Bd_s {u t : wSt} {a j : Nat} {x : Int32} (h : Bd u t) (ha : a ≠ 36) : Bd (w_sI u a j x) t := by
  unfold Bd at h ⊢
  rw [sI_ne _ _ _ _ _ _ (fun z => ha z.symm), sI_ne _ _ _ _ _ _ (fun z => ha z.symm)]
  exact h
section
variable {a f k p w c K e : Nat} {U T U' T' : Nat → Nat → Int32}
theorem TrG_fr (h : TrG a e U T) (hU : ∀ c j, (c = e ∧ j = 1) ∨ (e + 1 ≤ c ∧ c ≤ e + 4) → U' c j = U c j) (hT : ∀ c j, (c = 79 ∧ j = 16) ∨ (84 ≤ c ∧ c ≤ 87) → T' c j = T c j) : TrG a e U' T' := by
  obtain ⟨h1, h2, h3, h4⟩ := h
  refine ⟨h1, by rw [hU e 1 (by omega)]; exact h2, by rw [hT 79 16 (by omega)]; exact h3, fun g hg => ?_⟩
  rw [hU (e + 1) g (by omega), hU (e + 2) g (by omega), hU (e + 3) g (by omega), hU (e + 4) g (by omega), hT 84 _ (by omega), hT 85 _ (by omega), hT 86 _ (by omega), hT 87 _ (by omega)]
  exact h4 g hg
theorem TrF_fr (h : TrF f e U T) (hU : ∀ c j, (c = e ∧ j = 2) ∨ (e + 5 ≤ c ∧ c ≤ e + 7) → U' c j = U c j) (hT : ∀ c j, (c = 79 ∧ j = 17) ∨ (88 ≤ c ∧ c ≤ 90) → T' c j = T c j) : TrF f e U' T' := by
  obtain ⟨h1, h2, h3, h4⟩ := h
  refine ⟨h1, by rw [hU e 2 (by omega)]; exact h2, by rw [hT 79 17 (by omega)]; exact h3, fun g hg => ?_⟩
  rw [hU (e + 5) g (by omega), hU (e + 6) g (by omega), hU (e + 7) g (by omega), hT 88 _ (by omega), hT 89 _ (by omega), hT 90 _ (by omega)]
  exact h4 g hg
theorem TrB_fr (h : TrB k e U T) (hU : ∀ c j, (c = e ∧ j = 3) ∨ (e + 8 ≤ c ∧ c ≤ e + 9) → U' c j = U c j) (hT : ∀ c j, (c = 79 ∧ j = 18) ∨ (91 ≤ c ∧ c ≤ 92) → T' c j = T c j) : TrB k e U' T' := by
  obtain ⟨h1, h2, h3, h4⟩ := h
  refine ⟨h1, by rw [hU e 3 (by omega)]; exact h2, by rw [hT 79 18 (by omega)]; exact h3, fun g hg => ?_⟩
  rw [hU (e + 8) g (by omega), hU (e + 9) g (by omega), hT 91 _ (by omega), hT 92 _ (by omega)]
  exact h4 g hg
theorem TrO_fr (h : TrO e U T) (hU : ∀ c j, (c = e ∧ 4 ≤ j ∧ j ≤ 6) ∨ (c = 36 ∧ j = 4) → U' c j = U c j) (hT : ∀ c j, c = 82 ∨ c = 83 → T' c j = T c j) : TrO e U' T' := by
  obtain ⟨h1, h2, h3, h4, h5, h6⟩ := h
  unfold TrO
  rw [hU e 4 (by omega), hU e 5 (by omega), hU e 6 (by omega), hU 36 4 (by omega), hT 83 3 (by omega), hT 83 4 (by omega), hT 83 5 (by omega)]
  exact ⟨h1, h2, h3, h4, h5, fun v hv => by rw [hT 82 v (by omega)]; exact h6 v hv⟩
theorem Pg_fr {A B C D E A' B' C' D' E' : Nat → Int32} {p q : Nat} (h : Pg A B C D E p q) (hA : ∀ i, i < q → A' i = A i ∧ B' i = B i ∧ C' i = C i ∧ D' i = D i ∧ E' i = E i) : Pg A' B' C' D' E' p q := by
  obtain ⟨h1, h2, st, h3, h4, h5⟩ := h
  refine ⟨h1, h2, st, h3, h4, fun i hi hq => ?_⟩
  obtain ⟨a, b, c, d, f⟩ := hA i hq
  rw [a, b, c, d, f]
  exact h5 i hi hq
theorem TrL_fr (h : TrL w p e U T) (hU : ∀ v, v < 3 → v ≠ w → U' (e + 11) v = U (e + 11) v ∧ U' (e + 12) v = U (e + 12) v ∧ U' (e + 13) v = U (e + 13) v) (hK : ∀ i, i < p → U' (e + 14) i = U (e + 14) i ∧ U' (e + 15) i = U (e + 15) i) (hT : ∀ v, v < 3 → v ≠ w → T' 93 (3 + v) = T 93 (3 + v) ∧ T' 94 (3 + v) = T 94 (3 + v) ∧ T' 95 (3 + v) = T 95 (3 + v)) (hJ : ∀ i, i < p → T' 96 (64 + i) = T 96 (64 + i) ∧ T' 98 (64 + i) = T 98 (64 + i) ∧ T' 99 (64 + i) = T 99 (64 + i)) : TrL w p e U' T' := by
  refine ⟨h.1, fun v hv hw => ?_⟩
  obtain ⟨h1, h2, h3⟩ := h.2 v hv hw
  obtain ⟨a1, a2, a3⟩ := hU v hv hw
  obtain ⟨b1, b2, b3⟩ := hT v hv hw
  rw [a1, a2, a3, b1, b2, b3]
  refine ⟨h1, h2, fun z => ?_⟩
  obtain ⟨x, y, c1, c2, c3, c4, c5, c6⟩ := h3 z
  exact ⟨x, y, c1, c2, c3, c4, c5, Pg_fr c6 (fun i hi => ⟨(hK i (by omega)).1, (hK i (by omega)).2, (hJ i (by omega)).1, (hJ i (by omega)).2.1, (hJ i (by omega)).2.2⟩)⟩
theorem TrL_f2 (h : TrL w p e U T) (hU : ∀ c j, e + 11 ≤ c ∧ c ≤ e + 15 → U' c j = U c j) (hT : ∀ c j, 93 ≤ c ∧ c ≤ 99 → T' c j = T c j) : TrL w p e U' T' :=
  TrL_fr h (fun v _ _ => ⟨hU _ _ (by omega), hU _ _ (by omega), hU _ _ (by omega)⟩) (fun i _ => ⟨hU _ _ (by omega), hU _ _ (by omega)⟩) (fun v _ _ => ⟨hT _ _ (by omega), hT _ _ (by omega), hT _ _ (by omega)⟩) (fun i _ => ⟨hT _ _ (by omega), hT _ _ (by omega), hT _ _ (by omega)⟩)
theorem TrK_fr (h : TrK c K e U T) (hU : ∀ c j, (c = e + 10 ∧ j = 0) ∨ (c = 36 ∧ j = 6) → U' c j = U c j) (hT : ∀ j, j = 19 ∨ j = 43 → T' 79 j = T 79 j) : TrK c K e U' T' := by
  unfold TrK at h ⊢
  rw [hU (e + 10) 0 (by omega), hU 36 6 (by omega), hT 19 (by omega), hT 43 (by omega)]
  exact h
end

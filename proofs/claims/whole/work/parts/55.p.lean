/-! what both hold between two calls -/
def SP (n c : Nat) (U : Nat → Nat → Int32) : Prop := (∀ g, g < n → ∃ s : Nat, s < n ∧ U (c + 1) g = nI s) ∧ (∀ g h, g < n → h < n → U (c + 1) g = U (c + 1) h → g = h)
def Im (n m : Nat) (U T : Nat → Nat → Int32) (D : Int64) : Prop := T 79 76 = U 0 8 ∧ (U 0 8 = 0 ∨ U 0 8 = 1) ∧ (U 0 8 = 1 →
  (∃ s : Nat, s ≤ 9000 ∧ U 50 0 = nI s ∧ T 118 36 = nI s) ∧
  (∀ g, g < n → T 117 g = U 51 g ∧ T 117 (6 + g) = U 53 g ∧ T 117 (12 + g) = bI (bt (U 50 2) g = false) ∧ T 118 g = U 52 g ∧ T 118 (6 + g) = U 54 g) ∧
  (∀ f, f < m → T 118 (12 + f) = U 55 f ∧ T 118 (20 + f) = bI (bt (U 50 3) f = true) ∧ T 118 (28 + f) = U 56 f) ∧
  SP n 50 U ∧ (∀ g, g < n → ∃ h : Nat, h ≤ 101 ∧ U 53 g = nI h ∧ (bt (U 50 2) g = false → h ≤ 98)) ∧
  (∀ g, n ≤ g → bt (U 50 2) g = false) ∧ (∀ f, m ≤ f → bt (U 50 3) f = false) ∧ D = (U 50 1).toInt64 ∧ 0 ≤ U 50 1)
/-- one deed undone: from the later look (S', H', A') to the earlier one -/
def Ue (n : Nat) (e a b : Int32) (S H : Nat → Int32) (A : Int32) (S' H' : Nat → Int32) (A' : Int32) : Prop :=
  (∃ i j : Nat, i < n ∧ j < n ∧ i ≠ j ∧ e = 0 ∧ a = nI i ∧ b = nI j ∧ (∀ g, g < n → S g = if g = i then S' j else if g = j then S' i else S' g) ∧ (∀ g, g < n → H g = H' g) ∧ A = A') ∨
  (∃ i h : Nat, i < n ∧ h ≤ 98 ∧ e = 1 ∧ a = nI i ∧ b = nI h ∧ (∀ g, g < n → S g = S' g) ∧ (∀ g, g < n → H g = if g = i then nI h else H' g) ∧ A = A' ∧ bt A i = false) ∨
  (∃ i h : Nat, i < n ∧ h ≤ 101 ∧ e = 2 ∧ a = nI i ∧ b = nI h ∧ (∀ g, g < n → S g = S' g) ∧ (∀ g, g < n → H g = if g = i then nI h else H' g) ∧ A = A' ||| ((1 : Int32) <<< (nI i &&& 31)))
def Un (n : Nat) (U T : Nat → Nat → Int32) : Prop := ∃ q : Nat, q ≤ 20 ∧ U 66 0 = nI q ∧ T 79 74 = nI q ∧ ∃ (S H : Nat → Nat → Int32) (A : Nat → Int32),
  (∀ g, g < n → S q g = U 44 g ∧ H q g = U 46 g) ∧ A q = U 43 2 ∧
  (∀ j, j < q → ∀ g, g < n → T 116 (18 * j + g) = S j g ∧ T 116 (18 * j + 6 + g) = H j g ∧ T 116 (18 * j + 12 + g) = bI (bt (A j) g = false)) ∧
  (∀ j, j < q → Ue n (U 67 j) (U 68 j) (U 69 j) (S j) (H j) (A j) (S (j + 1)) (H (j + 1)) (A (j + 1)))
def Se (n i : Nat) (U T : Nat → Nat → Int32) : Prop :=
  (U 75 i = -1 ∧ (∃ s : Nat, 1 ≤ s ∧ s ≤ 99 ∧ U 71 i = nI s) ∧ (∃ g : Nat, g < n ∧ U 72 i = nI g) ∧ (U 74 i = 0 ∨ U 74 i = 1) ∧ T 114 (4 * i) = U 71 i ∧ T 114 (4 * i + 1) = U 72 i ∧ T 114 (4 * i + 2) = U 73 i ∧ T 114 (4 * i + 3) = U 74 i) ∨
  (∃ j : Nat, j < i ∧ U 75 i = nI j ∧ T 114 (4 * i) = -1 ∧ T 114 (4 * i + 1) = nI j)
def Sg (n : Nat) (U T : Nat → Nat → Int32) : Prop := ∃ q : Nat, q ≤ 24 ∧ U 70 0 = nI q ∧ T 79 70 = nI q ∧ T 79 71 = U 70 1 ∧ (U 70 1 = -1 ∨ ∃ p : Nat, p ≤ q ∧ U 70 1 = nI p) ∧ ∀ i, i < q → Se n i U T
def Tp (U T : Nat → Nat → Int32) : Prop := ∃ L : Nat, L ≤ 700 ∧ U 0 1 = nI L ∧ T 79 1 = nI L ∧ ∀ i, i < L → ∃ b : Nat, b < 256 ∧ T 80 i = nI b ∧ U 1 i = (nI b).toInt8.toInt32
def Ft (U T : Nat → Nat → Int32) : Prop := T 79 4 = U 36 0 ∧ (U 36 0 = 0 → T 79 5 = -1) ∧ (U 36 0 ≠ 0 → T 79 5 = U 36 1)
def wlet : List Int32 := [103, 117, 101, 115, 116, 32, 102, 114, 117, 105, 116, 32, 98, 105, 116, 101, 32, 110, 101, 97, 114, 32, 99, 111, 108, 100, 32, 115, 101, 101, 100, 32, 108, 97, 119, 32, 112, 114, 97, 105, 115, 101, 32, 100, 97, 114, 101, 32, 115, 104, 111, 99, 107, 32, 97, 110, 100, 32, 111, 114, 32, 110, 111, 116, 32, 109, 97, 110, 110, 101, 114, 32, 104, 117, 110, 103, 101, 114, 32, 119, 105, 116, 32, 115, 119, 101, 101, 116, 32, 109, 97, 114, 107, 115, 32, 116, 104, 101, 114, 101, 32, 115, 116, 101, 112, 32]
def wcod : List Int32 := [257085056, 220898944, 77206528, 475056128, 116789248, 642945024, 404455424, 555787877, 135861248, 646417760, 522190848, 48365568, 486146048, 437729458, 290921650, 781844480, 661821056, 437857888, 679659680, 658685952]
def Wd (U T : Nat → Nat → Int32) : Prop := (∀ i, i < 20 → U 39 i = wcod.getD i 0) ∧ (∀ j, j < 106 → T 81 j = wlet.getD j 0)
def GR (n m k d : Nat) (u t : wSt) : Prop := PL u.2.2 ∧ PM t.2.2 ∧ TC d ∧ u.2.2 0 2 = d + 1 ∧ u.2.2 0 3 = 22 - d ∧ Td n m k d u.1 t.1 ∧ Sc n m 43 0 98 u.1 t.1 ∧ (∃ s : Nat, s ≤ 9000 ∧ u.1 43 0 = nI s) ∧ SP n 43 u.1 ∧ (t.2.1 79 58 = (u.1 43 1).toInt64 ∧ 0 ≤ u.1 43 1) ∧ Im n m u.1 t.1 (t.2.1 79 79) ∧ Un n u.1 t.1 ∧ Sg n u.1 t.1 ∧ Tp u.1 t.1 ∧ Ft u.1 t.1 ∧ Wd u.1 t.1
/-! calls that only look -/
def KC (u u' : wSt) : Prop := (∀ a j, ¬ (a = 64 ∧ j = 8) → u'.2.2 a j = u.2.2 a j) ∧ ∀ a j, (a < 57 ∨ 65 < a) → ¬ (76 ≤ a ∧ a ≤ 78) → u'.1 a j = u.1 a j
def scr (a j : Nat) : Prop := (a = 79 ∧ (j = 2 ∨ j = 48 ∨ (59 ≤ j ∧ j ≤ 68))) ∨ (104 ≤ a ∧ a ≤ 108 ∧ 6 ≤ j) ∨ (109 ≤ a ∧ a ≤ 111 ∧ 8 ≤ j) ∨ (a = 112 ∧ j ≠ 0) ∨ a = 113 ∨ a = 115
def KT (t t' : wSt) : Prop := t'.2.2 = t.2.2 ∧ (∀ a j, ¬ scr a j → t'.1 a j = t.1 a j) ∧ t'.2.1 79 58 = t.2.1 79 58 ∧ t'.2.1 79 79 = t.2.1 79 79
theorem KC_rf (u : wSt) : KC u u := ⟨fun _ _ _ => rfl, fun _ _ _ _ => rfl⟩
theorem KC_tr {u u' u'' : wSt} (h : KC u u') (h' : KC u' u'') : KC u u'' := ⟨fun a j q => (h'.1 a j q).trans (h.1 a j q), fun a j q r => (h'.2 a j q r).trans (h.2 a j q r)⟩
theorem KT_rf (t : wSt) : KT t t := ⟨rfl, fun _ _ _ => rfl, rfl, rfl⟩
theorem KT_tr {t t' t'' : wSt} (h : KT t t') (h' : KT t' t'') : KT t t'' := ⟨h'.1.trans h.1, fun a j q => (h'.2.1 a j q).trans (h.2.1 a j q), h'.2.2.1.trans h.2.2.1, h'.2.2.2.trans h.2.2.2⟩
theorem KC_s {u : wSt} {a j : Nat} {x : Int32} (h : ¬ ((a < 57 ∨ 65 < a) ∧ ¬ (76 ≤ a ∧ a ≤ 78))) : KC u (w_sI u a j x) := ⟨fun _ _ _ => rfl, fun a' j' q r => sI_ne _ _ _ _ _ _ (by rintro rfl; exact h ⟨q, r⟩)⟩
theorem KC_R {u : wSt} {v : Nat} : KC u (w_sR u 64 8 v) := ⟨fun a j q => if_neg q, fun _ _ _ _ => rfl⟩
theorem KT_s {t : wSt} {a j : Nat} {x : Int32} (h : scr a j) : KT t (w_sI t a j x) := ⟨rfl, fun a' j' q => if_neg (by rintro ⟨rfl, rfl⟩; exact q h), rfl, rfl⟩
theorem KC_FC {u u' : wSt} (h : FC 57 u u') : KC u u' := ⟨fun a j _ => by rw [h.1], fun a j q r => h.2 a j (by omega) (by omega)⟩
theorem KC_QC {u u' : wSt} (h : QC u u') : KC u u' := ⟨fun a j _ => by rw [h.1], fun a j q r => h.2 a j (by omega)⟩
theorem KT_FR {t t' : wSt} (h : FR2 1 t t') (h0 : t.1 79 60 = 0) : KT t t' := ⟨h.1, fun a j q => h.2.1 a j (fun r => q (by unfold rsc at r; unfold scr; omega)) (fun r => q (by unfold scr; omega)), h.2.2.2 h0, h.2.2.1⟩
theorem KT_LR {t t' : wSt} (h : LR t t') : KT t t' := ⟨h.1, fun a j q => h.2.1 a j (fun r => q (by unfold scr; omega)), h.2.2 _ _ (by decide) (by decide), h.2.2 _ _ (by decide) (by decide)⟩
theorem PL_fr {R R' : Nat → Nat → Nat} (h : PL R) (hR : ∀ a j, ¬ (a = 64 ∧ j = 8) → ¬ (a = 0 ∧ (j = 2 ∨ j = 3)) → ¬ (a = 36 ∧ j = 3) → R' a j = R a j) : PL R' := by
  unfold PL at h ⊢
  simp (disch := decide) only [hR]
  exact h
theorem SP_fr {n c : Nat} {U U' : Nat → Nat → Int32} (h : SP n c U) (hU : ∀ g, g < n → U' (c + 1) g = U (c + 1) g) : SP n c U' :=
  ⟨fun g hg => by rw [hU g hg]; exact h.1 g hg, fun g i hg hi e => h.2 g i hg hi (by rw [hU g hg, hU i hi] at e; exact e)⟩
theorem GR_fr {n m k d : Nat} {u t u' t' : wSt} (h : GR n m k d u t) (hu : KC u u') (ht : KT t t') : GR n m k d u' t' := by
  obtain ⟨hp, hm, hd, h2, h3, hT, hS, hs, hP, hN, hI, hU, hG, hE, hF, hW⟩ := h
  have d1 := TC_le hd
  have U1 : ∀ a, (a < 57 ∨ 65 < a) → ¬ (76 ≤ a ∧ a ≤ 78) → u'.1 a = u.1 a := fun a q r => funext (fun j => hu.2 a j q r)
  have tk : ∀ a j, ¬ scr a j → t'.1 a j = t.1 a j := ht.2.1
  have T1 : ∀ a, (a < 104 ∨ a = 114 ∨ 115 < a) → a ≠ 79 → t'.1 a = t.1 a := fun a q r => funext (fun j => tk a j (by unfold scr; omega))
  have T79 : ∀ j, ¬ (j = 2 ∨ j = 48 ∨ (59 ≤ j ∧ j ≤ 68)) → t'.1 79 j = t.1 79 j := fun j q => tk 79 j (by unfold scr; omega)
  refine ⟨PL_fr hp (fun a j q _ _ => hu.1 a j q), by rw [ht.1]; exact hm, hd, by rw [hu.1 0 2 (by omega)]; exact h2, by rw [hu.1 0 3 (by omega)]; exact h3, ?_, ?_, ?_, ?_, ?_, ?_, ?_, ?_, ?_, ?_, ?_⟩
  · exact Td_fr hT (fun a j q r => hu.2 a j (by omega) (by omega)) (fun j q r => T79 j (by omega)) (fun a j q r => tk a j (by unfold scr; omega))
  · exact Sc_fr hT.1.1 hT.1.2.1 hS (fun a j q r _ => hu.2 a j (by omega) (by omega)) (fun a j q r q1 q2 q3 => tk a j (by unfold scr; omega))
  · rw [hu.2 43 0 (by omega) (by omega)]
    exact hs
  · exact SP_fr hP (fun g _ => hu.2 _ _ (by omega) (by omega))
  · rw [hu.2 43 1 (by omega) (by omega), ht.2.2.1]
    exact hN
  · rw [ht.2.2.2]
    unfold Im at hI ⊢
    unfold SP at hI ⊢
    simp (disch := omega) only [U1, T1, T79]
    exact hI
  · unfold Un at hU ⊢
    simp (disch := omega) only [U1, T1, T79]
    exact hU
  · unfold Sg at hG ⊢
    unfold Se at hG ⊢
    simp (disch := omega) only [U1, T1, T79]
    exact hG
  · unfold Tp at hE ⊢
    simp (disch := omega) only [U1, T1, T79]
    exact hE
  · unfold Ft at hF ⊢
    simp (disch := omega) only [U1, T1, T79]
    exact hF
  · unfold Wd at hW ⊢
    simp (disch := omega) only [U1, T1, T79]
    exact hW

/-! a law under way: frames, pushes, leaves -/
def lC (e w p a j : Nat) : Prop := (a = 36 ∧ (j ≤ 1 ∨ (6 ≤ j ∧ j ≤ 8))) ∨ a = 37 ∨ (a = 38 ∧ (j ≤ 2 ∨ j = 7)) ∨ (a = e + 10 ∧ j = 0) ∨ (a = e + 13 ∧ j = w) ∨ ((a = e + 14 ∨ a = e + 15) ∧ p ≤ j)
def lT (p a j : Nat) : Prop := (a = 79 ∧ ((4 ≤ j ∧ j ≤ 5) ∨ (7 ≤ j ∧ j ≤ 11) ∨ j = 19 ∨ (40 ≤ j ∧ j ≤ 45))) ∨ a = 100 ∨ a = 101 ∨ ((a = 96 ∨ a = 98 ∨ a = 99) ∧ 64 + p ≤ j)
def uL (e w p : Nat) (u u' : wSt) : Prop := u'.2 = u.2 ∧ ∀ a j, ¬ lC e w p a j → u'.1 a j = u.1 a j
def tL (p : Nat) (t t' : wSt) : Prop := t'.2 = t.2 ∧ ∀ a j, ¬ lT p a j → t'.1 a j = t.1 a j
def W1 (S L : List Nat) (t : wSt) : Prop := L.length = nBi S ∧ t.1 79 44 = 1 ∧ t.1 79 45 = bI (rk (S.headD 0) < 4)
def W0 (p K : Nat) (S L : List Nat) (t : wSt) : Prop := L.length = nBi S + 1 ∧ t.1 79 44 = 0 ∧ (∃ r, L = (K - 1) :: r) ∧ p < K
def Lx (n : Nat) (b ps : Nat → Nat) (s e i w p c K : Nat) (S L : List Nat) (u t : wSt) : Prop := Rd n b ps s e u t ∧ Tk ps s i u t ∧ Nf u t ∧ Lg e w p c K S L u t
def Bx (e w p : Nat) (u : wSt) : Prop := w < 3 ∧ u.1 36 5 = nI w ∧ (∃ m : Nat, m ≤ 72 ∧ u.1 36 8 = nI m) ∧ (∃ K : Nat, p ≤ K ∧ K ≤ 64 ∧ u.1 (e + 10) 0 = nI K)
def Lp (n : Nat) (b ps : Nat → Nat) (s e i w p : Nat) (u t : wSt) (o o' : Option (Int32 × wSt)) : Prop := ∃ (v : Int32) (u' : wSt) (r : Int32) (t' : wSt), o = some (v, u') ∧ o' = some (r, t') ∧ uL e w p u u' ∧ tL p t t' ∧ ((r = 1 ∧ ∃ (c K : Nat) (S L : List Nat), Lx n b ps s e (i + 1) w p c K S L u' t' ∧ ((v = 1 ∧ W1 S L t') ∨ (v = 0 ∧ W0 p K S L t'))) ∨ (r = 0 ∧ Bd u' t' ∧ Bx e w p u'))
section
variable {n s e i w p c K c' x m : Nat} {b ps : Nat → Nat} {S L : List Nat} {u t u' t' v : wSt} {y : Int32}
theorem uL_rf : uL e w p u u := ⟨rfl, fun _ _ _ => rfl⟩
theorem tL_rf : tL p t t := ⟨rfl, fun _ _ _ => rfl⟩
theorem uL_tr (h : uL e w p u v) (h' : uL e w p v u') : uL e w p u u' := ⟨h'.1.trans h.1, fun a j q => (h'.2 a j q).trans (h.2 a j q)⟩
theorem tL_tr (h : tL p t v) (h' : tL p v t') : tL p t t' := ⟨h'.1.trans h.1, fun a j q => (h'.2 a j q).trans (h.2 a j q)⟩
theorem uL_s {a j : Nat} (h : uL e w p u v) (q : lC e w p a j) : uL e w p u (w_sI v a j y) := ⟨h.1, fun a' j' r => by
  rw [show (w_sI v a j y).1 a' j' = v.1 a' j' from if_neg (by rintro ⟨rfl, rfl⟩; exact r q)]
  exact h.2 a' j' r⟩
theorem tL_s {a j : Nat} (h : tL p t v) (q : lT p a j) : tL p t (w_sI v a j y) := ⟨h.1, fun a' j' r => by
  rw [show (w_sI v a j y).1 a' j' = v.1 a' j' from if_neg (by rintro ⟨rfl, rfl⟩; exact r q)]
  exact h.2 a' j' r⟩
theorem uL_G (h : uL e w p u u') : uG e u u' := ⟨h.1, fun a j q => h.2 a j (fun r => q (by unfold lC at r; unfold rC; omega))⟩
theorem tL_G (h : tL p t t') : tG t t' := ⟨h.1, fun a j q => h.2 a j (fun r => q (by unfold lT at r; unfold rT; omega))⟩
theorem uL_F (h : uF u u') : uL e w p u u' := ⟨h.1, fun a j q => h.2 a j (fun r => q (by unfold lC; omega)) (fun r => q (by unfold lC; omega))⟩
theorem tL_F (h : tF t t') : tL p t t' := ⟨h.1, fun a j q => h.2 a j (fun r => q (by unfold lT; omega))⟩
theorem uL_B (h : uB e w p u u') : uL e w p u u' := ⟨h.1, fun a j q => h.2 a j (fun r => q (by unfold lC; omega)) (fun r => q (by unfold lC; omega)) (fun r => q (by unfold lC; omega)) (fun r => q (by unfold lC; omega))⟩
theorem tL_B (h : tB p t t') : tL p t t' := ⟨h.1, fun a j q => h.2 a j (fun r => q (by unfold lT; omega)) (fun r => q (by unfold lT; omega)) (fun r => q (by unfold lT; omega))⟩
theorem uL_t (h : u'.2 = u.2) (h2 : ∀ a j, ¬ (a = 38 ∧ (j ≤ 2 ∨ j = 7)) → u'.1 a j = u.1 a j) : uL e w p u u' := ⟨h, fun a j q => h2 a j (fun r => q (by unfold lC; omega))⟩
theorem tL_t (h : t'.2 = t.2) (h2 : ∀ a j, ¬ (a = 79 ∧ 7 ≤ j ∧ j ≤ 10) → t'.1 a j = t.1 a j) : tL p t t' := ⟨h, fun a j q => h2 a j (fun r => q (by unfold lT; omega))⟩
theorem uL_ad {X Y : Int32} (h : uL e w p u v) (hK : p ≤ K) : uL e w p u (ad v e w K X Y) := ⟨h.1, fun a j r => by
  rw [ad_n (fun z => r (by unfold lC; omega)) (fun z => r (by unfold lC; omega)) (fun z => r (by unfold lC; omega))]
  exact h.2 a j r⟩
theorem tL_gw {A B C : Int32} {h' : Nat} (h : tL p t v) (hK : p ≤ K) : tL p t (gw v K h' A B C) := ⟨h.1, fun a j r => by
  rw [gw_n (fun z => r (by unfold lT; omega)) (fun z => r (by unfold lT; omega)) (fun z => r (by unfold lT; omega))]
  exact h.2 a j r⟩
theorem Bd_f (h : Bd u t) (h0 : u'.1 36 0 = u.1 36 0) (h1 : u'.1 36 1 = u.1 36 1) : Bd u' t := by
  unfold Bd at h ⊢
  rw [h0, h1]
  exact h
theorem Wr_hd {U T : Nat → Nat → Int32} (h : Wr S U T) : okS (S.headD 0) := by
  cases S with
  | nil => exact Or.inl rfl
  | cons x r => exact h.1
theorem Lg_fr (hd : TC e) (h : Lg e w p c K S L u t) (hU : ∀ a j, a ≠ 38 → ¬ (a = 36 ∧ j ≤ 1) → u'.1 a j = u.1 a j) (hT : ∀ a j, ¬ (a = 79 ∧ ((4 ≤ j ∧ j ≤ 11) ∨ 44 ≤ j)) → t'.1 a j = t.1 a j) : Lg e w p c K S L u' t' := by
  have d1 := TC_le hd
  obtain ⟨⟨k1, k2, k3, k4⟩, ⟨w3, h5⟩, ⟨s1, s2, s3⟩, ⟨l1, l2⟩, ⟨c1, c2⟩, ⟨q1, q2, q3⟩, hP, ⟨a1, a2, a3, a4, a5⟩⟩ := h
  refine ⟨⟨?_, ?_, ?_, ?_⟩, ⟨w3, ?_⟩, ⟨?_, ?_, ?_⟩, ⟨?_, ?_⟩, ⟨c1, c2⟩, ⟨?_, ?_, q3⟩, ?_, ⟨?_, ?_, ?_, ?_, ?_⟩⟩
  · rw [hU _ _ (by omega) (by omega)]; exact k1
  · rw [hT _ _ (by omega)]; exact k2
  · rw [hU _ _ (by omega) (by omega)]; exact k3
  · rw [hT _ _ (by omega)]; exact k4
  · rw [hU _ _ (by omega) (by omega)]; exact h5
  · rw [hU _ _ (by omega) (by omega)]; exact s1
  · rw [hT _ _ (by omega)]; exact s2
  · exact Wr_fr S s3 (fun j hj => ⟨hU _ _ (by omega) (by omega), hT _ _ (by omega)⟩)
  · rw [hT _ _ (by omega)]; exact l1
  · exact Hr_fr L l2 (fun j hj => hT _ _ (by omega))
  · rw [hU _ _ (by omega) (by omega)]; exact q1
  · rw [hT _ _ (by omega)]; exact q2
  · exact LgP_fr hP (fun i hi => ⟨hU _ _ (by omega) (by omega), hU _ _ (by omega) (by omega)⟩) (fun i hi => ⟨hT _ _ (by omega), hT _ _ (by omega), hT _ _ (by omega)⟩)
  · rw [hU _ _ (by omega) (by omega)]; exact a1
  · rw [hT _ _ (by omega)]; exact a2
  · rw [hU _ _ (by omega) (by omega)]; exact a3
  · rw [hU _ _ (by omega) (by omega)]; exact a4
  · rw [hT _ _ (by omega)]; exact a5
theorem Lg_push (hd : TC e) (h : Lg e w p c K S L u t) (hx : okS x) (hc : K + nOp (x :: S) = c') (hc' : c' ≤ 64) (hq : nPa (x :: S) ≤ 8) (u8 : u'.1 36 8 = nI (S.length + 1)) (t40 : t'.1 79 40 = nI (S.length + 1)) (u37 : u'.1 37 S.length = nI (kc x)) (t100 : t'.1 100 S.length = nI x) (u6 : u'.1 36 6 = nI c') (t43 : t'.1 79 43 = nI c') (u7 : u'.1 36 7 = nI (nPa (x :: S))) (t42 : t'.1 79 42 = nI (nPa (x :: S))) (hU : ∀ a j, ¬ (a = 36 ∧ (j ≤ 1 ∨ (6 ≤ j ∧ j ≤ 8))) → ¬ (a = 37 ∧ j = S.length) → a ≠ 38 → u'.1 a j = u.1 a j) (hT : ∀ a j, ¬ (a = 79 ∧ ((4 ≤ j ∧ j ≤ 11) ∨ j = 40 ∨ (42 ≤ j ∧ j ≤ 45))) → ¬ (a = 100 ∧ j = S.length) → t'.1 a j = t.1 a j) : Lg e w p c' K (x :: S) L u' t' := by
  have d1 := TC_le hd
  obtain ⟨⟨k1, k2, k3, k4⟩, ⟨w3, h5⟩, ⟨s1, s2, s3⟩, ⟨l1, l2⟩, ⟨c1, c2⟩, ⟨q1, q2, q3⟩, hP, ⟨a1, a2, a3, a4, a5⟩⟩ := h
  refine ⟨⟨?_, ?_, u6, t43⟩, ⟨w3, ?_⟩, ⟨u8, t40, hx, u37, t100, ?_⟩, ⟨?_, ?_⟩, ⟨hc, hc'⟩, ⟨u7, t42, hq⟩, ?_, ⟨?_, ?_, ?_, ?_, ?_⟩⟩
  · rw [hU _ _ (by omega) (by omega) (by omega)]; exact k1
  · rw [hT _ _ (by omega) (by omega)]; exact k2
  · rw [hU _ _ (by omega) (by omega) (by omega)]; exact h5
  · exact Wr_fr S s3 (fun j hj => ⟨hU _ _ (by omega) (by omega) (by omega), hT _ _ (by omega) (by omega)⟩)
  · rw [hT _ _ (by omega) (by omega)]; exact l1
  · exact Hr_fr L l2 (fun j hj => hT _ _ (by omega) (by omega))
  · exact LgP_fr hP (fun i hi => ⟨hU _ _ (by omega) (by omega) (by omega), hU _ _ (by omega) (by omega) (by omega)⟩) (fun i hi => ⟨hT _ _ (by omega) (by omega), hT _ _ (by omega) (by omega), hT _ _ (by omega) (by omega)⟩)
  · rw [hU _ _ (by omega) (by omega) (by omega)]; exact a1
  · rw [hT _ _ (by omega) (by omega)]; exact a2
  · rw [hU _ _ (by omega) (by omega) (by omega)]; exact a3
  · rw [hU _ _ (by omega) (by omega) (by omega)]; exact a4
  · rw [hT _ _ (by omega) (by omega)]; exact a5
theorem Lg_leaf {A B C X Y : Int32} (hd : TC e) (h : Lg e w p c K S L u t) (hc : c < 64) (u14 : u'.1 (e + 14) K = X) (u15 : u'.1 (e + 15) K = Y) (u10 : u'.1 (e + 10) 0 = nI (K + 1)) (u13 : u'.1 (e + 13) w = nI (K + 1)) (u6 : u'.1 36 6 = nI (c + 1)) (t96 : t'.1 96 (64 + K) = A) (t98 : t'.1 98 (64 + K) = B) (t99 : t'.1 99 (64 + K) = C) (t101 : t'.1 101 L.length = nI K) (t41 : t'.1 79 41 = nI (L.length + 1)) (t19 : t'.1 79 19 = nI (K + 1)) (t43 : t'.1 79 43 = nI (c + 1)) (hN : Nd X Y A B C K L (K :: L)) (hU : ∀ a j, ¬ ((a = e + 14 ∨ a = e + 15) ∧ j = K) → ¬ (a = e + 10 ∧ j = 0) → ¬ (a = e + 13 ∧ j = w) → ¬ (a = 36 ∧ (j ≤ 1 ∨ j = 6)) → a ≠ 38 → u'.1 a j = u.1 a j) (hT : ∀ a j, ¬ ((a = 96 ∨ a = 98 ∨ a = 99) ∧ j = 64 + K) → ¬ (a = 101 ∧ j = L.length) → ¬ (a = 79 ∧ ((4 ≤ j ∧ j ≤ 11) ∨ j = 19 ∨ j = 41 ∨ 43 ≤ j)) → t'.1 a j = t.1 a j) : Lg e w p (c + 1) (K + 1) S (K :: L) u' t' := by
  have d1 := TC_le hd
  obtain ⟨⟨k1, k2, k3, k4⟩, ⟨w3, h5⟩, ⟨s1, s2, s3⟩, ⟨l1, l2⟩, ⟨c1, c2⟩, ⟨q1, q2, q3⟩, hP, ⟨a1, a2, a3, a4, a5⟩⟩ := h
  refine ⟨⟨u10, t19, u6, t43⟩, ⟨w3, ?_⟩, ⟨?_, ?_, ?_⟩, ⟨t41, t101, ?_⟩, ⟨by omega, by omega⟩, ⟨?_, ?_, q3⟩, ?_, ⟨?_, ?_, ?_, u13, ?_⟩⟩
  · rw [hU _ _ (by omega) (by omega) (by omega) (by omega) (by omega)]; exact h5
  · rw [hU _ _ (by omega) (by omega) (by omega) (by omega) (by omega)]; exact s1
  · rw [hT _ _ (by omega) (by omega) (by omega)]; exact s2
  · exact Wr_fr S s3 (fun j hj => ⟨hU _ _ (by omega) (by omega) (by omega) (by omega) (by omega), hT _ _ (by omega) (by omega) (by omega)⟩)
  · exact Hr_fr L l2 (fun j hj => hT _ _ (by omega) (by omega) (by omega))
  · rw [hU _ _ (by omega) (by omega) (by omega) (by omega) (by omega)]; exact q1
  · rw [hT _ _ (by omega) (by omega) (by omega)]; exact q2
  · refine LgP_add hP (fun i hi => ⟨hU _ _ (by omega) (by omega) (by omega) (by omega) (by omega), hU _ _ (by omega) (by omega) (by omega) (by omega) (by omega)⟩) (fun i hi => ⟨hT _ _ (by omega) (by omega) (by omega), hT _ _ (by omega) (by omega) (by omega), hT _ _ (by omega) (by omega) (by omega)⟩) ?_
    rw [u14, u15, t96, t98, t99]
    exact hN
  · rw [hU _ _ (by omega) (by omega) (by omega) (by omega) (by omega)]; exact a1
  · rw [hT _ _ (by omega) (by omega) (by omega)]; exact a2
  · rw [hU _ _ (by omega) (by omega) (by omega) (by omega) (by omega)]; exact a3
  · rw [hT _ _ (by omega) (by omega) (by omega)]; exact a5
/-- class: a number taken -/
theorem tn_g {lo hi k : Nat} (hp : PL u.2.2) (h0 : u.1 36 0 = 0) (h33 : u.1 38 0 = 33) (hv : u.1 38 2 = nI k) (hk : k ≤ 1000000) (l1 : lo ≤ k) (l2 : k ≤ hi) (l3 : hi ≤ 99999) (hn : F_X5_next 38 u = some ((), u')) : F_X2_takeNumber 36 (nI lo) (nI hi) u = some (nI k, u') := by
  have ec1 : (nI k < nI lo) = (k < lo) := nI_ltE (by omega) (by omega)
  have ec2 : (nI k ≤ nI hi) = (k ≤ hi) := nI_leE (by omega) (by omega)
  unfold F_X2_takeNumber F_X2_takeNumber_j38 F_X2_takeNumber_j43
  rw [p36_2 hp, wR_38, wB_eq, wR_38, if_pos h33, hv, if_neg (fun z => absurd (ec1.mp z) (by omega)), if_pos (ec2.mpr l2), wJ_inr, wJ_inl, goon_c hp h0 hn, wC_s]
theorem tn_x {hi k : Nat} (hp : PL u.2.2) (h0 : u.1 36 0 = 0) (h33 : u.1 38 0 = 33) (hv : u.1 38 2 = nI k) (hk : k ≤ 1000000) (l2 : hi < k) : F_X2_takeNumber 36 (nI 0) (nI hi) u = some (nI k, bl u 2) := by
  have ec1 : (nI k < nI 0) = (k < 0) := nI_ltE (by omega) (by omega)
  have ec2 : (nI k ≤ nI hi) = (k ≤ hi) := nI_leE (by omega) (by omega)
  unfold F_X2_takeNumber F_X2_takeNumber_j38 F_X2_takeNumber_j43
  rw [p36_2 hp, wR_38, wB_eq, wR_38, if_pos h33, hv, if_neg (fun z => absurd (ec1.mp z) (by omega)), if_neg (fun z => absurd (ec2.mp z) (by omega)), wJ_inl, blame_c hp h0, wC_s, wJ_inl, goon_b (bl_ne (by decide)), wC_s]
theorem nm_t {k : Nat} {W : Int32} (hN : KN k W (t.1 79 8) (t.1 79 9)) : F_X9_nameMet 79 t = some (if 13 ≤ k ∧ k ≤ 19 then nI (k - 13) else -1) := by
  unfold F_X9_nameMet
  by_cases h20 : k < 20
  · obtain ⟨e1, e2⟩ := hN.2.1 h20
    have : ∀ k : Fin 20, (13 ≤ k.1 → sw k.1 = k.1) ∧ (k.1 < 13 → sw k.1 < 13) := by decide
    have z := this ⟨k, h20⟩
    dsimp only at z
    have s20 := sw_sw h20
    have ec : (nI (sw k) < (13 : Int32)) = (sw k < 13) := nI_ltE (a := sw k) (b := 13) (by omega) (by omega)
    rw [if_pos e1, e2]
    by_cases h13 : 13 ≤ k
    · rw [if_neg (fun y => absurd (ec.mp y) (by rw [z.1 h13]; omega)), if_pos ⟨h13, by omega⟩, z.1 h13]
      have : nI k - (13 : Int32) = nI (k - 13) := nI_sub (a := k) (b := 13) (by omega)
      rw [this]
    · rw [if_pos (ec.mpr (z.2 (by omega))), if_neg (by omega)]
  · rw [if_neg (KN_1 hN (by omega)), if_neg (by omega)]
/-- class: how a value begins -/
theorem rt_c {k : Nat} (hp : PL u.2.2) (hk0 : u.1 38 0 = nI k) (k36 : k ≤ 36) : F_X2_readTowardsValue 36 u = F_X2_readTowardsValue_j25 36 u (nI k) (if 13 ≤ k ∧ k ≤ 19 then 1 else 0) := by
  have e13 : (nI k < (13 : Int32)) = (k < 13) := nI_ltE (a := k) (b := 13) (by omega) (by omega)
  have e19 : ((19 : Int32) < nI k) = (19 < k) := nI_ltE (a := 19) (b := k) (by omega) (by omega)
  unfold F_X2_readTowardsValue F_X2_readTowardsValue_j24
  rw [p36_2 hp, wR_38, wB_eq, hk0]
  by_cases h13 : k < 13
  · rw [if_pos (e13.mpr h13), wJ_inl, wJ_inl, if_neg (show ¬ (13 ≤ k ∧ k ≤ 19) by omega)]
  · rw [if_neg (fun z => absurd (e13.mp z) h13)]
    by_cases h19 : 19 < k
    · rw [if_pos (e19.mpr h19), wJ_inl, wJ_inl, if_neg (show ¬ (13 ≤ k ∧ k ≤ 19) by omega)]
    · rw [if_neg (fun z => absurd (e19.mp z) h19), wJ_inr, wJ_inl, if_pos (show 13 ≤ k ∧ k ≤ 19 by omega)]
end

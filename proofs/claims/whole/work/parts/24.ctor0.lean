/-! constructors: a world that grows -/
def wHr (D : va_G) (κ : Nat → ClassId) (ρ : Nat → Nat) (lo n : Nat) (A : Nat → Prop) (H0 H : Heap) (locs : List Loc) (σ : wSt) : Prop :=
  va_P D vwCl (w_wr κ ρ lo n σ) H ∧ va_D A (w_wr κ ρ lo n σ) ∧ va_S A H0 H locs ∧ ∀ q, H0.size ≤ q → A q
def wZr (b : Nat) (σ : wSt) : Prop := ∀ c k, b ≤ c → σ.1 c k = 0 ∧ σ.2.1 c k = 0 ∧ σ.2.2 c k = 0
def wCr (p : Program) (m : MethodId) (c : Code) (cc : ByteArray) (nL : Nat) (s : State) (args : Array Value) (own : String) (D : va_G) (κ : Nat → ClassId) : Prop :=
  CallFix p m c cc nL s args lw_tb own ∧ va_K D vwCl (w_ty κ) s
theorem wZr_I {b a k : Nat} {v : Int32} {σ : wSt} (h : wZr b σ) (ha : a < b) : wZr b (w_sI σ a k v) := fun c j hc => by
  obtain ⟨h1, h2, h3⟩ := h c j hc
  refine ⟨?_, h2, h3⟩
  show (if c = a ∧ j = k then v else σ.1 c j) = 0
  rw [if_neg (by omega), h1]
theorem wZr_L {b a k : Nat} {v : Int64} {σ : wSt} (h : wZr b σ) (ha : a < b) : wZr b (w_sL σ a k v) := fun c j hc => by
  obtain ⟨h1, h2, h3⟩ := h c j hc
  refine ⟨h1, ?_, h3⟩
  show (if c = a ∧ j = k then v else σ.2.1 c j) = 0
  rw [if_neg (by omega), h2]
theorem wZr_R {b a k v : Nat} {σ : wSt} (h : wZr b σ) (ha : a < b) : wZr b (w_sR σ a k v) := fun c j hc => by
  obtain ⟨h1, h2, h3⟩ := h c j hc
  refine ⟨h1, h2, ?_⟩
  show (if c = a ∧ j = k then v else σ.2.2 c j) = 0
  rw [if_neg (by omega), h3]
theorem wZr_up {b : Nat} {σ : wSt} (h : wZr b σ) : wZr (b + 1) σ := fun c j hc => h c j (by omega)
def w_dv (t : Nat) : Value := match t with
  | 0 => .int 0
  | 1 => .long 0
  | _ => .null
theorem w_v0 {ρ : Nat → Nat} {b c k t : Nat} {σ : wSt} (h : wZr b σ) (hc : b ≤ c) : w_v ρ σ c k t = w_dv t := by
  obtain ⟨h1, h2, h3⟩ := h c k hc
  rcases t with _ | _ | t
  · show Value.int (σ.1 c k) = Value.int 0
    rw [h1]
  · show Value.long (σ.2.1 c k) = Value.long 0
    rw [h2]
  · show w_rv ρ (σ.2.2 c k) = Value.null
    rw [h3]
    rfl
/-- the world with one cell more -/
theorem w_grow {κ : Nat → ClassId} {ρ ρ' : Nat → Nat} {lo n q : Nat} {σ : wSt} {e : va_E} (hρ : ∀ c, c ≠ lo + n → ρ' c = ρ c) (hq : ρ' (lo + n) = q) (he : e = w_ce κ ρ' σ (lo + n)) (hr : ∀ c, c < lo + n → w_ce κ ρ' σ c = w_ce κ ρ σ c) : w_wr κ ρ lo n σ ++ [(q, e)] = w_wr κ ρ' lo (n + 1) σ := by
  apply List.ext_getElem?
  intro i
  by_cases hi : i < n
  · rw [List.getElem?_append_left (by simp [w_wr, hi]), w_wr_ix hi, w_wr_ix (by omega), hρ (lo + i) (by omega), hr (lo + i) (by omega)]
  · have hlen : (w_wr κ ρ lo n σ).length = n := by simp [w_wr]
    rw [List.getElem?_append_right (by omega), hlen]
    by_cases hi2 : i = n
    · subst hi2
      rw [Nat.sub_self, w_wr_ix (by omega), hq, he]
      rfl
    · rw [w_wr_none (by omega), List.getElem?_eq_none]
      show 1 ≤ i - n
      omega
/-- a state whose references point below b -/
def wPt (b : Nat) (σ : wSt) : Prop := ∀ c k, σ.2.2 c k ≤ b
theorem w_ce_rho {κ : Nat → ClassId} {ρ ρ' : Nat → Nat} {b c : Nat} {σ : wSt} (h : wPt b σ) (hρ : ∀ q, q < b → ρ' q = ρ q) : w_ce κ ρ' σ c = w_ce κ ρ σ c := by
  have h1 : ∀ k t, w_v ρ' σ c k t = w_v ρ σ c k t := by
    intro k t
    unfold w_v
    split
    · rfl
    · rfl
    · have h2 := h c k
      unfold w_rv
      split
      · rfl
      · rename_i j hj
        rw [hρ j (by omega)]
  unfold w_ce w_fs
  simp only [h1]
theorem wPt_I {b a k : Nat} {v : Int32} {σ : wSt} (h : wPt b σ) : wPt b (w_sI σ a k v) := h
theorem wPt_L {b a k : Nat} {v : Int64} {σ : wSt} (h : wPt b σ) : wPt b (w_sL σ a k v) := h
theorem wPt_R {b a k v : Nat} {σ : wSt} (h : wPt b σ) (hv : v ≤ b) : wPt b (w_sR σ a k v) := fun c j => by
  show (if c = a ∧ j = k then v else σ.2.2 c j) ≤ b
  by_cases hc : c = a ∧ j = k
  · rw [if_pos hc]; exact hv
  · rw [if_neg hc]; exact h c j
theorem wPt_up {b : Nat} {σ : wSt} (h : wPt b σ) : wPt (b + 1) σ := fun c j => Nat.le_succ_of_le (h c j)
section WR
variable {p : Program} {l : Launch} {e : Env} {R : Room} {s : State} {m : MethodId} {args : Array Value} {below : List Frame} {meth : Method} {c : Code} {H : Heap} {locs : List Loc} {cells slots : Nat} {Q : State → Prop}
variable {cc : ByteArray} {pc nL : Nat} {ls : Array Slot} {rest : List Value} {D : va_G} {κ : Nat → ClassId} {ρ : Nat → Nat} {lo n : Nat} {A : Nat → Prop} {a : Nat} {H0 : Heap} {own : String} {σ : wSt} {β : Type} {z : β}
theorem wr_get {ci idx k t : Nat} (hC : wCr p m c cc nL s args own D κ) (hH : wHr D κ ρ lo n A H0 H locs σ) (hs : (w_sh a).1 = ci) (hin : lo ≤ a ∧ a < lo + n) (hf : wFG own idx ci k t) (hdg : decode cc pc = .ok (.getfield idx, 3))
    (kk : W p l e R s m args below meth c H locs cells slots Q (F0 m (pc + 3) ls (w_v ρ σ a k t :: rest))) : W p l e R s m args below meth c H locs cells slots Q (F0 m pc ls (.ref (ρ a) :: rest)) := by
  obtain ⟨⟨hx, hb, hml, hown, hts⟩, hK⟩ := hC
  obtain ⟨C, T, N, h1, rfl, h3, h4, h5, h6, h7⟩ := hf
  have he := w_wr_at (κ := κ) (ρ := ρ) (σ := σ) hin
  rw [w_ce_obj hs h4] at he
  subst h5
  exact va_get hx hb hts h7 hown hK hH.1 (a - lo) he h1 k h3 (hts _ h6) (fun _ h9 => h9) (w_fs_at h3) hdg kk
theorem wr_put {ci idx k t : Nat} {ty : FieldType} {fin : Bool} {σ' : wSt} (hC : wCr p m c cc nL s args own D κ) (hH : wHr D κ ρ lo n A H0 H locs σ) (hs : (w_sh a).1 = ci) (hin : lo ≤ a ∧ a < lo + n) (hf : wFG own idx ci k t) (hp : wFP ci k ty fin) (hfin : fin = false ∨ (meth.name = "<init>" ∧ ∃ q : vw_C, vwCl[ci]? = some q ∧ (q.2.1 k).1 = own)) (hn : narrow ty (w_v ρ σ' a k t) = w_v ρ σ' a k t) (hfit : fits ty (w_v ρ σ' a k t) = true)
    (e1 : ∀ b, b ≠ a → w_ce κ ρ σ' b = w_ce κ ρ σ b) (e2 : ∀ j, j ≠ k → w_v ρ σ' a j (w_ft ci j) = w_v ρ σ a j (w_ft ci j)) (hdg : decode cc pc = .ok (.putfield idx, 3))
    (kk : ∀ (H1 : Heap) (locs1 : List Loc), wHr D κ ρ lo n A H0 H1 locs1 σ' → W p l e R s m args below meth c H1 locs1 cells slots Q (F0 m (pc + 3) ls rest)) : W p l e R s m args below meth c H locs cells slots Q (F0 m pc ls (w_v ρ σ' a k t :: .ref (ρ a) :: rest)) := by
  obtain ⟨⟨hx, hb, hml, hown, hts⟩, hK⟩ := hC
  obtain ⟨C, T, N, h1, rfl, h3, h4, h5, h6, h7⟩ := hf
  obtain ⟨C', T', N', ty0, g1, g2, g3, g4, g5⟩ := hp
  have he := w_wr_at (κ := κ) (ρ := ρ) (σ := σ) hin
  rw [w_ce_obj hs h4] at he
  subst h5
  have ge := Option.some.inj (h1.symm.trans g1)
  cases ge
  have hset : (w_wr κ ρ lo n σ).set (a - lo) (ρ a, .inr (ci, (w_fs ρ σ a ci).set k (w_v ρ σ' a k (w_ft ci k)))) = w_wr κ ρ lo n σ' := by
    rw [w_fs_set e2, ← w_ce_obj (κ := κ) hs h4]
    exact w_wr_set hin.1 e1
  rcases hfin with hfin | ⟨hnm, q, hq, hdecl⟩
  · rw [hfin] at g4
    refine va_put hx hb hts h7 ty0 g2 g3 hown hK hH.1 hH.2.1 hH.2.2.1 (a - lo) he h1 k h3 (hts _ h6) (fun _ h9 => h9) g4 g5 hn hfit (by rw [w_fs_len]; exact h3) hdg (fun H1 locs1 q1 q2 q3 => ?_)
    rw [hset] at q1 q2
    exact kk H1 locs1 ⟨q1, q2, q3, hH.2.2.2⟩
  · have hqe := Option.some.inj (h1.symm.trans hq)
    subst hqe
    cases fin with
    | false =>
      refine va_put hx hb hts h7 ty0 g2 g3 hown hK hH.1 hH.2.1 hH.2.2.1 (a - lo) he h1 k h3 (hts _ h6) (fun _ h9 => h9) g4 g5 hn hfit (by rw [w_fs_len]; exact h3) hdg (fun H1 locs1 q1 q2 q3 => ?_)
      rw [hset] at q1 q2
      exact kk H1 locs1 ⟨q1, q2, q3, hH.2.2.2⟩
    | true =>
      refine va_putF hx hb hts h7 ty0 g2 g3 hown hK hH.1 hH.2.1 hH.2.2.1 (a - lo) he h1 k h3 (hts _ h6) (fun _ h9 => h9) g4 hnm hdecl g5 hn hfit (by rw [w_fs_len]; exact h3) hdg (fun H1 locs1 q1 q2 q3 => ?_)
      rw [hset] at q1 q2
      exact kk H1 locs1 ⟨q1, q2, q3, hH.2.2.2⟩
theorem wr_putI {ci idx k : Nat} {v : Int32} {K : wSt → Option β} (hC : wCr p m c cc nL s args own D κ) (hH : wHr D κ ρ lo n A H0 H locs σ) (hs : (w_sh a).1 = ci) (hin : lo ≤ a ∧ a < lo + n) (hf : wFG own idx ci k 0) (hp : wFP ci k .int false) (hdg : decode cc pc = .ok (.putfield idx, 3)) (hz : wZr (lo + n) σ) (hpt : wPt (lo + n) σ) (hF : wB (w_sI σ a k v) K = some z)
    (kk : ∀ (σ1 : wSt) (H1 : Heap) (locs1 : List Loc), wZr (lo + n) σ1 → wPt (lo + n) σ1 → K σ1 = some z → wHr D κ ρ lo n A H0 H1 locs1 σ1 → W p l e R s m args below meth c H1 locs1 cells slots Q (F0 m (pc + 3) ls rest)) : W p l e R s m args below meth c H locs cells slots Q (F0 m pc ls (.int v :: .ref (ρ a) :: rest)) := by
  have h := wr_put (l := l) (e := e) (R := R) (below := below) (meth := meth) (cells := cells) (slots := slots) (Q := Q) (ls := ls) (rest := rest) (σ' := w_sI σ a k v) hC hH hs hin hf hp (Or.inl rfl) (by rw [w_sI_at]; rfl) (by rw [w_sI_at]; rfl) (fun b hb => w_sI_ce hb) (fun j hj => w_sI_v hj) hdg (fun H1 locs1 h1 => kk _ H1 locs1 (wZr_I hz hin.2) (wPt_I hpt) hF h1)
  rwa [w_sI_at] at h
theorem wr_putZ {ci idx k : Nat} {v : Int32} {K : wSt → Option β} (hC : wCr p m c cc nL s args own D κ) (hH : wHr D κ ρ lo n A H0 H locs σ) (hs : (w_sh a).1 = ci) (hin : lo ≤ a ∧ a < lo + n) (hf : wFG own idx ci k 0) (hp : wFP ci k .boolean false) (hdg : decode cc pc = .ok (.putfield idx, 3)) (hz : wZr (lo + n) σ) (hpt : wPt (lo + n) σ) (h01 : v = 0 ∨ v = 1) (hF : wB (w_sI σ a k v) K = some z)
    (kk : ∀ (σ1 : wSt) (H1 : Heap) (locs1 : List Loc), wZr (lo + n) σ1 → wPt (lo + n) σ1 → K σ1 = some z → wHr D κ ρ lo n A H0 H1 locs1 σ1 → W p l e R s m args below meth c H1 locs1 cells slots Q (F0 m (pc + 3) ls rest)) : W p l e R s m args below meth c H locs cells slots Q (F0 m pc ls (.int v :: .ref (ρ a) :: rest)) := by
  have h := wr_put (l := l) (e := e) (R := R) (below := below) (meth := meth) (cells := cells) (slots := slots) (Q := Q) (ls := ls) (rest := rest) (σ' := w_sI σ a k v) hC hH hs hin hf hp (Or.inl rfl) (by rw [w_sI_at]; exact (w_z01 h01).1) (by rw [w_sI_at]; exact (w_z01 h01).2) (fun b hb => w_sI_ce hb) (fun j hj => w_sI_v hj) hdg (fun H1 locs1 h1 => kk _ H1 locs1 (wZr_I hz hin.2) (wPt_I hpt) hF h1)
  rwa [w_sI_at] at h
theorem wr_putR {ci idx k j : Nat} {ty : FieldType} {fin : Bool} {K : wSt → Option β} (hC : wCr p m c cc nL s args own D κ) (hH : wHr D κ ρ lo n A H0 H locs σ) (hs : (w_sh a).1 = ci) (hin : lo ≤ a ∧ a < lo + n) (hj : j < lo + n) (hf : wFG own idx ci k 2) (hp : wFP ci k ty fin) (hty : (∃ C, ty = .object C) ∨ ∃ t, ty = .array t) (hfin : fin = false ∨ (meth.name = "<init>" ∧ ∃ q : vw_C, vwCl[ci]? = some q ∧ (q.2.1 k).1 = own)) (hdg : decode cc pc = .ok (.putfield idx, 3)) (hz : wZr (lo + n) σ) (hpt : wPt (lo + n) σ) (hF : wB (w_sR σ a k (j + 1)) K = some z)
    (kk : ∀ (σ1 : wSt) (H1 : Heap) (locs1 : List Loc), wZr (lo + n) σ1 → wPt (lo + n) σ1 → K σ1 = some z → wHr D κ ρ lo n A H0 H1 locs1 σ1 → W p l e R s m args below meth c H1 locs1 cells slots Q (F0 m (pc + 3) ls rest)) : W p l e R s m args below meth c H locs cells slots Q (F0 m pc ls (.ref (ρ j) :: .ref (ρ a) :: rest)) := by
  have hnar : narrow ty (.ref (ρ j)) = .ref (ρ j) ∧ fits ty (.ref (ρ j)) = true := by
    rcases hty with ⟨C, rfl⟩ | ⟨t, rfl⟩ <;> exact ⟨rfl, rfl⟩
  have h := wr_put (l := l) (e := e) (R := R) (below := below) (meth := meth) (cells := cells) (slots := slots) (Q := Q) (ls := ls) (rest := rest) (σ' := w_sR σ a k (j + 1)) hC hH hs hin hf hp hfin (by rw [w_sR_at]; exact hnar.1) (by rw [w_sR_at]; exact hnar.2) (fun b hb => w_sR_ce hb) (fun j hj => w_sR_v hj) hdg (fun H1 locs1 h1 => kk _ H1 locs1 (wZr_R hz hin.2) (wPt_R hpt hj) hF h1)
  rwa [w_sR_at] at h
theorem wr_iast {kd : Nat} {i x : Int32} {K1 : wSt → Option β} (hC : wCr p m c cc nL s args own D κ) (hH : wHr D κ ρ lo n A H0 H locs σ) (hs : (w_sh a).1 = kd) (hk : w_at kd = 0) (hin : lo ≤ a ∧ a < lo + n) (hdg : decode cc pc = .ok (.iastore, 1)) (hz : wZr (lo + n) σ) (hpt : wPt (lo + n) σ) (hF : wSI σ a i x K1 = some z)
    (kk : ∀ (σ1 : wSt) (H1 : Heap) (locs1 : List Loc), wZr (lo + n) σ1 → wPt (lo + n) σ1 → K1 σ1 = some z → wHr D κ ρ lo n A H0 H1 locs1 σ1 → W p l e R s m args below meth c H1 locs1 cells slots Q (F0 m (pc + 1) ls rest)) : W p l e R s m args below meth c H locs cells slots Q (F0 m pc ls (.int x :: .int i :: .ref (ρ a) :: rest)) := by
  obtain ⟨⟨hx, hb, hml, hown, hts⟩, hK⟩ := hC
  have he := w_wr_at (κ := κ) (ρ := ρ) (σ := σ) hin
  rw [w_ce_arr hs hk (by decide)] at he
  refine va_iast hx hb hK hH.1 hH.2.1 hH.2.2.1 (a - lo) 0 he rfl (wN_some hF).1 hdg (fun H1 locs1 q1 q2 q3 => ?_)
  have h1 : (Sum.inl (κ 0, (w_sh a).2, Sum.inl (upd (σ.1 a) i.toNatClampNeg x)) : va_E) = w_ce κ ρ (w_sI σ a i.toNatClampNeg x) a := by
    rw [w_ce_arr hs hk (by decide)]
    congr 4
    funext q
    simp [w_sI, upd]
  rw [h1, w_wr_set hin.1 (fun b hb => w_sI_ce hb)] at q1 q2
  have h2 := (wN_some hF).2
  exact kk _ H1 locs1 (wZr_I hz hin.2) (wPt_I hpt) h2 ⟨q1, q2, q3, hH.2.2.2⟩
/-- a new row: the next cell -/
theorem wr_newa {atype : ArrayType} {ty : FieldType} {t kd N : Nat} {i : Int32} {a0 : vp_A} (hC : wCr p m c cc nL s args own D κ) (hH : wHr D κ ρ lo n A H0 H locs σ) (hz : wZr (lo + n) σ) (hpt : wPt (lo + n) σ) (harr : Cond.arrayClass (newarray.typeOf atype) ∈ lw_tb) (hty : newarray.typeOf atype = ty) (htt : (w_ty κ)[t]? = some (κ t, ty)) (hRA : ∀ (U : State) (cA : ClassId), va_RA U cA ty = (U.vm.findClass ("[" ++ ty.toString) = some cA)) (hsh : w_sh (lo + n) = (kd, N)) (hce : ∀ cA : ClassId, vp_cell cA a0 = arrV cA N (fun _ => defaultValue ty)) (hw : (Sum.inl (κ t, a0) : va_E) = w_ce κ ρ σ (lo + n)) (hi : ¬ i < 0 ∧ i.toNatClampNeg = N) (hbytes : N * componentBytes ty ≤ 536870912) (hcells : cells + 1 ≤ R.cells) (hslots : slots + N ≤ R.slots) (hdg : decode cc pc = .ok (.newarray atype, 2))
    (kk : ∀ (ρ' : Nat → Nat) (H1 : Heap), (∀ c, c ≠ lo + n → ρ' c = ρ c) → wZr (lo + (n + 1)) σ → wPt (lo + (n + 1)) σ → wHr D κ ρ' lo (n + 1) A H0 H1 locs σ → W p l e R s m args below meth c H1 locs (cells + 1) (slots + N) Q (F0 m (pc + 2) ls (.ref (ρ' (lo + n)) :: rest))) : W p l e R s m args below meth c H locs cells slots Q (F0 m pc ls (.int i :: rest)) := by
  obtain ⟨⟨hx, hb, hml, hown, hts⟩, hK⟩ := hC
  refine va_newa hx hb (hts _ harr) hty hK hH.1 hH.2.1 hH.2.2.1 hH.2.2.2 hce hi.1 hi.2 hbytes hcells hslots hdg (fun q cA H1 k1 q1 q2 q3 => ?_)
  have e1 := (k1.2 4 (cA, ty) rfl).2
  have e2 := (hK.2 t _ htt).2
  rw [hRA] at e1 e2
  have e3 : cA = κ t := Option.some.inj (e1.symm.trans e2)
  subst e3
  have hg : w_wr κ ρ lo n σ ++ [(q, Sum.inl (κ t, a0))] = w_wr κ (fun c => if c = lo + n then q else ρ c) lo (n + 1) σ := by
    have hcr : ∀ c, w_ce κ (fun c => if c = lo + n then q else ρ c) σ c = w_ce κ ρ σ c := fun c => w_ce_rho hpt (fun j hj => if_neg (by omega))
    refine w_grow (fun c hc => if_neg hc) (if_pos rfl) ?_ (fun c _ => hcr c)
    rw [hcr]
    exact hw
  rw [hg] at q1 q2
  have h9 := kk (fun c => if c = lo + n then q else ρ c) H1 (fun c hc => if_neg hc) (wZr_up hz) (wPt_up hpt) ⟨q1, q2, q3, hH.2.2.2⟩
  rwa [show (if lo + n = lo + n then q else ρ (lo + n)) = q from if_pos rfl] at h9
theorem w_row0 {kd N t : Nat} (hz : wZr (lo + n) σ) (hsh : w_sh (lo + n) = (kd, N)) (hk : w_at kd = t) (ht : t < 3) : (Sum.inl (κ t, N, Sum.inl (fun _ => (0 : Int32))) : va_E) = w_ce κ ρ σ (lo + n) := by
  rw [w_ce_arr (by rw [hsh]) hk ht, hsh]
  congr 4
  funext j
  exact ((hz (lo + n) j (Nat.le_refl _)).1).symm
theorem w_row0L {kd N : Nat} (hz : wZr (lo + n) σ) (hsh : w_sh (lo + n) = (kd, N)) (hk : w_at kd = 3) : (Sum.inl (κ 3, N, Sum.inr (Sum.inl (fun _ => (0 : Int64)))) : va_E) = w_ce κ ρ σ (lo + n) := by
  rw [w_ce_lng (by rw [hsh]) hk, hsh]
  congr 5
  funext j
  exact ((hz (lo + n) j (Nat.le_refl _)).2.1).symm
/-- a new object: the next cell -/
theorem wr_new {ci idx N : Nat} {C : String} {T : u_T} (ty : Nat → FieldType) (hC : wCr p m c cc nL s args own D κ) (hH : wHr D κ ρ lo n A H0 H locs σ) (hz : wZr (lo + n) σ) (hpt : wPt (lo + n) σ) (hcl : vwCl[ci]? = some (C, T, N)) (hN : N = w_nf ci) (hci : ci < 10) (hin : ∀ w ∈ u_ws C T N, w ∈ lw_tb) (hty : ∀ k, k < N → parseFieldDescriptor (T k).2.2.1 = some (ty k)) (hdv : ∀ k, k < N → defaultValue (ty k) = w_dv (w_ft ci k)) (hk : Cond.classLink own idx C ∈ lw_tb) (hi : Cond.instantiable C N ∈ lw_tb) (hini : Cond.initialized C ∈ lw_tb) (hsh : (w_sh (lo + n)).1 = ci) (hcells : cells + 1 ≤ R.cells) (hslots : slots + N ≤ R.slots) (hdg : decode cc pc = .ok (.new idx, 3))
    (kk : ∀ (ρ' : Nat → Nat) (H1 : Heap), (∀ c, c ≠ lo + n → ρ' c = ρ c) → wZr (lo + (n + 1)) σ → wPt (lo + (n + 1)) σ → wHr D κ ρ' lo (n + 1) A H0 H1 locs σ → W p l e R s m args below meth c H1 locs (cells + 1) (slots + N) Q (F0 m (pc + 3) ls (.ref (ρ' (lo + n)) :: rest))) : W p l e R s m args below meth c H locs cells slots Q (F0 m pc ls rest) := by
  obtain ⟨⟨hx, hb, hml, hown, hts⟩, hK⟩ := hC
  refine va_new (ci := ci) (fs := w_fs ρ σ (lo + n) ci) hx hb hts hin ty hty hown (hts _ hk) (hts _ hi) (hts _ hini) hK hH.1 hH.2.1 hH.2.2.1 hH.2.2.2 hcl (fun j hj => ?_) hcells hslots hdg (fun q H1 q1 q2 q3 => ?_)
  · rw [hdv j hj]
    unfold vp_V
    rw [List.getD_eq_getElem?_getD, w_fs_at (by rw [← hN]; exact hj), w_v0 hz (Nat.le_refl _)]
    rfl
  have hg : w_wr κ ρ lo n σ ++ [(q, Sum.inr (ci, w_fs ρ σ (lo + n) ci))] = w_wr κ (fun c => if c = lo + n then q else ρ c) lo (n + 1) σ := by
    have hcr : ∀ c, w_ce κ (fun c => if c = lo + n then q else ρ c) σ c = w_ce κ ρ σ c := fun c => w_ce_rho hpt (fun j hj => if_neg (by omega))
    refine w_grow (fun c hc => if_neg hc) (if_pos rfl) ?_ (fun c _ => hcr c)
    rw [hcr, w_ce_obj hsh hci]
  rw [hg] at q1 q2
  have h9 := kk (fun c => if c = lo + n then q else ρ c) H1 (fun c hc => if_neg hc) (wZr_up hz) (wPt_up hpt) ⟨q1, q2, q3, hH.2.2.2⟩
  rwa [show (if lo + n = lo + n then q else ρ (lo + n)) = q from if_pos rfl] at h9
end WR

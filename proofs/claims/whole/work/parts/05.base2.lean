def w_max (x y : Int32) : Int32 := if x < y then y else x
def w_min (x y : Int32) : Int32 := if y < x then y else x
def w_abs (x : Int32) : Int32 := if 0 ≤ x then x else 0 - x
def w_maxl (x y : Int64) : Int64 := if y < x then x else y
def w_minl (x y : Int64) : Int64 := if y < x then y else x
def w_ushr (x y : Int32) : Int32 := (x.toUInt32 >>> (y.toUInt32 &&& Int32.toUInt32 31)).toInt32
theorem i_Math : Cond.initialized "java/lang/Math" ∈ lw_tb := lw_at 149 (by decide +kernel) (by decide +kernel)
theorem i_max : Cond.static Lib.Math.max.name ∈ lw_tb ∧ Cond.code Lib.Math.max.name Lib.Math.max.code 2 (some .int) ∈ lw_tb := ⟨lw_at 905 (by decide +kernel) (by decide +kernel), lw_at 906 (by decide +kernel) (by decide +kernel)⟩
theorem i_min : Cond.static Lib.Math.min.name ∈ lw_tb ∧ Cond.code Lib.Math.min.name Lib.Math.min.code 2 (some .int) ∈ lw_tb := ⟨lw_at 655 (by decide +kernel) (by decide +kernel), lw_at 656 (by decide +kernel) (by decide +kernel)⟩
theorem i_abs : Cond.static Lib.Math.abs.name ∈ lw_tb ∧ Cond.code Lib.Math.abs.name Lib.Math.abs.code 1 (some .int) ∈ lw_tb := ⟨lw_at 966 (by decide +kernel) (by decide +kernel), lw_at 967 (by decide +kernel) (by decide +kernel)⟩
theorem i_maxl : Cond.static Lib.MathLoose.max_long.x ∈ lw_tb ∧ Cond.code Lib.MathLoose.max_long.x Lib.MathLoose.max_long.code 4 (some .long) ∈ lw_tb := ⟨lw_at 981 (by decide +kernel) (by decide +kernel), lw_at 982 (by decide +kernel) (by decide +kernel)⟩
theorem i_minl : Cond.static Lib.MathLoose.min_long.x ∈ lw_tb ∧ Cond.code Lib.MathLoose.min_long.x Lib.MathLoose.min_long.code 4 (some .long) ∈ lw_tb := ⟨lw_at 978 (by decide +kernel) (by decide +kernel), lw_at 979 (by decide +kernel) (by decide +kernel)⟩
theorem i_acopy : Cond.native arraycopyName ∈ lw_tb ∧ Cond.static arraycopyName ∈ lw_tb ∧ Cond.initialized "java/lang/System" ∈ lw_tb := ⟨lw_at 891 (by decide +kernel) (by decide +kernel), lw_at 890 (by decide +kernel) (by decide +kernel), lw_at 156 (by decide +kernel) (by decide +kernel)⟩
def w_rem (x y : Int32) : Int32 := x - x / y * y
def w_reml (x y : Int64) : Int64 := x - x / y * y
section WX2
variable {p : Program} {l : Launch} {e : Env} {R : Room} {s : State} {m : MethodId} {args : Array Value} {below : List Frame} {meth : Method} {c : Code} {H : Heap} {locs : List Loc} {cells slots : Nat} {Q : State → Prop}
variable {cc : ByteArray} {pc nL idx : Nat} {ls : Array Slot} {rest : List Value} {D : va_G} {κ : Nat → ClassId} {ρ : Nat → Nat} {sd : Nat} {A : Nat → Prop} {a : Nat} {H0 : Heap} {own : String} {σ : wSt} {β : Type} {z : β}
theorem wx_irem {x y : Int32} (hexec : p.tables.exec = Jvm.exec) (hb : c.code = cc) (hdg : decode cc pc = .ok (.irem, 1)) (hne : ¬ y = 0) (k : W p l e R s m args below meth c H locs cells slots Q (F0 m (pc + 1) ls (.int (w_rem x y) :: rest))) : W p l e R s m args below meth c H locs cells slots Q (F0 m pc ls (.int y :: .int x :: rest)) := lv_irem hexec hb hdg hne k
theorem wx_lrem {x y : Int64} (hexec : p.tables.exec = Jvm.exec) (hb : c.code = cc) (hdg : decode cc pc = .ok (.lrem, 1)) (hne : ¬ y = 0) (k : W p l e R s m args below meth c H locs cells slots Q (F0 m (pc + 1) ls (.long (w_reml x y) :: rest))) : W p l e R s m args below meth c H locs cells slots Q (F0 m pc ls (.long y :: .long x :: rest)) := lv_lrem hexec hb hdg hne k
theorem wx_max {x y : Int32} (hC : wCx p m c cc nL s args own D κ sd) (hls : ls.size = nL) (hlink : Cond.methodLink own idx Lib.Math.max.name ∈ lw_tb) (hR : 1 ≤ R.frames ∧ (rest.map fun v => v.category).sum + 13 ≤ R.locals) (hcs : cells ≤ R.cells ∧ slots ≤ R.slots) (hdg : decode cc pc = .ok (.invokestatic idx, 3))
    (kk : W p l e R s m args below meth c H locs cells slots Q (F0 m (pc + 3) ls (.int (w_max x y) :: rest))) : W p l e R s m args below meth c H locs cells slots Q (F0 m pc ls (.int y :: .int x :: rest)) := by
  obtain ⟨⟨hx, hb, hml, hown, hts⟩, hK, hn⟩ := hC
  exact va_mmax hx hb (hml.trans hls.symm) hown (hts _ hlink) (hts _ i_max.1) (hts _ i_Math) (hts _ i_max.2) hR.1 hR.2 hcs.1 hcs.2 hdg kk
theorem wx_min {x y : Int32} (hC : wCx p m c cc nL s args own D κ sd) (hls : ls.size = nL) (hlink : Cond.methodLink own idx Lib.Math.min.name ∈ lw_tb) (hR : 1 ≤ R.frames ∧ (rest.map fun v => v.category).sum + 13 ≤ R.locals) (hcs : cells ≤ R.cells ∧ slots ≤ R.slots) (hdg : decode cc pc = .ok (.invokestatic idx, 3))
    (kk : W p l e R s m args below meth c H locs cells slots Q (F0 m (pc + 3) ls (.int (w_min x y) :: rest))) : W p l e R s m args below meth c H locs cells slots Q (F0 m pc ls (.int y :: .int x :: rest)) := by
  obtain ⟨⟨hx, hb, hml, hown, hts⟩, hK, hn⟩ := hC
  exact va_mmin hx hb (hml.trans hls.symm) hown (hts _ hlink) (hts _ i_min.1) (hts _ i_Math) (hts _ i_min.2) hR.1 hR.2 hcs.1 hcs.2 hdg kk
theorem wx_abs {x : Int32} (hC : wCx p m c cc nL s args own D κ sd) (hls : ls.size = nL) (hlink : Cond.methodLink own idx Lib.Math.abs.name ∈ lw_tb) (hR : 1 ≤ R.frames ∧ (rest.map fun v => v.category).sum + 13 ≤ R.locals) (hcs : cells ≤ R.cells ∧ slots ≤ R.slots) (hdg : decode cc pc = .ok (.invokestatic idx, 3))
    (kk : W p l e R s m args below meth c H locs cells slots Q (F0 m (pc + 3) ls (.int (w_abs x) :: rest))) : W p l e R s m args below meth c H locs cells slots Q (F0 m pc ls (.int x :: rest)) := by
  obtain ⟨⟨hx, hb, hml, hown, hts⟩, hK, hn⟩ := hC
  exact va_mabs hx hb (hml.trans hls.symm) hown (hts _ hlink) (hts _ i_abs.1) (hts _ i_Math) (hts _ i_abs.2) hR.1 hR.2 hcs.1 hcs.2 hdg kk
theorem wx_maxl {x y : Int64} (hC : wCx p m c cc nL s args own D κ sd) (hls : ls.size = nL) (hlink : Cond.methodLink own idx Lib.MathLoose.max_long.x ∈ lw_tb) (hR : 1 ≤ R.frames ∧ (rest.map fun v => v.category).sum + 15 ≤ R.locals) (hcs : cells ≤ R.cells ∧ slots ≤ R.slots) (hdg : decode cc pc = .ok (.invokestatic idx, 3))
    (kk : W p l e R s m args below meth c H locs cells slots Q (F0 m (pc + 3) ls (.long (w_maxl x y) :: rest))) : W p l e R s m args below meth c H locs cells slots Q (F0 m pc ls (.long y :: .long x :: rest)) := by
  obtain ⟨⟨hx, hb, hml, hown, hts⟩, hK, hn⟩ := hC
  exact va_mmax_long hx hb (hml.trans hls.symm) hown (hts _ hlink) (hts _ i_maxl.1) (hts _ i_Math) (hts _ i_maxl.2) hR.1 hR.2 hcs.1 hcs.2 hdg kk
theorem wx_minl {x y : Int64} (hC : wCx p m c cc nL s args own D κ sd) (hls : ls.size = nL) (hlink : Cond.methodLink own idx Lib.MathLoose.min_long.x ∈ lw_tb) (hR : 1 ≤ R.frames ∧ (rest.map fun v => v.category).sum + 15 ≤ R.locals) (hcs : cells ≤ R.cells ∧ slots ≤ R.slots) (hdg : decode cc pc = .ok (.invokestatic idx, 3))
    (kk : W p l e R s m args below meth c H locs cells slots Q (F0 m (pc + 3) ls (.long (w_minl x y) :: rest))) : W p l e R s m args below meth c H locs cells slots Q (F0 m pc ls (.long y :: .long x :: rest)) := by
  obtain ⟨⟨hx, hb, hml, hown, hts⟩, hK, hn⟩ := hC
  exact va_mmin_long hx hb (hml.trans hls.symm) hown (hts _ hlink) (hts _ i_minl.1) (hts _ i_Math) (hts _ i_minl.2) hR.1 hR.2 hcs.1 hcs.2 hdg kk
/-- arraycopy between rows of ints -/
def wCP {β : Type} (σ : wSt) (a0 : Nat) (sp : Int32) (a : Nat) (dp k : Int32) (K : wSt → Option β) : Option β :=
  if ¬ sp < 0 ∧ ¬ dp < 0 ∧ ¬ k < 0 ∧ sp.toNatClampNeg + k.toNatClampNeg ≤ (w_sh a0).2 ∧ dp.toNatClampNeg + k.toNatClampNeg ≤ (w_sh a).2 then K (w_cp σ a0 sp.toNatClampNeg a dp.toNatClampNeg k.toNatClampNeg) else none
theorem w_rowC {a0 sp dp k : Nat} (hs : (w_sh a).1 = 10) (hlo : w_lo sd ≤ a) : (w_ws κ ρ sd σ).set (a - w_lo sd) (ρ a, .inl (κ 0, (w_sh a).2, .inl (va_cpy (σ.1 a0) (σ.1 a) sp dp k))) = w_ws κ ρ sd (w_cp σ a0 sp a dp k) := by
  have h1 : (Sum.inl (κ 0, (w_sh a).2, Sum.inl (va_cpy (σ.1 a0) (σ.1 a) sp dp k)) : va_E) = w_ce κ ρ (w_cp σ a0 sp a dp k) a := by
    rw [w_ce_arr (t := 0) hs rfl (by decide)]
    congr 4
    funext q
    simp [w_cp]
  rw [h1]
  refine w_wr_set hlo (fun b hb => w_ce_congr ?_ rfl rfl)
  funext j
  simp [w_cp, hb]
theorem wx_copy {a0 : Nat} {sp dp k : Int32} {K : wSt → Option β} (hC : wCx p m c cc nL s args own D κ sd) (hH : wHp D κ ρ sd A H0 H locs σ) (hls : ls.size = nL) (hs0 : (w_sh a0).1 = 10) (hs : (w_sh a).1 = 10) (hsd : w_sd 10 = sd) (hlink : Cond.methodLink own idx arraycopyName ∈ lw_tb) (hR : 1 ≤ R.frames ∧ (rest.map fun v => v.category).sum + 18 ≤ R.locals) (hdg : decode cc pc = .ok (.invokestatic idx, 3)) (hF : wCP σ a0 sp a dp k K = some z)
    (kk : ∀ (σ1 : wSt) (H1 : Heap) (locs1 : List Loc), K σ1 = some z → wHp D κ ρ sd A H0 H1 locs1 σ1 → W p l e R s m args below meth c H1 locs1 cells slots Q (F0 m (pc + 3) ls rest)) : W p l e R s m args below meth c H locs cells slots Q (F0 m pc ls (.int k :: .int dp :: .ref (ρ a) :: .int sp :: .ref (ρ a0) :: rest)) := by
  obtain ⟨⟨hx, hb, hml, hown, hts⟩, hK, hn⟩ := hC
  have hlt := w_lt (c := a) (by rw [hs]; exact hsd) hn
  have he := w_wr_at (κ := κ) (ρ := ρ) (σ := σ) hlt
  rw [w_ce_arr (t := 0) hs rfl (by decide)] at he
  have he0 := w_wr_at (κ := κ) (ρ := ρ) (σ := σ) (w_lt (c := a0) (by rw [hs0]; exact hsd) hn)
  rw [w_ce_arr (t := 0) hs0 rfl (by decide)] at he0
  unfold wCP at hF
  by_cases hg : ¬ sp < 0 ∧ ¬ dp < 0 ∧ ¬ k < 0 ∧ sp.toNatClampNeg + k.toNatClampNeg ≤ (w_sh a0).2 ∧ dp.toNatClampNeg + k.toNatClampNeg ≤ (w_sh a).2
  · rw [if_pos hg] at hF
    obtain ⟨g1, g2, g3, g4, g5⟩ := hg
    refine va_copyi hx hb (hml.trans hls.symm) hown (hts _ hlink) (hts _ i_acopy.1) (hts _ i_acopy.2.1) (hts _ i_acopy.2.2) hK hH.1 hH.2.1 hH.2.2.1 (a0 - w_lo sd) (a - w_lo sd) 0 0 he0 he rfl rfl rfl g1 g2 g3 g4 g5 (fun _ _ => rfl) hR.1 hR.2 hdg (fun H1 locs1 q1 q2 q3 => ?_)
    rw [w_rowC hs hlt.1] at q1 q2
    exact kk _ H1 locs1 hF ⟨q1, q2, q3, hH.2.2.2⟩
  · rw [if_neg hg] at hF
    cases hF
theorem wx_iinc {i k : Nat} {d : Int} {x dv : Int32} {lv : List (Nat × Value)} {K : Int32 → Option β} (hexec : p.tables.exec = Jvm.exec) (hb : c.code = cc) (hdg : decode cc pc = .ok (.iinc i d, 3)) (hd : Int32.ofInt d = dv) (h : lv_has ls nL lv) (hk : lv[k]? = some (i, .int x)) (hn : i < nL) (hF : wB (x + dv) K = some z)
    (kk : ∀ (y : Int32) (ls' : Array Slot), K y = some z → lv_has ls' nL ((i, Value.int y) :: lv.filter (fun q => !(q.1 == i) && !(q.1 + 1 == i && q.2.category == 2))) → W p l e R s m args below meth c H locs cells slots Q (F0 m (pc + 3) ls' rest)) : W p l e R s m args below meth c H locs cells slots Q (F0 m pc ls rest) :=
  lv_iinc hexec hb hdg h hk (by rw [hd]) hn rfl (fun ls' hl => kk _ ls' hF hl)
theorem wx_istore_n {k : Fin 4} {i : Nat} {x : Int32} {lv : List (Nat × Value)} (hexec : p.tables.exec = Jvm.exec) (hb : c.code = cc) (hdg : decode cc pc = .ok (.istore_n k, 1)) (hi : (k : Nat) = i) (h : lv_has ls nL lv) (hn : i < nL)
    (kk : ∀ ls' : Array Slot, lv_has ls' nL ((i, Value.int x) :: lv.filter (fun q => !(q.1 == i) && !(q.1 + 1 == i && q.2.category == 2))) → W p l e R s m args below meth c H locs cells slots Q (F0 m (pc + 1) ls' rest)) : W p l e R s m args below meth c H locs cells slots Q (F0 m pc ls (.int x :: rest)) := lv_istore_n hexec hb hdg hi h hn rfl kk
theorem wx_istore {i : Nat} {x : Int32} {lv : List (Nat × Value)} (hexec : p.tables.exec = Jvm.exec) (hb : c.code = cc) (hdg : decode cc pc = .ok (.istore i, 2)) (h : lv_has ls nL lv) (hn : i < nL)
    (kk : ∀ ls' : Array Slot, lv_has ls' nL ((i, Value.int x) :: lv.filter (fun q => !(q.1 == i) && !(q.1 + 1 == i && q.2.category == 2))) → W p l e R s m args below meth c H locs cells slots Q (F0 m (pc + 2) ls' rest)) : W p l e R s m args below meth c H locs cells slots Q (F0 m pc ls (.int x :: rest)) := lv_istore hexec hb hdg h hn rfl kk
theorem wx_lstore_n {k : Fin 4} {i : Nat} {x : Int64} {lv : List (Nat × Value)} (hexec : p.tables.exec = Jvm.exec) (hb : c.code = cc) (hdg : decode cc pc = .ok (.lstore_n k, 1)) (hi : (k : Nat) = i) (h : lv_has ls nL lv) (hn : i + 1 < nL)
    (kk : ∀ ls' : Array Slot, lv_has ls' nL ((i, Value.long x) :: lv.filter (fun q => !(q.1 == i) && (!(q.1 == i + 1) && !(q.1 + 1 == i && q.2.category == 2)))) → W p l e R s m args below meth c H locs cells slots Q (F0 m (pc + 1) ls' rest)) : W p l e R s m args below meth c H locs cells slots Q (F0 m pc ls (.long x :: rest)) := lv_lstore_n hexec hb hdg hi h hn rfl kk
theorem wx_lstore {i : Nat} {x : Int64} {lv : List (Nat × Value)} (hexec : p.tables.exec = Jvm.exec) (hb : c.code = cc) (hdg : decode cc pc = .ok (.lstore i, 2)) (h : lv_has ls nL lv) (hn : i + 1 < nL)
    (kk : ∀ ls' : Array Slot, lv_has ls' nL ((i, Value.long x) :: lv.filter (fun q => !(q.1 == i) && (!(q.1 == i + 1) && !(q.1 + 1 == i && q.2.category == 2)))) → W p l e R s m args below meth c H locs cells slots Q (F0 m (pc + 2) ls' rest)) : W p l e R s m args below meth c H locs cells slots Q (F0 m pc ls (.long x :: rest)) := lv_lstore hexec hb hdg h hn rfl kk
theorem wx_astore_n {k : Fin 4} {i : Nat} {x : Nat} {lv : List (Nat × Value)} (hexec : p.tables.exec = Jvm.exec) (hb : c.code = cc) (hdg : decode cc pc = .ok (.astore_n k, 1)) (hi : (k : Nat) = i) (h : lv_has ls nL lv) (hn : i < nL)
    (kk : ∀ ls' : Array Slot, lv_has ls' nL ((i, Value.ref x) :: lv.filter (fun q => !(q.1 == i) && !(q.1 + 1 == i && q.2.category == 2))) → W p l e R s m args below meth c H locs cells slots Q (F0 m (pc + 1) ls' rest)) : W p l e R s m args below meth c H locs cells slots Q (F0 m pc ls (.ref x :: rest)) := lv_astore_n hexec hb hdg hi h hn rfl kk
/-- a table switch goes where its table says -/
def wTg (dflt lo hi : Int) (offs : Array Int) (x : Int32) : Int := if x.toInt < lo then dflt else if hi < x.toInt then dflt else (offs[(x.toInt - lo).toNat]?).getD dflt
theorem wx_sw {dflt lo hi : Int} {offs : Array Int} {len : Nat} {x : Int32} {tgt : Nat} (hexec : p.tables.exec = Jvm.exec) (hb : c.code = cc) (hdg : decode cc pc = .ok (.tableswitch dflt lo hi offs, len)) (hsz : hi - lo < (offs.size : Int)) (ht : (pc : Int) + wTg dflt lo hi offs x = (tgt : Int))
    (k : W p l e R s m args below meth c H locs cells slots Q (F0 m tgt ls rest)) : W p l e R s m args below meth c H locs cells slots Q (F0 m pc ls (.int x :: rest)) := by
  unfold wTg at ht
  by_cases h1 : x.toInt < lo
  · rw [if_pos h1] at ht
    exact lv_tableOut hexec hb hdg (Or.inl h1) ht k
  · rw [if_neg h1] at ht
    by_cases h2 : hi < x.toInt
    · rw [if_pos h2] at ht
      exact lv_tableOut hexec hb hdg (Or.inr h2) ht k
    · rw [if_neg h2] at ht
      have h3 : (x.toInt - lo).toNat < offs.size := by omega
      rw [Array.getElem?_eq_getElem h3] at ht
      exact lv_tableIn hexec hb hdg h1 h2 (Array.getElem?_eq_getElem h3) ht k
end WX2
theorem wTg_lo {dflt lo hi : Int} {offs : Array Int} {x : Int32} (h : x.toInt < lo ∨ hi < x.toInt) : wTg dflt lo hi offs x = dflt := by
  unfold wTg
  by_cases h1 : x.toInt < lo
  · rw [if_pos h1]
  · rw [if_neg h1, if_pos (by omega)]
theorem wL_some {S Y : Type} {b : S → Option (S ⊕ Y)} {k : Nat} {s : S} {z : Y} (h : wL b (k + 1) s = some z) : ∃ q, b s = some q ∧ wJP q (wL b k) z := wJ_some h
theorem wL_zero {S Y : Type} {b : S → Option (S ⊕ Y)} {s : S} {z : Y} {P : Prop} (h : wL b 0 s = some z) : P := by cases h
def wFu : Nat := 2000
/-- a method that writes nothing -/
def wPu {α : Type} (o : Option α) (σ : wSt) : Option (α × wSt) := match o with
  | none => none
  | some r => some (r, σ)
theorem wPu_some {α : Type} {o : Option α} {σ : wSt} {z : α × wSt} (h : wPu o σ = some z) : ∃ r, o = some r ∧ z = (r, σ) := by
  cases o with
  | none => cases h
  | some r => exact ⟨r, rfl, (Option.some.inj h).symm⟩
theorem wx_pr {α : Type} {v r : α} {σ : wSt} (h : some v = some r) : some (v, σ) = some (r, σ) := by rw [Option.some.inj h]
def wP {α β : Type} (o : Option α) (k : α → Option β) : Option β := match o with
  | none => none
  | some r => k r
theorem wP_some {α β : Type} {o : Option α} {k : α → Option β} {z : β} (h : wP o k = some z) : ∃ r, o = some r ∧ k r = some z := by
  cases o with
  | none => cases h
  | some r => exact ⟨r, rfl, h⟩
theorem wP_C {α β : Type} {o : Option α} {k : α → Option β} {z : β} {σ : wSt} (h : wP o k = some z) : wC (wPu o σ) (fun r _ => k r) = some z := by
  cases o with
  | none => cases h
  | some r => exact h
section WE
variable {l : Launch} {y : MethodName} {cc : ByteArray} {mL : Nat} {ty : FieldType} {f lo : Nat} {avs : List Value} {D : va_G} {κ : Nat → ClassId} {ρ : Nat → Nat} {sd : Nat} {C : String}
theorem wMI_of {F : wSt → Option (Int32 × wSt)} (hy : plainName y.cls = true) (hfit : (lg_sl avs).length ≤ mL)
    (body : ∀ (u0 : wSt) (z : Int32 × wSt) (p : Program) (e : Env) (s : State) (m : MethodId) (args : Array Value) (below : List Frame) (meth : Method) (c : Code) (ls : Array Slot) (A : Nat → Prop), F u0 = some z → wCx p m c cc mL s args y.cls D κ sd → meth.sig.returnType = some ty → meth.locks = false → wHp D κ ρ sd A s.heap s.heap [] u0 → lv_has ls mL (lv_args 0 avs) →
      W p l e (wRm f lo) s m args below meth c s.heap [] 0 0 (wQI below args s A D κ ρ sd z) (F0 m 0 ls [])) : wMI l y cc mL ty (wRm f lo) avs D κ ρ sd F := by
  intro σ z sz hn hF
  exact w_enter (Qc := fun sz => va_Qi (fun r u => (r, u) = z) (fun u t => va_P D vwCl (w_ws κ ρ sd u) t.heap) (wA ρ sd sz)) hy hfit hn (fun p e s m args below meth c ls hC hr hlk _ hH hl => body σ z p e s m args below meth c ls _ hF hC hr hlk hH hl)
theorem wML_of {F : wSt → Option (Int64 × wSt)} (hy : plainName y.cls = true) (hfit : (lg_sl avs).length ≤ mL)
    (body : ∀ (u0 : wSt) (z : Int64 × wSt) (p : Program) (e : Env) (s : State) (m : MethodId) (args : Array Value) (below : List Frame) (meth : Method) (c : Code) (ls : Array Slot) (A : Nat → Prop), F u0 = some z → wCx p m c cc mL s args y.cls D κ sd → meth.sig.returnType = some .long → meth.locks = false → wHp D κ ρ sd A s.heap s.heap [] u0 → lv_has ls mL (lv_args 0 avs) →
      W p l e (wRm f lo) s m args below meth c s.heap [] 0 0 (wQL below args s A D κ ρ sd z) (F0 m 0 ls [])) : wML l y cc mL (wRm f lo) avs D κ ρ sd F := by
  intro σ z sz hn hF
  exact w_enter (Qc := fun sz => va_Ql (fun r u => (r, u) = z) (fun u t => va_P D vwCl (w_ws κ ρ sd u) t.heap) (wA ρ sd sz)) hy hfit hn (fun p e s m args below meth c ls hC hr hlk _ hH hl => body σ z p e s m args below meth c ls _ hF hC hr hlk hH hl)
theorem wMV_of {F : wSt → Option (Unit × wSt)} (hy : plainName y.cls = true) (hfit : (lg_sl avs).length ≤ mL)
    (body : ∀ (u0 : wSt) (z : Unit × wSt) (p : Program) (e : Env) (s : State) (m : MethodId) (args : Array Value) (below : List Frame) (meth : Method) (c : Code) (ls : Array Slot) (A : Nat → Prop), F u0 = some z → wCx p m c cc mL s args y.cls D κ sd → meth.sig.returnType = none → meth.locks = false → wHp D κ ρ sd A s.heap s.heap [] u0 → lv_has ls mL (lv_args 0 avs) →
      W p l e (wRm f lo) s m args below meth c s.heap [] 0 0 (wQV below args s A D κ ρ sd z) (F0 m 0 ls [])) : wMV l y cc mL (wRm f lo) avs D κ ρ sd F := by
  intro σ z sz hn hF
  exact w_enter (Qc := fun sz => va_Qv (fun u => ((), u) = z) (fun u t => va_P D vwCl (w_ws κ ρ sd u) t.heap) (wA ρ sd sz)) hy hfit hn (fun p e s m args below meth c ls hC hr hlk _ hH hl => body σ z p e s m args below meth c ls _ hF hC hr hlk hH hl)
theorem wMR_of {F : wSt → Option (Nat × wSt)} (hy : plainName y.cls = true) (hfit : (lg_sl avs).length ≤ mL)
    (body : ∀ (u0 : wSt) (z : Nat × wSt) (p : Program) (e : Env) (s : State) (m : MethodId) (args : Array Value) (below : List Frame) (meth : Method) (c : Code) (ls : Array Slot) (A : Nat → Prop), F u0 = some z → wCx p m c cc mL s args y.cls D κ sd → meth.sig.returnType = some (.object C) → meth.locks = false → wHp D κ ρ sd A s.heap s.heap [] u0 → lv_has ls mL (lv_args 0 avs) →
      W p l e (wRm f lo) s m args below meth c s.heap [] 0 0 (wQR below args s A D κ ρ sd z) (F0 m 0 ls [])) : wMR l y cc mL C (wRm f lo) avs D κ ρ sd F := by
  intro σ z sz hn hF
  exact w_enter (Qc := fun sz => va_Qr (fun _ : wSt => True) (fun u q t => (∃ j, q = ρ j ∧ (j, u) = z) ∧ va_P D vwCl (w_ws κ ρ sd u) t.heap) (wA ρ sd sz)) hy hfit hn (fun p e s m args below meth c ls hC hr hlk _ hH hl => body σ z p e s m args below meth c ls _ hF hC hr hlk hH hl)
theorem wMP_of {F : wSt → Option Int32} (hy : plainName y.cls = true) (hfit : (lg_sl avs).length ≤ mL)
    (body : ∀ (u0 : wSt) (z : Int32) (p : Program) (e : Env) (s : State) (m : MethodId) (args : Array Value) (below : List Frame) (meth : Method) (c : Code) (ls : Array Slot) (A : Nat → Prop), F u0 = some z → wCx p m c cc mL s args y.cls D κ sd → meth.sig.returnType = some ty → meth.locks = false → wHp D κ ρ sd A s.heap s.heap [] u0 → lv_has ls mL (lv_args 0 avs) →
      W p l e (wRm f lo) s m args below meth c s.heap [] 0 0 (wQI below args s A D κ ρ sd (z, u0)) (F0 m 0 ls [])) : wMI l y cc mL ty (wRm f lo) avs D κ ρ sd (fun u => wPu (F u) u) := by
  refine wMI_of hy hfit (fun u0 z p e s m args below meth c ls A hF hC hr hlk hH hl => ?_)
  obtain ⟨r, h1, rfl⟩ := wPu_some hF
  exact body u0 r p e s m args below meth c ls A h1 hC hr hlk hH hl
theorem wMPL_of {F : wSt → Option Int64} (hy : plainName y.cls = true) (hfit : (lg_sl avs).length ≤ mL)
    (body : ∀ (u0 : wSt) (z : Int64) (p : Program) (e : Env) (s : State) (m : MethodId) (args : Array Value) (below : List Frame) (meth : Method) (c : Code) (ls : Array Slot) (A : Nat → Prop), F u0 = some z → wCx p m c cc mL s args y.cls D κ sd → meth.sig.returnType = some .long → meth.locks = false → wHp D κ ρ sd A s.heap s.heap [] u0 → lv_has ls mL (lv_args 0 avs) →
      W p l e (wRm f lo) s m args below meth c s.heap [] 0 0 (wQL below args s A D κ ρ sd (z, u0)) (F0 m 0 ls [])) : wML l y cc mL (wRm f lo) avs D κ ρ sd (fun u => wPu (F u) u) := by
  refine wML_of hy hfit (fun u0 z p e s m args below meth c ls A hF hC hr hlk hH hl => ?_)
  obtain ⟨r, h1, rfl⟩ := wPu_some hF
  exact body u0 r p e s m args below meth c ls A h1 hC hr hlk hH hl
end WE
/-- an instance method that is called: its tables, its class among ours -/
def wYi (y : MethodName) (ci : Nat) : Prop := wYv y ∧ ∃ q : vw_C, vwCl[ci]? = some q ∧ ci < 10 ∧ q.1 = y.cls

def F_X9_init_79 (u0 : wSt) : Option (Unit × wSt) :=
  wB (w_sR u0 79 0 (80 + 1)) (fun (u2 : wSt) => wSI u2 81 (0 : Int32) (103 : Int32) (fun (u4 : wSt) => wSI u4 81 (1 : Int32) (117 : Int32) (fun (u5 : wSt) => wSI u5 81 (2 : Int32) (101 : Int32) (fun (u6 : wSt) => wSI u6 81 (3 : Int32) (115 : Int32) (fun (u7 : wSt) => wSI u7 81 (4 : Int32) (116 : Int32) (fun (u8 : wSt) => wSI u8 81 (5 : Int32) (32 : Int32) (fun (u9 : wSt) => wSI u9 81 (6 : Int32) (102 : Int32) (fun (u10 : wSt) => wSI u10 81 (7 : Int32) (114 : Int32) (fun (u11 : wSt) => wSI u11 81 (8 : Int32) (117 : Int32) (fun (u12 : wSt) => wSI u12 81 (9 : Int32) (105 : Int32) (fun (u13 : wSt) => wSI u13 81 (10 : Int32) (116 : Int32) (fun (u14 : wSt) => wSI u14 81 (11 : Int32) (32 : Int32) (fun (u15 : wSt) => wSI u15 81 (12 : Int32) (98 : Int32) (fun (u16 : wSt) => wSI u16 81 (13 : Int32) (105 : Int32) (fun (u17 : wSt) => wSI u17 81 (14 : Int32) (116 : Int32) (fun (u18 : wSt) => wSI u18 81 (15 : Int32) (101 : Int32) (fun (u19 : wSt) => wSI u19 81 (16 : Int32) (32 : Int32) (fun (u20 : wSt) => wSI u20 81 (17 : Int32) (110 : Int32) (fun (u21 : wSt) => wSI u21 81 (18 : Int32) (101 : Int32) (fun (u22 : wSt) => wSI u22 81 (19 : Int32) (97 : Int32) (fun (u23 : wSt) => wSI u23 81 (20 : Int32) (114 : Int32) (fun (u24 : wSt) => wSI u24 81 (21 : Int32) (32 : Int32) (fun (u25 : wSt) => wSI u25 81 (22 : Int32) (99 : Int32) (fun (u26 : wSt) => wSI u26 81 (23 : Int32) (111 : Int32) (fun (u27 : wSt) => wSI u27 81 (24 : Int32) (108 : Int32) (fun (u28 : wSt) => wSI u28 81 (25 : Int32) (100 : Int32) (fun (u29 : wSt) => wSI u29 81 (26 : Int32) (32 : Int32) (fun (u30 : wSt) => wSI u30 81 (27 : Int32) (115 : Int32) (fun (u31 : wSt) => wSI u31 81 (28 : Int32) (101 : Int32) (fun (u32 : wSt) => wSI u32 81 (29 : Int32) (101 : Int32) (fun (u33 : wSt) => wSI u33 81 (30 : Int32) (100 : Int32) (fun (u34 : wSt) => wSI u34 81 (31 : Int32) (32 : Int32) (fun (u35 : wSt) => wSI u35 81 (32 : Int32) (108 : Int32) (fun (u36 : wSt) => wSI u36 81 (33 : Int32) (97 : Int32) (fun (u37 : wSt) => wSI u37 81 (34 : Int32) (119 : Int32) (fun (u38 : wSt) => wSI u38 81 (35 : Int32) (32 : Int32) (fun (u39 : wSt) => wSI u39 81 (36 : Int32) (112 : Int32) (fun (u40 : wSt) => wSI u40 81 (37 : Int32) (114 : Int32) (fun (u41 : wSt) => wSI u41 81 (38 : Int32) (97 : Int32) (fun (u42 : wSt) => wSI u42 81 (39 : Int32) (105 : Int32) (fun (u43 : wSt) => wSI u43 81 (40 : Int32) (115 : Int32) (fun (u44 : wSt) => wSI u44 81 (41 : Int32) (101 : Int32) (fun (u45 : wSt) => wSI u45 81 (42 : Int32) (32 : Int32) (fun (u46 : wSt) => wSI u46 81 (43 : Int32) (100 : Int32) (fun (u47 : wSt) => wSI u47 81 (44 : Int32) (97 : Int32) (fun (u48 : wSt) => wSI u48 81 (45 : Int32) (114 : Int32) (fun (u49 : wSt) => wSI u49 81 (46 : Int32) (101 : Int32) (fun (u50 : wSt) => wSI u50 81 (47 : Int32) (32 : Int32) (fun (u51 : wSt) => wSI u51 81 (48 : Int32) (115 : Int32) (fun (u52 : wSt) => wSI u52 81 (49 : Int32) (104 : Int32) (fun (u53 : wSt) => wSI u53 81 (50 : Int32) (111 : Int32) (fun (u54 : wSt) => wSI u54 81 (51 : Int32) (99 : Int32) (fun (u55 : wSt) => wSI u55 81 (52 : Int32) (107 : Int32) (fun (u56 : wSt) => wSI u56 81 (53 : Int32) (32 : Int32) (fun (u57 : wSt) => wSI u57 81 (54 : Int32) (97 : Int32) (fun (u58 : wSt) => wSI u58 81 (55 : Int32) (110 : Int32) (fun (u59 : wSt) => wSI u59 81 (56 : Int32) (100 : Int32) (fun (u60 : wSt) => wSI u60 81 (57 : Int32) (32 : Int32) (fun (u61 : wSt) => wSI u61 81 (58 : Int32) (111 : Int32) (fun (u62 : wSt) => wSI u62 81 (59 : Int32) (114 : Int32) (fun (u63 : wSt) => wSI u63 81 (60 : Int32) (32 : Int32) (fun (u64 : wSt) => wSI u64 81 (61 : Int32) (110 : Int32) (fun (u65 : wSt) => wSI u65 81 (62 : Int32) (111 : Int32) (fun (u66 : wSt) => wSI u66 81 (63 : Int32) (116 : Int32) (fun (u67 : wSt) => wSI u67 81 (64 : Int32) (32 : Int32) (fun (u68 : wSt) => wSI u68 81 (65 : Int32) (109 : Int32) (fun (u69 : wSt) => wSI u69 81 (66 : Int32) (97 : Int32) (fun (u70 : wSt) => wSI u70 81 (67 : Int32) (110 : Int32) (fun (u71 : wSt) => wSI u71 81 (68 : Int32) (110 : Int32) (fun (u72 : wSt) => wSI u72 81 (69 : Int32) (101 : Int32) (fun (u73 : wSt) => wSI u73 81 (70 : Int32) (114 : Int32) (fun (u74 : wSt) => wSI u74 81 (71 : Int32) (32 : Int32) (fun (u75 : wSt) => wSI u75 81 (72 : Int32) (104 : Int32) (fun (u76 : wSt) => wSI u76 81 (73 : Int32) (117 : Int32) (fun (u77 : wSt) => wSI u77 81 (74 : Int32) (110 : Int32) (fun (u78 : wSt) => wSI u78 81 (75 : Int32) (103 : Int32) (fun (u79 : wSt) => wSI u79 81 (76 : Int32) (101 : Int32) (fun (u80 : wSt) => wSI u80 81 (77 : Int32) (114 : Int32) (fun (u81 : wSt) => wSI u81 81 (78 : Int32) (32 : Int32) (fun (u82 : wSt) => wSI u82 81 (79 : Int32) (119 : Int32) (fun (u83 : wSt) => wSI u83 81 (80 : Int32) (105 : Int32) (fun (u84 : wSt) => wSI u84 81 (81 : Int32) (116 : Int32) (fun (u85 : wSt) => wSI u85 81 (82 : Int32) (32 : Int32) (fun (u86 : wSt) => wSI u86 81 (83 : Int32) (115 : Int32) (fun (u87 : wSt) => wSI u87 81 (84 : Int32) (119 : Int32) (fun (u88 : wSt) => wSI u88 81 (85 : Int32) (101 : Int32) (fun (u89 : wSt) => wSI u89 81 (86 : Int32) (101 : Int32) (fun (u90 : wSt) => wSI u90 81 (87 : Int32) (116 : Int32) (fun (u91 : wSt) => wSI u91 81 (88 : Int32) (32 : Int32) (fun (u92 : wSt) => wSI u92 81 (89 : Int32) (109 : Int32) (fun (u93 : wSt) => wSI u93 81 (90 : Int32) (97 : Int32) (fun (u94 : wSt) => wSI u94 81 (91 : Int32) (114 : Int32) (fun (u95 : wSt) => wSI u95 81 (92 : Int32) (107 : Int32) (fun (u96 : wSt) => wSI u96 81 (93 : Int32) (115 : Int32) (fun (u97 : wSt) => wSI u97 81 (94 : Int32) (32 : Int32) (fun (u98 : wSt) => wSI u98 81 (95 : Int32) (116 : Int32) (fun (u99 : wSt) => wSI u99 81 (96 : Int32) (104 : Int32) (fun (u100 : wSt) => wSI u100 81 (97 : Int32) (101 : Int32) (fun (u101 : wSt) => wSI u101 81 (98 : Int32) (114 : Int32) (fun (u102 : wSt) => wSI u102 81 (99 : Int32) (101 : Int32) (fun (u103 : wSt) => wSI u103 81 (100 : Int32) (32 : Int32) (fun (u104 : wSt) => wSI u104 81 (101 : Int32) (115 : Int32) (fun (u105 : wSt) => wSI u105 81 (102 : Int32) (116 : Int32) (fun (u106 : wSt) => wSI u106 81 (103 : Int32) (101 : Int32) (fun (u107 : wSt) => wSI u107 81 (104 : Int32) (112 : Int32) (fun (u108 : wSt) => wSI u108 81 (105 : Int32) (32 : Int32) (fun (u109 : wSt) => wB (w_sR u109 79 3 (81 + 1)) (fun (u110 : wSt) => wB (w_sI u110 79 5 (-1 : Int32)) (fun (u111 : wSt) => wB (w_sR u111 79 20 (82 + 1)) (fun (u113 : wSt) => wB (w_sR u113 79 21 (83 + 1)) (fun (u115 : wSt) => wB (w_sR u115 79 22 (84 + 1)) (fun (u117 : wSt) => wB (w_sR u117 79 23 (85 + 1)) (fun (u119 : wSt) => wB (w_sR u119 79 24 (86 + 1)) (fun (u121 : wSt) => wB (w_sR u121 79 25 (87 + 1)) (fun (u123 : wSt) => wB (w_sR u123 79 26 (88 + 1)) (fun (u125 : wSt) => wB (w_sR u125 79 27 (89 + 1)) (fun (u127 : wSt) => wB (w_sR u127 79 28 (90 + 1)) (fun (u129 : wSt) => wB (w_sR u129 79 29 (91 + 1)) (fun (u131 : wSt) => wB (w_sR u131 79 30 (92 + 1)) (fun (u133 : wSt) => wB (w_sR u133 79 31 (93 + 1)) (fun (u135 : wSt) => wB (w_sR u135 79 32 (94 + 1)) (fun (u137 : wSt) => wB (w_sR u137 79 33 (95 + 1)) (fun (u139 : wSt) => wB (w_sR u139 79 34 (96 + 1)) (fun (u141 : wSt) => wB (w_sR u141 79 35 (97 + 1)) (fun (u143 : wSt) => wB (w_sR u143 79 36 (98 + 1)) (fun (u145 : wSt) => wB (w_sR u145 79 37 (99 + 1)) (fun (u147 : wSt) => wB (w_sR u147 79 38 (100 + 1)) (fun (u149 : wSt) => wB (w_sR u149 79 39 (101 + 1)) (fun (u151 : wSt) => wB (w_sR u151 79 46 (102 + 1)) (fun (u153 : wSt) => wB (w_sR u153 79 47 (103 + 1)) (fun (u155 : wSt) => wB (w_sR u155 79 49 (104 + 1)) (fun (u157 : wSt) => wB (w_sR u157 79 50 (105 + 1)) (fun (u159 : wSt) => wB (w_sR u159 79 51 (106 + 1)) (fun (u161 : wSt) => wB (w_sR u161 79 52 (107 + 1)) (fun (u163 : wSt) => wB (w_sR u163 79 53 (108 + 1)) (fun (u165 : wSt) => wB (w_sR u165 79 54 (109 + 1)) (fun (u167 : wSt) => wB (w_sR u167 79 55 (110 + 1)) (fun (u169 : wSt) => wB (w_sR u169 79 56 (111 + 1)) (fun (u171 : wSt) => wB (w_sR u171 79 57 (112 + 1)) (fun (u173 : wSt) => wB (w_sR u173 79 69 (113 + 1)) (fun (u175 : wSt) => wB (w_sI u175 79 71 (-1 : Int32)) (fun (u176 : wSt) => wB (w_sR u176 79 72 (114 + 1)) (fun (u178 : wSt) => wB (w_sR u178 79 73 (115 + 1)) (fun (u180 : wSt) => wB (w_sR u180 79 75 (116 + 1)) (fun (u182 : wSt) => wB (w_sR u182 79 77 (117 + 1)) (fun (u184 : wSt) => wB (w_sR u184 79 78 (118 + 1)) (fun (u186 : wSt) => wC (F_X9_plain 79 u186) (fun _ (u187 : wSt) => wC (F_X9_keepText 79 u187) (fun _ (u188 : wSt) => some ((), u188))))))))))))))))))))))))))))))))))))))))))))))))))))))))))))))))))))))))))))))))))))))))))))))))))))))))))))))))))))))))))))))))))))))))))))))))))))))
set_option maxRecDepth 100000 in
set_option maxHeartbeats 4000000 in
theorem c_X9_init_79 {l : Launch} : wMK l yX9_init cX9_init 1 (wRk 3 39 2260 63) 39 2260 79 1 40 (fun ρ => [.ref (ρ 79)]) (fun u => F_X9_init_79 u) := by
  refine wMK_of rfl (fun _ => Nat.le_of_ble_eq_true rfl) (fun D κ ρ kA vA u0 z p e s m args below meth c ls A hF hz hpt hC hr0 hlk hnm hE hH hl => ?_)
  have hx := hC.1.1
  have hb := hC.1.2.1
  have hF : F_X9_init_79 u0 = some z := hF
  unfold F_X9_init_79 at hF
  have ha : ∀ c, c < 79 + 1 → ρ c = ρ c := fun _ _ => rfl
  have hl : lv_has ls 1 [(0, .ref (ρ 79))] := hl
  have key : ∀ (H : Heap) (locs : List Loc), wHr D κ ρ 79 1 A s.heap H locs u0 → W p l e (wRk 3 39 2260 63) s m args below meth c H locs 0 0 (wQK below args s A D κ ρ 79 1 40 39 2260 z) (F0 m 0 ls []) := by
    intro H locs hH
    refine lv_aload_n hx hb dX9_init_0 rfl (lv_at hl 0 rfl) ?_
    refine wr_obj hC hl.1 m_X9_1 ⟨Nat.le_of_ble_eq_true rfl, Nat.le_of_ble_eq_true rfl⟩ dX9_init_1 ?_
    refine lv_aload_n hx hb dX9_init_4 rfl (lv_at hl 0 rfl) ?_
    refine lv_sipush hx hb dX9_init_5 k_sipush_700 ?_
    refine wr_newa (atype := .int) (t := 0) (a0 := (700, .inl (fun _ => 0))) hC hH hz hpt za_int rfl rfl (fun _ _ => rfl) rfl (fun _ => rfl) (w_row0 hz rfl rfl (by decide)) ⟨by decide, by decide⟩ (by decide) (Nat.le_of_ble_eq_true rfl) (Nat.le_of_ble_eq_true rfl) dX9_init_8 (fun r1 H hr hz hpt hH => ?_)
    have hz : wZr (79 + 2) u0 := hz
    have hpt : wPt (79 + 2) u0 := hpt
    have hH : wHr D κ r1 79 2 A s.heap H locs u0 := hH
    have e79 : r1 79 = ρ 79 := hr 79 (by decide)
    rw [← e79]
    have hl : lv_has ls 1 [(0, .ref (r1 79))] := by rw [e79]; exact hl
    have ha : ∀ c, c < 79 + 1 → r1 c = ρ c := fun c hc => (hr c (by omega)).trans (ha c hc)
    refine wr_putR hC hH rfl ⟨by decide, by decide⟩ (by decide) f_X9_7 g_9_0 (Or.inr ⟨_, rfl⟩) (Or.inr ⟨hnm, _, rfl, rfl⟩) dX9_init_10 hz hpt hF (fun u2 H locs hz hpt hF hH => ?_)
    refine lv_aload_n hx hb dX9_init_13 rfl (lv_at hl 0 rfl) ?_
    refine lv_bipush hx hb dX9_init_14 k_bipush_106 ?_
    refine wr_newa (atype := .int) (t := 0) (a0 := (106, .inl (fun _ => 0))) hC hH hz hpt za_int rfl rfl (fun _ _ => rfl) rfl (fun _ => rfl) (w_row0 hz rfl rfl (by decide)) ⟨by decide, by decide⟩ (by decide) (Nat.le_of_ble_eq_true rfl) (Nat.le_of_ble_eq_true rfl) dX9_init_16 (fun r3 H hr hz hpt hH => ?_)
    have hz : wZr (79 + 3) u2 := hz
    have hpt : wPt (79 + 3) u2 := hpt
    have hH : wHr D κ r3 79 3 A s.heap H locs u2 := hH
    have e79 : r3 79 = r1 79 := hr 79 (by decide)
    rw [← e79]
    have hl : lv_has ls 1 [(0, .ref (r3 79))] := by rw [e79]; exact hl
    have ha : ∀ c, c < 79 + 1 → r3 c = ρ c := fun c hc => (hr c (by omega)).trans (ha c hc)
    refine lv_dup hx hb dX9_init_18 rfl ?_
    refine lv_iconst hx hb dX9_init_19 k_iconst_0 ?_
    refine lv_bipush hx hb dX9_init_20 k_bipush_103 ?_
    refine wr_iast hC hH rfl rfl ⟨by decide, by decide⟩ dX9_init_22 hz hpt hF (fun u4 H locs hz hpt hF hH => ?_)
    refine lv_dup hx hb dX9_init_23 rfl ?_
    refine lv_iconst hx hb dX9_init_24 k_iconst_1 ?_
    refine lv_bipush hx hb dX9_init_25 k_bipush_117 ?_
    refine wr_iast hC hH rfl rfl ⟨by decide, by decide⟩ dX9_init_27 hz hpt hF (fun u5 H locs hz hpt hF hH => ?_)
    refine lv_dup hx hb dX9_init_28 rfl ?_
    refine lv_iconst hx hb dX9_init_29 k_iconst_2 ?_
    refine lv_bipush hx hb dX9_init_30 k_bipush_101 ?_
    refine wr_iast hC hH rfl rfl ⟨by decide, by decide⟩ dX9_init_32 hz hpt hF (fun u6 H locs hz hpt hF hH => ?_)
    refine lv_dup hx hb dX9_init_33 rfl ?_
    refine lv_iconst hx hb dX9_init_34 k_iconst_3 ?_
    refine lv_bipush hx hb dX9_init_35 k_bipush_115 ?_
    refine wr_iast hC hH rfl rfl ⟨by decide, by decide⟩ dX9_init_37 hz hpt hF (fun u7 H locs hz hpt hF hH => ?_)
    refine lv_dup hx hb dX9_init_38 rfl ?_
    refine lv_iconst hx hb dX9_init_39 k_iconst_4 ?_
    refine lv_bipush hx hb dX9_init_40 k_bipush_116 ?_
    refine wr_iast hC hH rfl rfl ⟨by decide, by decide⟩ dX9_init_42 hz hpt hF (fun u8 H locs hz hpt hF hH => ?_)
    refine lv_dup hx hb dX9_init_43 rfl ?_
    refine lv_iconst hx hb dX9_init_44 k_iconst_5 ?_
    refine lv_bipush hx hb dX9_init_45 k_bipush_32 ?_
    refine wr_iast hC hH rfl rfl ⟨by decide, by decide⟩ dX9_init_47 hz hpt hF (fun u9 H locs hz hpt hF hH => ?_)
    refine lv_dup hx hb dX9_init_48 rfl ?_
    refine lv_bipush hx hb dX9_init_49 k_bipush_6 ?_
    refine lv_bipush hx hb dX9_init_51 k_bipush_102 ?_
    refine wr_iast hC hH rfl rfl ⟨by decide, by decide⟩ dX9_init_53 hz hpt hF (fun u10 H locs hz hpt hF hH => ?_)
    refine lv_dup hx hb dX9_init_54 rfl ?_
    refine lv_bipush hx hb dX9_init_55 k_bipush_7 ?_
    refine lv_bipush hx hb dX9_init_57 k_bipush_114 ?_
    refine wr_iast hC hH rfl rfl ⟨by decide, by decide⟩ dX9_init_59 hz hpt hF (fun u11 H locs hz hpt hF hH => ?_)
    refine lv_dup hx hb dX9_init_60 rfl ?_
    refine lv_bipush hx hb dX9_init_61 k_bipush_8 ?_
    refine lv_bipush hx hb dX9_init_63 k_bipush_117 ?_
    refine wr_iast hC hH rfl rfl ⟨by decide, by decide⟩ dX9_init_65 hz hpt hF (fun u12 H locs hz hpt hF hH => ?_)
    refine lv_dup hx hb dX9_init_66 rfl ?_
    refine lv_bipush hx hb dX9_init_67 k_bipush_9 ?_
    refine lv_bipush hx hb dX9_init_69 k_bipush_105 ?_
    refine wr_iast hC hH rfl rfl ⟨by decide, by decide⟩ dX9_init_71 hz hpt hF (fun u13 H locs hz hpt hF hH => ?_)
    refine lv_dup hx hb dX9_init_72 rfl ?_
    refine lv_bipush hx hb dX9_init_73 k_bipush_10 ?_
    refine lv_bipush hx hb dX9_init_75 k_bipush_116 ?_
    refine wr_iast hC hH rfl rfl ⟨by decide, by decide⟩ dX9_init_77 hz hpt hF (fun u14 H locs hz hpt hF hH => ?_)
    refine lv_dup hx hb dX9_init_78 rfl ?_
    refine lv_bipush hx hb dX9_init_79 k_bipush_11 ?_
    refine lv_bipush hx hb dX9_init_81 k_bipush_32 ?_
    refine wr_iast hC hH rfl rfl ⟨by decide, by decide⟩ dX9_init_83 hz hpt hF (fun u15 H locs hz hpt hF hH => ?_)
    refine lv_dup hx hb dX9_init_84 rfl ?_
    refine lv_bipush hx hb dX9_init_85 k_bipush_12 ?_
    refine lv_bipush hx hb dX9_init_87 k_bipush_98 ?_
    refine wr_iast hC hH rfl rfl ⟨by decide, by decide⟩ dX9_init_89 hz hpt hF (fun u16 H locs hz hpt hF hH => ?_)
    refine lv_dup hx hb dX9_init_90 rfl ?_
    refine lv_bipush hx hb dX9_init_91 k_bipush_13 ?_
    refine lv_bipush hx hb dX9_init_93 k_bipush_105 ?_
    refine wr_iast hC hH rfl rfl ⟨by decide, by decide⟩ dX9_init_95 hz hpt hF (fun u17 H locs hz hpt hF hH => ?_)
    refine lv_dup hx hb dX9_init_96 rfl ?_
    refine lv_bipush hx hb dX9_init_97 k_bipush_14 ?_
    refine lv_bipush hx hb dX9_init_99 k_bipush_116 ?_
    refine wr_iast hC hH rfl rfl ⟨by decide, by decide⟩ dX9_init_101 hz hpt hF (fun u18 H locs hz hpt hF hH => ?_)
    refine lv_dup hx hb dX9_init_102 rfl ?_
    refine lv_bipush hx hb dX9_init_103 k_bipush_15 ?_
    refine lv_bipush hx hb dX9_init_105 k_bipush_101 ?_
    refine wr_iast hC hH rfl rfl ⟨by decide, by decide⟩ dX9_init_107 hz hpt hF (fun u19 H locs hz hpt hF hH => ?_)
    refine lv_dup hx hb dX9_init_108 rfl ?_
    refine lv_bipush hx hb dX9_init_109 k_bipush_16 ?_
    refine lv_bipush hx hb dX9_init_111 k_bipush_32 ?_
    refine wr_iast hC hH rfl rfl ⟨by decide, by decide⟩ dX9_init_113 hz hpt hF (fun u20 H locs hz hpt hF hH => ?_)
    refine lv_dup hx hb dX9_init_114 rfl ?_
    refine lv_bipush hx hb dX9_init_115 k_bipush_17 ?_
    refine lv_bipush hx hb dX9_init_117 k_bipush_110 ?_
    refine wr_iast hC hH rfl rfl ⟨by decide, by decide⟩ dX9_init_119 hz hpt hF (fun u21 H locs hz hpt hF hH => ?_)
    refine lv_dup hx hb dX9_init_120 rfl ?_
    refine lv_bipush hx hb dX9_init_121 k_bipush_18 ?_
    refine lv_bipush hx hb dX9_init_123 k_bipush_101 ?_
    refine wr_iast hC hH rfl rfl ⟨by decide, by decide⟩ dX9_init_125 hz hpt hF (fun u22 H locs hz hpt hF hH => ?_)
    refine lv_dup hx hb dX9_init_126 rfl ?_
    refine lv_bipush hx hb dX9_init_127 k_bipush_19 ?_
    refine lv_bipush hx hb dX9_init_129 k_bipush_97 ?_
    refine wr_iast hC hH rfl rfl ⟨by decide, by decide⟩ dX9_init_131 hz hpt hF (fun u23 H locs hz hpt hF hH => ?_)
    refine lv_dup hx hb dX9_init_132 rfl ?_
    refine lv_bipush hx hb dX9_init_133 k_bipush_20 ?_
    refine lv_bipush hx hb dX9_init_135 k_bipush_114 ?_
    refine wr_iast hC hH rfl rfl ⟨by decide, by decide⟩ dX9_init_137 hz hpt hF (fun u24 H locs hz hpt hF hH => ?_)
    refine lv_dup hx hb dX9_init_138 rfl ?_
    refine lv_bipush hx hb dX9_init_139 k_bipush_21 ?_
    refine lv_bipush hx hb dX9_init_141 k_bipush_32 ?_
    refine wr_iast hC hH rfl rfl ⟨by decide, by decide⟩ dX9_init_143 hz hpt hF (fun u25 H locs hz hpt hF hH => ?_)
    refine lv_dup hx hb dX9_init_144 rfl ?_
    refine lv_bipush hx hb dX9_init_145 k_bipush_22 ?_
    refine lv_bipush hx hb dX9_init_147 k_bipush_99 ?_
    refine wr_iast hC hH rfl rfl ⟨by decide, by decide⟩ dX9_init_149 hz hpt hF (fun u26 H locs hz hpt hF hH => ?_)
    refine lv_dup hx hb dX9_init_150 rfl ?_
    refine lv_bipush hx hb dX9_init_151 k_bipush_23 ?_
    refine lv_bipush hx hb dX9_init_153 k_bipush_111 ?_
    refine wr_iast hC hH rfl rfl ⟨by decide, by decide⟩ dX9_init_155 hz hpt hF (fun u27 H locs hz hpt hF hH => ?_)
    refine lv_dup hx hb dX9_init_156 rfl ?_
    refine lv_bipush hx hb dX9_init_157 k_bipush_24 ?_
    refine lv_bipush hx hb dX9_init_159 k_bipush_108 ?_
    refine wr_iast hC hH rfl rfl ⟨by decide, by decide⟩ dX9_init_161 hz hpt hF (fun u28 H locs hz hpt hF hH => ?_)
    refine lv_dup hx hb dX9_init_162 rfl ?_
    refine lv_bipush hx hb dX9_init_163 k_bipush_25 ?_
    refine lv_bipush hx hb dX9_init_165 k_bipush_100 ?_
    refine wr_iast hC hH rfl rfl ⟨by decide, by decide⟩ dX9_init_167 hz hpt hF (fun u29 H locs hz hpt hF hH => ?_)
    refine lv_dup hx hb dX9_init_168 rfl ?_
    refine lv_bipush hx hb dX9_init_169 k_bipush_26 ?_
    refine lv_bipush hx hb dX9_init_171 k_bipush_32 ?_
    refine wr_iast hC hH rfl rfl ⟨by decide, by decide⟩ dX9_init_173 hz hpt hF (fun u30 H locs hz hpt hF hH => ?_)
    refine lv_dup hx hb dX9_init_174 rfl ?_
    refine lv_bipush hx hb dX9_init_175 k_bipush_27 ?_
    refine lv_bipush hx hb dX9_init_177 k_bipush_115 ?_
    refine wr_iast hC hH rfl rfl ⟨by decide, by decide⟩ dX9_init_179 hz hpt hF (fun u31 H locs hz hpt hF hH => ?_)
    refine lv_dup hx hb dX9_init_180 rfl ?_
    refine lv_bipush hx hb dX9_init_181 k_bipush_28 ?_
    refine lv_bipush hx hb dX9_init_183 k_bipush_101 ?_
    refine wr_iast hC hH rfl rfl ⟨by decide, by decide⟩ dX9_init_185 hz hpt hF (fun u32 H locs hz hpt hF hH => ?_)
    refine lv_dup hx hb dX9_init_186 rfl ?_
    refine lv_bipush hx hb dX9_init_187 k_bipush_29 ?_
    refine lv_bipush hx hb dX9_init_189 k_bipush_101 ?_
    refine wr_iast hC hH rfl rfl ⟨by decide, by decide⟩ dX9_init_191 hz hpt hF (fun u33 H locs hz hpt hF hH => ?_)
    refine lv_dup hx hb dX9_init_192 rfl ?_
    refine lv_bipush hx hb dX9_init_193 k_bipush_30 ?_
    refine lv_bipush hx hb dX9_init_195 k_bipush_100 ?_
    refine wr_iast hC hH rfl rfl ⟨by decide, by decide⟩ dX9_init_197 hz hpt hF (fun u34 H locs hz hpt hF hH => ?_)
    refine lv_dup hx hb dX9_init_198 rfl ?_
    refine lv_bipush hx hb dX9_init_199 k_bipush_31 ?_
    refine lv_bipush hx hb dX9_init_201 k_bipush_32 ?_
    refine wr_iast hC hH rfl rfl ⟨by decide, by decide⟩ dX9_init_203 hz hpt hF (fun u35 H locs hz hpt hF hH => ?_)
    refine lv_dup hx hb dX9_init_204 rfl ?_
    refine lv_bipush hx hb dX9_init_205 k_bipush_32 ?_
    refine lv_bipush hx hb dX9_init_207 k_bipush_108 ?_
    refine wr_iast hC hH rfl rfl ⟨by decide, by decide⟩ dX9_init_209 hz hpt hF (fun u36 H locs hz hpt hF hH => ?_)
    refine lv_dup hx hb dX9_init_210 rfl ?_
    refine lv_bipush hx hb dX9_init_211 k_bipush_33 ?_
    refine lv_bipush hx hb dX9_init_213 k_bipush_97 ?_
    refine wr_iast hC hH rfl rfl ⟨by decide, by decide⟩ dX9_init_215 hz hpt hF (fun u37 H locs hz hpt hF hH => ?_)
    refine lv_dup hx hb dX9_init_216 rfl ?_
    refine lv_bipush hx hb dX9_init_217 k_bipush_34 ?_
    refine lv_bipush hx hb dX9_init_219 k_bipush_119 ?_
    refine wr_iast hC hH rfl rfl ⟨by decide, by decide⟩ dX9_init_221 hz hpt hF (fun u38 H locs hz hpt hF hH => ?_)
    refine lv_dup hx hb dX9_init_222 rfl ?_
    refine lv_bipush hx hb dX9_init_223 k_bipush_35 ?_
    refine lv_bipush hx hb dX9_init_225 k_bipush_32 ?_
    refine wr_iast hC hH rfl rfl ⟨by decide, by decide⟩ dX9_init_227 hz hpt hF (fun u39 H locs hz hpt hF hH => ?_)
    refine lv_dup hx hb dX9_init_228 rfl ?_
    refine lv_bipush hx hb dX9_init_229 k_bipush_36 ?_
    refine lv_bipush hx hb dX9_init_231 k_bipush_112 ?_
    refine wr_iast hC hH rfl rfl ⟨by decide, by decide⟩ dX9_init_233 hz hpt hF (fun u40 H locs hz hpt hF hH => ?_)
    refine lv_dup hx hb dX9_init_234 rfl ?_
    refine lv_bipush hx hb dX9_init_235 k_bipush_37 ?_
    refine lv_bipush hx hb dX9_init_237 k_bipush_114 ?_
    refine wr_iast hC hH rfl rfl ⟨by decide, by decide⟩ dX9_init_239 hz hpt hF (fun u41 H locs hz hpt hF hH => ?_)
    refine lv_dup hx hb dX9_init_240 rfl ?_
    refine lv_bipush hx hb dX9_init_241 k_bipush_38 ?_
    refine lv_bipush hx hb dX9_init_243 k_bipush_97 ?_
    refine wr_iast hC hH rfl rfl ⟨by decide, by decide⟩ dX9_init_245 hz hpt hF (fun u42 H locs hz hpt hF hH => ?_)
    refine lv_dup hx hb dX9_init_246 rfl ?_
    refine lv_bipush hx hb dX9_init_247 k_bipush_39 ?_
    refine lv_bipush hx hb dX9_init_249 k_bipush_105 ?_
    refine wr_iast hC hH rfl rfl ⟨by decide, by decide⟩ dX9_init_251 hz hpt hF (fun u43 H locs hz hpt hF hH => ?_)
    refine lv_dup hx hb dX9_init_252 rfl ?_
    refine lv_bipush hx hb dX9_init_253 k_bipush_40 ?_
    refine lv_bipush hx hb dX9_init_255 k_bipush_115 ?_
    refine wr_iast hC hH rfl rfl ⟨by decide, by decide⟩ dX9_init_257 hz hpt hF (fun u44 H locs hz hpt hF hH => ?_)
    refine lv_dup hx hb dX9_init_258 rfl ?_
    refine lv_bipush hx hb dX9_init_259 k_bipush_41 ?_
    refine lv_bipush hx hb dX9_init_261 k_bipush_101 ?_
    refine wr_iast hC hH rfl rfl ⟨by decide, by decide⟩ dX9_init_263 hz hpt hF (fun u45 H locs hz hpt hF hH => ?_)
    refine lv_dup hx hb dX9_init_264 rfl ?_
    refine lv_bipush hx hb dX9_init_265 k_bipush_42 ?_
    refine lv_bipush hx hb dX9_init_267 k_bipush_32 ?_
    refine wr_iast hC hH rfl rfl ⟨by decide, by decide⟩ dX9_init_269 hz hpt hF (fun u46 H locs hz hpt hF hH => ?_)
    refine lv_dup hx hb dX9_init_270 rfl ?_
    refine lv_bipush hx hb dX9_init_271 k_bipush_43 ?_
    refine lv_bipush hx hb dX9_init_273 k_bipush_100 ?_
    refine wr_iast hC hH rfl rfl ⟨by decide, by decide⟩ dX9_init_275 hz hpt hF (fun u47 H locs hz hpt hF hH => ?_)
    refine lv_dup hx hb dX9_init_276 rfl ?_
    refine lv_bipush hx hb dX9_init_277 k_bipush_44 ?_
    refine lv_bipush hx hb dX9_init_279 k_bipush_97 ?_
    refine wr_iast hC hH rfl rfl ⟨by decide, by decide⟩ dX9_init_281 hz hpt hF (fun u48 H locs hz hpt hF hH => ?_)
    refine lv_dup hx hb dX9_init_282 rfl ?_
    refine lv_bipush hx hb dX9_init_283 k_bipush_45 ?_
    refine lv_bipush hx hb dX9_init_285 k_bipush_114 ?_
    refine wr_iast hC hH rfl rfl ⟨by decide, by decide⟩ dX9_init_287 hz hpt hF (fun u49 H locs hz hpt hF hH => ?_)
    refine lv_dup hx hb dX9_init_288 rfl ?_
    refine lv_bipush hx hb dX9_init_289 k_bipush_46 ?_
    refine lv_bipush hx hb dX9_init_291 k_bipush_101 ?_
    refine wr_iast hC hH rfl rfl ⟨by decide, by decide⟩ dX9_init_293 hz hpt hF (fun u50 H locs hz hpt hF hH => ?_)
    refine lv_dup hx hb dX9_init_294 rfl ?_
    refine lv_bipush hx hb dX9_init_295 k_bipush_47 ?_
    refine lv_bipush hx hb dX9_init_297 k_bipush_32 ?_
    refine wr_iast hC hH rfl rfl ⟨by decide, by decide⟩ dX9_init_299 hz hpt hF (fun u51 H locs hz hpt hF hH => ?_)
    refine lv_dup hx hb dX9_init_300 rfl ?_
    refine lv_bipush hx hb dX9_init_301 k_bipush_48 ?_
    refine lv_bipush hx hb dX9_init_303 k_bipush_115 ?_
    refine wr_iast hC hH rfl rfl ⟨by decide, by decide⟩ dX9_init_305 hz hpt hF (fun u52 H locs hz hpt hF hH => ?_)
    refine lv_dup hx hb dX9_init_306 rfl ?_
    refine lv_bipush hx hb dX9_init_307 k_bipush_49 ?_
    refine lv_bipush hx hb dX9_init_309 k_bipush_104 ?_
    refine wr_iast hC hH rfl rfl ⟨by decide, by decide⟩ dX9_init_311 hz hpt hF (fun u53 H locs hz hpt hF hH => ?_)
    refine lv_dup hx hb dX9_init_312 rfl ?_
    refine lv_bipush hx hb dX9_init_313 k_bipush_50 ?_
    refine lv_bipush hx hb dX9_init_315 k_bipush_111 ?_
    refine wr_iast hC hH rfl rfl ⟨by decide, by decide⟩ dX9_init_317 hz hpt hF (fun u54 H locs hz hpt hF hH => ?_)
    refine lv_dup hx hb dX9_init_318 rfl ?_
    refine lv_bipush hx hb dX9_init_319 k_bipush_51 ?_
    refine lv_bipush hx hb dX9_init_321 k_bipush_99 ?_
    refine wr_iast hC hH rfl rfl ⟨by decide, by decide⟩ dX9_init_323 hz hpt hF (fun u55 H locs hz hpt hF hH => ?_)
    refine lv_dup hx hb dX9_init_324 rfl ?_
    refine lv_bipush hx hb dX9_init_325 k_bipush_52 ?_
    refine lv_bipush hx hb dX9_init_327 k_bipush_107 ?_
    refine wr_iast hC hH rfl rfl ⟨by decide, by decide⟩ dX9_init_329 hz hpt hF (fun u56 H locs hz hpt hF hH => ?_)
    refine lv_dup hx hb dX9_init_330 rfl ?_
    refine lv_bipush hx hb dX9_init_331 k_bipush_53 ?_
    refine lv_bipush hx hb dX9_init_333 k_bipush_32 ?_
    refine wr_iast hC hH rfl rfl ⟨by decide, by decide⟩ dX9_init_335 hz hpt hF (fun u57 H locs hz hpt hF hH => ?_)
    refine lv_dup hx hb dX9_init_336 rfl ?_
    refine lv_bipush hx hb dX9_init_337 k_bipush_54 ?_
    refine lv_bipush hx hb dX9_init_339 k_bipush_97 ?_
    refine wr_iast hC hH rfl rfl ⟨by decide, by decide⟩ dX9_init_341 hz hpt hF (fun u58 H locs hz hpt hF hH => ?_)
    refine lv_dup hx hb dX9_init_342 rfl ?_
    refine lv_bipush hx hb dX9_init_343 k_bipush_55 ?_
    refine lv_bipush hx hb dX9_init_345 k_bipush_110 ?_
    refine wr_iast hC hH rfl rfl ⟨by decide, by decide⟩ dX9_init_347 hz hpt hF (fun u59 H locs hz hpt hF hH => ?_)
    refine lv_dup hx hb dX9_init_348 rfl ?_
    refine lv_bipush hx hb dX9_init_349 k_bipush_56 ?_
    refine lv_bipush hx hb dX9_init_351 k_bipush_100 ?_
    refine wr_iast hC hH rfl rfl ⟨by decide, by decide⟩ dX9_init_353 hz hpt hF (fun u60 H locs hz hpt hF hH => ?_)
    refine lv_dup hx hb dX9_init_354 rfl ?_
    refine lv_bipush hx hb dX9_init_355 k_bipush_57 ?_
    refine lv_bipush hx hb dX9_init_357 k_bipush_32 ?_
    refine wr_iast hC hH rfl rfl ⟨by decide, by decide⟩ dX9_init_359 hz hpt hF (fun u61 H locs hz hpt hF hH => ?_)
    refine lv_dup hx hb dX9_init_360 rfl ?_
    refine lv_bipush hx hb dX9_init_361 k_bipush_58 ?_
    refine lv_bipush hx hb dX9_init_363 k_bipush_111 ?_
    refine wr_iast hC hH rfl rfl ⟨by decide, by decide⟩ dX9_init_365 hz hpt hF (fun u62 H locs hz hpt hF hH => ?_)
    refine lv_dup hx hb dX9_init_366 rfl ?_
    refine lv_bipush hx hb dX9_init_367 k_bipush_59 ?_
    refine lv_bipush hx hb dX9_init_369 k_bipush_114 ?_
    refine wr_iast hC hH rfl rfl ⟨by decide, by decide⟩ dX9_init_371 hz hpt hF (fun u63 H locs hz hpt hF hH => ?_)
    refine lv_dup hx hb dX9_init_372 rfl ?_
    refine lv_bipush hx hb dX9_init_373 k_bipush_60 ?_
    refine lv_bipush hx hb dX9_init_375 k_bipush_32 ?_
    refine wr_iast hC hH rfl rfl ⟨by decide, by decide⟩ dX9_init_377 hz hpt hF (fun u64 H locs hz hpt hF hH => ?_)
    refine lv_dup hx hb dX9_init_378 rfl ?_
    refine lv_bipush hx hb dX9_init_379 k_bipush_61 ?_
    refine lv_bipush hx hb dX9_init_381 k_bipush_110 ?_
    refine wr_iast hC hH rfl rfl ⟨by decide, by decide⟩ dX9_init_383 hz hpt hF (fun u65 H locs hz hpt hF hH => ?_)
    refine lv_dup hx hb dX9_init_384 rfl ?_
    refine lv_bipush hx hb dX9_init_385 k_bipush_62 ?_
    refine lv_bipush hx hb dX9_init_387 k_bipush_111 ?_
    refine wr_iast hC hH rfl rfl ⟨by decide, by decide⟩ dX9_init_389 hz hpt hF (fun u66 H locs hz hpt hF hH => ?_)
    refine lv_dup hx hb dX9_init_390 rfl ?_
    refine lv_bipush hx hb dX9_init_391 k_bipush_63 ?_
    refine lv_bipush hx hb dX9_init_393 k_bipush_116 ?_
    refine wr_iast hC hH rfl rfl ⟨by decide, by decide⟩ dX9_init_395 hz hpt hF (fun u67 H locs hz hpt hF hH => ?_)
    refine lv_dup hx hb dX9_init_396 rfl ?_
    refine lv_bipush hx hb dX9_init_397 k_bipush_64 ?_
    refine lv_bipush hx hb dX9_init_399 k_bipush_32 ?_
    refine wr_iast hC hH rfl rfl ⟨by decide, by decide⟩ dX9_init_401 hz hpt hF (fun u68 H locs hz hpt hF hH => ?_)
    refine lv_dup hx hb dX9_init_402 rfl ?_
    refine lv_bipush hx hb dX9_init_403 k_bipush_65 ?_
    refine lv_bipush hx hb dX9_init_405 k_bipush_109 ?_
    refine wr_iast hC hH rfl rfl ⟨by decide, by decide⟩ dX9_init_407 hz hpt hF (fun u69 H locs hz hpt hF hH => ?_)
    refine lv_dup hx hb dX9_init_408 rfl ?_
    refine lv_bipush hx hb dX9_init_409 k_bipush_66 ?_
    refine lv_bipush hx hb dX9_init_411 k_bipush_97 ?_
    refine wr_iast hC hH rfl rfl ⟨by decide, by decide⟩ dX9_init_413 hz hpt hF (fun u70 H locs hz hpt hF hH => ?_)
    refine lv_dup hx hb dX9_init_414 rfl ?_
    refine lv_bipush hx hb dX9_init_415 k_bipush_67 ?_
    refine lv_bipush hx hb dX9_init_417 k_bipush_110 ?_
    refine wr_iast hC hH rfl rfl ⟨by decide, by decide⟩ dX9_init_419 hz hpt hF (fun u71 H locs hz hpt hF hH => ?_)
    refine lv_dup hx hb dX9_init_420 rfl ?_
    refine lv_bipush hx hb dX9_init_421 k_bipush_68 ?_
    refine lv_bipush hx hb dX9_init_423 k_bipush_110 ?_
    refine wr_iast hC hH rfl rfl ⟨by decide, by decide⟩ dX9_init_425 hz hpt hF (fun u72 H locs hz hpt hF hH => ?_)
    refine lv_dup hx hb dX9_init_426 rfl ?_
    refine lv_bipush hx hb dX9_init_427 k_bipush_69 ?_
    refine lv_bipush hx hb dX9_init_429 k_bipush_101 ?_
    refine wr_iast hC hH rfl rfl ⟨by decide, by decide⟩ dX9_init_431 hz hpt hF (fun u73 H locs hz hpt hF hH => ?_)
    refine lv_dup hx hb dX9_init_432 rfl ?_
    refine lv_bipush hx hb dX9_init_433 k_bipush_70 ?_
    refine lv_bipush hx hb dX9_init_435 k_bipush_114 ?_
    refine wr_iast hC hH rfl rfl ⟨by decide, by decide⟩ dX9_init_437 hz hpt hF (fun u74 H locs hz hpt hF hH => ?_)
    refine lv_dup hx hb dX9_init_438 rfl ?_
    refine lv_bipush hx hb dX9_init_439 k_bipush_71 ?_
    refine lv_bipush hx hb dX9_init_441 k_bipush_32 ?_
    refine wr_iast hC hH rfl rfl ⟨by decide, by decide⟩ dX9_init_443 hz hpt hF (fun u75 H locs hz hpt hF hH => ?_)
    refine lv_dup hx hb dX9_init_444 rfl ?_
    refine lv_bipush hx hb dX9_init_445 k_bipush_72 ?_
    refine lv_bipush hx hb dX9_init_447 k_bipush_104 ?_
    refine wr_iast hC hH rfl rfl ⟨by decide, by decide⟩ dX9_init_449 hz hpt hF (fun u76 H locs hz hpt hF hH => ?_)
    refine lv_dup hx hb dX9_init_450 rfl ?_
    refine lv_bipush hx hb dX9_init_451 k_bipush_73 ?_
    refine lv_bipush hx hb dX9_init_453 k_bipush_117 ?_
    refine wr_iast hC hH rfl rfl ⟨by decide, by decide⟩ dX9_init_455 hz hpt hF (fun u77 H locs hz hpt hF hH => ?_)
    refine lv_dup hx hb dX9_init_456 rfl ?_
    refine lv_bipush hx hb dX9_init_457 k_bipush_74 ?_
    refine lv_bipush hx hb dX9_init_459 k_bipush_110 ?_
    refine wr_iast hC hH rfl rfl ⟨by decide, by decide⟩ dX9_init_461 hz hpt hF (fun u78 H locs hz hpt hF hH => ?_)
    refine lv_dup hx hb dX9_init_462 rfl ?_
    refine lv_bipush hx hb dX9_init_463 k_bipush_75 ?_
    refine lv_bipush hx hb dX9_init_465 k_bipush_103 ?_
    refine wr_iast hC hH rfl rfl ⟨by decide, by decide⟩ dX9_init_467 hz hpt hF (fun u79 H locs hz hpt hF hH => ?_)
    refine lv_dup hx hb dX9_init_468 rfl ?_
    refine lv_bipush hx hb dX9_init_469 k_bipush_76 ?_
    refine lv_bipush hx hb dX9_init_471 k_bipush_101 ?_
    refine wr_iast hC hH rfl rfl ⟨by decide, by decide⟩ dX9_init_473 hz hpt hF (fun u80 H locs hz hpt hF hH => ?_)
    refine lv_dup hx hb dX9_init_474 rfl ?_
    refine lv_bipush hx hb dX9_init_475 k_bipush_77 ?_
    refine lv_bipush hx hb dX9_init_477 k_bipush_114 ?_
    refine wr_iast hC hH rfl rfl ⟨by decide, by decide⟩ dX9_init_479 hz hpt hF (fun u81 H locs hz hpt hF hH => ?_)
    refine lv_dup hx hb dX9_init_480 rfl ?_
    refine lv_bipush hx hb dX9_init_481 k_bipush_78 ?_
    refine lv_bipush hx hb dX9_init_483 k_bipush_32 ?_
    refine wr_iast hC hH rfl rfl ⟨by decide, by decide⟩ dX9_init_485 hz hpt hF (fun u82 H locs hz hpt hF hH => ?_)
    refine lv_dup hx hb dX9_init_486 rfl ?_
    refine lv_bipush hx hb dX9_init_487 k_bipush_79 ?_
    refine lv_bipush hx hb dX9_init_489 k_bipush_119 ?_
    refine wr_iast hC hH rfl rfl ⟨by decide, by decide⟩ dX9_init_491 hz hpt hF (fun u83 H locs hz hpt hF hH => ?_)
    refine lv_dup hx hb dX9_init_492 rfl ?_
    refine lv_bipush hx hb dX9_init_493 k_bipush_80 ?_
    refine lv_bipush hx hb dX9_init_495 k_bipush_105 ?_
    refine wr_iast hC hH rfl rfl ⟨by decide, by decide⟩ dX9_init_497 hz hpt hF (fun u84 H locs hz hpt hF hH => ?_)
    refine lv_dup hx hb dX9_init_498 rfl ?_
    refine lv_bipush hx hb dX9_init_499 k_bipush_81 ?_
    refine lv_bipush hx hb dX9_init_501 k_bipush_116 ?_
    refine wr_iast hC hH rfl rfl ⟨by decide, by decide⟩ dX9_init_503 hz hpt hF (fun u85 H locs hz hpt hF hH => ?_)
    refine lv_dup hx hb dX9_init_504 rfl ?_
    refine lv_bipush hx hb dX9_init_505 k_bipush_82 ?_
    refine lv_bipush hx hb dX9_init_507 k_bipush_32 ?_
    refine wr_iast hC hH rfl rfl ⟨by decide, by decide⟩ dX9_init_509 hz hpt hF (fun u86 H locs hz hpt hF hH => ?_)
    refine lv_dup hx hb dX9_init_510 rfl ?_
    refine lv_bipush hx hb dX9_init_511 k_bipush_83 ?_
    refine lv_bipush hx hb dX9_init_513 k_bipush_115 ?_
    refine wr_iast hC hH rfl rfl ⟨by decide, by decide⟩ dX9_init_515 hz hpt hF (fun u87 H locs hz hpt hF hH => ?_)
    refine lv_dup hx hb dX9_init_516 rfl ?_
    refine lv_bipush hx hb dX9_init_517 k_bipush_84 ?_
    refine lv_bipush hx hb dX9_init_519 k_bipush_119 ?_
    refine wr_iast hC hH rfl rfl ⟨by decide, by decide⟩ dX9_init_521 hz hpt hF (fun u88 H locs hz hpt hF hH => ?_)
    refine lv_dup hx hb dX9_init_522 rfl ?_
    refine lv_bipush hx hb dX9_init_523 k_bipush_85 ?_
    refine lv_bipush hx hb dX9_init_525 k_bipush_101 ?_
    refine wr_iast hC hH rfl rfl ⟨by decide, by decide⟩ dX9_init_527 hz hpt hF (fun u89 H locs hz hpt hF hH => ?_)
    refine lv_dup hx hb dX9_init_528 rfl ?_
    refine lv_bipush hx hb dX9_init_529 k_bipush_86 ?_
    refine lv_bipush hx hb dX9_init_531 k_bipush_101 ?_
    refine wr_iast hC hH rfl rfl ⟨by decide, by decide⟩ dX9_init_533 hz hpt hF (fun u90 H locs hz hpt hF hH => ?_)
    refine lv_dup hx hb dX9_init_534 rfl ?_
    refine lv_bipush hx hb dX9_init_535 k_bipush_87 ?_
    refine lv_bipush hx hb dX9_init_537 k_bipush_116 ?_
    refine wr_iast hC hH rfl rfl ⟨by decide, by decide⟩ dX9_init_539 hz hpt hF (fun u91 H locs hz hpt hF hH => ?_)
    refine lv_dup hx hb dX9_init_540 rfl ?_
    refine lv_bipush hx hb dX9_init_541 k_bipush_88 ?_
    refine lv_bipush hx hb dX9_init_543 k_bipush_32 ?_
    refine wr_iast hC hH rfl rfl ⟨by decide, by decide⟩ dX9_init_545 hz hpt hF (fun u92 H locs hz hpt hF hH => ?_)
    refine lv_dup hx hb dX9_init_546 rfl ?_
    refine lv_bipush hx hb dX9_init_547 k_bipush_89 ?_
    refine lv_bipush hx hb dX9_init_549 k_bipush_109 ?_
    refine wr_iast hC hH rfl rfl ⟨by decide, by decide⟩ dX9_init_551 hz hpt hF (fun u93 H locs hz hpt hF hH => ?_)
    refine lv_dup hx hb dX9_init_552 rfl ?_
    refine lv_bipush hx hb dX9_init_553 k_bipush_90 ?_
    refine lv_bipush hx hb dX9_init_555 k_bipush_97 ?_
    refine wr_iast hC hH rfl rfl ⟨by decide, by decide⟩ dX9_init_557 hz hpt hF (fun u94 H locs hz hpt hF hH => ?_)
    refine lv_dup hx hb dX9_init_558 rfl ?_
    refine lv_bipush hx hb dX9_init_559 k_bipush_91 ?_
    refine lv_bipush hx hb dX9_init_561 k_bipush_114 ?_
    refine wr_iast hC hH rfl rfl ⟨by decide, by decide⟩ dX9_init_563 hz hpt hF (fun u95 H locs hz hpt hF hH => ?_)
    refine lv_dup hx hb dX9_init_564 rfl ?_
    refine lv_bipush hx hb dX9_init_565 k_bipush_92 ?_
    refine lv_bipush hx hb dX9_init_567 k_bipush_107 ?_
    refine wr_iast hC hH rfl rfl ⟨by decide, by decide⟩ dX9_init_569 hz hpt hF (fun u96 H locs hz hpt hF hH => ?_)
    refine lv_dup hx hb dX9_init_570 rfl ?_
    refine lv_bipush hx hb dX9_init_571 k_bipush_93 ?_
    refine lv_bipush hx hb dX9_init_573 k_bipush_115 ?_
    refine wr_iast hC hH rfl rfl ⟨by decide, by decide⟩ dX9_init_575 hz hpt hF (fun u97 H locs hz hpt hF hH => ?_)
    refine lv_dup hx hb dX9_init_576 rfl ?_
    refine lv_bipush hx hb dX9_init_577 k_bipush_94 ?_
    refine lv_bipush hx hb dX9_init_579 k_bipush_32 ?_
    refine wr_iast hC hH rfl rfl ⟨by decide, by decide⟩ dX9_init_581 hz hpt hF (fun u98 H locs hz hpt hF hH => ?_)
    refine lv_dup hx hb dX9_init_582 rfl ?_
    refine lv_bipush hx hb dX9_init_583 k_bipush_95 ?_
    refine lv_bipush hx hb dX9_init_585 k_bipush_116 ?_
    refine wr_iast hC hH rfl rfl ⟨by decide, by decide⟩ dX9_init_587 hz hpt hF (fun u99 H locs hz hpt hF hH => ?_)
    refine lv_dup hx hb dX9_init_588 rfl ?_
    refine lv_bipush hx hb dX9_init_589 k_bipush_96 ?_
    refine lv_bipush hx hb dX9_init_591 k_bipush_104 ?_
    refine wr_iast hC hH rfl rfl ⟨by decide, by decide⟩ dX9_init_593 hz hpt hF (fun u100 H locs hz hpt hF hH => ?_)
    refine lv_dup hx hb dX9_init_594 rfl ?_
    refine lv_bipush hx hb dX9_init_595 k_bipush_97 ?_
    refine lv_bipush hx hb dX9_init_597 k_bipush_101 ?_
    refine wr_iast hC hH rfl rfl ⟨by decide, by decide⟩ dX9_init_599 hz hpt hF (fun u101 H locs hz hpt hF hH => ?_)
    refine lv_dup hx hb dX9_init_600 rfl ?_
    refine lv_bipush hx hb dX9_init_601 k_bipush_98 ?_
    refine lv_bipush hx hb dX9_init_603 k_bipush_114 ?_
    refine wr_iast hC hH rfl rfl ⟨by decide, by decide⟩ dX9_init_605 hz hpt hF (fun u102 H locs hz hpt hF hH => ?_)
    refine lv_dup hx hb dX9_init_606 rfl ?_
    refine lv_bipush hx hb dX9_init_607 k_bipush_99 ?_
    refine lv_bipush hx hb dX9_init_609 k_bipush_101 ?_
    refine wr_iast hC hH rfl rfl ⟨by decide, by decide⟩ dX9_init_611 hz hpt hF (fun u103 H locs hz hpt hF hH => ?_)
    refine lv_dup hx hb dX9_init_612 rfl ?_
    refine lv_bipush hx hb dX9_init_613 k_bipush_100 ?_
    refine lv_bipush hx hb dX9_init_615 k_bipush_32 ?_
    refine wr_iast hC hH rfl rfl ⟨by decide, by decide⟩ dX9_init_617 hz hpt hF (fun u104 H locs hz hpt hF hH => ?_)
    refine lv_dup hx hb dX9_init_618 rfl ?_
    refine lv_bipush hx hb dX9_init_619 k_bipush_101 ?_
    refine lv_bipush hx hb dX9_init_621 k_bipush_115 ?_
    refine wr_iast hC hH rfl rfl ⟨by decide, by decide⟩ dX9_init_623 hz hpt hF (fun u105 H locs hz hpt hF hH => ?_)
    refine lv_dup hx hb dX9_init_624 rfl ?_
    refine lv_bipush hx hb dX9_init_625 k_bipush_102 ?_
    refine lv_bipush hx hb dX9_init_627 k_bipush_116 ?_
    refine wr_iast hC hH rfl rfl ⟨by decide, by decide⟩ dX9_init_629 hz hpt hF (fun u106 H locs hz hpt hF hH => ?_)
    refine lv_dup hx hb dX9_init_630 rfl ?_
    refine lv_bipush hx hb dX9_init_631 k_bipush_103 ?_
    refine lv_bipush hx hb dX9_init_633 k_bipush_101 ?_
    refine wr_iast hC hH rfl rfl ⟨by decide, by decide⟩ dX9_init_635 hz hpt hF (fun u107 H locs hz hpt hF hH => ?_)
    refine lv_dup hx hb dX9_init_636 rfl ?_
    refine lv_bipush hx hb dX9_init_637 k_bipush_104 ?_
    refine lv_bipush hx hb dX9_init_639 k_bipush_112 ?_
    refine wr_iast hC hH rfl rfl ⟨by decide, by decide⟩ dX9_init_641 hz hpt hF (fun u108 H locs hz hpt hF hH => ?_)
    refine lv_dup hx hb dX9_init_642 rfl ?_
    refine lv_bipush hx hb dX9_init_643 k_bipush_105 ?_
    refine lv_bipush hx hb dX9_init_645 k_bipush_32 ?_
    refine wr_iast hC hH rfl rfl ⟨by decide, by decide⟩ dX9_init_647 hz hpt hF (fun u109 H locs hz hpt hF hH => ?_)
    refine wr_putR hC hH rfl ⟨by decide, by decide⟩ (by decide) f_X9_13 g_9_3 (Or.inr ⟨_, rfl⟩) (Or.inr ⟨hnm, _, rfl, rfl⟩) dX9_init_648 hz hpt hF (fun u110 H locs hz hpt hF hH => ?_)
    refine lv_aload_n hx hb dX9_init_651 rfl (lv_at hl 0 rfl) ?_
    refine lv_iconst hx hb dX9_init_652 k_iconst_m1 ?_
    refine wr_putI hC hH rfl ⟨by decide, by decide⟩ f_X9_16 g_9_5 dX9_init_653 hz hpt hF (fun u111 H locs hz hpt hF hH => ?_)
    refine lv_aload_n hx hb dX9_init_656 rfl (lv_at hl 0 rfl) ?_
    refine lv_iconst hx hb dX9_init_657 k_iconst_3 ?_
    refine wr_newa (atype := .boolean) (t := 2) (a0 := (3, .inl (fun _ => 0))) hC hH hz hpt za_boolean rfl rfl (fun _ _ => rfl) rfl (fun _ => rfl) (w_row0 hz rfl rfl (by decide)) ⟨by decide, by decide⟩ (by decide) (Nat.le_of_ble_eq_true rfl) (Nat.le_of_ble_eq_true rfl) dX9_init_658 (fun r112 H hr hz hpt hH => ?_)
    have hz : wZr (79 + 4) u111 := hz
    have hpt : wPt (79 + 4) u111 := hpt
    have hH : wHr D κ r112 79 4 A s.heap H locs u111 := hH
    have e79 : r112 79 = r3 79 := hr 79 (by decide)
    rw [← e79]
    have hl : lv_has ls 1 [(0, .ref (r112 79))] := by rw [e79]; exact hl
    have ha : ∀ c, c < 79 + 1 → r112 c = ρ c := fun c hc => (hr c (by omega)).trans (ha c hc)
    refine wr_putR hC hH rfl ⟨by decide, by decide⟩ (by decide) f_X9_20 g_9_20 (Or.inr ⟨_, rfl⟩) (Or.inr ⟨hnm, _, rfl, rfl⟩) dX9_init_660 hz hpt hF (fun u113 H locs hz hpt hF hH => ?_)
    refine lv_aload_n hx hb dX9_init_663 rfl (lv_at hl 0 rfl) ?_
    refine lv_bipush hx hb dX9_init_664 k_bipush_6 ?_
    refine wr_newa (atype := .int) (t := 0) (a0 := (6, .inl (fun _ => 0))) hC hH hz hpt za_int rfl rfl (fun _ _ => rfl) rfl (fun _ => rfl) (w_row0 hz rfl rfl (by decide)) ⟨by decide, by decide⟩ (by decide) (Nat.le_of_ble_eq_true rfl) (Nat.le_of_ble_eq_true rfl) dX9_init_666 (fun r114 H hr hz hpt hH => ?_)
    have hz : wZr (79 + 5) u113 := hz
    have hpt : wPt (79 + 5) u113 := hpt
    have hH : wHr D κ r114 79 5 A s.heap H locs u113 := hH
    have e79 : r114 79 = r112 79 := hr 79 (by decide)
    rw [← e79]
    have hl : lv_has ls 1 [(0, .ref (r114 79))] := by rw [e79]; exact hl
    have ha : ∀ c, c < 79 + 1 → r114 c = ρ c := fun c hc => (hr c (by omega)).trans (ha c hc)
    refine wr_putR hC hH rfl ⟨by decide, by decide⟩ (by decide) f_X9_24 g_9_21 (Or.inr ⟨_, rfl⟩) (Or.inr ⟨hnm, _, rfl, rfl⟩) dX9_init_668 hz hpt hF (fun u115 H locs hz hpt hF hH => ?_)
    refine lv_aload_n hx hb dX9_init_671 rfl (lv_at hl 0 rfl) ?_
    refine lv_bipush hx hb dX9_init_672 k_bipush_12 ?_
    refine wr_newa (atype := .int) (t := 0) (a0 := (12, .inl (fun _ => 0))) hC hH hz hpt za_int rfl rfl (fun _ _ => rfl) rfl (fun _ => rfl) (w_row0 hz rfl rfl (by decide)) ⟨by decide, by decide⟩ (by decide) (Nat.le_of_ble_eq_true rfl) (Nat.le_of_ble_eq_true rfl) dX9_init_674 (fun r116 H hr hz hpt hH => ?_)
    have hz : wZr (79 + 6) u115 := hz
    have hpt : wPt (79 + 6) u115 := hpt
    have hH : wHr D κ r116 79 6 A s.heap H locs u115 := hH
    have e79 : r116 79 = r114 79 := hr 79 (by decide)
    rw [← e79]
    have hl : lv_has ls 1 [(0, .ref (r116 79))] := by rw [e79]; exact hl
    have ha : ∀ c, c < 79 + 1 → r116 c = ρ c := fun c hc => (hr c (by omega)).trans (ha c hc)
    refine wr_putR hC hH rfl ⟨by decide, by decide⟩ (by decide) f_X9_27 g_9_22 (Or.inr ⟨_, rfl⟩) (Or.inr ⟨hnm, _, rfl, rfl⟩) dX9_init_676 hz hpt hF (fun u117 H locs hz hpt hF hH => ?_)
    refine lv_aload_n hx hb dX9_init_679 rfl (lv_at hl 0 rfl) ?_
    refine lv_bipush hx hb dX9_init_680 k_bipush_12 ?_
    refine wr_newa (atype := .int) (t := 0) (a0 := (12, .inl (fun _ => 0))) hC hH hz hpt za_int rfl rfl (fun _ _ => rfl) rfl (fun _ => rfl) (w_row0 hz rfl rfl (by decide)) ⟨by decide, by decide⟩ (by decide) (Nat.le_of_ble_eq_true rfl) (Nat.le_of_ble_eq_true rfl) dX9_init_682 (fun r118 H hr hz hpt hH => ?_)
    have hz : wZr (79 + 7) u117 := hz
    have hpt : wPt (79 + 7) u117 := hpt
    have hH : wHr D κ r118 79 7 A s.heap H locs u117 := hH
    have e79 : r118 79 = r116 79 := hr 79 (by decide)
    rw [← e79]
    have hl : lv_has ls 1 [(0, .ref (r118 79))] := by rw [e79]; exact hl
    have ha : ∀ c, c < 79 + 1 → r118 c = ρ c := fun c hc => (hr c (by omega)).trans (ha c hc)
    refine wr_putR hC hH rfl ⟨by decide, by decide⟩ (by decide) f_X9_30 g_9_23 (Or.inr ⟨_, rfl⟩) (Or.inr ⟨hnm, _, rfl, rfl⟩) dX9_init_684 hz hpt hF (fun u119 H locs hz hpt hF hH => ?_)
    refine lv_aload_n hx hb dX9_init_687 rfl (lv_at hl 0 rfl) ?_
    refine lv_bipush hx hb dX9_init_688 k_bipush_12 ?_
    refine wr_newa (atype := .int) (t := 0) (a0 := (12, .inl (fun _ => 0))) hC hH hz hpt za_int rfl rfl (fun _ _ => rfl) rfl (fun _ => rfl) (w_row0 hz rfl rfl (by decide)) ⟨by decide, by decide⟩ (by decide) (Nat.le_of_ble_eq_true rfl) (Nat.le_of_ble_eq_true rfl) dX9_init_690 (fun r120 H hr hz hpt hH => ?_)
    have hz : wZr (79 + 8) u119 := hz
    have hpt : wPt (79 + 8) u119 := hpt
    have hH : wHr D κ r120 79 8 A s.heap H locs u119 := hH
    have e79 : r120 79 = r118 79 := hr 79 (by decide)
    rw [← e79]
    have hl : lv_has ls 1 [(0, .ref (r120 79))] := by rw [e79]; exact hl
    have ha : ∀ c, c < 79 + 1 → r120 c = ρ c := fun c hc => (hr c (by omega)).trans (ha c hc)
    refine wr_putR hC hH rfl ⟨by decide, by decide⟩ (by decide) f_X9_33 g_9_24 (Or.inr ⟨_, rfl⟩) (Or.inr ⟨hnm, _, rfl, rfl⟩) dX9_init_692 hz hpt hF (fun u121 H locs hz hpt hF hH => ?_)
    refine lv_aload_n hx hb dX9_init_695 rfl (lv_at hl 0 rfl) ?_
    refine lv_bipush hx hb dX9_init_696 k_bipush_12 ?_
    refine wr_newa (atype := .int) (t := 0) (a0 := (12, .inl (fun _ => 0))) hC hH hz hpt za_int rfl rfl (fun _ _ => rfl) rfl (fun _ => rfl) (w_row0 hz rfl rfl (by decide)) ⟨by decide, by decide⟩ (by decide) (Nat.le_of_ble_eq_true rfl) (Nat.le_of_ble_eq_true rfl) dX9_init_698 (fun r122 H hr hz hpt hH => ?_)
    have hz : wZr (79 + 9) u121 := hz
    have hpt : wPt (79 + 9) u121 := hpt
    have hH : wHr D κ r122 79 9 A s.heap H locs u121 := hH
    have e79 : r122 79 = r120 79 := hr 79 (by decide)
    rw [← e79]
    have hl : lv_has ls 1 [(0, .ref (r122 79))] := by rw [e79]; exact hl
    have ha : ∀ c, c < 79 + 1 → r122 c = ρ c := fun c hc => (hr c (by omega)).trans (ha c hc)
    refine wr_putR hC hH rfl ⟨by decide, by decide⟩ (by decide) f_X9_36 g_9_25 (Or.inr ⟨_, rfl⟩) (Or.inr ⟨hnm, _, rfl, rfl⟩) dX9_init_700 hz hpt hF (fun u123 H locs hz hpt hF hH => ?_)
    refine lv_aload_n hx hb dX9_init_703 rfl (lv_at hl 0 rfl) ?_
    refine lv_bipush hx hb dX9_init_704 k_bipush_16 ?_
    refine wr_newa (atype := .int) (t := 0) (a0 := (16, .inl (fun _ => 0))) hC hH hz hpt za_int rfl rfl (fun _ _ => rfl) rfl (fun _ => rfl) (w_row0 hz rfl rfl (by decide)) ⟨by decide, by decide⟩ (by decide) (Nat.le_of_ble_eq_true rfl) (Nat.le_of_ble_eq_true rfl) dX9_init_706 (fun r124 H hr hz hpt hH => ?_)
    have hz : wZr (79 + 10) u123 := hz
    have hpt : wPt (79 + 10) u123 := hpt
    have hH : wHr D κ r124 79 10 A s.heap H locs u123 := hH
    have e79 : r124 79 = r122 79 := hr 79 (by decide)
    rw [← e79]
    have hl : lv_has ls 1 [(0, .ref (r124 79))] := by rw [e79]; exact hl
    have ha : ∀ c, c < 79 + 1 → r124 c = ρ c := fun c hc => (hr c (by omega)).trans (ha c hc)
    refine wr_putR hC hH rfl ⟨by decide, by decide⟩ (by decide) f_X9_39 g_9_26 (Or.inr ⟨_, rfl⟩) (Or.inr ⟨hnm, _, rfl, rfl⟩) dX9_init_708 hz hpt hF (fun u125 H locs hz hpt hF hH => ?_)
    refine lv_aload_n hx hb dX9_init_711 rfl (lv_at hl 0 rfl) ?_
    refine lv_bipush hx hb dX9_init_712 k_bipush_16 ?_
    refine wr_newa (atype := .int) (t := 0) (a0 := (16, .inl (fun _ => 0))) hC hH hz hpt za_int rfl rfl (fun _ _ => rfl) rfl (fun _ => rfl) (w_row0 hz rfl rfl (by decide)) ⟨by decide, by decide⟩ (by decide) (Nat.le_of_ble_eq_true rfl) (Nat.le_of_ble_eq_true rfl) dX9_init_714 (fun r126 H hr hz hpt hH => ?_)
    have hz : wZr (79 + 11) u125 := hz
    have hpt : wPt (79 + 11) u125 := hpt
    have hH : wHr D κ r126 79 11 A s.heap H locs u125 := hH
    have e79 : r126 79 = r124 79 := hr 79 (by decide)
    rw [← e79]
    have hl : lv_has ls 1 [(0, .ref (r126 79))] := by rw [e79]; exact hl
    have ha : ∀ c, c < 79 + 1 → r126 c = ρ c := fun c hc => (hr c (by omega)).trans (ha c hc)
    refine wr_putR hC hH rfl ⟨by decide, by decide⟩ (by decide) f_X9_42 g_9_27 (Or.inr ⟨_, rfl⟩) (Or.inr ⟨hnm, _, rfl, rfl⟩) dX9_init_716 hz hpt hF (fun u127 H locs hz hpt hF hH => ?_)
    refine lv_aload_n hx hb dX9_init_719 rfl (lv_at hl 0 rfl) ?_
    refine lv_bipush hx hb dX9_init_720 k_bipush_16 ?_
    refine wr_newa (atype := .int) (t := 0) (a0 := (16, .inl (fun _ => 0))) hC hH hz hpt za_int rfl rfl (fun _ _ => rfl) rfl (fun _ => rfl) (w_row0 hz rfl rfl (by decide)) ⟨by decide, by decide⟩ (by decide) (Nat.le_of_ble_eq_true rfl) (Nat.le_of_ble_eq_true rfl) dX9_init_722 (fun r128 H hr hz hpt hH => ?_)
    have hz : wZr (79 + 12) u127 := hz
    have hpt : wPt (79 + 12) u127 := hpt
    have hH : wHr D κ r128 79 12 A s.heap H locs u127 := hH
    have e79 : r128 79 = r126 79 := hr 79 (by decide)
    rw [← e79]
    have hl : lv_has ls 1 [(0, .ref (r128 79))] := by rw [e79]; exact hl
    have ha : ∀ c, c < 79 + 1 → r128 c = ρ c := fun c hc => (hr c (by omega)).trans (ha c hc)
    refine wr_putR hC hH rfl ⟨by decide, by decide⟩ (by decide) f_X9_45 g_9_28 (Or.inr ⟨_, rfl⟩) (Or.inr ⟨hnm, _, rfl, rfl⟩) dX9_init_724 hz hpt hF (fun u129 H locs hz hpt hF hH => ?_)
    refine lv_aload_n hx hb dX9_init_727 rfl (lv_at hl 0 rfl) ?_
    refine lv_bipush hx hb dX9_init_728 k_bipush_16 ?_
    refine wr_newa (atype := .int) (t := 0) (a0 := (16, .inl (fun _ => 0))) hC hH hz hpt za_int rfl rfl (fun _ _ => rfl) rfl (fun _ => rfl) (w_row0 hz rfl rfl (by decide)) ⟨by decide, by decide⟩ (by decide) (Nat.le_of_ble_eq_true rfl) (Nat.le_of_ble_eq_true rfl) dX9_init_730 (fun r130 H hr hz hpt hH => ?_)
    have hz : wZr (79 + 13) u129 := hz
    have hpt : wPt (79 + 13) u129 := hpt
    have hH : wHr D κ r130 79 13 A s.heap H locs u129 := hH
    have e79 : r130 79 = r128 79 := hr 79 (by decide)
    rw [← e79]
    have hl : lv_has ls 1 [(0, .ref (r130 79))] := by rw [e79]; exact hl
    have ha : ∀ c, c < 79 + 1 → r130 c = ρ c := fun c hc => (hr c (by omega)).trans (ha c hc)
    refine wr_putR hC hH rfl ⟨by decide, by decide⟩ (by decide) f_X9_48 g_9_29 (Or.inr ⟨_, rfl⟩) (Or.inr ⟨hnm, _, rfl, rfl⟩) dX9_init_732 hz hpt hF (fun u131 H locs hz hpt hF hH => ?_)
    refine lv_aload_n hx hb dX9_init_735 rfl (lv_at hl 0 rfl) ?_
    refine lv_bipush hx hb dX9_init_736 k_bipush_16 ?_
    refine wr_newa (atype := .int) (t := 0) (a0 := (16, .inl (fun _ => 0))) hC hH hz hpt za_int rfl rfl (fun _ _ => rfl) rfl (fun _ => rfl) (w_row0 hz rfl rfl (by decide)) ⟨by decide, by decide⟩ (by decide) (Nat.le_of_ble_eq_true rfl) (Nat.le_of_ble_eq_true rfl) dX9_init_738 (fun r132 H hr hz hpt hH => ?_)
    have hz : wZr (79 + 14) u131 := hz
    have hpt : wPt (79 + 14) u131 := hpt
    have hH : wHr D κ r132 79 14 A s.heap H locs u131 := hH
    have e79 : r132 79 = r130 79 := hr 79 (by decide)
    rw [← e79]
    have hl : lv_has ls 1 [(0, .ref (r132 79))] := by rw [e79]; exact hl
    have ha : ∀ c, c < 79 + 1 → r132 c = ρ c := fun c hc => (hr c (by omega)).trans (ha c hc)
    refine wr_putR hC hH rfl ⟨by decide, by decide⟩ (by decide) f_X9_51 g_9_30 (Or.inr ⟨_, rfl⟩) (Or.inr ⟨hnm, _, rfl, rfl⟩) dX9_init_740 hz hpt hF (fun u133 H locs hz hpt hF hH => ?_)
    refine lv_aload_n hx hb dX9_init_743 rfl (lv_at hl 0 rfl) ?_
    refine lv_bipush hx hb dX9_init_744 k_bipush_6 ?_
    refine wr_newa (atype := .boolean) (t := 2) (a0 := (6, .inl (fun _ => 0))) hC hH hz hpt za_boolean rfl rfl (fun _ _ => rfl) rfl (fun _ => rfl) (w_row0 hz rfl rfl (by decide)) ⟨by decide, by decide⟩ (by decide) (Nat.le_of_ble_eq_true rfl) (Nat.le_of_ble_eq_true rfl) dX9_init_746 (fun r134 H hr hz hpt hH => ?_)
    have hz : wZr (79 + 15) u133 := hz
    have hpt : wPt (79 + 15) u133 := hpt
    have hH : wHr D κ r134 79 15 A s.heap H locs u133 := hH
    have e79 : r134 79 = r132 79 := hr 79 (by decide)
    rw [← e79]
    have hl : lv_has ls 1 [(0, .ref (r134 79))] := by rw [e79]; exact hl
    have ha : ∀ c, c < 79 + 1 → r134 c = ρ c := fun c hc => (hr c (by omega)).trans (ha c hc)
    refine wr_putR hC hH rfl ⟨by decide, by decide⟩ (by decide) f_X9_54 g_9_31 (Or.inr ⟨_, rfl⟩) (Or.inr ⟨hnm, _, rfl, rfl⟩) dX9_init_748 hz hpt hF (fun u135 H locs hz hpt hF hH => ?_)
    refine lv_aload_n hx hb dX9_init_751 rfl (lv_at hl 0 rfl) ?_
    refine lv_bipush hx hb dX9_init_752 k_bipush_6 ?_
    refine wr_newa (atype := .int) (t := 0) (a0 := (6, .inl (fun _ => 0))) hC hH hz hpt za_int rfl rfl (fun _ _ => rfl) rfl (fun _ => rfl) (w_row0 hz rfl rfl (by decide)) ⟨by decide, by decide⟩ (by decide) (Nat.le_of_ble_eq_true rfl) (Nat.le_of_ble_eq_true rfl) dX9_init_754 (fun r136 H hr hz hpt hH => ?_)
    have hz : wZr (79 + 16) u135 := hz
    have hpt : wPt (79 + 16) u135 := hpt
    have hH : wHr D κ r136 79 16 A s.heap H locs u135 := hH
    have e79 : r136 79 = r134 79 := hr 79 (by decide)
    rw [← e79]
    have hl : lv_has ls 1 [(0, .ref (r136 79))] := by rw [e79]; exact hl
    have ha : ∀ c, c < 79 + 1 → r136 c = ρ c := fun c hc => (hr c (by omega)).trans (ha c hc)
    refine wr_putR hC hH rfl ⟨by decide, by decide⟩ (by decide) f_X9_57 g_9_32 (Or.inr ⟨_, rfl⟩) (Or.inr ⟨hnm, _, rfl, rfl⟩) dX9_init_756 hz hpt hF (fun u137 H locs hz hpt hF hH => ?_)
    refine lv_aload_n hx hb dX9_init_759 rfl (lv_at hl 0 rfl) ?_
    refine lv_bipush hx hb dX9_init_760 k_bipush_6 ?_
    refine wr_newa (atype := .int) (t := 0) (a0 := (6, .inl (fun _ => 0))) hC hH hz hpt za_int rfl rfl (fun _ _ => rfl) rfl (fun _ => rfl) (w_row0 hz rfl rfl (by decide)) ⟨by decide, by decide⟩ (by decide) (Nat.le_of_ble_eq_true rfl) (Nat.le_of_ble_eq_true rfl) dX9_init_762 (fun r138 H hr hz hpt hH => ?_)
    have hz : wZr (79 + 17) u137 := hz
    have hpt : wPt (79 + 17) u137 := hpt
    have hH : wHr D κ r138 79 17 A s.heap H locs u137 := hH
    have e79 : r138 79 = r136 79 := hr 79 (by decide)
    rw [← e79]
    have hl : lv_has ls 1 [(0, .ref (r138 79))] := by rw [e79]; exact hl
    have ha : ∀ c, c < 79 + 1 → r138 c = ρ c := fun c hc => (hr c (by omega)).trans (ha c hc)
    refine wr_putR hC hH rfl ⟨by decide, by decide⟩ (by decide) f_X9_60 g_9_33 (Or.inr ⟨_, rfl⟩) (Or.inr ⟨hnm, _, rfl, rfl⟩) dX9_init_764 hz hpt hF (fun u139 H locs hz hpt hF hH => ?_)
    refine lv_aload_n hx hb dX9_init_767 rfl (lv_at hl 0 rfl) ?_
    refine lv_sipush hx hb dX9_init_768 k_sipush_128 ?_
    refine wr_newa (atype := .int) (t := 0) (a0 := (128, .inl (fun _ => 0))) hC hH hz hpt za_int rfl rfl (fun _ _ => rfl) rfl (fun _ => rfl) (w_row0 hz rfl rfl (by decide)) ⟨by decide, by decide⟩ (by decide) (Nat.le_of_ble_eq_true rfl) (Nat.le_of_ble_eq_true rfl) dX9_init_771 (fun r140 H hr hz hpt hH => ?_)
    have hz : wZr (79 + 18) u139 := hz
    have hpt : wPt (79 + 18) u139 := hpt
    have hH : wHr D κ r140 79 18 A s.heap H locs u139 := hH
    have e79 : r140 79 = r138 79 := hr 79 (by decide)
    rw [← e79]
    have hl : lv_has ls 1 [(0, .ref (r140 79))] := by rw [e79]; exact hl
    have ha : ∀ c, c < 79 + 1 → r140 c = ρ c := fun c hc => (hr c (by omega)).trans (ha c hc)
    refine wr_putR hC hH rfl ⟨by decide, by decide⟩ (by decide) f_X9_63 g_9_34 (Or.inr ⟨_, rfl⟩) (Or.inr ⟨hnm, _, rfl, rfl⟩) dX9_init_773 hz hpt hF (fun u141 H locs hz hpt hF hH => ?_)
    refine lv_aload_n hx hb dX9_init_776 rfl (lv_at hl 0 rfl) ?_
    refine lv_iconst hx hb dX9_init_777 k_iconst_1 ?_
    refine wr_newa (atype := .int) (t := 0) (a0 := (1, .inl (fun _ => 0))) hC hH hz hpt za_int rfl rfl (fun _ _ => rfl) rfl (fun _ => rfl) (w_row0 hz rfl rfl (by decide)) ⟨by decide, by decide⟩ (by decide) (Nat.le_of_ble_eq_true rfl) (Nat.le_of_ble_eq_true rfl) dX9_init_778 (fun r142 H hr hz hpt hH => ?_)
    have hz : wZr (79 + 19) u141 := hz
    have hpt : wPt (79 + 19) u141 := hpt
    have hH : wHr D κ r142 79 19 A s.heap H locs u141 := hH
    have e79 : r142 79 = r140 79 := hr 79 (by decide)
    rw [← e79]
    have hl : lv_has ls 1 [(0, .ref (r142 79))] := by rw [e79]; exact hl
    have ha : ∀ c, c < 79 + 1 → r142 c = ρ c := fun c hc => (hr c (by omega)).trans (ha c hc)
    refine wr_putR hC hH rfl ⟨by decide, by decide⟩ (by decide) f_X9_66 g_9_35 (Or.inr ⟨_, rfl⟩) (Or.inr ⟨hnm, _, rfl, rfl⟩) dX9_init_780 hz hpt hF (fun u143 H locs hz hpt hF hH => ?_)
    refine lv_aload_n hx hb dX9_init_783 rfl (lv_at hl 0 rfl) ?_
    refine lv_sipush hx hb dX9_init_784 k_sipush_128 ?_
    refine wr_newa (atype := .int) (t := 0) (a0 := (128, .inl (fun _ => 0))) hC hH hz hpt za_int rfl rfl (fun _ _ => rfl) rfl (fun _ => rfl) (w_row0 hz rfl rfl (by decide)) ⟨by decide, by decide⟩ (by decide) (Nat.le_of_ble_eq_true rfl) (Nat.le_of_ble_eq_true rfl) dX9_init_787 (fun r144 H hr hz hpt hH => ?_)
    have hz : wZr (79 + 20) u143 := hz
    have hpt : wPt (79 + 20) u143 := hpt
    have hH : wHr D κ r144 79 20 A s.heap H locs u143 := hH
    have e79 : r144 79 = r142 79 := hr 79 (by decide)
    rw [← e79]
    have hl : lv_has ls 1 [(0, .ref (r144 79))] := by rw [e79]; exact hl
    have ha : ∀ c, c < 79 + 1 → r144 c = ρ c := fun c hc => (hr c (by omega)).trans (ha c hc)
    refine wr_putR hC hH rfl ⟨by decide, by decide⟩ (by decide) f_X9_69 g_9_36 (Or.inr ⟨_, rfl⟩) (Or.inr ⟨hnm, _, rfl, rfl⟩) dX9_init_789 hz hpt hF (fun u145 H locs hz hpt hF hH => ?_)
    refine lv_aload_n hx hb dX9_init_792 rfl (lv_at hl 0 rfl) ?_
    refine lv_sipush hx hb dX9_init_793 k_sipush_128 ?_
    refine wr_newa (atype := .int) (t := 0) (a0 := (128, .inl (fun _ => 0))) hC hH hz hpt za_int rfl rfl (fun _ _ => rfl) rfl (fun _ => rfl) (w_row0 hz rfl rfl (by decide)) ⟨by decide, by decide⟩ (by decide) (Nat.le_of_ble_eq_true rfl) (Nat.le_of_ble_eq_true rfl) dX9_init_796 (fun r146 H hr hz hpt hH => ?_)
    have hz : wZr (79 + 21) u145 := hz
    have hpt : wPt (79 + 21) u145 := hpt
    have hH : wHr D κ r146 79 21 A s.heap H locs u145 := hH
    have e79 : r146 79 = r144 79 := hr 79 (by decide)
    rw [← e79]
    have hl : lv_has ls 1 [(0, .ref (r146 79))] := by rw [e79]; exact hl
    have ha : ∀ c, c < 79 + 1 → r146 c = ρ c := fun c hc => (hr c (by omega)).trans (ha c hc)
    refine wr_putR hC hH rfl ⟨by decide, by decide⟩ (by decide) f_X9_72 g_9_37 (Or.inr ⟨_, rfl⟩) (Or.inr ⟨hnm, _, rfl, rfl⟩) dX9_init_798 hz hpt hF (fun u147 H locs hz hpt hF hH => ?_)
    refine lv_aload_n hx hb dX9_init_801 rfl (lv_at hl 0 rfl) ?_
    refine lv_bipush hx hb dX9_init_802 k_bipush_96 ?_
    refine wr_newa (atype := .int) (t := 0) (a0 := (96, .inl (fun _ => 0))) hC hH hz hpt za_int rfl rfl (fun _ _ => rfl) rfl (fun _ => rfl) (w_row0 hz rfl rfl (by decide)) ⟨by decide, by decide⟩ (by decide) (Nat.le_of_ble_eq_true rfl) (Nat.le_of_ble_eq_true rfl) dX9_init_804 (fun r148 H hr hz hpt hH => ?_)
    have hz : wZr (79 + 22) u147 := hz
    have hpt : wPt (79 + 22) u147 := hpt
    have hH : wHr D κ r148 79 22 A s.heap H locs u147 := hH
    have e79 : r148 79 = r146 79 := hr 79 (by decide)
    rw [← e79]
    have hl : lv_has ls 1 [(0, .ref (r148 79))] := by rw [e79]; exact hl
    have ha : ∀ c, c < 79 + 1 → r148 c = ρ c := fun c hc => (hr c (by omega)).trans (ha c hc)
    refine wr_putR hC hH rfl ⟨by decide, by decide⟩ (by decide) f_X9_75 g_9_38 (Or.inr ⟨_, rfl⟩) (Or.inr ⟨hnm, _, rfl, rfl⟩) dX9_init_806 hz hpt hF (fun u149 H locs hz hpt hF hH => ?_)
    refine lv_aload_n hx hb dX9_init_809 rfl (lv_at hl 0 rfl) ?_
    refine lv_bipush hx hb dX9_init_810 k_bipush_96 ?_
    refine wr_newa (atype := .int) (t := 0) (a0 := (96, .inl (fun _ => 0))) hC hH hz hpt za_int rfl rfl (fun _ _ => rfl) rfl (fun _ => rfl) (w_row0 hz rfl rfl (by decide)) ⟨by decide, by decide⟩ (by decide) (Nat.le_of_ble_eq_true rfl) (Nat.le_of_ble_eq_true rfl) dX9_init_812 (fun r150 H hr hz hpt hH => ?_)
    have hz : wZr (79 + 23) u149 := hz
    have hpt : wPt (79 + 23) u149 := hpt
    have hH : wHr D κ r150 79 23 A s.heap H locs u149 := hH
    have e79 : r150 79 = r148 79 := hr 79 (by decide)
    rw [← e79]
    have hl : lv_has ls 1 [(0, .ref (r150 79))] := by rw [e79]; exact hl
    have ha : ∀ c, c < 79 + 1 → r150 c = ρ c := fun c hc => (hr c (by omega)).trans (ha c hc)
    refine wr_putR hC hH rfl ⟨by decide, by decide⟩ (by decide) f_X9_78 g_9_39 (Or.inr ⟨_, rfl⟩) (Or.inr ⟨hnm, _, rfl, rfl⟩) dX9_init_814 hz hpt hF (fun u151 H locs hz hpt hF hH => ?_)
    refine lv_aload_n hx hb dX9_init_817 rfl (lv_at hl 0 rfl) ?_
    refine lv_bipush hx hb dX9_init_818 k_bipush_7 ?_
    refine wr_newa (atype := .long) (t := 3) (a0 := (7, .inr (.inl (fun _ => 0)))) hC hH hz hpt za_long rfl rfl (fun _ _ => rfl) rfl (fun _ => rfl) (w_row0L hz rfl rfl) ⟨by decide, by decide⟩ (by decide) (Nat.le_of_ble_eq_true rfl) (Nat.le_of_ble_eq_true rfl) dX9_init_820 (fun r152 H hr hz hpt hH => ?_)
    have hz : wZr (79 + 24) u151 := hz
    have hpt : wPt (79 + 24) u151 := hpt
    have hH : wHr D κ r152 79 24 A s.heap H locs u151 := hH
    have e79 : r152 79 = r150 79 := hr 79 (by decide)
    rw [← e79]
    have hl : lv_has ls 1 [(0, .ref (r152 79))] := by rw [e79]; exact hl
    have ha : ∀ c, c < 79 + 1 → r152 c = ρ c := fun c hc => (hr c (by omega)).trans (ha c hc)
    refine wr_putR hC hH rfl ⟨by decide, by decide⟩ (by decide) f_X9_81 g_9_46 (Or.inr ⟨_, rfl⟩) (Or.inr ⟨hnm, _, rfl, rfl⟩) dX9_init_822 hz hpt hF (fun u153 H locs hz hpt hF hH => ?_)
    refine lv_aload_n hx hb dX9_init_825 rfl (lv_at hl 0 rfl) ?_
    refine lv_bipush hx hb dX9_init_826 k_bipush_64 ?_
    refine wr_newa (atype := .long) (t := 3) (a0 := (64, .inr (.inl (fun _ => 0)))) hC hH hz hpt za_long rfl rfl (fun _ _ => rfl) rfl (fun _ => rfl) (w_row0L hz rfl rfl) ⟨by decide, by decide⟩ (by decide) (Nat.le_of_ble_eq_true rfl) (Nat.le_of_ble_eq_true rfl) dX9_init_828 (fun r154 H hr hz hpt hH => ?_)
    have hz : wZr (79 + 25) u153 := hz
    have hpt : wPt (79 + 25) u153 := hpt
    have hH : wHr D κ r154 79 25 A s.heap H locs u153 := hH
    have e79 : r154 79 = r152 79 := hr 79 (by decide)
    rw [← e79]
    have hl : lv_has ls 1 [(0, .ref (r154 79))] := by rw [e79]; exact hl
    have ha : ∀ c, c < 79 + 1 → r154 c = ρ c := fun c hc => (hr c (by omega)).trans (ha c hc)
    refine wr_putR hC hH rfl ⟨by decide, by decide⟩ (by decide) f_X9_85 g_9_47 (Or.inr ⟨_, rfl⟩) (Or.inr ⟨hnm, _, rfl, rfl⟩) dX9_init_830 hz hpt hF (fun u155 H locs hz hpt hF hH => ?_)
    refine lv_aload_n hx hb dX9_init_833 rfl (lv_at hl 0 rfl) ?_
    refine lv_bipush hx hb dX9_init_834 k_bipush_12 ?_
    refine wr_newa (atype := .int) (t := 0) (a0 := (12, .inl (fun _ => 0))) hC hH hz hpt za_int rfl rfl (fun _ _ => rfl) rfl (fun _ => rfl) (w_row0 hz rfl rfl (by decide)) ⟨by decide, by decide⟩ (by decide) (Nat.le_of_ble_eq_true rfl) (Nat.le_of_ble_eq_true rfl) dX9_init_836 (fun r156 H hr hz hpt hH => ?_)
    have hz : wZr (79 + 26) u155 := hz
    have hpt : wPt (79 + 26) u155 := hpt
    have hH : wHr D κ r156 79 26 A s.heap H locs u155 := hH
    have e79 : r156 79 = r154 79 := hr 79 (by decide)
    rw [← e79]
    have hl : lv_has ls 1 [(0, .ref (r156 79))] := by rw [e79]; exact hl
    have ha : ∀ c, c < 79 + 1 → r156 c = ρ c := fun c hc => (hr c (by omega)).trans (ha c hc)
    refine wr_putR hC hH rfl ⟨by decide, by decide⟩ (by decide) f_X9_88 g_9_49 (Or.inr ⟨_, rfl⟩) (Or.inr ⟨hnm, _, rfl, rfl⟩) dX9_init_838 hz hpt hF (fun u157 H locs hz hpt hF hH => ?_)
    refine lv_aload_n hx hb dX9_init_841 rfl (lv_at hl 0 rfl) ?_
    refine lv_bipush hx hb dX9_init_842 k_bipush_12 ?_
    refine wr_newa (atype := .int) (t := 0) (a0 := (12, .inl (fun _ => 0))) hC hH hz hpt za_int rfl rfl (fun _ _ => rfl) rfl (fun _ => rfl) (w_row0 hz rfl rfl (by decide)) ⟨by decide, by decide⟩ (by decide) (Nat.le_of_ble_eq_true rfl) (Nat.le_of_ble_eq_true rfl) dX9_init_844 (fun r158 H hr hz hpt hH => ?_)
    have hz : wZr (79 + 27) u157 := hz
    have hpt : wPt (79 + 27) u157 := hpt
    have hH : wHr D κ r158 79 27 A s.heap H locs u157 := hH
    have e79 : r158 79 = r156 79 := hr 79 (by decide)
    rw [← e79]
    have hl : lv_has ls 1 [(0, .ref (r158 79))] := by rw [e79]; exact hl
    have ha : ∀ c, c < 79 + 1 → r158 c = ρ c := fun c hc => (hr c (by omega)).trans (ha c hc)
    refine wr_putR hC hH rfl ⟨by decide, by decide⟩ (by decide) f_X9_91 g_9_50 (Or.inr ⟨_, rfl⟩) (Or.inr ⟨hnm, _, rfl, rfl⟩) dX9_init_846 hz hpt hF (fun u159 H locs hz hpt hF hH => ?_)
    refine lv_aload_n hx hb dX9_init_849 rfl (lv_at hl 0 rfl) ?_
    refine lv_bipush hx hb dX9_init_850 k_bipush_12 ?_
    refine wr_newa (atype := .int) (t := 0) (a0 := (12, .inl (fun _ => 0))) hC hH hz hpt za_int rfl rfl (fun _ _ => rfl) rfl (fun _ => rfl) (w_row0 hz rfl rfl (by decide)) ⟨by decide, by decide⟩ (by decide) (Nat.le_of_ble_eq_true rfl) (Nat.le_of_ble_eq_true rfl) dX9_init_852 (fun r160 H hr hz hpt hH => ?_)
    have hz : wZr (79 + 28) u159 := hz
    have hpt : wPt (79 + 28) u159 := hpt
    have hH : wHr D κ r160 79 28 A s.heap H locs u159 := hH
    have e79 : r160 79 = r158 79 := hr 79 (by decide)
    rw [← e79]
    have hl : lv_has ls 1 [(0, .ref (r160 79))] := by rw [e79]; exact hl
    have ha : ∀ c, c < 79 + 1 → r160 c = ρ c := fun c hc => (hr c (by omega)).trans (ha c hc)
    refine wr_putR hC hH rfl ⟨by decide, by decide⟩ (by decide) f_X9_94 g_9_51 (Or.inr ⟨_, rfl⟩) (Or.inr ⟨hnm, _, rfl, rfl⟩) dX9_init_854 hz hpt hF (fun u161 H locs hz hpt hF hH => ?_)
    refine lv_aload_n hx hb dX9_init_857 rfl (lv_at hl 0 rfl) ?_
    refine lv_bipush hx hb dX9_init_858 k_bipush_12 ?_
    refine wr_newa (atype := .boolean) (t := 2) (a0 := (12, .inl (fun _ => 0))) hC hH hz hpt za_boolean rfl rfl (fun _ _ => rfl) rfl (fun _ => rfl) (w_row0 hz rfl rfl (by decide)) ⟨by decide, by decide⟩ (by decide) (Nat.le_of_ble_eq_true rfl) (Nat.le_of_ble_eq_true rfl) dX9_init_860 (fun r162 H hr hz hpt hH => ?_)
    have hz : wZr (79 + 29) u161 := hz
    have hpt : wPt (79 + 29) u161 := hpt
    have hH : wHr D κ r162 79 29 A s.heap H locs u161 := hH
    have e79 : r162 79 = r160 79 := hr 79 (by decide)
    rw [← e79]
    have hl : lv_has ls 1 [(0, .ref (r162 79))] := by rw [e79]; exact hl
    have ha : ∀ c, c < 79 + 1 → r162 c = ρ c := fun c hc => (hr c (by omega)).trans (ha c hc)
    refine wr_putR hC hH rfl ⟨by decide, by decide⟩ (by decide) f_X9_97 g_9_52 (Or.inr ⟨_, rfl⟩) (Or.inr ⟨hnm, _, rfl, rfl⟩) dX9_init_862 hz hpt hF (fun u163 H locs hz hpt hF hH => ?_)
    refine lv_aload_n hx hb dX9_init_865 rfl (lv_at hl 0 rfl) ?_
    refine lv_bipush hx hb dX9_init_866 k_bipush_12 ?_
    refine wr_newa (atype := .int) (t := 0) (a0 := (12, .inl (fun _ => 0))) hC hH hz hpt za_int rfl rfl (fun _ _ => rfl) rfl (fun _ => rfl) (w_row0 hz rfl rfl (by decide)) ⟨by decide, by decide⟩ (by decide) (Nat.le_of_ble_eq_true rfl) (Nat.le_of_ble_eq_true rfl) dX9_init_868 (fun r164 H hr hz hpt hH => ?_)
    have hz : wZr (79 + 30) u163 := hz
    have hpt : wPt (79 + 30) u163 := hpt
    have hH : wHr D κ r164 79 30 A s.heap H locs u163 := hH
    have e79 : r164 79 = r162 79 := hr 79 (by decide)
    rw [← e79]
    have hl : lv_has ls 1 [(0, .ref (r164 79))] := by rw [e79]; exact hl
    have ha : ∀ c, c < 79 + 1 → r164 c = ρ c := fun c hc => (hr c (by omega)).trans (ha c hc)
    refine wr_putR hC hH rfl ⟨by decide, by decide⟩ (by decide) f_X9_100 g_9_53 (Or.inr ⟨_, rfl⟩) (Or.inr ⟨hnm, _, rfl, rfl⟩) dX9_init_870 hz hpt hF (fun u165 H locs hz hpt hF hH => ?_)
    refine lv_aload_n hx hb dX9_init_873 rfl (lv_at hl 0 rfl) ?_
    refine lv_bipush hx hb dX9_init_874 k_bipush_16 ?_
    refine wr_newa (atype := .int) (t := 0) (a0 := (16, .inl (fun _ => 0))) hC hH hz hpt za_int rfl rfl (fun _ _ => rfl) rfl (fun _ => rfl) (w_row0 hz rfl rfl (by decide)) ⟨by decide, by decide⟩ (by decide) (Nat.le_of_ble_eq_true rfl) (Nat.le_of_ble_eq_true rfl) dX9_init_876 (fun r166 H hr hz hpt hH => ?_)
    have hz : wZr (79 + 31) u165 := hz
    have hpt : wPt (79 + 31) u165 := hpt
    have hH : wHr D κ r166 79 31 A s.heap H locs u165 := hH
    have e79 : r166 79 = r164 79 := hr 79 (by decide)
    rw [← e79]
    have hl : lv_has ls 1 [(0, .ref (r166 79))] := by rw [e79]; exact hl
    have ha : ∀ c, c < 79 + 1 → r166 c = ρ c := fun c hc => (hr c (by omega)).trans (ha c hc)
    refine wr_putR hC hH rfl ⟨by decide, by decide⟩ (by decide) f_X9_103 g_9_54 (Or.inr ⟨_, rfl⟩) (Or.inr ⟨hnm, _, rfl, rfl⟩) dX9_init_878 hz hpt hF (fun u167 H locs hz hpt hF hH => ?_)
    refine lv_aload_n hx hb dX9_init_881 rfl (lv_at hl 0 rfl) ?_
    refine lv_bipush hx hb dX9_init_882 k_bipush_16 ?_
    refine wr_newa (atype := .boolean) (t := 2) (a0 := (16, .inl (fun _ => 0))) hC hH hz hpt za_boolean rfl rfl (fun _ _ => rfl) rfl (fun _ => rfl) (w_row0 hz rfl rfl (by decide)) ⟨by decide, by decide⟩ (by decide) (Nat.le_of_ble_eq_true rfl) (Nat.le_of_ble_eq_true rfl) dX9_init_884 (fun r168 H hr hz hpt hH => ?_)
    have hz : wZr (79 + 32) u167 := hz
    have hpt : wPt (79 + 32) u167 := hpt
    have hH : wHr D κ r168 79 32 A s.heap H locs u167 := hH
    have e79 : r168 79 = r166 79 := hr 79 (by decide)
    rw [← e79]
    have hl : lv_has ls 1 [(0, .ref (r168 79))] := by rw [e79]; exact hl
    have ha : ∀ c, c < 79 + 1 → r168 c = ρ c := fun c hc => (hr c (by omega)).trans (ha c hc)
    refine wr_putR hC hH rfl ⟨by decide, by decide⟩ (by decide) f_X9_106 g_9_55 (Or.inr ⟨_, rfl⟩) (Or.inr ⟨hnm, _, rfl, rfl⟩) dX9_init_886 hz hpt hF (fun u169 H locs hz hpt hF hH => ?_)
    refine lv_aload_n hx hb dX9_init_889 rfl (lv_at hl 0 rfl) ?_
    refine lv_bipush hx hb dX9_init_890 k_bipush_16 ?_
    refine wr_newa (atype := .int) (t := 0) (a0 := (16, .inl (fun _ => 0))) hC hH hz hpt za_int rfl rfl (fun _ _ => rfl) rfl (fun _ => rfl) (w_row0 hz rfl rfl (by decide)) ⟨by decide, by decide⟩ (by decide) (Nat.le_of_ble_eq_true rfl) (Nat.le_of_ble_eq_true rfl) dX9_init_892 (fun r170 H hr hz hpt hH => ?_)
    have hz : wZr (79 + 33) u169 := hz
    have hpt : wPt (79 + 33) u169 := hpt
    have hH : wHr D κ r170 79 33 A s.heap H locs u169 := hH
    have e79 : r170 79 = r168 79 := hr 79 (by decide)
    rw [← e79]
    have hl : lv_has ls 1 [(0, .ref (r170 79))] := by rw [e79]; exact hl
    have ha : ∀ c, c < 79 + 1 → r170 c = ρ c := fun c hc => (hr c (by omega)).trans (ha c hc)
    refine wr_putR hC hH rfl ⟨by decide, by decide⟩ (by decide) f_X9_109 g_9_56 (Or.inr ⟨_, rfl⟩) (Or.inr ⟨hnm, _, rfl, rfl⟩) dX9_init_894 hz hpt hF (fun u171 H locs hz hpt hF hH => ?_)
    refine lv_aload_n hx hb dX9_init_897 rfl (lv_at hl 0 rfl) ?_
    refine lv_iconst hx hb dX9_init_898 k_iconst_2 ?_
    refine wr_newa (atype := .int) (t := 0) (a0 := (2, .inl (fun _ => 0))) hC hH hz hpt za_int rfl rfl (fun _ _ => rfl) rfl (fun _ => rfl) (w_row0 hz rfl rfl (by decide)) ⟨by decide, by decide⟩ (by decide) (Nat.le_of_ble_eq_true rfl) (Nat.le_of_ble_eq_true rfl) dX9_init_899 (fun r172 H hr hz hpt hH => ?_)
    have hz : wZr (79 + 34) u171 := hz
    have hpt : wPt (79 + 34) u171 := hpt
    have hH : wHr D κ r172 79 34 A s.heap H locs u171 := hH
    have e79 : r172 79 = r170 79 := hr 79 (by decide)
    rw [← e79]
    have hl : lv_has ls 1 [(0, .ref (r172 79))] := by rw [e79]; exact hl
    have ha : ∀ c, c < 79 + 1 → r172 c = ρ c := fun c hc => (hr c (by omega)).trans (ha c hc)
    refine wr_putR hC hH rfl ⟨by decide, by decide⟩ (by decide) f_X9_112 g_9_57 (Or.inr ⟨_, rfl⟩) (Or.inr ⟨hnm, _, rfl, rfl⟩) dX9_init_901 hz hpt hF (fun u173 H locs hz hpt hF hH => ?_)
    refine lv_aload_n hx hb dX9_init_904 rfl (lv_at hl 0 rfl) ?_
    refine lv_bipush hx hb dX9_init_905 k_bipush_6 ?_
    refine wr_newa (atype := .int) (t := 0) (a0 := (6, .inl (fun _ => 0))) hC hH hz hpt za_int rfl rfl (fun _ _ => rfl) rfl (fun _ => rfl) (w_row0 hz rfl rfl (by decide)) ⟨by decide, by decide⟩ (by decide) (Nat.le_of_ble_eq_true rfl) (Nat.le_of_ble_eq_true rfl) dX9_init_907 (fun r174 H hr hz hpt hH => ?_)
    have hz : wZr (79 + 35) u173 := hz
    have hpt : wPt (79 + 35) u173 := hpt
    have hH : wHr D κ r174 79 35 A s.heap H locs u173 := hH
    have e79 : r174 79 = r172 79 := hr 79 (by decide)
    rw [← e79]
    have hl : lv_has ls 1 [(0, .ref (r174 79))] := by rw [e79]; exact hl
    have ha : ∀ c, c < 79 + 1 → r174 c = ρ c := fun c hc => (hr c (by omega)).trans (ha c hc)
    refine wr_putR hC hH rfl ⟨by decide, by decide⟩ (by decide) f_X9_115 g_9_69 (Or.inr ⟨_, rfl⟩) (Or.inr ⟨hnm, _, rfl, rfl⟩) dX9_init_909 hz hpt hF (fun u175 H locs hz hpt hF hH => ?_)
    refine lv_aload_n hx hb dX9_init_912 rfl (lv_at hl 0 rfl) ?_
    refine lv_iconst hx hb dX9_init_913 k_iconst_m1 ?_
    refine wr_putI hC hH rfl ⟨by decide, by decide⟩ f_X9_118 g_9_71 dX9_init_914 hz hpt hF (fun u176 H locs hz hpt hF hH => ?_)
    refine lv_aload_n hx hb dX9_init_917 rfl (lv_at hl 0 rfl) ?_
    refine lv_bipush hx hb dX9_init_918 k_bipush_96 ?_
    refine wr_newa (atype := .int) (t := 0) (a0 := (96, .inl (fun _ => 0))) hC hH hz hpt za_int rfl rfl (fun _ _ => rfl) rfl (fun _ => rfl) (w_row0 hz rfl rfl (by decide)) ⟨by decide, by decide⟩ (by decide) (Nat.le_of_ble_eq_true rfl) (Nat.le_of_ble_eq_true rfl) dX9_init_920 (fun r177 H hr hz hpt hH => ?_)
    have hz : wZr (79 + 36) u176 := hz
    have hpt : wPt (79 + 36) u176 := hpt
    have hH : wHr D κ r177 79 36 A s.heap H locs u176 := hH
    have e79 : r177 79 = r174 79 := hr 79 (by decide)
    rw [← e79]
    have hl : lv_has ls 1 [(0, .ref (r177 79))] := by rw [e79]; exact hl
    have ha : ∀ c, c < 79 + 1 → r177 c = ρ c := fun c hc => (hr c (by omega)).trans (ha c hc)
    refine wr_putR hC hH rfl ⟨by decide, by decide⟩ (by decide) f_X9_121 g_9_72 (Or.inr ⟨_, rfl⟩) (Or.inr ⟨hnm, _, rfl, rfl⟩) dX9_init_922 hz hpt hF (fun u178 H locs hz hpt hF hH => ?_)
    refine lv_aload_n hx hb dX9_init_925 rfl (lv_at hl 0 rfl) ?_
    refine lv_bipush hx hb dX9_init_926 k_bipush_24 ?_
    refine wr_newa (atype := .boolean) (t := 2) (a0 := (24, .inl (fun _ => 0))) hC hH hz hpt za_boolean rfl rfl (fun _ _ => rfl) rfl (fun _ => rfl) (w_row0 hz rfl rfl (by decide)) ⟨by decide, by decide⟩ (by decide) (Nat.le_of_ble_eq_true rfl) (Nat.le_of_ble_eq_true rfl) dX9_init_928 (fun r179 H hr hz hpt hH => ?_)
    have hz : wZr (79 + 37) u178 := hz
    have hpt : wPt (79 + 37) u178 := hpt
    have hH : wHr D κ r179 79 37 A s.heap H locs u178 := hH
    have e79 : r179 79 = r177 79 := hr 79 (by decide)
    rw [← e79]
    have hl : lv_has ls 1 [(0, .ref (r179 79))] := by rw [e79]; exact hl
    have ha : ∀ c, c < 79 + 1 → r179 c = ρ c := fun c hc => (hr c (by omega)).trans (ha c hc)
    refine wr_putR hC hH rfl ⟨by decide, by decide⟩ (by decide) f_X9_124 g_9_73 (Or.inr ⟨_, rfl⟩) (Or.inr ⟨hnm, _, rfl, rfl⟩) dX9_init_930 hz hpt hF (fun u180 H locs hz hpt hF hH => ?_)
    refine lv_aload_n hx hb dX9_init_933 rfl (lv_at hl 0 rfl) ?_
    refine lv_sipush hx hb dX9_init_934 k_sipush_360 ?_
    refine wr_newa (atype := .int) (t := 0) (a0 := (360, .inl (fun _ => 0))) hC hH hz hpt za_int rfl rfl (fun _ _ => rfl) rfl (fun _ => rfl) (w_row0 hz rfl rfl (by decide)) ⟨by decide, by decide⟩ (by decide) (Nat.le_of_ble_eq_true rfl) (Nat.le_of_ble_eq_true rfl) dX9_init_937 (fun r181 H hr hz hpt hH => ?_)
    have hz : wZr (79 + 38) u180 := hz
    have hpt : wPt (79 + 38) u180 := hpt
    have hH : wHr D κ r181 79 38 A s.heap H locs u180 := hH
    have e79 : r181 79 = r179 79 := hr 79 (by decide)
    rw [← e79]
    have hl : lv_has ls 1 [(0, .ref (r181 79))] := by rw [e79]; exact hl
    have ha : ∀ c, c < 79 + 1 → r181 c = ρ c := fun c hc => (hr c (by omega)).trans (ha c hc)
    refine wr_putR hC hH rfl ⟨by decide, by decide⟩ (by decide) f_X9_127 g_9_75 (Or.inr ⟨_, rfl⟩) (Or.inr ⟨hnm, _, rfl, rfl⟩) dX9_init_939 hz hpt hF (fun u182 H locs hz hpt hF hH => ?_)
    refine lv_aload_n hx hb dX9_init_942 rfl (lv_at hl 0 rfl) ?_
    refine lv_bipush hx hb dX9_init_943 k_bipush_18 ?_
    refine wr_newa (atype := .int) (t := 0) (a0 := (18, .inl (fun _ => 0))) hC hH hz hpt za_int rfl rfl (fun _ _ => rfl) rfl (fun _ => rfl) (w_row0 hz rfl rfl (by decide)) ⟨by decide, by decide⟩ (by decide) (Nat.le_of_ble_eq_true rfl) (Nat.le_of_ble_eq_true rfl) dX9_init_945 (fun r183 H hr hz hpt hH => ?_)
    have hz : wZr (79 + 39) u182 := hz
    have hpt : wPt (79 + 39) u182 := hpt
    have hH : wHr D κ r183 79 39 A s.heap H locs u182 := hH
    have e79 : r183 79 = r181 79 := hr 79 (by decide)
    rw [← e79]
    have hl : lv_has ls 1 [(0, .ref (r183 79))] := by rw [e79]; exact hl
    have ha : ∀ c, c < 79 + 1 → r183 c = ρ c := fun c hc => (hr c (by omega)).trans (ha c hc)
    refine wr_putR hC hH rfl ⟨by decide, by decide⟩ (by decide) f_X9_130 g_9_77 (Or.inr ⟨_, rfl⟩) (Or.inr ⟨hnm, _, rfl, rfl⟩) dX9_init_947 hz hpt hF (fun u184 H locs hz hpt hF hH => ?_)
    refine lv_aload_n hx hb dX9_init_950 rfl (lv_at hl 0 rfl) ?_
    refine lv_bipush hx hb dX9_init_951 k_bipush_37 ?_
    refine wr_newa (atype := .int) (t := 0) (a0 := (37, .inl (fun _ => 0))) hC hH hz hpt za_int rfl rfl (fun _ _ => rfl) rfl (fun _ => rfl) (w_row0 hz rfl rfl (by decide)) ⟨by decide, by decide⟩ (by decide) (Nat.le_of_ble_eq_true rfl) (Nat.le_of_ble_eq_true rfl) dX9_init_953 (fun r185 H hr hz hpt hH => ?_)
    have hz : wZr (79 + 40) u184 := hz
    have hpt : wPt (79 + 40) u184 := hpt
    have hH : wHr D κ r185 79 40 A s.heap H locs u184 := hH
    have e79 : r185 79 = r183 79 := hr 79 (by decide)
    rw [← e79]
    have hl : lv_has ls 1 [(0, .ref (r185 79))] := by rw [e79]; exact hl
    have ha : ∀ c, c < 79 + 1 → r185 c = ρ c := fun c hc => (hr c (by omega)).trans (ha c hc)
    refine wr_putR hC hH rfl ⟨by decide, by decide⟩ (by decide) f_X9_133 g_9_78 (Or.inr ⟨_, rfl⟩) (Or.inr ⟨hnm, _, rfl, rfl⟩) dX9_init_955 hz hpt hF (fun u186 H locs hz hpt hF hH => ?_)
    refine lv_aload_n hx hb dX9_init_958 rfl (lv_at hl 0 rfl) ?_
    refine wx_evv ⟨hC.1, hC.2, by decide⟩ (sd := 1) hH hl (c_X9_plain 79 rfl) y_X9_plain v_X9_plain rfl rfl m_X9_136 rfl ⟨Nat.le_of_ble_eq_true rfl, Nat.le_of_ble_eq_true rfl⟩ ⟨Nat.le_of_ble_eq_true rfl, Nat.le_of_ble_eq_true rfl⟩ rfl (Nat.le_of_ble_eq_true rfl) dX9_init_959 hF (fun _ u187 H locs hF hH => ?_)
    refine lv_aload_n hx hb dX9_init_962 rfl (lv_at hl 0 rfl) ?_
    refine wx_evv ⟨hC.1, hC.2, by decide⟩ (sd := 1) hH hl (c_X9_keepText 79 rfl) y_X9_keepText v_X9_keepText rfl rfl m_X9_139 rfl ⟨Nat.le_of_ble_eq_true rfl, Nat.le_of_ble_eq_true rfl⟩ ⟨Nat.le_of_ble_eq_true rfl, Nat.le_of_ble_eq_true rfl⟩ rfl (Nat.le_of_ble_eq_true rfl) dX9_init_963 hF (fun _ u188 H locs hF hH => ?_)
    refine W.widen (k := 39) (n := 2260) (Nat.le_of_ble_eq_true rfl) (Nat.le_of_ble_eq_true rfl) ?_
    exact wr_vret hC hH ha (fun h => absurd h (by decide)) hr0 hlk dX9_init_966 hF
  exact key _ _ hH
def F_X1_init_12 (u0 : wSt) : Option (Unit × wSt) :=
  wB (w_sI u0 12 0 (0 : Int32)) (fun (u1 : wSt) => wB (w_sR u1 12 1 (13 + 1)) (fun (u3 : wSt) => wB (w_sR u3 12 2 (14 + 1)) (fun (u5 : wSt) => wB (w_sR u5 12 3 (15 + 1)) (fun (u7 : wSt) => wB (w_sR u7 12 4 (16 + 1)) (fun (u9 : wSt) => wB (w_sR u9 12 5 (17 + 1)) (fun (u11 : wSt) => wB (w_sR u11 12 6 (18 + 1)) (fun (u13 : wSt) => some ((), u13))))))))
set_option maxRecDepth 100000 in
set_option maxHeartbeats 4000000 in
theorem c_X1_init_12 {l : Launch} : wMK l yX1_init cX1_init 1 (wRk 1 6 201 20) 6 201 0 13 19 (fun ρ => [.ref (ρ 12)]) (fun u => F_X1_init_12 u) := by
  refine wMK_of rfl (fun _ => Nat.le_of_ble_eq_true rfl) (fun D κ ρ kA vA u0 z p e s m args below meth c ls A hF hz hpt hC hr0 hlk hnm hE hH hl => ?_)
  have hx := hC.1.1
  have hb := hC.1.2.1
  have hF : F_X1_init_12 u0 = some z := hF
  unfold F_X1_init_12 at hF
  have ha : ∀ c, c < 0 + 13 → ρ c = ρ c := fun _ _ => rfl
  have hl : lv_has ls 1 [(0, .ref (ρ 12))] := hl
  have key : ∀ (H : Heap) (locs : List Loc), wHr D κ ρ 0 13 A s.heap H locs u0 → W p l e (wRk 1 6 201 20) s m args below meth c H locs 0 0 (wQK below args s A D κ ρ 0 13 19 6 201 z) (F0 m 0 ls []) := by
    intro H locs hH
    refine lv_aload_n hx hb dX1_init_0 rfl (lv_at hl 0 rfl) ?_
    refine wr_obj hC hl.1 m_X1_3 ⟨Nat.le_of_ble_eq_true rfl, Nat.le_of_ble_eq_true rfl⟩ dX1_init_1 ?_
    refine lv_aload_n hx hb dX1_init_4 rfl (lv_at hl 0 rfl) ?_
    refine lv_iconst hx hb dX1_init_5 k_iconst_0 ?_
    refine wr_putI hC hH rfl ⟨by decide, by decide⟩ f_X1_9 g_1_0 dX1_init_6 hz hpt hF (fun u1 H locs hz hpt hF hH => ?_)
    refine lv_aload_n hx hb dX1_init_9 rfl (lv_at hl 0 rfl) ?_
    refine lv_iconst hx hb dX1_init_10 k_iconst_3 ?_
    refine wr_newa (atype := .boolean) (t := 2) (a0 := (3, .inl (fun _ => 0))) hC hH hz hpt za_boolean rfl rfl (fun _ _ => rfl) rfl (fun _ => rfl) (w_row0 hz rfl rfl (by decide)) ⟨by decide, by decide⟩ (by decide) (Nat.le_of_ble_eq_true rfl) (Nat.le_of_ble_eq_true rfl) dX1_init_11 (fun r2 H hr hz hpt hH => ?_)
    have hz : wZr (0 + 14) u1 := hz
    have hpt : wPt (0 + 14) u1 := hpt
    have hH : wHr D κ r2 0 14 A s.heap H locs u1 := hH
    have e12 : r2 12 = ρ 12 := hr 12 (by decide)
    rw [← e12]
    have hl : lv_has ls 1 [(0, .ref (r2 12))] := by rw [e12]; exact hl
    have ha : ∀ c, c < 0 + 13 → r2 c = ρ c := fun c hc => (hr c (by omega)).trans (ha c hc)
    refine wr_putR hC hH rfl ⟨by decide, by decide⟩ (by decide) f_X1_15 g_1_1 (Or.inr ⟨_, rfl⟩) (Or.inr ⟨hnm, _, rfl, rfl⟩) dX1_init_13 hz hpt hF (fun u3 H locs hz hpt hF hH => ?_)
    refine lv_aload_n hx hb dX1_init_16 rfl (lv_at hl 0 rfl) ?_
    refine lv_iconst hx hb dX1_init_17 k_iconst_3 ?_
    refine wr_newa (atype := .int) (t := 0) (a0 := (3, .inl (fun _ => 0))) hC hH hz hpt za_int rfl rfl (fun _ _ => rfl) rfl (fun _ => rfl) (w_row0 hz rfl rfl (by decide)) ⟨by decide, by decide⟩ (by decide) (Nat.le_of_ble_eq_true rfl) (Nat.le_of_ble_eq_true rfl) dX1_init_18 (fun r4 H hr hz hpt hH => ?_)
    have hz : wZr (0 + 15) u3 := hz
    have hpt : wPt (0 + 15) u3 := hpt
    have hH : wHr D κ r4 0 15 A s.heap H locs u3 := hH
    have e12 : r4 12 = r2 12 := hr 12 (by decide)
    rw [← e12]
    have hl : lv_has ls 1 [(0, .ref (r4 12))] := by rw [e12]; exact hl
    have ha : ∀ c, c < 0 + 13 → r4 c = ρ c := fun c hc => (hr c (by omega)).trans (ha c hc)
    refine wr_putR hC hH rfl ⟨by decide, by decide⟩ (by decide) f_X1_19 g_1_2 (Or.inr ⟨_, rfl⟩) (Or.inr ⟨hnm, _, rfl, rfl⟩) dX1_init_20 hz hpt hF (fun u5 H locs hz hpt hF hH => ?_)
    refine lv_aload_n hx hb dX1_init_23 rfl (lv_at hl 0 rfl) ?_
    refine lv_iconst hx hb dX1_init_24 k_iconst_3 ?_
    refine wr_newa (atype := .int) (t := 0) (a0 := (3, .inl (fun _ => 0))) hC hH hz hpt za_int rfl rfl (fun _ _ => rfl) rfl (fun _ => rfl) (w_row0 hz rfl rfl (by decide)) ⟨by decide, by decide⟩ (by decide) (Nat.le_of_ble_eq_true rfl) (Nat.le_of_ble_eq_true rfl) dX1_init_25 (fun r6 H hr hz hpt hH => ?_)
    have hz : wZr (0 + 16) u5 := hz
    have hpt : wPt (0 + 16) u5 := hpt
    have hH : wHr D κ r6 0 16 A s.heap H locs u5 := hH
    have e12 : r6 12 = r4 12 := hr 12 (by decide)
    rw [← e12]
    have hl : lv_has ls 1 [(0, .ref (r6 12))] := by rw [e12]; exact hl
    have ha : ∀ c, c < 0 + 13 → r6 c = ρ c := fun c hc => (hr c (by omega)).trans (ha c hc)
    refine wr_putR hC hH rfl ⟨by decide, by decide⟩ (by decide) f_X1_23 g_1_3 (Or.inr ⟨_, rfl⟩) (Or.inr ⟨hnm, _, rfl, rfl⟩) dX1_init_27 hz hpt hF (fun u7 H locs hz hpt hF hH => ?_)
    refine lv_aload_n hx hb dX1_init_30 rfl (lv_at hl 0 rfl) ?_
    refine lv_bipush hx hb dX1_init_31 k_bipush_64 ?_
    refine wr_newa (atype := .int) (t := 0) (a0 := (64, .inl (fun _ => 0))) hC hH hz hpt za_int rfl rfl (fun _ _ => rfl) rfl (fun _ => rfl) (w_row0 hz rfl rfl (by decide)) ⟨by decide, by decide⟩ (by decide) (Nat.le_of_ble_eq_true rfl) (Nat.le_of_ble_eq_true rfl) dX1_init_33 (fun r8 H hr hz hpt hH => ?_)
    have hz : wZr (0 + 17) u7 := hz
    have hpt : wPt (0 + 17) u7 := hpt
    have hH : wHr D κ r8 0 17 A s.heap H locs u7 := hH
    have e12 : r8 12 = r6 12 := hr 12 (by decide)
    rw [← e12]
    have hl : lv_has ls 1 [(0, .ref (r8 12))] := by rw [e12]; exact hl
    have ha : ∀ c, c < 0 + 13 → r8 c = ρ c := fun c hc => (hr c (by omega)).trans (ha c hc)
    refine wr_putR hC hH rfl ⟨by decide, by decide⟩ (by decide) f_X1_26 g_1_4 (Or.inr ⟨_, rfl⟩) (Or.inr ⟨hnm, _, rfl, rfl⟩) dX1_init_35 hz hpt hF (fun u9 H locs hz hpt hF hH => ?_)
    refine lv_aload_n hx hb dX1_init_38 rfl (lv_at hl 0 rfl) ?_
    refine lv_bipush hx hb dX1_init_39 k_bipush_64 ?_
    refine wr_newa (atype := .int) (t := 0) (a0 := (64, .inl (fun _ => 0))) hC hH hz hpt za_int rfl rfl (fun _ _ => rfl) rfl (fun _ => rfl) (w_row0 hz rfl rfl (by decide)) ⟨by decide, by decide⟩ (by decide) (Nat.le_of_ble_eq_true rfl) (Nat.le_of_ble_eq_true rfl) dX1_init_41 (fun r10 H hr hz hpt hH => ?_)
    have hz : wZr (0 + 18) u9 := hz
    have hpt : wPt (0 + 18) u9 := hpt
    have hH : wHr D κ r10 0 18 A s.heap H locs u9 := hH
    have e12 : r10 12 = r8 12 := hr 12 (by decide)
    rw [← e12]
    have hl : lv_has ls 1 [(0, .ref (r10 12))] := by rw [e12]; exact hl
    have ha : ∀ c, c < 0 + 13 → r10 c = ρ c := fun c hc => (hr c (by omega)).trans (ha c hc)
    refine wr_putR hC hH rfl ⟨by decide, by decide⟩ (by decide) f_X1_29 g_1_5 (Or.inr ⟨_, rfl⟩) (Or.inr ⟨hnm, _, rfl, rfl⟩) dX1_init_43 hz hpt hF (fun u11 H locs hz hpt hF hH => ?_)
    refine lv_aload_n hx hb dX1_init_46 rfl (lv_at hl 0 rfl) ?_
    refine lv_bipush hx hb dX1_init_47 k_bipush_64 ?_
    refine wr_newa (atype := .long) (t := 3) (a0 := (64, .inr (.inl (fun _ => 0)))) hC hH hz hpt za_long rfl rfl (fun _ _ => rfl) rfl (fun _ => rfl) (w_row0L hz rfl rfl) ⟨by decide, by decide⟩ (by decide) (Nat.le_of_ble_eq_true rfl) (Nat.le_of_ble_eq_true rfl) dX1_init_49 (fun r12 H hr hz hpt hH => ?_)
    have hz : wZr (0 + 19) u11 := hz
    have hpt : wPt (0 + 19) u11 := hpt
    have hH : wHr D κ r12 0 19 A s.heap H locs u11 := hH
    have e12 : r12 12 = r10 12 := hr 12 (by decide)
    rw [← e12]
    have hl : lv_has ls 1 [(0, .ref (r12 12))] := by rw [e12]; exact hl
    have ha : ∀ c, c < 0 + 13 → r12 c = ρ c := fun c hc => (hr c (by omega)).trans (ha c hc)
    refine wr_putR hC hH rfl ⟨by decide, by decide⟩ (by decide) f_X1_32 g_1_6 (Or.inr ⟨_, rfl⟩) (Or.inr ⟨hnm, _, rfl, rfl⟩) dX1_init_51 hz hpt hF (fun u13 H locs hz hpt hF hH => ?_)
    refine W.widen (k := 6) (n := 201) (Nat.le_of_ble_eq_true rfl) (Nat.le_of_ble_eq_true rfl) ?_
    exact wr_vret hC hH ha (fun _ => ⟨hz, hpt⟩) hr0 hlk dX1_init_54 hF
  exact key _ _ hH
def F_X6_init_2 (u0 : wSt) : Option (Unit × wSt) :=
  wB (w_sI u0 2 0 (0 : Int32)) (fun (u1 : wSt) => wB (w_sI u1 2 1 (0 : Int32)) (fun (u2 : wSt) => wB (w_sI u2 2 2 (0 : Int32)) (fun (u3 : wSt) => wB (w_sI u3 2 3 (0 : Int32)) (fun (u4 : wSt) => wB (w_sI u4 2 4 (1 : Int32)) (fun (u5 : wSt) => wB (w_sI u5 2 5 (0 : Int32)) (fun (u6 : wSt) => wB (w_sI u6 2 6 (0 : Int32)) (fun (u7 : wSt) => wB (w_sR u7 2 7 (3 + 1)) (fun (u9 : wSt) => wB (w_sR u9 2 8 (4 + 1)) (fun (u11 : wSt) => wB (w_sR u11 2 9 (5 + 1)) (fun (u13 : wSt) => wB (w_sR u13 2 10 (6 + 1)) (fun (u15 : wSt) => wB (w_sR u15 2 11 (7 + 1)) (fun (u17 : wSt) => wB (w_sR u17 2 12 (8 + 1)) (fun (u19 : wSt) => wB (w_sR u19 2 13 (9 + 1)) (fun (u21 : wSt) => wB (w_sR u21 2 14 (10 + 1)) (fun (u23 : wSt) => wB (w_sR u23 2 15 (11 + 1)) (fun (u25 : wSt) => wC (F_X1_init_12 u25) (fun _ (u28 : wSt) => wB (w_sR u28 2 16 (12 + 1)) (fun (u29 : wSt) => some ((), u29)))))))))))))))))))
set_option maxRecDepth 100000 in
set_option maxHeartbeats 4000000 in
theorem c_X6_init_2 {l : Launch} : wMK l yX6_init cX6_init 1 (wRk 2 16 272 40) 16 272 0 3 19 (fun ρ => [.ref (ρ 2)]) (fun u => F_X6_init_2 u) := by
  refine wMK_of rfl (fun _ => Nat.le_of_ble_eq_true rfl) (fun D κ ρ kA vA u0 z p e s m args below meth c ls A hF hz hpt hC hr0 hlk hnm hE hH hl => ?_)
  have hx := hC.1.1
  have hb := hC.1.2.1
  have hF : F_X6_init_2 u0 = some z := hF
  unfold F_X6_init_2 at hF
  have ha : ∀ c, c < 0 + 3 → ρ c = ρ c := fun _ _ => rfl
  have hl : lv_has ls 1 [(0, .ref (ρ 2))] := hl
  have key : ∀ (H : Heap) (locs : List Loc), wHr D κ ρ 0 3 A s.heap H locs u0 → W p l e (wRk 2 16 272 40) s m args below meth c H locs 0 0 (wQK below args s A D κ ρ 0 3 19 16 272 z) (F0 m 0 ls []) := by
    intro H locs hH
    refine lv_aload_n hx hb dX6_init_0 rfl (lv_at hl 0 rfl) ?_
    refine wr_obj hC hl.1 m_X6_3 ⟨Nat.le_of_ble_eq_true rfl, Nat.le_of_ble_eq_true rfl⟩ dX6_init_1 ?_
    refine lv_aload_n hx hb dX6_init_4 rfl (lv_at hl 0 rfl) ?_
    refine lv_iconst hx hb dX6_init_5 k_iconst_0 ?_
    refine wr_putI hC hH rfl ⟨by decide, by decide⟩ f_X6_9 g_6_0 dX6_init_6 hz hpt hF (fun u1 H locs hz hpt hF hH => ?_)
    refine lv_aload_n hx hb dX6_init_9 rfl (lv_at hl 0 rfl) ?_
    refine lv_iconst hx hb dX6_init_10 k_iconst_0 ?_
    refine wr_putI hC hH rfl ⟨by decide, by decide⟩ f_X6_15 g_6_1 dX6_init_11 hz hpt hF (fun u2 H locs hz hpt hF hH => ?_)
    refine lv_aload_n hx hb dX6_init_14 rfl (lv_at hl 0 rfl) ?_
    refine lv_iconst hx hb dX6_init_15 k_iconst_0 ?_
    refine wr_putI hC hH rfl ⟨by decide, by decide⟩ f_X6_18 g_6_2 dX6_init_16 hz hpt hF (fun u3 H locs hz hpt hF hH => ?_)
    refine lv_aload_n hx hb dX6_init_19 rfl (lv_at hl 0 rfl) ?_
    refine lv_iconst hx hb dX6_init_20 k_iconst_0 ?_
    refine wr_putI hC hH rfl ⟨by decide, by decide⟩ f_X6_21 g_6_3 dX6_init_21 hz hpt hF (fun u4 H locs hz hpt hF hH => ?_)
    refine lv_aload_n hx hb dX6_init_24 rfl (lv_at hl 0 rfl) ?_
    refine lv_iconst hx hb dX6_init_25 k_iconst_1 ?_
    refine wr_putI hC hH rfl ⟨by decide, by decide⟩ f_X6_24 g_6_4 dX6_init_26 hz hpt hF (fun u5 H locs hz hpt hF hH => ?_)
    refine lv_aload_n hx hb dX6_init_29 rfl (lv_at hl 0 rfl) ?_
    refine lv_iconst hx hb dX6_init_30 k_iconst_0 ?_
    refine wr_putI hC hH rfl ⟨by decide, by decide⟩ f_X6_27 g_6_5 dX6_init_31 hz hpt hF (fun u6 H locs hz hpt hF hH => ?_)
    refine lv_aload_n hx hb dX6_init_34 rfl (lv_at hl 0 rfl) ?_
    refine lv_iconst hx hb dX6_init_35 k_iconst_0 ?_
    refine wr_putI hC hH rfl ⟨by decide, by decide⟩ f_X6_30 g_6_6 dX6_init_36 hz hpt hF (fun u7 H locs hz hpt hF hH => ?_)
    refine lv_aload_n hx hb dX6_init_39 rfl (lv_at hl 0 rfl) ?_
    refine lv_bipush hx hb dX6_init_40 k_bipush_6 ?_
    refine wr_newa (atype := .int) (t := 0) (a0 := (6, .inl (fun _ => 0))) hC hH hz hpt za_int rfl rfl (fun _ _ => rfl) rfl (fun _ => rfl) (w_row0 hz rfl rfl (by decide)) ⟨by decide, by decide⟩ (by decide) (Nat.le_of_ble_eq_true rfl) (Nat.le_of_ble_eq_true rfl) dX6_init_42 (fun r8 H hr hz hpt hH => ?_)
    have hz : wZr (0 + 4) u7 := hz
    have hpt : wPt (0 + 4) u7 := hpt
    have hH : wHr D κ r8 0 4 A s.heap H locs u7 := hH
    have e2 : r8 2 = ρ 2 := hr 2 (by decide)
    rw [← e2]
    have hl : lv_has ls 1 [(0, .ref (r8 2))] := by rw [e2]; exact hl
    have ha : ∀ c, c < 0 + 3 → r8 c = ρ c := fun c hc => (hr c (by omega)).trans (ha c hc)
    refine wr_putR hC hH rfl ⟨by decide, by decide⟩ (by decide) f_X6_33 g_6_7 (Or.inr ⟨_, rfl⟩) (Or.inr ⟨hnm, _, rfl, rfl⟩) dX6_init_44 hz hpt hF (fun u9 H locs hz hpt hF hH => ?_)
    refine lv_aload_n hx hb dX6_init_47 rfl (lv_at hl 0 rfl) ?_
    refine lv_bipush hx hb dX6_init_48 k_bipush_6 ?_
    refine wr_newa (atype := .int) (t := 0) (a0 := (6, .inl (fun _ => 0))) hC hH hz hpt za_int rfl rfl (fun _ _ => rfl) rfl (fun _ => rfl) (w_row0 hz rfl rfl (by decide)) ⟨by decide, by decide⟩ (by decide) (Nat.le_of_ble_eq_true rfl) (Nat.le_of_ble_eq_true rfl) dX6_init_50 (fun r10 H hr hz hpt hH => ?_)
    have hz : wZr (0 + 5) u9 := hz
    have hpt : wPt (0 + 5) u9 := hpt
    have hH : wHr D κ r10 0 5 A s.heap H locs u9 := hH
    have e2 : r10 2 = r8 2 := hr 2 (by decide)
    rw [← e2]
    have hl : lv_has ls 1 [(0, .ref (r10 2))] := by rw [e2]; exact hl
    have ha : ∀ c, c < 0 + 3 → r10 c = ρ c := fun c hc => (hr c (by omega)).trans (ha c hc)
    refine wr_putR hC hH rfl ⟨by decide, by decide⟩ (by decide) f_X6_37 g_6_8 (Or.inr ⟨_, rfl⟩) (Or.inr ⟨hnm, _, rfl, rfl⟩) dX6_init_52 hz hpt hF (fun u11 H locs hz hpt hF hH => ?_)
    refine lv_aload_n hx hb dX6_init_55 rfl (lv_at hl 0 rfl) ?_
    refine lv_bipush hx hb dX6_init_56 k_bipush_6 ?_
    refine wr_newa (atype := .int) (t := 0) (a0 := (6, .inl (fun _ => 0))) hC hH hz hpt za_int rfl rfl (fun _ _ => rfl) rfl (fun _ => rfl) (w_row0 hz rfl rfl (by decide)) ⟨by decide, by decide⟩ (by decide) (Nat.le_of_ble_eq_true rfl) (Nat.le_of_ble_eq_true rfl) dX6_init_58 (fun r12 H hr hz hpt hH => ?_)
    have hz : wZr (0 + 6) u11 := hz
    have hpt : wPt (0 + 6) u11 := hpt
    have hH : wHr D κ r12 0 6 A s.heap H locs u11 := hH
    have e2 : r12 2 = r10 2 := hr 2 (by decide)
    rw [← e2]
    have hl : lv_has ls 1 [(0, .ref (r12 2))] := by rw [e2]; exact hl
    have ha : ∀ c, c < 0 + 3 → r12 c = ρ c := fun c hc => (hr c (by omega)).trans (ha c hc)
    refine wr_putR hC hH rfl ⟨by decide, by decide⟩ (by decide) f_X6_40 g_6_9 (Or.inr ⟨_, rfl⟩) (Or.inr ⟨hnm, _, rfl, rfl⟩) dX6_init_60 hz hpt hF (fun u13 H locs hz hpt hF hH => ?_)
    refine lv_aload_n hx hb dX6_init_63 rfl (lv_at hl 0 rfl) ?_
    refine lv_bipush hx hb dX6_init_64 k_bipush_6 ?_
    refine wr_newa (atype := .int) (t := 0) (a0 := (6, .inl (fun _ => 0))) hC hH hz hpt za_int rfl rfl (fun _ _ => rfl) rfl (fun _ => rfl) (w_row0 hz rfl rfl (by decide)) ⟨by decide, by decide⟩ (by decide) (Nat.le_of_ble_eq_true rfl) (Nat.le_of_ble_eq_true rfl) dX6_init_66 (fun r14 H hr hz hpt hH => ?_)
    have hz : wZr (0 + 7) u13 := hz
    have hpt : wPt (0 + 7) u13 := hpt
    have hH : wHr D κ r14 0 7 A s.heap H locs u13 := hH
    have e2 : r14 2 = r12 2 := hr 2 (by decide)
    rw [← e2]
    have hl : lv_has ls 1 [(0, .ref (r14 2))] := by rw [e2]; exact hl
    have ha : ∀ c, c < 0 + 3 → r14 c = ρ c := fun c hc => (hr c (by omega)).trans (ha c hc)
    refine wr_putR hC hH rfl ⟨by decide, by decide⟩ (by decide) f_X6_43 g_6_10 (Or.inr ⟨_, rfl⟩) (Or.inr ⟨hnm, _, rfl, rfl⟩) dX6_init_68 hz hpt hF (fun u15 H locs hz hpt hF hH => ?_)
    refine lv_aload_n hx hb dX6_init_71 rfl (lv_at hl 0 rfl) ?_
    refine lv_bipush hx hb dX6_init_72 k_bipush_8 ?_
    refine wr_newa (atype := .int) (t := 0) (a0 := (8, .inl (fun _ => 0))) hC hH hz hpt za_int rfl rfl (fun _ _ => rfl) rfl (fun _ => rfl) (w_row0 hz rfl rfl (by decide)) ⟨by decide, by decide⟩ (by decide) (Nat.le_of_ble_eq_true rfl) (Nat.le_of_ble_eq_true rfl) dX6_init_74 (fun r16 H hr hz hpt hH => ?_)
    have hz : wZr (0 + 8) u15 := hz
    have hpt : wPt (0 + 8) u15 := hpt
    have hH : wHr D κ r16 0 8 A s.heap H locs u15 := hH
    have e2 : r16 2 = r14 2 := hr 2 (by decide)
    rw [← e2]
    have hl : lv_has ls 1 [(0, .ref (r16 2))] := by rw [e2]; exact hl
    have ha : ∀ c, c < 0 + 3 → r16 c = ρ c := fun c hc => (hr c (by omega)).trans (ha c hc)
    refine wr_putR hC hH rfl ⟨by decide, by decide⟩ (by decide) f_X6_46 g_6_11 (Or.inr ⟨_, rfl⟩) (Or.inr ⟨hnm, _, rfl, rfl⟩) dX6_init_76 hz hpt hF (fun u17 H locs hz hpt hF hH => ?_)
    refine lv_aload_n hx hb dX6_init_79 rfl (lv_at hl 0 rfl) ?_
    refine lv_bipush hx hb dX6_init_80 k_bipush_8 ?_
    refine wr_newa (atype := .int) (t := 0) (a0 := (8, .inl (fun _ => 0))) hC hH hz hpt za_int rfl rfl (fun _ _ => rfl) rfl (fun _ => rfl) (w_row0 hz rfl rfl (by decide)) ⟨by decide, by decide⟩ (by decide) (Nat.le_of_ble_eq_true rfl) (Nat.le_of_ble_eq_true rfl) dX6_init_82 (fun r18 H hr hz hpt hH => ?_)
    have hz : wZr (0 + 9) u17 := hz
    have hpt : wPt (0 + 9) u17 := hpt
    have hH : wHr D κ r18 0 9 A s.heap H locs u17 := hH
    have e2 : r18 2 = r16 2 := hr 2 (by decide)
    rw [← e2]
    have hl : lv_has ls 1 [(0, .ref (r18 2))] := by rw [e2]; exact hl
    have ha : ∀ c, c < 0 + 3 → r18 c = ρ c := fun c hc => (hr c (by omega)).trans (ha c hc)
    refine wr_putR hC hH rfl ⟨by decide, by decide⟩ (by decide) f_X6_49 g_6_12 (Or.inr ⟨_, rfl⟩) (Or.inr ⟨hnm, _, rfl, rfl⟩) dX6_init_84 hz hpt hF (fun u19 H locs hz hpt hF hH => ?_)
    refine lv_aload_n hx hb dX6_init_87 rfl (lv_at hl 0 rfl) ?_
    refine lv_bipush hx hb dX6_init_88 k_bipush_8 ?_
    refine wr_newa (atype := .int) (t := 0) (a0 := (8, .inl (fun _ => 0))) hC hH hz hpt za_int rfl rfl (fun _ _ => rfl) rfl (fun _ => rfl) (w_row0 hz rfl rfl (by decide)) ⟨by decide, by decide⟩ (by decide) (Nat.le_of_ble_eq_true rfl) (Nat.le_of_ble_eq_true rfl) dX6_init_90 (fun r20 H hr hz hpt hH => ?_)
    have hz : wZr (0 + 10) u19 := hz
    have hpt : wPt (0 + 10) u19 := hpt
    have hH : wHr D κ r20 0 10 A s.heap H locs u19 := hH
    have e2 : r20 2 = r18 2 := hr 2 (by decide)
    rw [← e2]
    have hl : lv_has ls 1 [(0, .ref (r20 2))] := by rw [e2]; exact hl
    have ha : ∀ c, c < 0 + 3 → r20 c = ρ c := fun c hc => (hr c (by omega)).trans (ha c hc)
    refine wr_putR hC hH rfl ⟨by decide, by decide⟩ (by decide) f_X6_52 g_6_13 (Or.inr ⟨_, rfl⟩) (Or.inr ⟨hnm, _, rfl, rfl⟩) dX6_init_92 hz hpt hF (fun u21 H locs hz hpt hF hH => ?_)
    refine lv_aload_n hx hb dX6_init_95 rfl (lv_at hl 0 rfl) ?_
    refine lv_bipush hx hb dX6_init_96 k_bipush_8 ?_
    refine wr_newa (atype := .int) (t := 0) (a0 := (8, .inl (fun _ => 0))) hC hH hz hpt za_int rfl rfl (fun _ _ => rfl) rfl (fun _ => rfl) (w_row0 hz rfl rfl (by decide)) ⟨by decide, by decide⟩ (by decide) (Nat.le_of_ble_eq_true rfl) (Nat.le_of_ble_eq_true rfl) dX6_init_98 (fun r22 H hr hz hpt hH => ?_)
    have hz : wZr (0 + 11) u21 := hz
    have hpt : wPt (0 + 11) u21 := hpt
    have hH : wHr D κ r22 0 11 A s.heap H locs u21 := hH
    have e2 : r22 2 = r20 2 := hr 2 (by decide)
    rw [← e2]
    have hl : lv_has ls 1 [(0, .ref (r22 2))] := by rw [e2]; exact hl
    have ha : ∀ c, c < 0 + 3 → r22 c = ρ c := fun c hc => (hr c (by omega)).trans (ha c hc)
    refine wr_putR hC hH rfl ⟨by decide, by decide⟩ (by decide) f_X6_55 g_6_14 (Or.inr ⟨_, rfl⟩) (Or.inr ⟨hnm, _, rfl, rfl⟩) dX6_init_100 hz hpt hF (fun u23 H locs hz hpt hF hH => ?_)
    refine lv_aload_n hx hb dX6_init_103 rfl (lv_at hl 0 rfl) ?_
    refine lv_bipush hx hb dX6_init_104 k_bipush_8 ?_
    refine wr_newa (atype := .int) (t := 0) (a0 := (8, .inl (fun _ => 0))) hC hH hz hpt za_int rfl rfl (fun _ _ => rfl) rfl (fun _ => rfl) (w_row0 hz rfl rfl (by decide)) ⟨by decide, by decide⟩ (by decide) (Nat.le_of_ble_eq_true rfl) (Nat.le_of_ble_eq_true rfl) dX6_init_106 (fun r24 H hr hz hpt hH => ?_)
    have hz : wZr (0 + 12) u23 := hz
    have hpt : wPt (0 + 12) u23 := hpt
    have hH : wHr D κ r24 0 12 A s.heap H locs u23 := hH
    have e2 : r24 2 = r22 2 := hr 2 (by decide)
    rw [← e2]
    have hl : lv_has ls 1 [(0, .ref (r24 2))] := by rw [e2]; exact hl
    have ha : ∀ c, c < 0 + 3 → r24 c = ρ c := fun c hc => (hr c (by omega)).trans (ha c hc)
    refine wr_putR hC hH rfl ⟨by decide, by decide⟩ (by decide) f_X6_58 g_6_15 (Or.inr ⟨_, rfl⟩) (Or.inr ⟨hnm, _, rfl, rfl⟩) dX6_init_108 hz hpt hF (fun u25 H locs hz hpt hF hH => ?_)
    refine lv_aload_n hx hb dX6_init_111 rfl (lv_at hl 0 rfl) ?_
    refine wr_new (ci := 1) (C := RX1) (T := TX1) (N := 7) tyX1 hC hH hz hpt rfl rfl (by decide) gwX1 tyX1_ok zd_X1 n_X6_61 z_X1 zi_X1 rfl (Nat.le_of_ble_eq_true rfl) (Nat.le_of_ble_eq_true rfl) dX6_init_112 (fun r26 H hr hz hpt hH => ?_)
    have hz : wZr (0 + 13) u25 := hz
    have hpt : wPt (0 + 13) u25 := hpt
    have hH : wHr D κ r26 0 13 A s.heap H locs u25 := hH
    have e2 : r26 2 = r24 2 := hr 2 (by decide)
    rw [← e2]
    have hl : lv_has ls 1 [(0, .ref (r26 2))] := by rw [e2]; exact hl
    have ha : ∀ c, c < 0 + 3 → r26 c = ρ c := fun c hc => (hr c (by omega)).trans (ha c hc)
    refine lv_dup hx hb dX6_init_115 rfl ?_
    refine wr_ctorN rfl hC hE hH hz hpt hl.1 c_X1_init_12 rfl y_X1_init zn_X1 q_X6_63 rfl ⟨Nat.le_of_ble_eq_true rfl, Nat.le_of_ble_eq_true rfl⟩ ⟨Nat.le_of_ble_eq_true rfl, Nat.le_of_ble_eq_true rfl⟩ rfl (Nat.le_of_ble_eq_true rfl) dX6_init_116 hF (fun r27 u28 H locs hr hz hpt hF hH => ?_)
    have e2 : r27 2 = r26 2 := hr 2 (by decide)
    have e12 : r27 12 = r26 12 := hr 12 (by decide)
    rw [← e2]
    rw [← e12]
    have hl : lv_has ls 1 [(0, .ref (r27 2))] := by rw [e2]; exact hl
    have ha : ∀ c, c < 0 + 3 → r27 c = ρ c := fun c hc => (hr c (by omega)).trans (ha c hc)
    refine wr_putR hC hH rfl ⟨by decide, by decide⟩ (by decide) f_X6_64 g_6_16 (Or.inl ⟨_, rfl⟩) (Or.inr ⟨hnm, _, rfl, rfl⟩) dX6_init_119 hz hpt hF (fun u29 H locs hz hpt hF hH => ?_)
    refine W.widen (k := 16) (n := 272) (Nat.le_of_ble_eq_true rfl) (Nat.le_of_ble_eq_true rfl) ?_
    exact wr_vret hC hH ha (fun _ => ⟨hz, hpt⟩) hr0 hlk dX6_init_122 hF
  exact key _ _ hH
def F_X1_init_29 (u0 : wSt) : Option (Unit × wSt) :=
  wB (w_sI u0 29 0 (0 : Int32)) (fun (u1 : wSt) => wB (w_sR u1 29 1 (30 + 1)) (fun (u3 : wSt) => wB (w_sR u3 29 2 (31 + 1)) (fun (u5 : wSt) => wB (w_sR u5 29 3 (32 + 1)) (fun (u7 : wSt) => wB (w_sR u7 29 4 (33 + 1)) (fun (u9 : wSt) => wB (w_sR u9 29 5 (34 + 1)) (fun (u11 : wSt) => wB (w_sR u11 29 6 (35 + 1)) (fun (u13 : wSt) => some ((), u13))))))))
set_option maxRecDepth 100000 in
set_option maxHeartbeats 4000000 in
theorem c_X1_init_29 {l : Launch} : wMK l yX1_init cX1_init 1 (wRk 1 6 201 20) 6 201 0 30 36 (fun ρ => [.ref (ρ 29)]) (fun u => F_X1_init_29 u) := by
  refine wMK_of rfl (fun _ => Nat.le_of_ble_eq_true rfl) (fun D κ ρ kA vA u0 z p e s m args below meth c ls A hF hz hpt hC hr0 hlk hnm hE hH hl => ?_)
  have hx := hC.1.1
  have hb := hC.1.2.1
  have hF : F_X1_init_29 u0 = some z := hF
  unfold F_X1_init_29 at hF
  have ha : ∀ c, c < 0 + 30 → ρ c = ρ c := fun _ _ => rfl
  have hl : lv_has ls 1 [(0, .ref (ρ 29))] := hl
  have key : ∀ (H : Heap) (locs : List Loc), wHr D κ ρ 0 30 A s.heap H locs u0 → W p l e (wRk 1 6 201 20) s m args below meth c H locs 0 0 (wQK below args s A D κ ρ 0 30 36 6 201 z) (F0 m 0 ls []) := by
    intro H locs hH
    refine lv_aload_n hx hb dX1_init_0 rfl (lv_at hl 0 rfl) ?_
    refine wr_obj hC hl.1 m_X1_3 ⟨Nat.le_of_ble_eq_true rfl, Nat.le_of_ble_eq_true rfl⟩ dX1_init_1 ?_
    refine lv_aload_n hx hb dX1_init_4 rfl (lv_at hl 0 rfl) ?_
    refine lv_iconst hx hb dX1_init_5 k_iconst_0 ?_
    refine wr_putI hC hH rfl ⟨by decide, by decide⟩ f_X1_9 g_1_0 dX1_init_6 hz hpt hF (fun u1 H locs hz hpt hF hH => ?_)
    refine lv_aload_n hx hb dX1_init_9 rfl (lv_at hl 0 rfl) ?_
    refine lv_iconst hx hb dX1_init_10 k_iconst_3 ?_
    refine wr_newa (atype := .boolean) (t := 2) (a0 := (3, .inl (fun _ => 0))) hC hH hz hpt za_boolean rfl rfl (fun _ _ => rfl) rfl (fun _ => rfl) (w_row0 hz rfl rfl (by decide)) ⟨by decide, by decide⟩ (by decide) (Nat.le_of_ble_eq_true rfl) (Nat.le_of_ble_eq_true rfl) dX1_init_11 (fun r2 H hr hz hpt hH => ?_)
    have hz : wZr (0 + 31) u1 := hz
    have hpt : wPt (0 + 31) u1 := hpt
    have hH : wHr D κ r2 0 31 A s.heap H locs u1 := hH
    have e29 : r2 29 = ρ 29 := hr 29 (by decide)
    rw [← e29]
    have hl : lv_has ls 1 [(0, .ref (r2 29))] := by rw [e29]; exact hl
    have ha : ∀ c, c < 0 + 30 → r2 c = ρ c := fun c hc => (hr c (by omega)).trans (ha c hc)
    refine wr_putR hC hH rfl ⟨by decide, by decide⟩ (by decide) f_X1_15 g_1_1 (Or.inr ⟨_, rfl⟩) (Or.inr ⟨hnm, _, rfl, rfl⟩) dX1_init_13 hz hpt hF (fun u3 H locs hz hpt hF hH => ?_)
    refine lv_aload_n hx hb dX1_init_16 rfl (lv_at hl 0 rfl) ?_
    refine lv_iconst hx hb dX1_init_17 k_iconst_3 ?_
    refine wr_newa (atype := .int) (t := 0) (a0 := (3, .inl (fun _ => 0))) hC hH hz hpt za_int rfl rfl (fun _ _ => rfl) rfl (fun _ => rfl) (w_row0 hz rfl rfl (by decide)) ⟨by decide, by decide⟩ (by decide) (Nat.le_of_ble_eq_true rfl) (Nat.le_of_ble_eq_true rfl) dX1_init_18 (fun r4 H hr hz hpt hH => ?_)
    have hz : wZr (0 + 32) u3 := hz
    have hpt : wPt (0 + 32) u3 := hpt
    have hH : wHr D κ r4 0 32 A s.heap H locs u3 := hH
    have e29 : r4 29 = r2 29 := hr 29 (by decide)
    rw [← e29]
    have hl : lv_has ls 1 [(0, .ref (r4 29))] := by rw [e29]; exact hl
    have ha : ∀ c, c < 0 + 30 → r4 c = ρ c := fun c hc => (hr c (by omega)).trans (ha c hc)
    refine wr_putR hC hH rfl ⟨by decide, by decide⟩ (by decide) f_X1_19 g_1_2 (Or.inr ⟨_, rfl⟩) (Or.inr ⟨hnm, _, rfl, rfl⟩) dX1_init_20 hz hpt hF (fun u5 H locs hz hpt hF hH => ?_)
    refine lv_aload_n hx hb dX1_init_23 rfl (lv_at hl 0 rfl) ?_
    refine lv_iconst hx hb dX1_init_24 k_iconst_3 ?_
    refine wr_newa (atype := .int) (t := 0) (a0 := (3, .inl (fun _ => 0))) hC hH hz hpt za_int rfl rfl (fun _ _ => rfl) rfl (fun _ => rfl) (w_row0 hz rfl rfl (by decide)) ⟨by decide, by decide⟩ (by decide) (Nat.le_of_ble_eq_true rfl) (Nat.le_of_ble_eq_true rfl) dX1_init_25 (fun r6 H hr hz hpt hH => ?_)
    have hz : wZr (0 + 33) u5 := hz
    have hpt : wPt (0 + 33) u5 := hpt
    have hH : wHr D κ r6 0 33 A s.heap H locs u5 := hH
    have e29 : r6 29 = r4 29 := hr 29 (by decide)
    rw [← e29]
    have hl : lv_has ls 1 [(0, .ref (r6 29))] := by rw [e29]; exact hl
    have ha : ∀ c, c < 0 + 30 → r6 c = ρ c := fun c hc => (hr c (by omega)).trans (ha c hc)
    refine wr_putR hC hH rfl ⟨by decide, by decide⟩ (by decide) f_X1_23 g_1_3 (Or.inr ⟨_, rfl⟩) (Or.inr ⟨hnm, _, rfl, rfl⟩) dX1_init_27 hz hpt hF (fun u7 H locs hz hpt hF hH => ?_)
    refine lv_aload_n hx hb dX1_init_30 rfl (lv_at hl 0 rfl) ?_
    refine lv_bipush hx hb dX1_init_31 k_bipush_64 ?_
    refine wr_newa (atype := .int) (t := 0) (a0 := (64, .inl (fun _ => 0))) hC hH hz hpt za_int rfl rfl (fun _ _ => rfl) rfl (fun _ => rfl) (w_row0 hz rfl rfl (by decide)) ⟨by decide, by decide⟩ (by decide) (Nat.le_of_ble_eq_true rfl) (Nat.le_of_ble_eq_true rfl) dX1_init_33 (fun r8 H hr hz hpt hH => ?_)
    have hz : wZr (0 + 34) u7 := hz
    have hpt : wPt (0 + 34) u7 := hpt
    have hH : wHr D κ r8 0 34 A s.heap H locs u7 := hH
    have e29 : r8 29 = r6 29 := hr 29 (by decide)
    rw [← e29]
    have hl : lv_has ls 1 [(0, .ref (r8 29))] := by rw [e29]; exact hl
    have ha : ∀ c, c < 0 + 30 → r8 c = ρ c := fun c hc => (hr c (by omega)).trans (ha c hc)
    refine wr_putR hC hH rfl ⟨by decide, by decide⟩ (by decide) f_X1_26 g_1_4 (Or.inr ⟨_, rfl⟩) (Or.inr ⟨hnm, _, rfl, rfl⟩) dX1_init_35 hz hpt hF (fun u9 H locs hz hpt hF hH => ?_)
    refine lv_aload_n hx hb dX1_init_38 rfl (lv_at hl 0 rfl) ?_
    refine lv_bipush hx hb dX1_init_39 k_bipush_64 ?_
    refine wr_newa (atype := .int) (t := 0) (a0 := (64, .inl (fun _ => 0))) hC hH hz hpt za_int rfl rfl (fun _ _ => rfl) rfl (fun _ => rfl) (w_row0 hz rfl rfl (by decide)) ⟨by decide, by decide⟩ (by decide) (Nat.le_of_ble_eq_true rfl) (Nat.le_of_ble_eq_true rfl) dX1_init_41 (fun r10 H hr hz hpt hH => ?_)
    have hz : wZr (0 + 35) u9 := hz
    have hpt : wPt (0 + 35) u9 := hpt
    have hH : wHr D κ r10 0 35 A s.heap H locs u9 := hH
    have e29 : r10 29 = r8 29 := hr 29 (by decide)
    rw [← e29]
    have hl : lv_has ls 1 [(0, .ref (r10 29))] := by rw [e29]; exact hl
    have ha : ∀ c, c < 0 + 30 → r10 c = ρ c := fun c hc => (hr c (by omega)).trans (ha c hc)
    refine wr_putR hC hH rfl ⟨by decide, by decide⟩ (by decide) f_X1_29 g_1_5 (Or.inr ⟨_, rfl⟩) (Or.inr ⟨hnm, _, rfl, rfl⟩) dX1_init_43 hz hpt hF (fun u11 H locs hz hpt hF hH => ?_)
    refine lv_aload_n hx hb dX1_init_46 rfl (lv_at hl 0 rfl) ?_
    refine lv_bipush hx hb dX1_init_47 k_bipush_64 ?_
    refine wr_newa (atype := .long) (t := 3) (a0 := (64, .inr (.inl (fun _ => 0)))) hC hH hz hpt za_long rfl rfl (fun _ _ => rfl) rfl (fun _ => rfl) (w_row0L hz rfl rfl) ⟨by decide, by decide⟩ (by decide) (Nat.le_of_ble_eq_true rfl) (Nat.le_of_ble_eq_true rfl) dX1_init_49 (fun r12 H hr hz hpt hH => ?_)
    have hz : wZr (0 + 36) u11 := hz
    have hpt : wPt (0 + 36) u11 := hpt
    have hH : wHr D κ r12 0 36 A s.heap H locs u11 := hH
    have e29 : r12 29 = r10 29 := hr 29 (by decide)
    rw [← e29]
    have hl : lv_has ls 1 [(0, .ref (r12 29))] := by rw [e29]; exact hl
    have ha : ∀ c, c < 0 + 30 → r12 c = ρ c := fun c hc => (hr c (by omega)).trans (ha c hc)
    refine wr_putR hC hH rfl ⟨by decide, by decide⟩ (by decide) f_X1_32 g_1_6 (Or.inr ⟨_, rfl⟩) (Or.inr ⟨hnm, _, rfl, rfl⟩) dX1_init_51 hz hpt hF (fun u13 H locs hz hpt hF hH => ?_)
    refine W.widen (k := 6) (n := 201) (Nat.le_of_ble_eq_true rfl) (Nat.le_of_ble_eq_true rfl) ?_
    exact wr_vret hC hH ha (fun _ => ⟨hz, hpt⟩) hr0 hlk dX1_init_54 hF
  exact key _ _ hH
def F_X6_init_19 (u0 : wSt) : Option (Unit × wSt) :=
  wB (w_sI u0 19 0 (0 : Int32)) (fun (u1 : wSt) => wB (w_sI u1 19 1 (0 : Int32)) (fun (u2 : wSt) => wB (w_sI u2 19 2 (0 : Int32)) (fun (u3 : wSt) => wB (w_sI u3 19 3 (0 : Int32)) (fun (u4 : wSt) => wB (w_sI u4 19 4 (1 : Int32)) (fun (u5 : wSt) => wB (w_sI u5 19 5 (0 : Int32)) (fun (u6 : wSt) => wB (w_sI u6 19 6 (0 : Int32)) (fun (u7 : wSt) => wB (w_sR u7 19 7 (20 + 1)) (fun (u9 : wSt) => wB (w_sR u9 19 8 (21 + 1)) (fun (u11 : wSt) => wB (w_sR u11 19 9 (22 + 1)) (fun (u13 : wSt) => wB (w_sR u13 19 10 (23 + 1)) (fun (u15 : wSt) => wB (w_sR u15 19 11 (24 + 1)) (fun (u17 : wSt) => wB (w_sR u17 19 12 (25 + 1)) (fun (u19 : wSt) => wB (w_sR u19 19 13 (26 + 1)) (fun (u21 : wSt) => wB (w_sR u21 19 14 (27 + 1)) (fun (u23 : wSt) => wB (w_sR u23 19 15 (28 + 1)) (fun (u25 : wSt) => wC (F_X1_init_29 u25) (fun _ (u28 : wSt) => wB (w_sR u28 19 16 (29 + 1)) (fun (u29 : wSt) => some ((), u29)))))))))))))))))))
set_option maxRecDepth 100000 in
set_option maxHeartbeats 4000000 in
theorem c_X6_init_19 {l : Launch} : wMK l yX6_init cX6_init 1 (wRk 2 16 272 40) 16 272 0 20 36 (fun ρ => [.ref (ρ 19)]) (fun u => F_X6_init_19 u) := by
  refine wMK_of rfl (fun _ => Nat.le_of_ble_eq_true rfl) (fun D κ ρ kA vA u0 z p e s m args below meth c ls A hF hz hpt hC hr0 hlk hnm hE hH hl => ?_)
  have hx := hC.1.1
  have hb := hC.1.2.1
  have hF : F_X6_init_19 u0 = some z := hF
  unfold F_X6_init_19 at hF
  have ha : ∀ c, c < 0 + 20 → ρ c = ρ c := fun _ _ => rfl
  have hl : lv_has ls 1 [(0, .ref (ρ 19))] := hl
  have key : ∀ (H : Heap) (locs : List Loc), wHr D κ ρ 0 20 A s.heap H locs u0 → W p l e (wRk 2 16 272 40) s m args below meth c H locs 0 0 (wQK below args s A D κ ρ 0 20 36 16 272 z) (F0 m 0 ls []) := by
    intro H locs hH
    refine lv_aload_n hx hb dX6_init_0 rfl (lv_at hl 0 rfl) ?_
    refine wr_obj hC hl.1 m_X6_3 ⟨Nat.le_of_ble_eq_true rfl, Nat.le_of_ble_eq_true rfl⟩ dX6_init_1 ?_
    refine lv_aload_n hx hb dX6_init_4 rfl (lv_at hl 0 rfl) ?_
    refine lv_iconst hx hb dX6_init_5 k_iconst_0 ?_
    refine wr_putI hC hH rfl ⟨by decide, by decide⟩ f_X6_9 g_6_0 dX6_init_6 hz hpt hF (fun u1 H locs hz hpt hF hH => ?_)
    refine lv_aload_n hx hb dX6_init_9 rfl (lv_at hl 0 rfl) ?_
    refine lv_iconst hx hb dX6_init_10 k_iconst_0 ?_
    refine wr_putI hC hH rfl ⟨by decide, by decide⟩ f_X6_15 g_6_1 dX6_init_11 hz hpt hF (fun u2 H locs hz hpt hF hH => ?_)
    refine lv_aload_n hx hb dX6_init_14 rfl (lv_at hl 0 rfl) ?_
    refine lv_iconst hx hb dX6_init_15 k_iconst_0 ?_
    refine wr_putI hC hH rfl ⟨by decide, by decide⟩ f_X6_18 g_6_2 dX6_init_16 hz hpt hF (fun u3 H locs hz hpt hF hH => ?_)
    refine lv_aload_n hx hb dX6_init_19 rfl (lv_at hl 0 rfl) ?_
    refine lv_iconst hx hb dX6_init_20 k_iconst_0 ?_
    refine wr_putI hC hH rfl ⟨by decide, by decide⟩ f_X6_21 g_6_3 dX6_init_21 hz hpt hF (fun u4 H locs hz hpt hF hH => ?_)
    refine lv_aload_n hx hb dX6_init_24 rfl (lv_at hl 0 rfl) ?_
    refine lv_iconst hx hb dX6_init_25 k_iconst_1 ?_
    refine wr_putI hC hH rfl ⟨by decide, by decide⟩ f_X6_24 g_6_4 dX6_init_26 hz hpt hF (fun u5 H locs hz hpt hF hH => ?_)
    refine lv_aload_n hx hb dX6_init_29 rfl (lv_at hl 0 rfl) ?_
    refine lv_iconst hx hb dX6_init_30 k_iconst_0 ?_
    refine wr_putI hC hH rfl ⟨by decide, by decide⟩ f_X6_27 g_6_5 dX6_init_31 hz hpt hF (fun u6 H locs hz hpt hF hH => ?_)
    refine lv_aload_n hx hb dX6_init_34 rfl (lv_at hl 0 rfl) ?_
    refine lv_iconst hx hb dX6_init_35 k_iconst_0 ?_
    refine wr_putI hC hH rfl ⟨by decide, by decide⟩ f_X6_30 g_6_6 dX6_init_36 hz hpt hF (fun u7 H locs hz hpt hF hH => ?_)
    refine lv_aload_n hx hb dX6_init_39 rfl (lv_at hl 0 rfl) ?_
    refine lv_bipush hx hb dX6_init_40 k_bipush_6 ?_
    refine wr_newa (atype := .int) (t := 0) (a0 := (6, .inl (fun _ => 0))) hC hH hz hpt za_int rfl rfl (fun _ _ => rfl) rfl (fun _ => rfl) (w_row0 hz rfl rfl (by decide)) ⟨by decide, by decide⟩ (by decide) (Nat.le_of_ble_eq_true rfl) (Nat.le_of_ble_eq_true rfl) dX6_init_42 (fun r8 H hr hz hpt hH => ?_)
    have hz : wZr (0 + 21) u7 := hz
    have hpt : wPt (0 + 21) u7 := hpt
    have hH : wHr D κ r8 0 21 A s.heap H locs u7 := hH
    have e19 : r8 19 = ρ 19 := hr 19 (by decide)
    rw [← e19]
    have hl : lv_has ls 1 [(0, .ref (r8 19))] := by rw [e19]; exact hl
    have ha : ∀ c, c < 0 + 20 → r8 c = ρ c := fun c hc => (hr c (by omega)).trans (ha c hc)
    refine wr_putR hC hH rfl ⟨by decide, by decide⟩ (by decide) f_X6_33 g_6_7 (Or.inr ⟨_, rfl⟩) (Or.inr ⟨hnm, _, rfl, rfl⟩) dX6_init_44 hz hpt hF (fun u9 H locs hz hpt hF hH => ?_)
    refine lv_aload_n hx hb dX6_init_47 rfl (lv_at hl 0 rfl) ?_
    refine lv_bipush hx hb dX6_init_48 k_bipush_6 ?_
    refine wr_newa (atype := .int) (t := 0) (a0 := (6, .inl (fun _ => 0))) hC hH hz hpt za_int rfl rfl (fun _ _ => rfl) rfl (fun _ => rfl) (w_row0 hz rfl rfl (by decide)) ⟨by decide, by decide⟩ (by decide) (Nat.le_of_ble_eq_true rfl) (Nat.le_of_ble_eq_true rfl) dX6_init_50 (fun r10 H hr hz hpt hH => ?_)
    have hz : wZr (0 + 22) u9 := hz
    have hpt : wPt (0 + 22) u9 := hpt
    have hH : wHr D κ r10 0 22 A s.heap H locs u9 := hH
    have e19 : r10 19 = r8 19 := hr 19 (by decide)
    rw [← e19]
    have hl : lv_has ls 1 [(0, .ref (r10 19))] := by rw [e19]; exact hl
    have ha : ∀ c, c < 0 + 20 → r10 c = ρ c := fun c hc => (hr c (by omega)).trans (ha c hc)
    refine wr_putR hC hH rfl ⟨by decide, by decide⟩ (by decide) f_X6_37 g_6_8 (Or.inr ⟨_, rfl⟩) (Or.inr ⟨hnm, _, rfl, rfl⟩) dX6_init_52 hz hpt hF (fun u11 H locs hz hpt hF hH => ?_)
    refine lv_aload_n hx hb dX6_init_55 rfl (lv_at hl 0 rfl) ?_
    refine lv_bipush hx hb dX6_init_56 k_bipush_6 ?_
    refine wr_newa (atype := .int) (t := 0) (a0 := (6, .inl (fun _ => 0))) hC hH hz hpt za_int rfl rfl (fun _ _ => rfl) rfl (fun _ => rfl) (w_row0 hz rfl rfl (by decide)) ⟨by decide, by decide⟩ (by decide) (Nat.le_of_ble_eq_true rfl) (Nat.le_of_ble_eq_true rfl) dX6_init_58 (fun r12 H hr hz hpt hH => ?_)
    have hz : wZr (0 + 23) u11 := hz
    have hpt : wPt (0 + 23) u11 := hpt
    have hH : wHr D κ r12 0 23 A s.heap H locs u11 := hH
    have e19 : r12 19 = r10 19 := hr 19 (by decide)
    rw [← e19]
    have hl : lv_has ls 1 [(0, .ref (r12 19))] := by rw [e19]; exact hl
    have ha : ∀ c, c < 0 + 20 → r12 c = ρ c := fun c hc => (hr c (by omega)).trans (ha c hc)
    refine wr_putR hC hH rfl ⟨by decide, by decide⟩ (by decide) f_X6_40 g_6_9 (Or.inr ⟨_, rfl⟩) (Or.inr ⟨hnm, _, rfl, rfl⟩) dX6_init_60 hz hpt hF (fun u13 H locs hz hpt hF hH => ?_)
    refine lv_aload_n hx hb dX6_init_63 rfl (lv_at hl 0 rfl) ?_
    refine lv_bipush hx hb dX6_init_64 k_bipush_6 ?_
    refine wr_newa (atype := .int) (t := 0) (a0 := (6, .inl (fun _ => 0))) hC hH hz hpt za_int rfl rfl (fun _ _ => rfl) rfl (fun _ => rfl) (w_row0 hz rfl rfl (by decide)) ⟨by decide, by decide⟩ (by decide) (Nat.le_of_ble_eq_true rfl) (Nat.le_of_ble_eq_true rfl) dX6_init_66 (fun r14 H hr hz hpt hH => ?_)
    have hz : wZr (0 + 24) u13 := hz
    have hpt : wPt (0 + 24) u13 := hpt
    have hH : wHr D κ r14 0 24 A s.heap H locs u13 := hH
    have e19 : r14 19 = r12 19 := hr 19 (by decide)
    rw [← e19]
    have hl : lv_has ls 1 [(0, .ref (r14 19))] := by rw [e19]; exact hl
    have ha : ∀ c, c < 0 + 20 → r14 c = ρ c := fun c hc => (hr c (by omega)).trans (ha c hc)
    refine wr_putR hC hH rfl ⟨by decide, by decide⟩ (by decide) f_X6_43 g_6_10 (Or.inr ⟨_, rfl⟩) (Or.inr ⟨hnm, _, rfl, rfl⟩) dX6_init_68 hz hpt hF (fun u15 H locs hz hpt hF hH => ?_)
    refine lv_aload_n hx hb dX6_init_71 rfl (lv_at hl 0 rfl) ?_
    refine lv_bipush hx hb dX6_init_72 k_bipush_8 ?_
    refine wr_newa (atype := .int) (t := 0) (a0 := (8, .inl (fun _ => 0))) hC hH hz hpt za_int rfl rfl (fun _ _ => rfl) rfl (fun _ => rfl) (w_row0 hz rfl rfl (by decide)) ⟨by decide, by decide⟩ (by decide) (Nat.le_of_ble_eq_true rfl) (Nat.le_of_ble_eq_true rfl) dX6_init_74 (fun r16 H hr hz hpt hH => ?_)
    have hz : wZr (0 + 25) u15 := hz
    have hpt : wPt (0 + 25) u15 := hpt
    have hH : wHr D κ r16 0 25 A s.heap H locs u15 := hH
    have e19 : r16 19 = r14 19 := hr 19 (by decide)
    rw [← e19]
    have hl : lv_has ls 1 [(0, .ref (r16 19))] := by rw [e19]; exact hl
    have ha : ∀ c, c < 0 + 20 → r16 c = ρ c := fun c hc => (hr c (by omega)).trans (ha c hc)
    refine wr_putR hC hH rfl ⟨by decide, by decide⟩ (by decide) f_X6_46 g_6_11 (Or.inr ⟨_, rfl⟩) (Or.inr ⟨hnm, _, rfl, rfl⟩) dX6_init_76 hz hpt hF (fun u17 H locs hz hpt hF hH => ?_)
    refine lv_aload_n hx hb dX6_init_79 rfl (lv_at hl 0 rfl) ?_
    refine lv_bipush hx hb dX6_init_80 k_bipush_8 ?_
    refine wr_newa (atype := .int) (t := 0) (a0 := (8, .inl (fun _ => 0))) hC hH hz hpt za_int rfl rfl (fun _ _ => rfl) rfl (fun _ => rfl) (w_row0 hz rfl rfl (by decide)) ⟨by decide, by decide⟩ (by decide) (Nat.le_of_ble_eq_true rfl) (Nat.le_of_ble_eq_true rfl) dX6_init_82 (fun r18 H hr hz hpt hH => ?_)
    have hz : wZr (0 + 26) u17 := hz
    have hpt : wPt (0 + 26) u17 := hpt
    have hH : wHr D κ r18 0 26 A s.heap H locs u17 := hH
    have e19 : r18 19 = r16 19 := hr 19 (by decide)
    rw [← e19]
    have hl : lv_has ls 1 [(0, .ref (r18 19))] := by rw [e19]; exact hl
    have ha : ∀ c, c < 0 + 20 → r18 c = ρ c := fun c hc => (hr c (by omega)).trans (ha c hc)
    refine wr_putR hC hH rfl ⟨by decide, by decide⟩ (by decide) f_X6_49 g_6_12 (Or.inr ⟨_, rfl⟩) (Or.inr ⟨hnm, _, rfl, rfl⟩) dX6_init_84 hz hpt hF (fun u19 H locs hz hpt hF hH => ?_)
    refine lv_aload_n hx hb dX6_init_87 rfl (lv_at hl 0 rfl) ?_
    refine lv_bipush hx hb dX6_init_88 k_bipush_8 ?_
    refine wr_newa (atype := .int) (t := 0) (a0 := (8, .inl (fun _ => 0))) hC hH hz hpt za_int rfl rfl (fun _ _ => rfl) rfl (fun _ => rfl) (w_row0 hz rfl rfl (by decide)) ⟨by decide, by decide⟩ (by decide) (Nat.le_of_ble_eq_true rfl) (Nat.le_of_ble_eq_true rfl) dX6_init_90 (fun r20 H hr hz hpt hH => ?_)
    have hz : wZr (0 + 27) u19 := hz
    have hpt : wPt (0 + 27) u19 := hpt
    have hH : wHr D κ r20 0 27 A s.heap H locs u19 := hH
    have e19 : r20 19 = r18 19 := hr 19 (by decide)
    rw [← e19]
    have hl : lv_has ls 1 [(0, .ref (r20 19))] := by rw [e19]; exact hl
    have ha : ∀ c, c < 0 + 20 → r20 c = ρ c := fun c hc => (hr c (by omega)).trans (ha c hc)
    refine wr_putR hC hH rfl ⟨by decide, by decide⟩ (by decide) f_X6_52 g_6_13 (Or.inr ⟨_, rfl⟩) (Or.inr ⟨hnm, _, rfl, rfl⟩) dX6_init_92 hz hpt hF (fun u21 H locs hz hpt hF hH => ?_)
    refine lv_aload_n hx hb dX6_init_95 rfl (lv_at hl 0 rfl) ?_
    refine lv_bipush hx hb dX6_init_96 k_bipush_8 ?_
    refine wr_newa (atype := .int) (t := 0) (a0 := (8, .inl (fun _ => 0))) hC hH hz hpt za_int rfl rfl (fun _ _ => rfl) rfl (fun _ => rfl) (w_row0 hz rfl rfl (by decide)) ⟨by decide, by decide⟩ (by decide) (Nat.le_of_ble_eq_true rfl) (Nat.le_of_ble_eq_true rfl) dX6_init_98 (fun r22 H hr hz hpt hH => ?_)
    have hz : wZr (0 + 28) u21 := hz
    have hpt : wPt (0 + 28) u21 := hpt
    have hH : wHr D κ r22 0 28 A s.heap H locs u21 := hH
    have e19 : r22 19 = r20 19 := hr 19 (by decide)
    rw [← e19]
    have hl : lv_has ls 1 [(0, .ref (r22 19))] := by rw [e19]; exact hl
    have ha : ∀ c, c < 0 + 20 → r22 c = ρ c := fun c hc => (hr c (by omega)).trans (ha c hc)
    refine wr_putR hC hH rfl ⟨by decide, by decide⟩ (by decide) f_X6_55 g_6_14 (Or.inr ⟨_, rfl⟩) (Or.inr ⟨hnm, _, rfl, rfl⟩) dX6_init_100 hz hpt hF (fun u23 H locs hz hpt hF hH => ?_)
    refine lv_aload_n hx hb dX6_init_103 rfl (lv_at hl 0 rfl) ?_
    refine lv_bipush hx hb dX6_init_104 k_bipush_8 ?_
    refine wr_newa (atype := .int) (t := 0) (a0 := (8, .inl (fun _ => 0))) hC hH hz hpt za_int rfl rfl (fun _ _ => rfl) rfl (fun _ => rfl) (w_row0 hz rfl rfl (by decide)) ⟨by decide, by decide⟩ (by decide) (Nat.le_of_ble_eq_true rfl) (Nat.le_of_ble_eq_true rfl) dX6_init_106 (fun r24 H hr hz hpt hH => ?_)
    have hz : wZr (0 + 29) u23 := hz
    have hpt : wPt (0 + 29) u23 := hpt
    have hH : wHr D κ r24 0 29 A s.heap H locs u23 := hH
    have e19 : r24 19 = r22 19 := hr 19 (by decide)
    rw [← e19]
    have hl : lv_has ls 1 [(0, .ref (r24 19))] := by rw [e19]; exact hl
    have ha : ∀ c, c < 0 + 20 → r24 c = ρ c := fun c hc => (hr c (by omega)).trans (ha c hc)
    refine wr_putR hC hH rfl ⟨by decide, by decide⟩ (by decide) f_X6_58 g_6_15 (Or.inr ⟨_, rfl⟩) (Or.inr ⟨hnm, _, rfl, rfl⟩) dX6_init_108 hz hpt hF (fun u25 H locs hz hpt hF hH => ?_)
    refine lv_aload_n hx hb dX6_init_111 rfl (lv_at hl 0 rfl) ?_
    refine wr_new (ci := 1) (C := RX1) (T := TX1) (N := 7) tyX1 hC hH hz hpt rfl rfl (by decide) gwX1 tyX1_ok zd_X1 n_X6_61 z_X1 zi_X1 rfl (Nat.le_of_ble_eq_true rfl) (Nat.le_of_ble_eq_true rfl) dX6_init_112 (fun r26 H hr hz hpt hH => ?_)
    have hz : wZr (0 + 30) u25 := hz
    have hpt : wPt (0 + 30) u25 := hpt
    have hH : wHr D κ r26 0 30 A s.heap H locs u25 := hH
    have e19 : r26 19 = r24 19 := hr 19 (by decide)
    rw [← e19]
    have hl : lv_has ls 1 [(0, .ref (r26 19))] := by rw [e19]; exact hl
    have ha : ∀ c, c < 0 + 20 → r26 c = ρ c := fun c hc => (hr c (by omega)).trans (ha c hc)
    refine lv_dup hx hb dX6_init_115 rfl ?_
    refine wr_ctorN rfl hC hE hH hz hpt hl.1 c_X1_init_29 rfl y_X1_init zn_X1 q_X6_63 rfl ⟨Nat.le_of_ble_eq_true rfl, Nat.le_of_ble_eq_true rfl⟩ ⟨Nat.le_of_ble_eq_true rfl, Nat.le_of_ble_eq_true rfl⟩ rfl (Nat.le_of_ble_eq_true rfl) dX6_init_116 hF (fun r27 u28 H locs hr hz hpt hF hH => ?_)
    have e19 : r27 19 = r26 19 := hr 19 (by decide)
    have e29 : r27 29 = r26 29 := hr 29 (by decide)
    rw [← e19]
    rw [← e29]
    have hl : lv_has ls 1 [(0, .ref (r27 19))] := by rw [e19]; exact hl
    have ha : ∀ c, c < 0 + 20 → r27 c = ρ c := fun c hc => (hr c (by omega)).trans (ha c hc)
    refine wr_putR hC hH rfl ⟨by decide, by decide⟩ (by decide) f_X6_64 g_6_16 (Or.inl ⟨_, rfl⟩) (Or.inr ⟨hnm, _, rfl, rfl⟩) dX6_init_119 hz hpt hF (fun u29 H locs hz hpt hF hH => ?_)
    refine W.widen (k := 16) (n := 272) (Nat.le_of_ble_eq_true rfl) (Nat.le_of_ble_eq_true rfl) ?_
    exact wr_vret hC hH ha (fun _ => ⟨hz, hpt⟩) hr0 hlk dX6_init_122 hF
  exact key _ _ hH
def F_X5_init_38 (u0 : wSt) : Option (Unit × wSt) :=
  wB (w_sI u0 38 0 (35 : Int32)) (fun (u1 : wSt) => wB (w_sI u1 38 1 (0 : Int32)) (fun (u2 : wSt) => wB (w_sI u2 38 2 (0 : Int32)) (fun (u3 : wSt) => wB (w_sI u3 38 4 (0 : Int32)) (fun (u4 : wSt) => wB (w_sI u4 38 5 (0 : Int32)) (fun (u5 : wSt) => wB (w_sI u5 38 6 (0 : Int32)) (fun (u6 : wSt) => wB (w_sI u6 38 7 (0 : Int32)) (fun (u7 : wSt) => wB (w_sR u7 38 8 (39 + 1)) (fun (u9 : wSt) => wB (w_sR u9 38 9 (40 + 1)) (fun (u11 : wSt) => wB (w_sR u11 38 10 (41 + 1)) (fun (u13 : wSt) => wB (w_sR u13 38 11 (42 + 1)) (fun (u15 : wSt) => wB (w_sR u15 38 3 (1 + 1)) (fun (u16 : wSt) => F_X5_t u16))))))))))))
set_option maxRecDepth 100000 in
set_option maxHeartbeats 4000000 in
theorem c_X5_init_38 {l : Launch} : wMK l yX5_init cX5_init 6 (wRk 4 4 2123 85) 4 2123 0 39 43 (fun ρ => [.ref (ρ 38), .ref (ρ 1)]) (fun u => F_X5_init_38 u) := by
  refine wMK_of rfl (fun _ => Nat.le_of_ble_eq_true rfl) (fun D κ ρ kA vA u0 z p e s m args below meth c ls A hF hz hpt hC hr0 hlk hnm hE hH hl => ?_)
  have hx := hC.1.1
  have hb := hC.1.2.1
  have hF : F_X5_init_38 u0 = some z := hF
  unfold F_X5_init_38 at hF
  have ha : ∀ c, c < 0 + 39 → ρ c = ρ c := fun _ _ => rfl
  have hl : lv_has ls 6 [(0, .ref (ρ 38)), (1, .ref (ρ 1))] := hl
  have key : ∀ (H : Heap) (locs : List Loc), wHr D κ ρ 0 39 A s.heap H locs u0 → W p l e (wRk 4 4 2123 85) s m args below meth c H locs 0 0 (wQK below args s A D κ ρ 0 39 43 4 2123 z) (F0 m 0 ls []) := by
    intro H locs hH
    refine lv_aload_n hx hb dX5_init_0 rfl (lv_at hl 0 rfl) ?_
    refine wr_obj hC hl.1 m_X5_3 ⟨Nat.le_of_ble_eq_true rfl, Nat.le_of_ble_eq_true rfl⟩ dX5_init_1 ?_
    refine lv_aload_n hx hb dX5_init_4 rfl (lv_at hl 0 rfl) ?_
    refine lv_bipush hx hb dX5_init_5 k_bipush_35 ?_
    refine wr_putI hC hH rfl ⟨by decide, by decide⟩ f_X5_9 g_5_0 dX5_init_7 hz hpt hF (fun u1 H locs hz hpt hF hH => ?_)
    refine lv_aload_n hx hb dX5_init_10 rfl (lv_at hl 0 rfl) ?_
    refine lv_iconst hx hb dX5_init_11 k_iconst_0 ?_
    refine wr_putI hC hH rfl ⟨by decide, by decide⟩ f_X5_15 g_5_1 dX5_init_12 hz hpt hF (fun u2 H locs hz hpt hF hH => ?_)
    refine lv_aload_n hx hb dX5_init_15 rfl (lv_at hl 0 rfl) ?_
    refine lv_iconst hx hb dX5_init_16 k_iconst_0 ?_
    refine wr_putI hC hH rfl ⟨by decide, by decide⟩ f_X5_18 g_5_2 dX5_init_17 hz hpt hF (fun u3 H locs hz hpt hF hH => ?_)
    refine lv_aload_n hx hb dX5_init_20 rfl (lv_at hl 0 rfl) ?_
    refine lv_iconst hx hb dX5_init_21 k_iconst_0 ?_
    refine wr_putI hC hH rfl ⟨by decide, by decide⟩ f_X5_21 g_5_4 dX5_init_22 hz hpt hF (fun u4 H locs hz hpt hF hH => ?_)
    refine lv_aload_n hx hb dX5_init_25 rfl (lv_at hl 0 rfl) ?_
    refine lv_iconst hx hb dX5_init_26 k_iconst_0 ?_
    refine wr_putI hC hH rfl ⟨by decide, by decide⟩ f_X5_24 g_5_5 dX5_init_27 hz hpt hF (fun u5 H locs hz hpt hF hH => ?_)
    refine lv_aload_n hx hb dX5_init_30 rfl (lv_at hl 0 rfl) ?_
    refine lv_iconst hx hb dX5_init_31 k_iconst_0 ?_
    refine wr_putI hC hH rfl ⟨by decide, by decide⟩ f_X5_27 g_5_6 dX5_init_32 hz hpt hF (fun u6 H locs hz hpt hF hH => ?_)
    refine lv_aload_n hx hb dX5_init_35 rfl (lv_at hl 0 rfl) ?_
    refine lv_iconst hx hb dX5_init_36 k_iconst_0 ?_
    refine wr_putI hC hH rfl ⟨by decide, by decide⟩ f_X5_30 g_5_7 dX5_init_37 hz hpt hF (fun u7 H locs hz hpt hF hH => ?_)
    refine lv_aload_n hx hb dX5_init_40 rfl (lv_at hl 0 rfl) ?_
    refine lv_bipush hx hb dX5_init_41 k_bipush_20 ?_
    refine wr_newa (atype := .int) (t := 0) (a0 := (20, .inl (fun _ => 0))) hC hH hz hpt za_int rfl rfl (fun _ _ => rfl) rfl (fun _ => rfl) (w_row0 hz rfl rfl (by decide)) ⟨by decide, by decide⟩ (by decide) (Nat.le_of_ble_eq_true rfl) (Nat.le_of_ble_eq_true rfl) dX5_init_43 (fun r8 H hr hz hpt hH => ?_)
    have hz : wZr (0 + 40) u7 := hz
    have hpt : wPt (0 + 40) u7 := hpt
    have hH : wHr D κ r8 0 40 A s.heap H locs u7 := hH
    have e1 : r8 1 = ρ 1 := hr 1 (by decide)
    have e38 : r8 38 = ρ 38 := hr 38 (by decide)
    rw [← e38]
    have hl : lv_has ls 6 [(0, .ref (r8 38)), (1, .ref (r8 1))] := by rw [e1, e38]; exact hl
    have ha : ∀ c, c < 0 + 39 → r8 c = ρ c := fun c hc => (hr c (by omega)).trans (ha c hc)
    refine wr_putR hC hH rfl ⟨by decide, by decide⟩ (by decide) f_X5_33 g_5_8 (Or.inr ⟨_, rfl⟩) (Or.inr ⟨hnm, _, rfl, rfl⟩) dX5_init_45 hz hpt hF (fun u9 H locs hz hpt hF hH => ?_)
    refine lv_aload_n hx hb dX5_init_48 rfl (lv_at hl 0 rfl) ?_
    refine lv_sipush hx hb dX5_init_49 k_sipush_701 ?_
    refine wr_newa (atype := .int) (t := 0) (a0 := (701, .inl (fun _ => 0))) hC hH hz hpt za_int rfl rfl (fun _ _ => rfl) rfl (fun _ => rfl) (w_row0 hz rfl rfl (by decide)) ⟨by decide, by decide⟩ (by decide) (Nat.le_of_ble_eq_true rfl) (Nat.le_of_ble_eq_true rfl) dX5_init_52 (fun r10 H hr hz hpt hH => ?_)
    have hz : wZr (0 + 41) u9 := hz
    have hpt : wPt (0 + 41) u9 := hpt
    have hH : wHr D κ r10 0 41 A s.heap H locs u9 := hH
    have e1 : r10 1 = r8 1 := hr 1 (by decide)
    have e38 : r10 38 = r8 38 := hr 38 (by decide)
    rw [← e38]
    have hl : lv_has ls 6 [(0, .ref (r10 38)), (1, .ref (r10 1))] := by rw [e1, e38]; exact hl
    have ha : ∀ c, c < 0 + 39 → r10 c = ρ c := fun c hc => (hr c (by omega)).trans (ha c hc)
    refine wr_putR hC hH rfl ⟨by decide, by decide⟩ (by decide) f_X5_37 g_5_9 (Or.inr ⟨_, rfl⟩) (Or.inr ⟨hnm, _, rfl, rfl⟩) dX5_init_54 hz hpt hF (fun u11 H locs hz hpt hF hH => ?_)
    refine lv_aload_n hx hb dX5_init_57 rfl (lv_at hl 0 rfl) ?_
    refine lv_sipush hx hb dX5_init_58 k_sipush_701 ?_
    refine wr_newa (atype := .int) (t := 0) (a0 := (701, .inl (fun _ => 0))) hC hH hz hpt za_int rfl rfl (fun _ _ => rfl) rfl (fun _ => rfl) (w_row0 hz rfl rfl (by decide)) ⟨by decide, by decide⟩ (by decide) (Nat.le_of_ble_eq_true rfl) (Nat.le_of_ble_eq_true rfl) dX5_init_61 (fun r12 H hr hz hpt hH => ?_)
    have hz : wZr (0 + 42) u11 := hz
    have hpt : wPt (0 + 42) u11 := hpt
    have hH : wHr D κ r12 0 42 A s.heap H locs u11 := hH
    have e1 : r12 1 = r10 1 := hr 1 (by decide)
    have e38 : r12 38 = r10 38 := hr 38 (by decide)
    rw [← e38]
    have hl : lv_has ls 6 [(0, .ref (r12 38)), (1, .ref (r12 1))] := by rw [e1, e38]; exact hl
    have ha : ∀ c, c < 0 + 39 → r12 c = ρ c := fun c hc => (hr c (by omega)).trans (ha c hc)
    refine wr_putR hC hH rfl ⟨by decide, by decide⟩ (by decide) f_X5_40 g_5_10 (Or.inr ⟨_, rfl⟩) (Or.inr ⟨hnm, _, rfl, rfl⟩) dX5_init_63 hz hpt hF (fun u13 H locs hz hpt hF hH => ?_)
    refine lv_aload_n hx hb dX5_init_66 rfl (lv_at hl 0 rfl) ?_
    refine lv_sipush hx hb dX5_init_67 k_sipush_701 ?_
    refine wr_newa (atype := .int) (t := 0) (a0 := (701, .inl (fun _ => 0))) hC hH hz hpt za_int rfl rfl (fun _ _ => rfl) rfl (fun _ => rfl) (w_row0 hz rfl rfl (by decide)) ⟨by decide, by decide⟩ (by decide) (Nat.le_of_ble_eq_true rfl) (Nat.le_of_ble_eq_true rfl) dX5_init_70 (fun r14 H hr hz hpt hH => ?_)
    have hz : wZr (0 + 43) u13 := hz
    have hpt : wPt (0 + 43) u13 := hpt
    have hH : wHr D κ r14 0 43 A s.heap H locs u13 := hH
    have e1 : r14 1 = r12 1 := hr 1 (by decide)
    have e38 : r14 38 = r12 38 := hr 38 (by decide)
    rw [← e38]
    have hl : lv_has ls 6 [(0, .ref (r14 38)), (1, .ref (r14 1))] := by rw [e1, e38]; exact hl
    have ha : ∀ c, c < 0 + 39 → r14 c = ρ c := fun c hc => (hr c (by omega)).trans (ha c hc)
    refine wr_putR hC hH rfl ⟨by decide, by decide⟩ (by decide) f_X5_43 g_5_11 (Or.inr ⟨_, rfl⟩) (Or.inr ⟨hnm, _, rfl, rfl⟩) dX5_init_72 hz hpt hF (fun u15 H locs hz hpt hF hH => ?_)
    refine lv_aload_n hx hb dX5_init_75 rfl (lv_at hl 0 rfl) ?_
    refine lv_aload_n hx hb dX5_init_76 rfl (lv_at hl 1 rfl) ?_
    refine wr_putR hC hH rfl ⟨by decide, by decide⟩ (by decide) f_X5_46 g_5_3 (Or.inr ⟨_, rfl⟩) (Or.inr ⟨hnm, _, rfl, rfl⟩) dX5_init_77 hz hpt hF (fun u16 H locs hz hpt hF hH => ?_)
    refine lv_iconst hx hb dX5_init_80 k_iconst_0 ?_
    refine wx_istore_n hx hb dX5_init_81 rfl hl (by decide) (fun ls hl => ?_)
    have hl : lv_has ls 6 [(2, .int (0 : Int32)), (0, .ref (r14 38)), (1, .ref (r14 1))] := hl
    refine lv_iconst hx hb dX5_init_82 k_iconst_0 ?_
    refine wx_istore_n hx hb dX5_init_83 rfl hl (by decide) (fun ls hl => ?_)
    have hl : lv_has ls 6 [(3, .int (0 : Int32)), (2, .int (0 : Int32)), (0, .ref (r14 38)), (1, .ref (r14 1))] := hl
    refine lv_iconst hx hb dX5_init_84 k_iconst_0 ?_
    refine wx_istore hx hb dX5_init_85 hl (by decide) (fun ls hl => ?_)
    have hl : lv_has ls 6 [(4, .int (0 : Int32)), (3, .int (0 : Int32)), (2, .int (0 : Int32)), (0, .ref (r14 38)), (1, .ref (r14 1))] := hl
    refine lv_iconst hx hb dX5_init_87 k_iconst_0 ?_
    refine wx_istore hx hb dX5_init_88 hl (by decide) (fun ls hl => ?_)
    have hl : lv_has ls 6 [(5, .int (0 : Int32)), (4, .int (0 : Int32)), (3, .int (0 : Int32)), (2, .int (0 : Int32)), (0, .ref (r14 38)), (1, .ref (r14 1))] := hl
    unfold F_X5_t at hF
    refine x5_loop hC hE ⟨Nat.le_of_ble_eq_true rfl, Nat.le_of_ble_eq_true rfl⟩ ⟨Nat.le_of_ble_eq_true rfl, Nat.le_of_ble_eq_true rfl⟩ (fun u H locs ls hF hz hpt hH => ?_) wFu _ _ _ _ _ H locs ls hF hz hpt hH (lv_sub hl [4, 3, 2, 1, 0] rfl)
    exact wr_vret hC hH ha (fun _ => ⟨hz, hpt⟩) hr0 hlk dX5_init_183 hF
  exact key _ _ hH
def F_X2_init_36 (u0 : wSt) : Option (Unit × wSt) :=
  wB (w_sI u0 36 0 (0 : Int32)) (fun (u1 : wSt) => wB (w_sI u1 36 1 (0 : Int32)) (fun (u2 : wSt) => wB (w_sI u2 36 4 (0 : Int32)) (fun (u3 : wSt) => wB (w_sI u3 36 5 (0 : Int32)) (fun (u4 : wSt) => wB (w_sI u4 36 6 (0 : Int32)) (fun (u5 : wSt) => wB (w_sI u5 36 7 (0 : Int32)) (fun (u6 : wSt) => wB (w_sI u6 36 8 (0 : Int32)) (fun (u7 : wSt) => wB (w_sR u7 36 9 (37 + 1)) (fun (u9 : wSt) => wC (F_X5_init_38 u9) (fun _ (u12 : wSt) => wB (w_sR u12 36 2 (38 + 1)) (fun (u13 : wSt) => wB (w_sR u13 36 3 (19 + 1)) (fun (u14 : wSt) => some ((), u14))))))))))))
set_option maxRecDepth 100000 in
set_option maxHeartbeats 4000000 in
theorem c_X2_init_36 {l : Launch} : wMK l yX2_init cX2_init 3 (wRk 5 6 2207 110) 6 2207 0 37 43 (fun ρ => [.ref (ρ 36), .ref (ρ 1), .ref (ρ 19)]) (fun u => F_X2_init_36 u) := by
  refine wMK_of rfl (fun _ => Nat.le_of_ble_eq_true rfl) (fun D κ ρ kA vA u0 z p e s m args below meth c ls A hF hz hpt hC hr0 hlk hnm hE hH hl => ?_)
  have hx := hC.1.1
  have hb := hC.1.2.1
  have hF : F_X2_init_36 u0 = some z := hF
  unfold F_X2_init_36 at hF
  have ha : ∀ c, c < 0 + 37 → ρ c = ρ c := fun _ _ => rfl
  have hl : lv_has ls 3 [(0, .ref (ρ 36)), (1, .ref (ρ 1)), (2, .ref (ρ 19))] := hl
  have key : ∀ (H : Heap) (locs : List Loc), wHr D κ ρ 0 37 A s.heap H locs u0 → W p l e (wRk 5 6 2207 110) s m args below meth c H locs 0 0 (wQK below args s A D κ ρ 0 37 43 6 2207 z) (F0 m 0 ls []) := by
    intro H locs hH
    refine lv_aload_n hx hb dX2_init_0 rfl (lv_at hl 0 rfl) ?_
    refine wr_obj hC hl.1 m_X2_3 ⟨Nat.le_of_ble_eq_true rfl, Nat.le_of_ble_eq_true rfl⟩ dX2_init_1 ?_
    refine lv_aload_n hx hb dX2_init_4 rfl (lv_at hl 0 rfl) ?_
    refine lv_iconst hx hb dX2_init_5 k_iconst_0 ?_
    refine wr_putI hC hH rfl ⟨by decide, by decide⟩ f_X2_9 g_2_0 dX2_init_6 hz hpt hF (fun u1 H locs hz hpt hF hH => ?_)
    refine lv_aload_n hx hb dX2_init_9 rfl (lv_at hl 0 rfl) ?_
    refine lv_iconst hx hb dX2_init_10 k_iconst_0 ?_
    refine wr_putI hC hH rfl ⟨by decide, by decide⟩ f_X2_15 g_2_1 dX2_init_11 hz hpt hF (fun u2 H locs hz hpt hF hH => ?_)
    refine lv_aload_n hx hb dX2_init_14 rfl (lv_at hl 0 rfl) ?_
    refine lv_iconst hx hb dX2_init_15 k_iconst_0 ?_
    refine wr_putI hC hH rfl ⟨by decide, by decide⟩ f_X2_18 g_2_4 dX2_init_16 hz hpt hF (fun u3 H locs hz hpt hF hH => ?_)
    refine lv_aload_n hx hb dX2_init_19 rfl (lv_at hl 0 rfl) ?_
    refine lv_iconst hx hb dX2_init_20 k_iconst_0 ?_
    refine wr_putI hC hH rfl ⟨by decide, by decide⟩ f_X2_21 g_2_5 dX2_init_21 hz hpt hF (fun u4 H locs hz hpt hF hH => ?_)
    refine lv_aload_n hx hb dX2_init_24 rfl (lv_at hl 0 rfl) ?_
    refine lv_iconst hx hb dX2_init_25 k_iconst_0 ?_
    refine wr_putI hC hH rfl ⟨by decide, by decide⟩ f_X2_24 g_2_6 dX2_init_26 hz hpt hF (fun u5 H locs hz hpt hF hH => ?_)
    refine lv_aload_n hx hb dX2_init_29 rfl (lv_at hl 0 rfl) ?_
    refine lv_iconst hx hb dX2_init_30 k_iconst_0 ?_
    refine wr_putI hC hH rfl ⟨by decide, by decide⟩ f_X2_27 g_2_7 dX2_init_31 hz hpt hF (fun u6 H locs hz hpt hF hH => ?_)
    refine lv_aload_n hx hb dX2_init_34 rfl (lv_at hl 0 rfl) ?_
    refine lv_iconst hx hb dX2_init_35 k_iconst_0 ?_
    refine wr_putI hC hH rfl ⟨by decide, by decide⟩ f_X2_30 g_2_8 dX2_init_36 hz hpt hF (fun u7 H locs hz hpt hF hH => ?_)
    refine lv_aload_n hx hb dX2_init_39 rfl (lv_at hl 0 rfl) ?_
    refine lv_bipush hx hb dX2_init_40 k_bipush_72 ?_
    refine wr_newa (atype := .int) (t := 0) (a0 := (72, .inl (fun _ => 0))) hC hH hz hpt za_int rfl rfl (fun _ _ => rfl) rfl (fun _ => rfl) (w_row0 hz rfl rfl (by decide)) ⟨by decide, by decide⟩ (by decide) (Nat.le_of_ble_eq_true rfl) (Nat.le_of_ble_eq_true rfl) dX2_init_42 (fun r8 H hr hz hpt hH => ?_)
    have hz : wZr (0 + 38) u7 := hz
    have hpt : wPt (0 + 38) u7 := hpt
    have hH : wHr D κ r8 0 38 A s.heap H locs u7 := hH
    have e1 : r8 1 = ρ 1 := hr 1 (by decide)
    have e19 : r8 19 = ρ 19 := hr 19 (by decide)
    have e36 : r8 36 = ρ 36 := hr 36 (by decide)
    rw [← e36]
    have hl : lv_has ls 3 [(0, .ref (r8 36)), (1, .ref (r8 1)), (2, .ref (r8 19))] := by rw [e1, e19, e36]; exact hl
    have ha : ∀ c, c < 0 + 37 → r8 c = ρ c := fun c hc => (hr c (by omega)).trans (ha c hc)
    refine wr_putR hC hH rfl ⟨by decide, by decide⟩ (by decide) f_X2_33 g_2_9 (Or.inr ⟨_, rfl⟩) (Or.inr ⟨hnm, _, rfl, rfl⟩) dX2_init_44 hz hpt hF (fun u9 H locs hz hpt hF hH => ?_)
    refine lv_aload_n hx hb dX2_init_47 rfl (lv_at hl 0 rfl) ?_
    refine wr_new (ci := 5) (C := RX5) (T := TX5) (N := 12) tyX5 hC hH hz hpt rfl rfl (by decide) gwX5 tyX5_ok zd_X5 n_X2_37 z_X5 zi_X5 rfl (Nat.le_of_ble_eq_true rfl) (Nat.le_of_ble_eq_true rfl) dX2_init_48 (fun r10 H hr hz hpt hH => ?_)
    have hz : wZr (0 + 39) u9 := hz
    have hpt : wPt (0 + 39) u9 := hpt
    have hH : wHr D κ r10 0 39 A s.heap H locs u9 := hH
    have e1 : r10 1 = r8 1 := hr 1 (by decide)
    have e19 : r10 19 = r8 19 := hr 19 (by decide)
    have e36 : r10 36 = r8 36 := hr 36 (by decide)
    rw [← e36]
    have hl : lv_has ls 3 [(0, .ref (r10 36)), (1, .ref (r10 1)), (2, .ref (r10 19))] := by rw [e1, e19, e36]; exact hl
    have ha : ∀ c, c < 0 + 37 → r10 c = ρ c := fun c hc => (hr c (by omega)).trans (ha c hc)
    refine lv_dup hx hb dX2_init_51 rfl ?_
    refine lv_aload_n hx hb dX2_init_52 rfl (lv_at hl 1 rfl) ?_
    refine wr_ctor rfl hC hE hH hz hpt hl.1 c_X5_init_38 rfl y_X5_init zn_X5 m_X2_39 rfl ⟨Nat.le_of_ble_eq_true rfl, Nat.le_of_ble_eq_true rfl⟩ ⟨Nat.le_of_ble_eq_true rfl, Nat.le_of_ble_eq_true rfl⟩ rfl (Nat.le_of_ble_eq_true rfl) dX2_init_53 hF (fun r11 u12 H locs hr hz hpt hF hH => ?_)
    have e1 : r11 1 = r10 1 := hr 1 (by decide)
    have e19 : r11 19 = r10 19 := hr 19 (by decide)
    have e36 : r11 36 = r10 36 := hr 36 (by decide)
    have e38 : r11 38 = r10 38 := hr 38 (by decide)
    rw [← e36]
    rw [← e38]
    have hl : lv_has ls 3 [(0, .ref (r11 36)), (1, .ref (r11 1)), (2, .ref (r11 19))] := by rw [e1, e19, e36]; exact hl
    have ha : ∀ c, c < 0 + 37 → r11 c = ρ c := fun c hc => (hr c (by omega)).trans (ha c hc)
    refine wr_putR hC hH rfl ⟨by decide, by decide⟩ (by decide) f_X2_42 g_2_2 (Or.inl ⟨_, rfl⟩) (Or.inr ⟨hnm, _, rfl, rfl⟩) dX2_init_56 hz hpt hF (fun u13 H locs hz hpt hF hH => ?_)
    refine lv_aload_n hx hb dX2_init_59 rfl (lv_at hl 0 rfl) ?_
    refine lv_aload_n hx hb dX2_init_60 rfl (lv_at hl 2 rfl) ?_
    refine wr_putR hC hH rfl ⟨by decide, by decide⟩ (by decide) f_X2_46 g_2_3 (Or.inl ⟨_, rfl⟩) (Or.inl rfl) dX2_init_61 hz hpt hF (fun u14 H locs hz hpt hF hH => ?_)
    refine W.widen (k := 6) (n := 2207) (Nat.le_of_ble_eq_true rfl) (Nat.le_of_ble_eq_true rfl) ?_
    exact wr_vret hC hH ha (fun _ => ⟨hz, hpt⟩) hr0 hlk dX2_init_64 hF
  exact key _ _ hH
def F_X3_init_43 (u0 : wSt) : Option (Unit × wSt) :=
  wB (w_sI u0 43 0 (0 : Int32)) (fun (u1 : wSt) => wB (w_sI u1 43 1 (0 : Int32)) (fun (u2 : wSt) => wB (w_sI u2 43 2 (0 : Int32)) (fun (u3 : wSt) => wB (w_sI u3 43 3 (0 : Int32)) (fun (u4 : wSt) => wB (w_sR u4 43 4 (44 + 1)) (fun (u6 : wSt) => wB (w_sR u6 43 5 (45 + 1)) (fun (u8 : wSt) => wB (w_sR u8 43 6 (46 + 1)) (fun (u10 : wSt) => wB (w_sR u10 43 7 (47 + 1)) (fun (u12 : wSt) => wB (w_sR u12 43 8 (48 + 1)) (fun (u14 : wSt) => wB (w_sR u14 43 9 (49 + 1)) (fun (u16 : wSt) => some ((), u16)))))))))))
set_option maxRecDepth 100000 in
set_option maxHeartbeats 4000000 in
theorem c_X3_init_43 {l : Launch} : wMK l yX3_init cX3_init 1 (wRk 1 6 40 20) 6 40 0 44 50 (fun ρ => [.ref (ρ 43)]) (fun u => F_X3_init_43 u) := by
  refine wMK_of rfl (fun _ => Nat.le_of_ble_eq_true rfl) (fun D κ ρ kA vA u0 z p e s m args below meth c ls A hF hz hpt hC hr0 hlk hnm hE hH hl => ?_)
  have hx := hC.1.1
  have hb := hC.1.2.1
  have hF : F_X3_init_43 u0 = some z := hF
  unfold F_X3_init_43 at hF
  have ha : ∀ c, c < 0 + 44 → ρ c = ρ c := fun _ _ => rfl
  have hl : lv_has ls 1 [(0, .ref (ρ 43))] := hl
  have key : ∀ (H : Heap) (locs : List Loc), wHr D κ ρ 0 44 A s.heap H locs u0 → W p l e (wRk 1 6 40 20) s m args below meth c H locs 0 0 (wQK below args s A D κ ρ 0 44 50 6 40 z) (F0 m 0 ls []) := by
    intro H locs hH
    refine lv_aload_n hx hb dX3_init_0 rfl (lv_at hl 0 rfl) ?_
    refine wr_obj hC hl.1 m_X3_3 ⟨Nat.le_of_ble_eq_true rfl, Nat.le_of_ble_eq_true rfl⟩ dX3_init_1 ?_
    refine lv_aload_n hx hb dX3_init_4 rfl (lv_at hl 0 rfl) ?_
    refine lv_iconst hx hb dX3_init_5 k_iconst_0 ?_
    refine wr_putI hC hH rfl ⟨by decide, by decide⟩ f_X3_9 g_3_0 dX3_init_6 hz hpt hF (fun u1 H locs hz hpt hF hH => ?_)
    refine lv_aload_n hx hb dX3_init_9 rfl (lv_at hl 0 rfl) ?_
    refine lv_iconst hx hb dX3_init_10 k_iconst_0 ?_
    refine wr_putI hC hH rfl ⟨by decide, by decide⟩ f_X3_15 g_3_1 dX3_init_11 hz hpt hF (fun u2 H locs hz hpt hF hH => ?_)
    refine lv_aload_n hx hb dX3_init_14 rfl (lv_at hl 0 rfl) ?_
    refine lv_iconst hx hb dX3_init_15 k_iconst_0 ?_
    refine wr_putI hC hH rfl ⟨by decide, by decide⟩ f_X3_18 g_3_2 dX3_init_16 hz hpt hF (fun u3 H locs hz hpt hF hH => ?_)
    refine lv_aload_n hx hb dX3_init_19 rfl (lv_at hl 0 rfl) ?_
    refine lv_iconst hx hb dX3_init_20 k_iconst_0 ?_
    refine wr_putI hC hH rfl ⟨by decide, by decide⟩ f_X3_21 g_3_3 dX3_init_21 hz hpt hF (fun u4 H locs hz hpt hF hH => ?_)
    refine lv_aload_n hx hb dX3_init_24 rfl (lv_at hl 0 rfl) ?_
    refine lv_bipush hx hb dX3_init_25 k_bipush_6 ?_
    refine wr_newa (atype := .int) (t := 0) (a0 := (6, .inl (fun _ => 0))) hC hH hz hpt za_int rfl rfl (fun _ _ => rfl) rfl (fun _ => rfl) (w_row0 hz rfl rfl (by decide)) ⟨by decide, by decide⟩ (by decide) (Nat.le_of_ble_eq_true rfl) (Nat.le_of_ble_eq_true rfl) dX3_init_27 (fun r5 H hr hz hpt hH => ?_)
    have hz : wZr (0 + 45) u4 := hz
    have hpt : wPt (0 + 45) u4 := hpt
    have hH : wHr D κ r5 0 45 A s.heap H locs u4 := hH
    have e43 : r5 43 = ρ 43 := hr 43 (by decide)
    rw [← e43]
    have hl : lv_has ls 1 [(0, .ref (r5 43))] := by rw [e43]; exact hl
    have ha : ∀ c, c < 0 + 44 → r5 c = ρ c := fun c hc => (hr c (by omega)).trans (ha c hc)
    refine wr_putR hC hH rfl ⟨by decide, by decide⟩ (by decide) f_X3_24 g_3_4 (Or.inr ⟨_, rfl⟩) (Or.inr ⟨hnm, _, rfl, rfl⟩) dX3_init_29 hz hpt hF (fun u6 H locs hz hpt hF hH => ?_)
    refine lv_aload_n hx hb dX3_init_32 rfl (lv_at hl 0 rfl) ?_
    refine lv_bipush hx hb dX3_init_33 k_bipush_6 ?_
    refine wr_newa (atype := .int) (t := 0) (a0 := (6, .inl (fun _ => 0))) hC hH hz hpt za_int rfl rfl (fun _ _ => rfl) rfl (fun _ => rfl) (w_row0 hz rfl rfl (by decide)) ⟨by decide, by decide⟩ (by decide) (Nat.le_of_ble_eq_true rfl) (Nat.le_of_ble_eq_true rfl) dX3_init_35 (fun r7 H hr hz hpt hH => ?_)
    have hz : wZr (0 + 46) u6 := hz
    have hpt : wPt (0 + 46) u6 := hpt
    have hH : wHr D κ r7 0 46 A s.heap H locs u6 := hH
    have e43 : r7 43 = r5 43 := hr 43 (by decide)
    rw [← e43]
    have hl : lv_has ls 1 [(0, .ref (r7 43))] := by rw [e43]; exact hl
    have ha : ∀ c, c < 0 + 44 → r7 c = ρ c := fun c hc => (hr c (by omega)).trans (ha c hc)
    refine wr_putR hC hH rfl ⟨by decide, by decide⟩ (by decide) f_X3_28 g_3_5 (Or.inr ⟨_, rfl⟩) (Or.inr ⟨hnm, _, rfl, rfl⟩) dX3_init_37 hz hpt hF (fun u8 H locs hz hpt hF hH => ?_)
    refine lv_aload_n hx hb dX3_init_40 rfl (lv_at hl 0 rfl) ?_
    refine lv_bipush hx hb dX3_init_41 k_bipush_6 ?_
    refine wr_newa (atype := .int) (t := 0) (a0 := (6, .inl (fun _ => 0))) hC hH hz hpt za_int rfl rfl (fun _ _ => rfl) rfl (fun _ => rfl) (w_row0 hz rfl rfl (by decide)) ⟨by decide, by decide⟩ (by decide) (Nat.le_of_ble_eq_true rfl) (Nat.le_of_ble_eq_true rfl) dX3_init_43 (fun r9 H hr hz hpt hH => ?_)
    have hz : wZr (0 + 47) u8 := hz
    have hpt : wPt (0 + 47) u8 := hpt
    have hH : wHr D κ r9 0 47 A s.heap H locs u8 := hH
    have e43 : r9 43 = r7 43 := hr 43 (by decide)
    rw [← e43]
    have hl : lv_has ls 1 [(0, .ref (r9 43))] := by rw [e43]; exact hl
    have ha : ∀ c, c < 0 + 44 → r9 c = ρ c := fun c hc => (hr c (by omega)).trans (ha c hc)
    refine wr_putR hC hH rfl ⟨by decide, by decide⟩ (by decide) f_X3_31 g_3_6 (Or.inr ⟨_, rfl⟩) (Or.inr ⟨hnm, _, rfl, rfl⟩) dX3_init_45 hz hpt hF (fun u10 H locs hz hpt hF hH => ?_)
    refine lv_aload_n hx hb dX3_init_48 rfl (lv_at hl 0 rfl) ?_
    refine lv_bipush hx hb dX3_init_49 k_bipush_6 ?_
    refine wr_newa (atype := .int) (t := 0) (a0 := (6, .inl (fun _ => 0))) hC hH hz hpt za_int rfl rfl (fun _ _ => rfl) rfl (fun _ => rfl) (w_row0 hz rfl rfl (by decide)) ⟨by decide, by decide⟩ (by decide) (Nat.le_of_ble_eq_true rfl) (Nat.le_of_ble_eq_true rfl) dX3_init_51 (fun r11 H hr hz hpt hH => ?_)
    have hz : wZr (0 + 48) u10 := hz
    have hpt : wPt (0 + 48) u10 := hpt
    have hH : wHr D κ r11 0 48 A s.heap H locs u10 := hH
    have e43 : r11 43 = r9 43 := hr 43 (by decide)
    rw [← e43]
    have hl : lv_has ls 1 [(0, .ref (r11 43))] := by rw [e43]; exact hl
    have ha : ∀ c, c < 0 + 44 → r11 c = ρ c := fun c hc => (hr c (by omega)).trans (ha c hc)
    refine wr_putR hC hH rfl ⟨by decide, by decide⟩ (by decide) f_X3_34 g_3_7 (Or.inr ⟨_, rfl⟩) (Or.inr ⟨hnm, _, rfl, rfl⟩) dX3_init_53 hz hpt hF (fun u12 H locs hz hpt hF hH => ?_)
    refine lv_aload_n hx hb dX3_init_56 rfl (lv_at hl 0 rfl) ?_
    refine lv_bipush hx hb dX3_init_57 k_bipush_8 ?_
    refine wr_newa (atype := .int) (t := 0) (a0 := (8, .inl (fun _ => 0))) hC hH hz hpt za_int rfl rfl (fun _ _ => rfl) rfl (fun _ => rfl) (w_row0 hz rfl rfl (by decide)) ⟨by decide, by decide⟩ (by decide) (Nat.le_of_ble_eq_true rfl) (Nat.le_of_ble_eq_true rfl) dX3_init_59 (fun r13 H hr hz hpt hH => ?_)
    have hz : wZr (0 + 49) u12 := hz
    have hpt : wPt (0 + 49) u12 := hpt
    have hH : wHr D κ r13 0 49 A s.heap H locs u12 := hH
    have e43 : r13 43 = r11 43 := hr 43 (by decide)
    rw [← e43]
    have hl : lv_has ls 1 [(0, .ref (r13 43))] := by rw [e43]; exact hl
    have ha : ∀ c, c < 0 + 44 → r13 c = ρ c := fun c hc => (hr c (by omega)).trans (ha c hc)
    refine wr_putR hC hH rfl ⟨by decide, by decide⟩ (by decide) f_X3_37 g_3_8 (Or.inr ⟨_, rfl⟩) (Or.inr ⟨hnm, _, rfl, rfl⟩) dX3_init_61 hz hpt hF (fun u14 H locs hz hpt hF hH => ?_)
    refine lv_aload_n hx hb dX3_init_64 rfl (lv_at hl 0 rfl) ?_
    refine lv_bipush hx hb dX3_init_65 k_bipush_8 ?_
    refine wr_newa (atype := .int) (t := 0) (a0 := (8, .inl (fun _ => 0))) hC hH hz hpt za_int rfl rfl (fun _ _ => rfl) rfl (fun _ => rfl) (w_row0 hz rfl rfl (by decide)) ⟨by decide, by decide⟩ (by decide) (Nat.le_of_ble_eq_true rfl) (Nat.le_of_ble_eq_true rfl) dX3_init_67 (fun r15 H hr hz hpt hH => ?_)
    have hz : wZr (0 + 50) u14 := hz
    have hpt : wPt (0 + 50) u14 := hpt
    have hH : wHr D κ r15 0 50 A s.heap H locs u14 := hH
    have e43 : r15 43 = r13 43 := hr 43 (by decide)
    rw [← e43]
    have hl : lv_has ls 1 [(0, .ref (r15 43))] := by rw [e43]; exact hl
    have ha : ∀ c, c < 0 + 44 → r15 c = ρ c := fun c hc => (hr c (by omega)).trans (ha c hc)
    refine wr_putR hC hH rfl ⟨by decide, by decide⟩ (by decide) f_X3_40 g_3_9 (Or.inr ⟨_, rfl⟩) (Or.inr ⟨hnm, _, rfl, rfl⟩) dX3_init_69 hz hpt hF (fun u16 H locs hz hpt hF hH => ?_)
    refine W.widen (k := 6) (n := 40) (Nat.le_of_ble_eq_true rfl) (Nat.le_of_ble_eq_true rfl) ?_
    exact wr_vret hC hH ha (fun _ => ⟨hz, hpt⟩) hr0 hlk dX3_init_72 hF
  exact key _ _ hH
def F_X3_init_50 (u0 : wSt) : Option (Unit × wSt) :=
  wB (w_sI u0 50 0 (0 : Int32)) (fun (u1 : wSt) => wB (w_sI u1 50 1 (0 : Int32)) (fun (u2 : wSt) => wB (w_sI u2 50 2 (0 : Int32)) (fun (u3 : wSt) => wB (w_sI u3 50 3 (0 : Int32)) (fun (u4 : wSt) => wB (w_sR u4 50 4 (51 + 1)) (fun (u6 : wSt) => wB (w_sR u6 50 5 (52 + 1)) (fun (u8 : wSt) => wB (w_sR u8 50 6 (53 + 1)) (fun (u10 : wSt) => wB (w_sR u10 50 7 (54 + 1)) (fun (u12 : wSt) => wB (w_sR u12 50 8 (55 + 1)) (fun (u14 : wSt) => wB (w_sR u14 50 9 (56 + 1)) (fun (u16 : wSt) => some ((), u16)))))))))))
set_option maxRecDepth 100000 in
set_option maxHeartbeats 4000000 in
theorem c_X3_init_50 {l : Launch} : wMK l yX3_init cX3_init 1 (wRk 1 6 40 20) 6 40 0 51 57 (fun ρ => [.ref (ρ 50)]) (fun u => F_X3_init_50 u) := by
  refine wMK_of rfl (fun _ => Nat.le_of_ble_eq_true rfl) (fun D κ ρ kA vA u0 z p e s m args below meth c ls A hF hz hpt hC hr0 hlk hnm hE hH hl => ?_)
  have hx := hC.1.1
  have hb := hC.1.2.1
  have hF : F_X3_init_50 u0 = some z := hF
  unfold F_X3_init_50 at hF
  have ha : ∀ c, c < 0 + 51 → ρ c = ρ c := fun _ _ => rfl
  have hl : lv_has ls 1 [(0, .ref (ρ 50))] := hl
  have key : ∀ (H : Heap) (locs : List Loc), wHr D κ ρ 0 51 A s.heap H locs u0 → W p l e (wRk 1 6 40 20) s m args below meth c H locs 0 0 (wQK below args s A D κ ρ 0 51 57 6 40 z) (F0 m 0 ls []) := by
    intro H locs hH
    refine lv_aload_n hx hb dX3_init_0 rfl (lv_at hl 0 rfl) ?_
    refine wr_obj hC hl.1 m_X3_3 ⟨Nat.le_of_ble_eq_true rfl, Nat.le_of_ble_eq_true rfl⟩ dX3_init_1 ?_
    refine lv_aload_n hx hb dX3_init_4 rfl (lv_at hl 0 rfl) ?_
    refine lv_iconst hx hb dX3_init_5 k_iconst_0 ?_
    refine wr_putI hC hH rfl ⟨by decide, by decide⟩ f_X3_9 g_3_0 dX3_init_6 hz hpt hF (fun u1 H locs hz hpt hF hH => ?_)
    refine lv_aload_n hx hb dX3_init_9 rfl (lv_at hl 0 rfl) ?_
    refine lv_iconst hx hb dX3_init_10 k_iconst_0 ?_
    refine wr_putI hC hH rfl ⟨by decide, by decide⟩ f_X3_15 g_3_1 dX3_init_11 hz hpt hF (fun u2 H locs hz hpt hF hH => ?_)
    refine lv_aload_n hx hb dX3_init_14 rfl (lv_at hl 0 rfl) ?_
    refine lv_iconst hx hb dX3_init_15 k_iconst_0 ?_
    refine wr_putI hC hH rfl ⟨by decide, by decide⟩ f_X3_18 g_3_2 dX3_init_16 hz hpt hF (fun u3 H locs hz hpt hF hH => ?_)
    refine lv_aload_n hx hb dX3_init_19 rfl (lv_at hl 0 rfl) ?_
    refine lv_iconst hx hb dX3_init_20 k_iconst_0 ?_
    refine wr_putI hC hH rfl ⟨by decide, by decide⟩ f_X3_21 g_3_3 dX3_init_21 hz hpt hF (fun u4 H locs hz hpt hF hH => ?_)
    refine lv_aload_n hx hb dX3_init_24 rfl (lv_at hl 0 rfl) ?_
    refine lv_bipush hx hb dX3_init_25 k_bipush_6 ?_
    refine wr_newa (atype := .int) (t := 0) (a0 := (6, .inl (fun _ => 0))) hC hH hz hpt za_int rfl rfl (fun _ _ => rfl) rfl (fun _ => rfl) (w_row0 hz rfl rfl (by decide)) ⟨by decide, by decide⟩ (by decide) (Nat.le_of_ble_eq_true rfl) (Nat.le_of_ble_eq_true rfl) dX3_init_27 (fun r5 H hr hz hpt hH => ?_)
    have hz : wZr (0 + 52) u4 := hz
    have hpt : wPt (0 + 52) u4 := hpt
    have hH : wHr D κ r5 0 52 A s.heap H locs u4 := hH
    have e50 : r5 50 = ρ 50 := hr 50 (by decide)
    rw [← e50]
    have hl : lv_has ls 1 [(0, .ref (r5 50))] := by rw [e50]; exact hl
    have ha : ∀ c, c < 0 + 51 → r5 c = ρ c := fun c hc => (hr c (by omega)).trans (ha c hc)
    refine wr_putR hC hH rfl ⟨by decide, by decide⟩ (by decide) f_X3_24 g_3_4 (Or.inr ⟨_, rfl⟩) (Or.inr ⟨hnm, _, rfl, rfl⟩) dX3_init_29 hz hpt hF (fun u6 H locs hz hpt hF hH => ?_)
    refine lv_aload_n hx hb dX3_init_32 rfl (lv_at hl 0 rfl) ?_
    refine lv_bipush hx hb dX3_init_33 k_bipush_6 ?_
    refine wr_newa (atype := .int) (t := 0) (a0 := (6, .inl (fun _ => 0))) hC hH hz hpt za_int rfl rfl (fun _ _ => rfl) rfl (fun _ => rfl) (w_row0 hz rfl rfl (by decide)) ⟨by decide, by decide⟩ (by decide) (Nat.le_of_ble_eq_true rfl) (Nat.le_of_ble_eq_true rfl) dX3_init_35 (fun r7 H hr hz hpt hH => ?_)
    have hz : wZr (0 + 53) u6 := hz
    have hpt : wPt (0 + 53) u6 := hpt
    have hH : wHr D κ r7 0 53 A s.heap H locs u6 := hH
    have e50 : r7 50 = r5 50 := hr 50 (by decide)
    rw [← e50]
    have hl : lv_has ls 1 [(0, .ref (r7 50))] := by rw [e50]; exact hl
    have ha : ∀ c, c < 0 + 51 → r7 c = ρ c := fun c hc => (hr c (by omega)).trans (ha c hc)
    refine wr_putR hC hH rfl ⟨by decide, by decide⟩ (by decide) f_X3_28 g_3_5 (Or.inr ⟨_, rfl⟩) (Or.inr ⟨hnm, _, rfl, rfl⟩) dX3_init_37 hz hpt hF (fun u8 H locs hz hpt hF hH => ?_)
    refine lv_aload_n hx hb dX3_init_40 rfl (lv_at hl 0 rfl) ?_
    refine lv_bipush hx hb dX3_init_41 k_bipush_6 ?_
    refine wr_newa (atype := .int) (t := 0) (a0 := (6, .inl (fun _ => 0))) hC hH hz hpt za_int rfl rfl (fun _ _ => rfl) rfl (fun _ => rfl) (w_row0 hz rfl rfl (by decide)) ⟨by decide, by decide⟩ (by decide) (Nat.le_of_ble_eq_true rfl) (Nat.le_of_ble_eq_true rfl) dX3_init_43 (fun r9 H hr hz hpt hH => ?_)
    have hz : wZr (0 + 54) u8 := hz
    have hpt : wPt (0 + 54) u8 := hpt
    have hH : wHr D κ r9 0 54 A s.heap H locs u8 := hH
    have e50 : r9 50 = r7 50 := hr 50 (by decide)
    rw [← e50]
    have hl : lv_has ls 1 [(0, .ref (r9 50))] := by rw [e50]; exact hl
    have ha : ∀ c, c < 0 + 51 → r9 c = ρ c := fun c hc => (hr c (by omega)).trans (ha c hc)
    refine wr_putR hC hH rfl ⟨by decide, by decide⟩ (by decide) f_X3_31 g_3_6 (Or.inr ⟨_, rfl⟩) (Or.inr ⟨hnm, _, rfl, rfl⟩) dX3_init_45 hz hpt hF (fun u10 H locs hz hpt hF hH => ?_)
    refine lv_aload_n hx hb dX3_init_48 rfl (lv_at hl 0 rfl) ?_
    refine lv_bipush hx hb dX3_init_49 k_bipush_6 ?_
    refine wr_newa (atype := .int) (t := 0) (a0 := (6, .inl (fun _ => 0))) hC hH hz hpt za_int rfl rfl (fun _ _ => rfl) rfl (fun _ => rfl) (w_row0 hz rfl rfl (by decide)) ⟨by decide, by decide⟩ (by decide) (Nat.le_of_ble_eq_true rfl) (Nat.le_of_ble_eq_true rfl) dX3_init_51 (fun r11 H hr hz hpt hH => ?_)
    have hz : wZr (0 + 55) u10 := hz
    have hpt : wPt (0 + 55) u10 := hpt
    have hH : wHr D κ r11 0 55 A s.heap H locs u10 := hH
    have e50 : r11 50 = r9 50 := hr 50 (by decide)
    rw [← e50]
    have hl : lv_has ls 1 [(0, .ref (r11 50))] := by rw [e50]; exact hl
    have ha : ∀ c, c < 0 + 51 → r11 c = ρ c := fun c hc => (hr c (by omega)).trans (ha c hc)
    refine wr_putR hC hH rfl ⟨by decide, by decide⟩ (by decide) f_X3_34 g_3_7 (Or.inr ⟨_, rfl⟩) (Or.inr ⟨hnm, _, rfl, rfl⟩) dX3_init_53 hz hpt hF (fun u12 H locs hz hpt hF hH => ?_)
    refine lv_aload_n hx hb dX3_init_56 rfl (lv_at hl 0 rfl) ?_
    refine lv_bipush hx hb dX3_init_57 k_bipush_8 ?_
    refine wr_newa (atype := .int) (t := 0) (a0 := (8, .inl (fun _ => 0))) hC hH hz hpt za_int rfl rfl (fun _ _ => rfl) rfl (fun _ => rfl) (w_row0 hz rfl rfl (by decide)) ⟨by decide, by decide⟩ (by decide) (Nat.le_of_ble_eq_true rfl) (Nat.le_of_ble_eq_true rfl) dX3_init_59 (fun r13 H hr hz hpt hH => ?_)
    have hz : wZr (0 + 56) u12 := hz
    have hpt : wPt (0 + 56) u12 := hpt
    have hH : wHr D κ r13 0 56 A s.heap H locs u12 := hH
    have e50 : r13 50 = r11 50 := hr 50 (by decide)
    rw [← e50]
    have hl : lv_has ls 1 [(0, .ref (r13 50))] := by rw [e50]; exact hl
    have ha : ∀ c, c < 0 + 51 → r13 c = ρ c := fun c hc => (hr c (by omega)).trans (ha c hc)
    refine wr_putR hC hH rfl ⟨by decide, by decide⟩ (by decide) f_X3_37 g_3_8 (Or.inr ⟨_, rfl⟩) (Or.inr ⟨hnm, _, rfl, rfl⟩) dX3_init_61 hz hpt hF (fun u14 H locs hz hpt hF hH => ?_)
    refine lv_aload_n hx hb dX3_init_64 rfl (lv_at hl 0 rfl) ?_
    refine lv_bipush hx hb dX3_init_65 k_bipush_8 ?_
    refine wr_newa (atype := .int) (t := 0) (a0 := (8, .inl (fun _ => 0))) hC hH hz hpt za_int rfl rfl (fun _ _ => rfl) rfl (fun _ => rfl) (w_row0 hz rfl rfl (by decide)) ⟨by decide, by decide⟩ (by decide) (Nat.le_of_ble_eq_true rfl) (Nat.le_of_ble_eq_true rfl) dX3_init_67 (fun r15 H hr hz hpt hH => ?_)
    have hz : wZr (0 + 57) u14 := hz
    have hpt : wPt (0 + 57) u14 := hpt
    have hH : wHr D κ r15 0 57 A s.heap H locs u14 := hH
    have e50 : r15 50 = r13 50 := hr 50 (by decide)
    rw [← e50]
    have hl : lv_has ls 1 [(0, .ref (r15 50))] := by rw [e50]; exact hl
    have ha : ∀ c, c < 0 + 51 → r15 c = ρ c := fun c hc => (hr c (by omega)).trans (ha c hc)
    refine wr_putR hC hH rfl ⟨by decide, by decide⟩ (by decide) f_X3_40 g_3_9 (Or.inr ⟨_, rfl⟩) (Or.inr ⟨hnm, _, rfl, rfl⟩) dX3_init_69 hz hpt hF (fun u16 H locs hz hpt hF hH => ?_)
    refine W.widen (k := 6) (n := 40) (Nat.le_of_ble_eq_true rfl) (Nat.le_of_ble_eq_true rfl) ?_
    exact wr_vret hC hH ha (fun _ => ⟨hz, hpt⟩) hr0 hlk dX3_init_72 hF
  exact key _ _ hH
def F_X3_init_57 (u0 : wSt) : Option (Unit × wSt) :=
  wB (w_sI u0 57 0 (0 : Int32)) (fun (u1 : wSt) => wB (w_sI u1 57 1 (0 : Int32)) (fun (u2 : wSt) => wB (w_sI u2 57 2 (0 : Int32)) (fun (u3 : wSt) => wB (w_sI u3 57 3 (0 : Int32)) (fun (u4 : wSt) => wB (w_sR u4 57 4 (58 + 1)) (fun (u6 : wSt) => wB (w_sR u6 57 5 (59 + 1)) (fun (u8 : wSt) => wB (w_sR u8 57 6 (60 + 1)) (fun (u10 : wSt) => wB (w_sR u10 57 7 (61 + 1)) (fun (u12 : wSt) => wB (w_sR u12 57 8 (62 + 1)) (fun (u14 : wSt) => wB (w_sR u14 57 9 (63 + 1)) (fun (u16 : wSt) => some ((), u16)))))))))))
set_option maxRecDepth 100000 in
set_option maxHeartbeats 4000000 in
theorem c_X3_init_57 {l : Launch} : wMK l yX3_init cX3_init 1 (wRk 1 6 40 20) 6 40 0 58 64 (fun ρ => [.ref (ρ 57)]) (fun u => F_X3_init_57 u) := by
  refine wMK_of rfl (fun _ => Nat.le_of_ble_eq_true rfl) (fun D κ ρ kA vA u0 z p e s m args below meth c ls A hF hz hpt hC hr0 hlk hnm hE hH hl => ?_)
  have hx := hC.1.1
  have hb := hC.1.2.1
  have hF : F_X3_init_57 u0 = some z := hF
  unfold F_X3_init_57 at hF
  have ha : ∀ c, c < 0 + 58 → ρ c = ρ c := fun _ _ => rfl
  have hl : lv_has ls 1 [(0, .ref (ρ 57))] := hl
  have key : ∀ (H : Heap) (locs : List Loc), wHr D κ ρ 0 58 A s.heap H locs u0 → W p l e (wRk 1 6 40 20) s m args below meth c H locs 0 0 (wQK below args s A D κ ρ 0 58 64 6 40 z) (F0 m 0 ls []) := by
    intro H locs hH
    refine lv_aload_n hx hb dX3_init_0 rfl (lv_at hl 0 rfl) ?_
    refine wr_obj hC hl.1 m_X3_3 ⟨Nat.le_of_ble_eq_true rfl, Nat.le_of_ble_eq_true rfl⟩ dX3_init_1 ?_
    refine lv_aload_n hx hb dX3_init_4 rfl (lv_at hl 0 rfl) ?_
    refine lv_iconst hx hb dX3_init_5 k_iconst_0 ?_
    refine wr_putI hC hH rfl ⟨by decide, by decide⟩ f_X3_9 g_3_0 dX3_init_6 hz hpt hF (fun u1 H locs hz hpt hF hH => ?_)
    refine lv_aload_n hx hb dX3_init_9 rfl (lv_at hl 0 rfl) ?_
    refine lv_iconst hx hb dX3_init_10 k_iconst_0 ?_
    refine wr_putI hC hH rfl ⟨by decide, by decide⟩ f_X3_15 g_3_1 dX3_init_11 hz hpt hF (fun u2 H locs hz hpt hF hH => ?_)
    refine lv_aload_n hx hb dX3_init_14 rfl (lv_at hl 0 rfl) ?_
    refine lv_iconst hx hb dX3_init_15 k_iconst_0 ?_
    refine wr_putI hC hH rfl ⟨by decide, by decide⟩ f_X3_18 g_3_2 dX3_init_16 hz hpt hF (fun u3 H locs hz hpt hF hH => ?_)
    refine lv_aload_n hx hb dX3_init_19 rfl (lv_at hl 0 rfl) ?_
    refine lv_iconst hx hb dX3_init_20 k_iconst_0 ?_
    refine wr_putI hC hH rfl ⟨by decide, by decide⟩ f_X3_21 g_3_3 dX3_init_21 hz hpt hF (fun u4 H locs hz hpt hF hH => ?_)
    refine lv_aload_n hx hb dX3_init_24 rfl (lv_at hl 0 rfl) ?_
    refine lv_bipush hx hb dX3_init_25 k_bipush_6 ?_
    refine wr_newa (atype := .int) (t := 0) (a0 := (6, .inl (fun _ => 0))) hC hH hz hpt za_int rfl rfl (fun _ _ => rfl) rfl (fun _ => rfl) (w_row0 hz rfl rfl (by decide)) ⟨by decide, by decide⟩ (by decide) (Nat.le_of_ble_eq_true rfl) (Nat.le_of_ble_eq_true rfl) dX3_init_27 (fun r5 H hr hz hpt hH => ?_)
    have hz : wZr (0 + 59) u4 := hz
    have hpt : wPt (0 + 59) u4 := hpt
    have hH : wHr D κ r5 0 59 A s.heap H locs u4 := hH
    have e57 : r5 57 = ρ 57 := hr 57 (by decide)
    rw [← e57]
    have hl : lv_has ls 1 [(0, .ref (r5 57))] := by rw [e57]; exact hl
    have ha : ∀ c, c < 0 + 58 → r5 c = ρ c := fun c hc => (hr c (by omega)).trans (ha c hc)
    refine wr_putR hC hH rfl ⟨by decide, by decide⟩ (by decide) f_X3_24 g_3_4 (Or.inr ⟨_, rfl⟩) (Or.inr ⟨hnm, _, rfl, rfl⟩) dX3_init_29 hz hpt hF (fun u6 H locs hz hpt hF hH => ?_)
    refine lv_aload_n hx hb dX3_init_32 rfl (lv_at hl 0 rfl) ?_
    refine lv_bipush hx hb dX3_init_33 k_bipush_6 ?_
    refine wr_newa (atype := .int) (t := 0) (a0 := (6, .inl (fun _ => 0))) hC hH hz hpt za_int rfl rfl (fun _ _ => rfl) rfl (fun _ => rfl) (w_row0 hz rfl rfl (by decide)) ⟨by decide, by decide⟩ (by decide) (Nat.le_of_ble_eq_true rfl) (Nat.le_of_ble_eq_true rfl) dX3_init_35 (fun r7 H hr hz hpt hH => ?_)
    have hz : wZr (0 + 60) u6 := hz
    have hpt : wPt (0 + 60) u6 := hpt
    have hH : wHr D κ r7 0 60 A s.heap H locs u6 := hH
    have e57 : r7 57 = r5 57 := hr 57 (by decide)
    rw [← e57]
    have hl : lv_has ls 1 [(0, .ref (r7 57))] := by rw [e57]; exact hl
    have ha : ∀ c, c < 0 + 58 → r7 c = ρ c := fun c hc => (hr c (by omega)).trans (ha c hc)
    refine wr_putR hC hH rfl ⟨by decide, by decide⟩ (by decide) f_X3_28 g_3_5 (Or.inr ⟨_, rfl⟩) (Or.inr ⟨hnm, _, rfl, rfl⟩) dX3_init_37 hz hpt hF (fun u8 H locs hz hpt hF hH => ?_)
    refine lv_aload_n hx hb dX3_init_40 rfl (lv_at hl 0 rfl) ?_
    refine lv_bipush hx hb dX3_init_41 k_bipush_6 ?_
    refine wr_newa (atype := .int) (t := 0) (a0 := (6, .inl (fun _ => 0))) hC hH hz hpt za_int rfl rfl (fun _ _ => rfl) rfl (fun _ => rfl) (w_row0 hz rfl rfl (by decide)) ⟨by decide, by decide⟩ (by decide) (Nat.le_of_ble_eq_true rfl) (Nat.le_of_ble_eq_true rfl) dX3_init_43 (fun r9 H hr hz hpt hH => ?_)
    have hz : wZr (0 + 61) u8 := hz
    have hpt : wPt (0 + 61) u8 := hpt
    have hH : wHr D κ r9 0 61 A s.heap H locs u8 := hH
    have e57 : r9 57 = r7 57 := hr 57 (by decide)
    rw [← e57]
    have hl : lv_has ls 1 [(0, .ref (r9 57))] := by rw [e57]; exact hl
    have ha : ∀ c, c < 0 + 58 → r9 c = ρ c := fun c hc => (hr c (by omega)).trans (ha c hc)
    refine wr_putR hC hH rfl ⟨by decide, by decide⟩ (by decide) f_X3_31 g_3_6 (Or.inr ⟨_, rfl⟩) (Or.inr ⟨hnm, _, rfl, rfl⟩) dX3_init_45 hz hpt hF (fun u10 H locs hz hpt hF hH => ?_)
    refine lv_aload_n hx hb dX3_init_48 rfl (lv_at hl 0 rfl) ?_
    refine lv_bipush hx hb dX3_init_49 k_bipush_6 ?_
    refine wr_newa (atype := .int) (t := 0) (a0 := (6, .inl (fun _ => 0))) hC hH hz hpt za_int rfl rfl (fun _ _ => rfl) rfl (fun _ => rfl) (w_row0 hz rfl rfl (by decide)) ⟨by decide, by decide⟩ (by decide) (Nat.le_of_ble_eq_true rfl) (Nat.le_of_ble_eq_true rfl) dX3_init_51 (fun r11 H hr hz hpt hH => ?_)
    have hz : wZr (0 + 62) u10 := hz
    have hpt : wPt (0 + 62) u10 := hpt
    have hH : wHr D κ r11 0 62 A s.heap H locs u10 := hH
    have e57 : r11 57 = r9 57 := hr 57 (by decide)
    rw [← e57]
    have hl : lv_has ls 1 [(0, .ref (r11 57))] := by rw [e57]; exact hl
    have ha : ∀ c, c < 0 + 58 → r11 c = ρ c := fun c hc => (hr c (by omega)).trans (ha c hc)
    refine wr_putR hC hH rfl ⟨by decide, by decide⟩ (by decide) f_X3_34 g_3_7 (Or.inr ⟨_, rfl⟩) (Or.inr ⟨hnm, _, rfl, rfl⟩) dX3_init_53 hz hpt hF (fun u12 H locs hz hpt hF hH => ?_)
    refine lv_aload_n hx hb dX3_init_56 rfl (lv_at hl 0 rfl) ?_
    refine lv_bipush hx hb dX3_init_57 k_bipush_8 ?_
    refine wr_newa (atype := .int) (t := 0) (a0 := (8, .inl (fun _ => 0))) hC hH hz hpt za_int rfl rfl (fun _ _ => rfl) rfl (fun _ => rfl) (w_row0 hz rfl rfl (by decide)) ⟨by decide, by decide⟩ (by decide) (Nat.le_of_ble_eq_true rfl) (Nat.le_of_ble_eq_true rfl) dX3_init_59 (fun r13 H hr hz hpt hH => ?_)
    have hz : wZr (0 + 63) u12 := hz
    have hpt : wPt (0 + 63) u12 := hpt
    have hH : wHr D κ r13 0 63 A s.heap H locs u12 := hH
    have e57 : r13 57 = r11 57 := hr 57 (by decide)
    rw [← e57]
    have hl : lv_has ls 1 [(0, .ref (r13 57))] := by rw [e57]; exact hl
    have ha : ∀ c, c < 0 + 58 → r13 c = ρ c := fun c hc => (hr c (by omega)).trans (ha c hc)
    refine wr_putR hC hH rfl ⟨by decide, by decide⟩ (by decide) f_X3_37 g_3_8 (Or.inr ⟨_, rfl⟩) (Or.inr ⟨hnm, _, rfl, rfl⟩) dX3_init_61 hz hpt hF (fun u14 H locs hz hpt hF hH => ?_)
    refine lv_aload_n hx hb dX3_init_64 rfl (lv_at hl 0 rfl) ?_
    refine lv_bipush hx hb dX3_init_65 k_bipush_8 ?_
    refine wr_newa (atype := .int) (t := 0) (a0 := (8, .inl (fun _ => 0))) hC hH hz hpt za_int rfl rfl (fun _ _ => rfl) rfl (fun _ => rfl) (w_row0 hz rfl rfl (by decide)) ⟨by decide, by decide⟩ (by decide) (Nat.le_of_ble_eq_true rfl) (Nat.le_of_ble_eq_true rfl) dX3_init_67 (fun r15 H hr hz hpt hH => ?_)
    have hz : wZr (0 + 64) u14 := hz
    have hpt : wPt (0 + 64) u14 := hpt
    have hH : wHr D κ r15 0 64 A s.heap H locs u14 := hH
    have e57 : r15 57 = r13 57 := hr 57 (by decide)
    rw [← e57]
    have hl : lv_has ls 1 [(0, .ref (r15 57))] := by rw [e57]; exact hl
    have ha : ∀ c, c < 0 + 58 → r15 c = ρ c := fun c hc => (hr c (by omega)).trans (ha c hc)
    refine wr_putR hC hH rfl ⟨by decide, by decide⟩ (by decide) f_X3_40 g_3_9 (Or.inr ⟨_, rfl⟩) (Or.inr ⟨hnm, _, rfl, rfl⟩) dX3_init_69 hz hpt hF (fun u16 H locs hz hpt hF hH => ?_)
    refine W.widen (k := 6) (n := 40) (Nat.le_of_ble_eq_true rfl) (Nat.le_of_ble_eq_true rfl) ?_
    exact wr_vret hC hH ha (fun _ => ⟨hz, hpt⟩) hr0 hlk dX3_init_72 hF
  exact key _ _ hH
def F_X0_init_64 (u0 : wSt) : Option (Unit × wSt) :=
  wB (w_sI u0 64 0 (0 : Int32)) (fun (u1 : wSt) => wB (w_sI u1 64 1 (0 : Int32)) (fun (u2 : wSt) => wB (w_sI u2 64 2 (0 : Int32)) (fun (u3 : wSt) => wB (w_sI u3 64 3 (0 : Int32)) (fun (u4 : wSt) => wB (w_sI u4 64 4 (-1 : Int32)) (fun (u5 : wSt) => wB (w_sI u5 64 5 (0 : Int32)) (fun (u6 : wSt) => wB (w_sI u6 64 6 (-1 : Int32)) (fun (u7 : wSt) => wB (w_sI u7 64 7 (0 : Int32)) (fun (u8 : wSt) => wB (w_sR u8 64 9 (65 + 1)) (fun (u10 : wSt) => wB (w_sR u10 64 8 (2 + 1)) (fun (u11 : wSt) => some ((), u11)))))))))))
set_option maxRecDepth 100000 in
set_option maxHeartbeats 4000000 in
theorem c_X0_init_64 {l : Launch} : wMK l yX0_init cX0_init 2 (wRk 1 1 7 20) 1 7 0 65 66 (fun ρ => [.ref (ρ 64), .ref (ρ 2)]) (fun u => F_X0_init_64 u) := by
  refine wMK_of rfl (fun _ => Nat.le_of_ble_eq_true rfl) (fun D κ ρ kA vA u0 z p e s m args below meth c ls A hF hz hpt hC hr0 hlk hnm hE hH hl => ?_)
  have hx := hC.1.1
  have hb := hC.1.2.1
  have hF : F_X0_init_64 u0 = some z := hF
  unfold F_X0_init_64 at hF
  have ha : ∀ c, c < 0 + 65 → ρ c = ρ c := fun _ _ => rfl
  have hl : lv_has ls 2 [(0, .ref (ρ 64)), (1, .ref (ρ 2))] := hl
  have key : ∀ (H : Heap) (locs : List Loc), wHr D κ ρ 0 65 A s.heap H locs u0 → W p l e (wRk 1 1 7 20) s m args below meth c H locs 0 0 (wQK below args s A D κ ρ 0 65 66 1 7 z) (F0 m 0 ls []) := by
    intro H locs hH
    refine lv_aload_n hx hb dX0_init_0 rfl (lv_at hl 0 rfl) ?_
    refine wr_obj hC hl.1 m_X0_3 ⟨Nat.le_of_ble_eq_true rfl, Nat.le_of_ble_eq_true rfl⟩ dX0_init_1 ?_
    refine lv_aload_n hx hb dX0_init_4 rfl (lv_at hl 0 rfl) ?_
    refine lv_iconst hx hb dX0_init_5 k_iconst_0 ?_
    refine wr_putI hC hH rfl ⟨by decide, by decide⟩ f_X0_9 g_0_0 dX0_init_6 hz hpt hF (fun u1 H locs hz hpt hF hH => ?_)
    refine lv_aload_n hx hb dX0_init_9 rfl (lv_at hl 0 rfl) ?_
    refine lv_iconst hx hb dX0_init_10 k_iconst_0 ?_
    refine wr_putZ hC hH rfl ⟨by decide, by decide⟩ f_X0_15 g_0_1 dX0_init_11 hz hpt (Or.inl rfl) hF (fun u2 H locs hz hpt hF hH => ?_)
    refine lv_aload_n hx hb dX0_init_14 rfl (lv_at hl 0 rfl) ?_
    refine lv_iconst hx hb dX0_init_15 k_iconst_0 ?_
    refine wr_putZ hC hH rfl ⟨by decide, by decide⟩ f_X0_19 g_0_2 dX0_init_16 hz hpt (Or.inl rfl) hF (fun u3 H locs hz hpt hF hH => ?_)
    refine lv_aload_n hx hb dX0_init_19 rfl (lv_at hl 0 rfl) ?_
    refine lv_iconst hx hb dX0_init_20 k_iconst_0 ?_
    refine wr_putZ hC hH rfl ⟨by decide, by decide⟩ f_X0_22 g_0_3 dX0_init_21 hz hpt (Or.inl rfl) hF (fun u4 H locs hz hpt hF hH => ?_)
    refine lv_aload_n hx hb dX0_init_24 rfl (lv_at hl 0 rfl) ?_
    refine lv_iconst hx hb dX0_init_25 k_iconst_m1 ?_
    refine wr_putI hC hH rfl ⟨by decide, by decide⟩ f_X0_25 g_0_4 dX0_init_26 hz hpt hF (fun u5 H locs hz hpt hF hH => ?_)
    refine lv_aload_n hx hb dX0_init_29 rfl (lv_at hl 0 rfl) ?_
    refine lv_iconst hx hb dX0_init_30 k_iconst_0 ?_
    refine wr_putI hC hH rfl ⟨by decide, by decide⟩ f_X0_28 g_0_5 dX0_init_31 hz hpt hF (fun u6 H locs hz hpt hF hH => ?_)
    refine lv_aload_n hx hb dX0_init_34 rfl (lv_at hl 0 rfl) ?_
    refine lv_iconst hx hb dX0_init_35 k_iconst_m1 ?_
    refine wr_putI hC hH rfl ⟨by decide, by decide⟩ f_X0_31 g_0_6 dX0_init_36 hz hpt hF (fun u7 H locs hz hpt hF hH => ?_)
    refine lv_aload_n hx hb dX0_init_39 rfl (lv_at hl 0 rfl) ?_
    refine lv_iconst hx hb dX0_init_40 k_iconst_0 ?_
    refine wr_putI hC hH rfl ⟨by decide, by decide⟩ f_X0_34 g_0_7 dX0_init_41 hz hpt hF (fun u8 H locs hz hpt hF hH => ?_)
    refine lv_aload_n hx hb dX0_init_44 rfl (lv_at hl 0 rfl) ?_
    refine lv_bipush hx hb dX0_init_45 k_bipush_7 ?_
    refine wr_newa (atype := .int) (t := 0) (a0 := (7, .inl (fun _ => 0))) hC hH hz hpt za_int rfl rfl (fun _ _ => rfl) rfl (fun _ => rfl) (w_row0 hz rfl rfl (by decide)) ⟨by decide, by decide⟩ (by decide) (Nat.le_of_ble_eq_true rfl) (Nat.le_of_ble_eq_true rfl) dX0_init_47 (fun r9 H hr hz hpt hH => ?_)
    have hz : wZr (0 + 66) u8 := hz
    have hpt : wPt (0 + 66) u8 := hpt
    have hH : wHr D κ r9 0 66 A s.heap H locs u8 := hH
    have e2 : r9 2 = ρ 2 := hr 2 (by decide)
    have e64 : r9 64 = ρ 64 := hr 64 (by decide)
    rw [← e64]
    have hl : lv_has ls 2 [(0, .ref (r9 64)), (1, .ref (r9 2))] := by rw [e2, e64]; exact hl
    have ha : ∀ c, c < 0 + 65 → r9 c = ρ c := fun c hc => (hr c (by omega)).trans (ha c hc)
    refine wr_putR hC hH rfl ⟨by decide, by decide⟩ (by decide) f_X0_37 g_0_9 (Or.inr ⟨_, rfl⟩) (Or.inr ⟨hnm, _, rfl, rfl⟩) dX0_init_49 hz hpt hF (fun u10 H locs hz hpt hF hH => ?_)
    refine lv_aload_n hx hb dX0_init_52 rfl (lv_at hl 0 rfl) ?_
    refine lv_aload_n hx hb dX0_init_53 rfl (lv_at hl 1 rfl) ?_
    refine wr_putR hC hH rfl ⟨by decide, by decide⟩ (by decide) f_X0_41 g_0_8 (Or.inl ⟨_, rfl⟩) (Or.inl rfl) dX0_init_54 hz hpt hF (fun u11 H locs hz hpt hF hH => ?_)
    refine W.widen (k := 1) (n := 7) (Nat.le_of_ble_eq_true rfl) (Nat.le_of_ble_eq_true rfl) ?_
    exact wr_vret hC hH ha (fun _ => ⟨hz, hpt⟩) hr0 hlk dX0_init_57 hF
  exact key _ _ hH
def F_X7_init_66 (u0 : wSt) : Option (Unit × wSt) :=
  wB (w_sI u0 66 0 (0 : Int32)) (fun (u1 : wSt) => wB (w_sR u1 66 1 (67 + 1)) (fun (u3 : wSt) => wB (w_sR u3 66 2 (68 + 1)) (fun (u5 : wSt) => wB (w_sR u5 66 3 (69 + 1)) (fun (u7 : wSt) => some ((), u7)))))
set_option maxRecDepth 100000 in
set_option maxHeartbeats 4000000 in
theorem c_X7_init_66 {l : Launch} : wMK l yX7_init cX7_init 1 (wRk 1 3 60 20) 3 60 0 67 70 (fun ρ => [.ref (ρ 66)]) (fun u => F_X7_init_66 u) := by
  refine wMK_of rfl (fun _ => Nat.le_of_ble_eq_true rfl) (fun D κ ρ kA vA u0 z p e s m args below meth c ls A hF hz hpt hC hr0 hlk hnm hE hH hl => ?_)
  have hx := hC.1.1
  have hb := hC.1.2.1
  have hF : F_X7_init_66 u0 = some z := hF
  unfold F_X7_init_66 at hF
  have ha : ∀ c, c < 0 + 67 → ρ c = ρ c := fun _ _ => rfl
  have hl : lv_has ls 1 [(0, .ref (ρ 66))] := hl
  have key : ∀ (H : Heap) (locs : List Loc), wHr D κ ρ 0 67 A s.heap H locs u0 → W p l e (wRk 1 3 60 20) s m args below meth c H locs 0 0 (wQK below args s A D κ ρ 0 67 70 3 60 z) (F0 m 0 ls []) := by
    intro H locs hH
    refine lv_aload_n hx hb dX7_init_0 rfl (lv_at hl 0 rfl) ?_
    refine wr_obj hC hl.1 m_X7_3 ⟨Nat.le_of_ble_eq_true rfl, Nat.le_of_ble_eq_true rfl⟩ dX7_init_1 ?_
    refine lv_aload_n hx hb dX7_init_4 rfl (lv_at hl 0 rfl) ?_
    refine lv_iconst hx hb dX7_init_5 k_iconst_0 ?_
    refine wr_putI hC hH rfl ⟨by decide, by decide⟩ f_X7_9 g_7_0 dX7_init_6 hz hpt hF (fun u1 H locs hz hpt hF hH => ?_)
    refine lv_aload_n hx hb dX7_init_9 rfl (lv_at hl 0 rfl) ?_
    refine lv_bipush hx hb dX7_init_10 k_bipush_20 ?_
    refine wr_newa (atype := .int) (t := 0) (a0 := (20, .inl (fun _ => 0))) hC hH hz hpt za_int rfl rfl (fun _ _ => rfl) rfl (fun _ => rfl) (w_row0 hz rfl rfl (by decide)) ⟨by decide, by decide⟩ (by decide) (Nat.le_of_ble_eq_true rfl) (Nat.le_of_ble_eq_true rfl) dX7_init_12 (fun r2 H hr hz hpt hH => ?_)
    have hz : wZr (0 + 68) u1 := hz
    have hpt : wPt (0 + 68) u1 := hpt
    have hH : wHr D κ r2 0 68 A s.heap H locs u1 := hH
    have e66 : r2 66 = ρ 66 := hr 66 (by decide)
    rw [← e66]
    have hl : lv_has ls 1 [(0, .ref (r2 66))] := by rw [e66]; exact hl
    have ha : ∀ c, c < 0 + 67 → r2 c = ρ c := fun c hc => (hr c (by omega)).trans (ha c hc)
    refine wr_putR hC hH rfl ⟨by decide, by decide⟩ (by decide) f_X7_15 g_7_1 (Or.inr ⟨_, rfl⟩) (Or.inr ⟨hnm, _, rfl, rfl⟩) dX7_init_14 hz hpt hF (fun u3 H locs hz hpt hF hH => ?_)
    refine lv_aload_n hx hb dX7_init_17 rfl (lv_at hl 0 rfl) ?_
    refine lv_bipush hx hb dX7_init_18 k_bipush_20 ?_
    refine wr_newa (atype := .int) (t := 0) (a0 := (20, .inl (fun _ => 0))) hC hH hz hpt za_int rfl rfl (fun _ _ => rfl) rfl (fun _ => rfl) (w_row0 hz rfl rfl (by decide)) ⟨by decide, by decide⟩ (by decide) (Nat.le_of_ble_eq_true rfl) (Nat.le_of_ble_eq_true rfl) dX7_init_20 (fun r4 H hr hz hpt hH => ?_)
    have hz : wZr (0 + 69) u3 := hz
    have hpt : wPt (0 + 69) u3 := hpt
    have hH : wHr D κ r4 0 69 A s.heap H locs u3 := hH
    have e66 : r4 66 = r2 66 := hr 66 (by decide)
    rw [← e66]
    have hl : lv_has ls 1 [(0, .ref (r4 66))] := by rw [e66]; exact hl
    have ha : ∀ c, c < 0 + 67 → r4 c = ρ c := fun c hc => (hr c (by omega)).trans (ha c hc)
    refine wr_putR hC hH rfl ⟨by decide, by decide⟩ (by decide) f_X7_19 g_7_2 (Or.inr ⟨_, rfl⟩) (Or.inr ⟨hnm, _, rfl, rfl⟩) dX7_init_22 hz hpt hF (fun u5 H locs hz hpt hF hH => ?_)
    refine lv_aload_n hx hb dX7_init_25 rfl (lv_at hl 0 rfl) ?_
    refine lv_bipush hx hb dX7_init_26 k_bipush_20 ?_
    refine wr_newa (atype := .int) (t := 0) (a0 := (20, .inl (fun _ => 0))) hC hH hz hpt za_int rfl rfl (fun _ _ => rfl) rfl (fun _ => rfl) (w_row0 hz rfl rfl (by decide)) ⟨by decide, by decide⟩ (by decide) (Nat.le_of_ble_eq_true rfl) (Nat.le_of_ble_eq_true rfl) dX7_init_28 (fun r6 H hr hz hpt hH => ?_)
    have hz : wZr (0 + 70) u5 := hz
    have hpt : wPt (0 + 70) u5 := hpt
    have hH : wHr D κ r6 0 70 A s.heap H locs u5 := hH
    have e66 : r6 66 = r4 66 := hr 66 (by decide)
    rw [← e66]
    have hl : lv_has ls 1 [(0, .ref (r6 66))] := by rw [e66]; exact hl
    have ha : ∀ c, c < 0 + 67 → r6 c = ρ c := fun c hc => (hr c (by omega)).trans (ha c hc)
    refine wr_putR hC hH rfl ⟨by decide, by decide⟩ (by decide) f_X7_22 g_7_3 (Or.inr ⟨_, rfl⟩) (Or.inr ⟨hnm, _, rfl, rfl⟩) dX7_init_30 hz hpt hF (fun u7 H locs hz hpt hF hH => ?_)
    refine W.widen (k := 3) (n := 60) (Nat.le_of_ble_eq_true rfl) (Nat.le_of_ble_eq_true rfl) ?_
    exact wr_vret hC hH ha (fun _ => ⟨hz, hpt⟩) hr0 hlk dX7_init_33 hF
  exact key _ _ hH
def F_X4_init_70 (u0 : wSt) : Option (Unit × wSt) :=
  wB (w_sI u0 70 0 (0 : Int32)) (fun (u1 : wSt) => wB (w_sI u1 70 1 (-1 : Int32)) (fun (u2 : wSt) => wB (w_sR u2 70 2 (71 + 1)) (fun (u4 : wSt) => wB (w_sR u4 70 3 (72 + 1)) (fun (u6 : wSt) => wB (w_sR u6 70 4 (73 + 1)) (fun (u8 : wSt) => wB (w_sR u8 70 5 (74 + 1)) (fun (u10 : wSt) => wB (w_sR u10 70 6 (75 + 1)) (fun (u12 : wSt) => wB (w_sR u12 70 7 (76 + 1)) (fun (u14 : wSt) => some ((), u14)))))))))
set_option maxRecDepth 100000 in
set_option maxHeartbeats 4000000 in
theorem c_X4_init_70 {l : Launch} : wMK l yX4_init cX4_init 1 (wRk 1 6 144 20) 6 144 0 71 77 (fun ρ => [.ref (ρ 70)]) (fun u => F_X4_init_70 u) := by
  refine wMK_of rfl (fun _ => Nat.le_of_ble_eq_true rfl) (fun D κ ρ kA vA u0 z p e s m args below meth c ls A hF hz hpt hC hr0 hlk hnm hE hH hl => ?_)
  have hx := hC.1.1
  have hb := hC.1.2.1
  have hF : F_X4_init_70 u0 = some z := hF
  unfold F_X4_init_70 at hF
  have ha : ∀ c, c < 0 + 71 → ρ c = ρ c := fun _ _ => rfl
  have hl : lv_has ls 1 [(0, .ref (ρ 70))] := hl
  have key : ∀ (H : Heap) (locs : List Loc), wHr D κ ρ 0 71 A s.heap H locs u0 → W p l e (wRk 1 6 144 20) s m args below meth c H locs 0 0 (wQK below args s A D κ ρ 0 71 77 6 144 z) (F0 m 0 ls []) := by
    intro H locs hH
    refine lv_aload_n hx hb dX4_init_0 rfl (lv_at hl 0 rfl) ?_
    refine wr_obj hC hl.1 m_X4_3 ⟨Nat.le_of_ble_eq_true rfl, Nat.le_of_ble_eq_true rfl⟩ dX4_init_1 ?_
    refine lv_aload_n hx hb dX4_init_4 rfl (lv_at hl 0 rfl) ?_
    refine lv_iconst hx hb dX4_init_5 k_iconst_0 ?_
    refine wr_putI hC hH rfl ⟨by decide, by decide⟩ f_X4_9 g_4_0 dX4_init_6 hz hpt hF (fun u1 H locs hz hpt hF hH => ?_)
    refine lv_aload_n hx hb dX4_init_9 rfl (lv_at hl 0 rfl) ?_
    refine lv_iconst hx hb dX4_init_10 k_iconst_m1 ?_
    refine wr_putI hC hH rfl ⟨by decide, by decide⟩ f_X4_15 g_4_1 dX4_init_11 hz hpt hF (fun u2 H locs hz hpt hF hH => ?_)
    refine lv_aload_n hx hb dX4_init_14 rfl (lv_at hl 0 rfl) ?_
    refine lv_bipush hx hb dX4_init_15 k_bipush_24 ?_
    refine wr_newa (atype := .int) (t := 0) (a0 := (24, .inl (fun _ => 0))) hC hH hz hpt za_int rfl rfl (fun _ _ => rfl) rfl (fun _ => rfl) (w_row0 hz rfl rfl (by decide)) ⟨by decide, by decide⟩ (by decide) (Nat.le_of_ble_eq_true rfl) (Nat.le_of_ble_eq_true rfl) dX4_init_17 (fun r3 H hr hz hpt hH => ?_)
    have hz : wZr (0 + 72) u2 := hz
    have hpt : wPt (0 + 72) u2 := hpt
    have hH : wHr D κ r3 0 72 A s.heap H locs u2 := hH
    have e70 : r3 70 = ρ 70 := hr 70 (by decide)
    rw [← e70]
    have hl : lv_has ls 1 [(0, .ref (r3 70))] := by rw [e70]; exact hl
    have ha : ∀ c, c < 0 + 71 → r3 c = ρ c := fun c hc => (hr c (by omega)).trans (ha c hc)
    refine wr_putR hC hH rfl ⟨by decide, by decide⟩ (by decide) f_X4_18 g_4_2 (Or.inr ⟨_, rfl⟩) (Or.inr ⟨hnm, _, rfl, rfl⟩) dX4_init_19 hz hpt hF (fun u4 H locs hz hpt hF hH => ?_)
    refine lv_aload_n hx hb dX4_init_22 rfl (lv_at hl 0 rfl) ?_
    refine lv_bipush hx hb dX4_init_23 k_bipush_24 ?_
    refine wr_newa (atype := .int) (t := 0) (a0 := (24, .inl (fun _ => 0))) hC hH hz hpt za_int rfl rfl (fun _ _ => rfl) rfl (fun _ => rfl) (w_row0 hz rfl rfl (by decide)) ⟨by decide, by decide⟩ (by decide) (Nat.le_of_ble_eq_true rfl) (Nat.le_of_ble_eq_true rfl) dX4_init_25 (fun r5 H hr hz hpt hH => ?_)
    have hz : wZr (0 + 73) u4 := hz
    have hpt : wPt (0 + 73) u4 := hpt
    have hH : wHr D κ r5 0 73 A s.heap H locs u4 := hH
    have e70 : r5 70 = r3 70 := hr 70 (by decide)
    rw [← e70]
    have hl : lv_has ls 1 [(0, .ref (r5 70))] := by rw [e70]; exact hl
    have ha : ∀ c, c < 0 + 71 → r5 c = ρ c := fun c hc => (hr c (by omega)).trans (ha c hc)
    refine wr_putR hC hH rfl ⟨by decide, by decide⟩ (by decide) f_X4_22 g_4_3 (Or.inr ⟨_, rfl⟩) (Or.inr ⟨hnm, _, rfl, rfl⟩) dX4_init_27 hz hpt hF (fun u6 H locs hz hpt hF hH => ?_)
    refine lv_aload_n hx hb dX4_init_30 rfl (lv_at hl 0 rfl) ?_
    refine lv_bipush hx hb dX4_init_31 k_bipush_24 ?_
    refine wr_newa (atype := .int) (t := 0) (a0 := (24, .inl (fun _ => 0))) hC hH hz hpt za_int rfl rfl (fun _ _ => rfl) rfl (fun _ => rfl) (w_row0 hz rfl rfl (by decide)) ⟨by decide, by decide⟩ (by decide) (Nat.le_of_ble_eq_true rfl) (Nat.le_of_ble_eq_true rfl) dX4_init_33 (fun r7 H hr hz hpt hH => ?_)
    have hz : wZr (0 + 74) u6 := hz
    have hpt : wPt (0 + 74) u6 := hpt
    have hH : wHr D κ r7 0 74 A s.heap H locs u6 := hH
    have e70 : r7 70 = r5 70 := hr 70 (by decide)
    rw [← e70]
    have hl : lv_has ls 1 [(0, .ref (r7 70))] := by rw [e70]; exact hl
    have ha : ∀ c, c < 0 + 71 → r7 c = ρ c := fun c hc => (hr c (by omega)).trans (ha c hc)
    refine wr_putR hC hH rfl ⟨by decide, by decide⟩ (by decide) f_X4_25 g_4_4 (Or.inr ⟨_, rfl⟩) (Or.inr ⟨hnm, _, rfl, rfl⟩) dX4_init_35 hz hpt hF (fun u8 H locs hz hpt hF hH => ?_)
    refine lv_aload_n hx hb dX4_init_38 rfl (lv_at hl 0 rfl) ?_
    refine lv_bipush hx hb dX4_init_39 k_bipush_24 ?_
    refine wr_newa (atype := .boolean) (t := 2) (a0 := (24, .inl (fun _ => 0))) hC hH hz hpt za_boolean rfl rfl (fun _ _ => rfl) rfl (fun _ => rfl) (w_row0 hz rfl rfl (by decide)) ⟨by decide, by decide⟩ (by decide) (Nat.le_of_ble_eq_true rfl) (Nat.le_of_ble_eq_true rfl) dX4_init_41 (fun r9 H hr hz hpt hH => ?_)
    have hz : wZr (0 + 75) u8 := hz
    have hpt : wPt (0 + 75) u8 := hpt
    have hH : wHr D κ r9 0 75 A s.heap H locs u8 := hH
    have e70 : r9 70 = r7 70 := hr 70 (by decide)
    rw [← e70]
    have hl : lv_has ls 1 [(0, .ref (r9 70))] := by rw [e70]; exact hl
    have ha : ∀ c, c < 0 + 71 → r9 c = ρ c := fun c hc => (hr c (by omega)).trans (ha c hc)
    refine wr_putR hC hH rfl ⟨by decide, by decide⟩ (by decide) f_X4_28 g_4_5 (Or.inr ⟨_, rfl⟩) (Or.inr ⟨hnm, _, rfl, rfl⟩) dX4_init_43 hz hpt hF (fun u10 H locs hz hpt hF hH => ?_)
    refine lv_aload_n hx hb dX4_init_46 rfl (lv_at hl 0 rfl) ?_
    refine lv_bipush hx hb dX4_init_47 k_bipush_24 ?_
    refine wr_newa (atype := .int) (t := 0) (a0 := (24, .inl (fun _ => 0))) hC hH hz hpt za_int rfl rfl (fun _ _ => rfl) rfl (fun _ => rfl) (w_row0 hz rfl rfl (by decide)) ⟨by decide, by decide⟩ (by decide) (Nat.le_of_ble_eq_true rfl) (Nat.le_of_ble_eq_true rfl) dX4_init_49 (fun r11 H hr hz hpt hH => ?_)
    have hz : wZr (0 + 76) u10 := hz
    have hpt : wPt (0 + 76) u10 := hpt
    have hH : wHr D κ r11 0 76 A s.heap H locs u10 := hH
    have e70 : r11 70 = r9 70 := hr 70 (by decide)
    rw [← e70]
    have hl : lv_has ls 1 [(0, .ref (r11 70))] := by rw [e70]; exact hl
    have ha : ∀ c, c < 0 + 71 → r11 c = ρ c := fun c hc => (hr c (by omega)).trans (ha c hc)
    refine wr_putR hC hH rfl ⟨by decide, by decide⟩ (by decide) f_X4_32 g_4_6 (Or.inr ⟨_, rfl⟩) (Or.inr ⟨hnm, _, rfl, rfl⟩) dX4_init_51 hz hpt hF (fun u12 H locs hz hpt hF hH => ?_)
    refine lv_aload_n hx hb dX4_init_54 rfl (lv_at hl 0 rfl) ?_
    refine lv_bipush hx hb dX4_init_55 k_bipush_24 ?_
    refine wr_newa (atype := .boolean) (t := 2) (a0 := (24, .inl (fun _ => 0))) hC hH hz hpt za_boolean rfl rfl (fun _ _ => rfl) rfl (fun _ => rfl) (w_row0 hz rfl rfl (by decide)) ⟨by decide, by decide⟩ (by decide) (Nat.le_of_ble_eq_true rfl) (Nat.le_of_ble_eq_true rfl) dX4_init_57 (fun r13 H hr hz hpt hH => ?_)
    have hz : wZr (0 + 77) u12 := hz
    have hpt : wPt (0 + 77) u12 := hpt
    have hH : wHr D κ r13 0 77 A s.heap H locs u12 := hH
    have e70 : r13 70 = r11 70 := hr 70 (by decide)
    rw [← e70]
    have hl : lv_has ls 1 [(0, .ref (r13 70))] := by rw [e70]; exact hl
    have ha : ∀ c, c < 0 + 71 → r13 c = ρ c := fun c hc => (hr c (by omega)).trans (ha c hc)
    refine wr_putR hC hH rfl ⟨by decide, by decide⟩ (by decide) f_X4_35 g_4_7 (Or.inr ⟨_, rfl⟩) (Or.inr ⟨hnm, _, rfl, rfl⟩) dX4_init_59 hz hpt hF (fun u14 H locs hz hpt hF hH => ?_)
    refine W.widen (k := 6) (n := 144) (Nat.le_of_ble_eq_true rfl) (Nat.le_of_ble_eq_true rfl) ?_
    exact wr_vret hC hH ha (fun _ => ⟨hz, hpt⟩) hr0 hlk dX4_init_62 hF
  exact key _ _ hH
def F_X8_init_0 (u0 : wSt) : Option (Unit × wSt) :=
  wB (w_sR u0 0 0 (1 + 1)) (fun (u2 : wSt) => wB (w_sI u2 0 1 (0 : Int32)) (fun (u3 : wSt) => wC (F_X6_init_2 u3) (fun _ (u6 : wSt) => wB (w_sR u6 0 2 (2 + 1)) (fun (u7 : wSt) => wC (F_X6_init_19 u7) (fun _ (u10 : wSt) => wB (w_sR u10 0 3 (19 + 1)) (fun (u11 : wSt) => wG (u11.2.2 0 0 = 1 + 1) (wG (u11.2.2 0 3 = 19 + 1) (wC (F_X2_init_36 u11) (fun _ (u14 : wSt) => wB (w_sR u14 0 4 (36 + 1)) (fun (u15 : wSt) => wC (F_X3_init_43 u15) (fun _ (u18 : wSt) => wB (w_sR u18 0 5 (43 + 1)) (fun (u19 : wSt) => wC (F_X3_init_50 u19) (fun _ (u22 : wSt) => wB (w_sR u22 0 6 (50 + 1)) (fun (u23 : wSt) => wC (F_X3_init_57 u23) (fun _ (u26 : wSt) => wB (w_sR u26 0 7 (57 + 1)) (fun (u27 : wSt) => wB (w_sI u27 0 8 (0 : Int32)) (fun (u28 : wSt) => wG (u28.2.2 0 2 = 2 + 1) (wC (F_X0_init_64 u28) (fun _ (u31 : wSt) => wB (w_sR u31 0 9 (64 + 1)) (fun (u32 : wSt) => wC (F_X7_init_66 u32) (fun _ (u35 : wSt) => wB (w_sR u35 0 10 (66 + 1)) (fun (u36 : wSt) => wC (F_X4_init_70 u36) (fun _ (u39 : wSt) => wB (w_sR u39 0 11 (70 + 1)) (fun (u40 : wSt) => wB (w_sR u40 0 12 (77 + 1)) (fun (u42 : wSt) => wB (w_sR u42 0 13 (78 + 1)) (fun (u44 : wSt) => some ((), u44)))))))))))))))))))))))))))
set_option maxRecDepth 100000 in
set_option maxHeartbeats 4000000 in
theorem c_X8_init_0 {l : Launch} : wMK l yX8_init cX8_init 1 (wRk 6 78 3890 132) 78 3890 0 1 79 (fun ρ => [.ref (ρ 0)]) (fun u => F_X8_init_0 u) := by
  refine wMK_of rfl (fun _ => Nat.le_of_ble_eq_true rfl) (fun D κ ρ kA vA u0 z p e s m args below meth c ls A hF hz hpt hC hr0 hlk hnm hE hH hl => ?_)
  have hx := hC.1.1
  have hb := hC.1.2.1
  have hF : F_X8_init_0 u0 = some z := hF
  unfold F_X8_init_0 at hF
  have ha : ∀ c, c < 0 + 1 → ρ c = ρ c := fun _ _ => rfl
  have hl : lv_has ls 1 [(0, .ref (ρ 0))] := hl
  have key : ∀ (H : Heap) (locs : List Loc), wHr D κ ρ 0 1 A s.heap H locs u0 → W p l e (wRk 6 78 3890 132) s m args below meth c H locs 0 0 (wQK below args s A D κ ρ 0 1 79 78 3890 z) (F0 m 0 ls []) := by
    intro H locs hH
    refine lv_aload_n hx hb dX8_init_0 rfl (lv_at hl 0 rfl) ?_
    refine wr_obj hC hl.1 m_X8_3 ⟨Nat.le_of_ble_eq_true rfl, Nat.le_of_ble_eq_true rfl⟩ dX8_init_1 ?_
    refine lv_aload_n hx hb dX8_init_4 rfl (lv_at hl 0 rfl) ?_
    refine lv_sipush hx hb dX8_init_5 k_sipush_700 ?_
    refine wr_newa (atype := .byte) (t := 1) (a0 := (700, .inl (fun _ => 0))) hC hH hz hpt za_byte rfl rfl (fun _ _ => rfl) rfl (fun _ => rfl) (w_row0 hz rfl rfl (by decide)) ⟨by decide, by decide⟩ (by decide) (Nat.le_of_ble_eq_true rfl) (Nat.le_of_ble_eq_true rfl) dX8_init_8 (fun r1 H hr hz hpt hH => ?_)
    have hz : wZr (0 + 2) u0 := hz
    have hpt : wPt (0 + 2) u0 := hpt
    have hH : wHr D κ r1 0 2 A s.heap H locs u0 := hH
    have e0 : r1 0 = ρ 0 := hr 0 (by decide)
    rw [← e0]
    have hl : lv_has ls 1 [(0, .ref (r1 0))] := by rw [e0]; exact hl
    have ha : ∀ c, c < 0 + 1 → r1 c = ρ c := fun c hc => (hr c (by omega)).trans (ha c hc)
    refine wr_putR hC hH rfl ⟨by decide, by decide⟩ (by decide) f_X8_11 g_8_0 (Or.inr ⟨_, rfl⟩) (Or.inr ⟨hnm, _, rfl, rfl⟩) dX8_init_10 hz hpt hF (fun u2 H locs hz hpt hF hH => ?_)
    refine lv_aload_n hx hb dX8_init_13 rfl (lv_at hl 0 rfl) ?_
    refine lv_iconst hx hb dX8_init_14 k_iconst_0 ?_
    refine wr_putI hC hH rfl ⟨by decide, by decide⟩ f_X8_15 g_8_1 dX8_init_15 hz hpt hF (fun u3 H locs hz hpt hF hH => ?_)
    refine lv_aload_n hx hb dX8_init_18 rfl (lv_at hl 0 rfl) ?_
    refine wr_new (ci := 6) (C := RX6) (T := TX6) (N := 17) tyX6 hC hH hz hpt rfl rfl (by decide) gwX6 tyX6_ok zd_X6 n_X8_19 z_X6 zi_X6 rfl (Nat.le_of_ble_eq_true rfl) (Nat.le_of_ble_eq_true rfl) dX8_init_19 (fun r4 H hr hz hpt hH => ?_)
    have hz : wZr (0 + 3) u3 := hz
    have hpt : wPt (0 + 3) u3 := hpt
    have hH : wHr D κ r4 0 3 A s.heap H locs u3 := hH
    have e0 : r4 0 = r1 0 := hr 0 (by decide)
    rw [← e0]
    have hl : lv_has ls 1 [(0, .ref (r4 0))] := by rw [e0]; exact hl
    have ha : ∀ c, c < 0 + 1 → r4 c = ρ c := fun c hc => (hr c (by omega)).trans (ha c hc)
    refine lv_dup hx hb dX8_init_22 rfl ?_
    refine wr_ctorN rfl hC hE hH hz hpt hl.1 c_X6_init_2 rfl y_X6_init zn_X6 q_X8_21 rfl ⟨Nat.le_of_ble_eq_true rfl, Nat.le_of_ble_eq_true rfl⟩ ⟨Nat.le_of_ble_eq_true rfl, Nat.le_of_ble_eq_true rfl⟩ rfl (Nat.le_of_ble_eq_true rfl) dX8_init_23 hF (fun r5 u6 H locs hr hz hpt hF hH => ?_)
    have e0 : r5 0 = r4 0 := hr 0 (by decide)
    have e2 : r5 2 = r4 2 := hr 2 (by decide)
    rw [← e0]
    rw [← e2]
    have hl : lv_has ls 1 [(0, .ref (r5 0))] := by rw [e0]; exact hl
    have ha : ∀ c, c < 0 + 1 → r5 c = ρ c := fun c hc => (hr c (by omega)).trans (ha c hc)
    refine wr_putR hC hH rfl ⟨by decide, by decide⟩ (by decide) f_X8_22 g_8_2 (Or.inl ⟨_, rfl⟩) (Or.inl rfl) dX8_init_26 hz hpt hF (fun u7 H locs hz hpt hF hH => ?_)
    refine lv_aload_n hx hb dX8_init_29 rfl (lv_at hl 0 rfl) ?_
    refine wr_new (ci := 6) (C := RX6) (T := TX6) (N := 17) tyX6 hC hH hz hpt rfl rfl (by decide) gwX6 tyX6_ok zd_X6 n_X8_19 z_X6 zi_X6 rfl (Nat.le_of_ble_eq_true rfl) (Nat.le_of_ble_eq_true rfl) dX8_init_30 (fun r8 H hr hz hpt hH => ?_)
    have hz : wZr (0 + 20) u7 := hz
    have hpt : wPt (0 + 20) u7 := hpt
    have hH : wHr D κ r8 0 20 A s.heap H locs u7 := hH
    have e0 : r8 0 = r5 0 := hr 0 (by decide)
    rw [← e0]
    have hl : lv_has ls 1 [(0, .ref (r8 0))] := by rw [e0]; exact hl
    have ha : ∀ c, c < 0 + 1 → r8 c = ρ c := fun c hc => (hr c (by omega)).trans (ha c hc)
    refine lv_dup hx hb dX8_init_33 rfl ?_
    refine wr_ctorN rfl hC hE hH hz hpt hl.1 c_X6_init_19 rfl y_X6_init zn_X6 q_X8_21 rfl ⟨Nat.le_of_ble_eq_true rfl, Nat.le_of_ble_eq_true rfl⟩ ⟨Nat.le_of_ble_eq_true rfl, Nat.le_of_ble_eq_true rfl⟩ rfl (Nat.le_of_ble_eq_true rfl) dX8_init_34 hF (fun r9 u10 H locs hr hz hpt hF hH => ?_)
    have e0 : r9 0 = r8 0 := hr 0 (by decide)
    have e19 : r9 19 = r8 19 := hr 19 (by decide)
    rw [← e0]
    rw [← e19]
    have hl : lv_has ls 1 [(0, .ref (r9 0))] := by rw [e0]; exact hl
    have ha : ∀ c, c < 0 + 1 → r9 c = ρ c := fun c hc => (hr c (by omega)).trans (ha c hc)
    refine wr_putR hC hH rfl ⟨by decide, by decide⟩ (by decide) f_X8_26 g_8_3 (Or.inl ⟨_, rfl⟩) (Or.inl rfl) dX8_init_37 hz hpt hF (fun u11 H locs hz hpt hF hH => ?_)
    refine lv_aload_n hx hb dX8_init_40 rfl (lv_at hl 0 rfl) ?_
    refine wr_new (ci := 2) (C := RX2) (T := TX2) (N := 10) tyX2 hC hH hz hpt rfl rfl (by decide) gwX2 tyX2_ok zd_X2 n_X8_29 z_X2 zi_X2 rfl (Nat.le_of_ble_eq_true rfl) (Nat.le_of_ble_eq_true rfl) dX8_init_41 (fun r12 H hr hz hpt hH => ?_)
    have hz : wZr (0 + 37) u11 := hz
    have hpt : wPt (0 + 37) u11 := hpt
    have hH : wHr D κ r12 0 37 A s.heap H locs u11 := hH
    have e0 : r12 0 = r9 0 := hr 0 (by decide)
    rw [← e0]
    have hl : lv_has ls 1 [(0, .ref (r12 0))] := by rw [e0]; exact hl
    have ha : ∀ c, c < 0 + 1 → r12 c = ρ c := fun c hc => (hr c (by omega)).trans (ha c hc)
    refine lv_dup hx hb dX8_init_44 rfl ?_
    refine lv_aload_n hx hb dX8_init_45 rfl (lv_at hl 0 rfl) ?_
    obtain ⟨hg, hF⟩ := wG_some hF
    refine wr_getR hC hH rfl ⟨by decide, by decide⟩ f_X8_11 dX8_init_46 hg ?_
    refine lv_aload_n hx hb dX8_init_49 rfl (lv_at hl 0 rfl) ?_
    obtain ⟨hg, hF⟩ := wG_some hF
    refine wr_getR hC hH rfl ⟨by decide, by decide⟩ f_X8_26 dX8_init_50 hg ?_
    refine wr_ctor rfl hC hE hH hz hpt hl.1 c_X2_init_36 rfl y_X2_init zn_X2 m_X8_31 rfl ⟨Nat.le_of_ble_eq_true rfl, Nat.le_of_ble_eq_true rfl⟩ ⟨Nat.le_of_ble_eq_true rfl, Nat.le_of_ble_eq_true rfl⟩ rfl (Nat.le_of_ble_eq_true rfl) dX8_init_53 hF (fun r13 u14 H locs hr hz hpt hF hH => ?_)
    have e0 : r13 0 = r12 0 := hr 0 (by decide)
    have e36 : r13 36 = r12 36 := hr 36 (by decide)
    rw [← e0]
    rw [← e36]
    have hl : lv_has ls 1 [(0, .ref (r13 0))] := by rw [e0]; exact hl
    have ha : ∀ c, c < 0 + 1 → r13 c = ρ c := fun c hc => (hr c (by omega)).trans (ha c hc)
    refine wr_putR hC hH rfl ⟨by decide, by decide⟩ (by decide) f_X8_34 g_8_4 (Or.inl ⟨_, rfl⟩) (Or.inr ⟨hnm, _, rfl, rfl⟩) dX8_init_56 hz hpt hF (fun u15 H locs hz hpt hF hH => ?_)
    refine lv_aload_n hx hb dX8_init_59 rfl (lv_at hl 0 rfl) ?_
    refine wr_new (ci := 3) (C := RX3) (T := TX3) (N := 10) tyX3 hC hH hz hpt rfl rfl (by decide) gwX3 tyX3_ok zd_X3 n_X8_38 z_X3 zi_X3 rfl (Nat.le_of_ble_eq_true rfl) (Nat.le_of_ble_eq_true rfl) dX8_init_60 (fun r16 H hr hz hpt hH => ?_)
    have hz : wZr (0 + 44) u15 := hz
    have hpt : wPt (0 + 44) u15 := hpt
    have hH : wHr D κ r16 0 44 A s.heap H locs u15 := hH
    have e0 : r16 0 = r13 0 := hr 0 (by decide)
    rw [← e0]
    have hl : lv_has ls 1 [(0, .ref (r16 0))] := by rw [e0]; exact hl
    have ha : ∀ c, c < 0 + 1 → r16 c = ρ c := fun c hc => (hr c (by omega)).trans (ha c hc)
    refine lv_dup hx hb dX8_init_63 rfl ?_
    refine wr_ctorN rfl hC hE hH hz hpt hl.1 c_X3_init_43 rfl y_X3_init zn_X3 q_X8_40 rfl ⟨Nat.le_of_ble_eq_true rfl, Nat.le_of_ble_eq_true rfl⟩ ⟨Nat.le_of_ble_eq_true rfl, Nat.le_of_ble_eq_true rfl⟩ rfl (Nat.le_of_ble_eq_true rfl) dX8_init_64 hF (fun r17 u18 H locs hr hz hpt hF hH => ?_)
    have e0 : r17 0 = r16 0 := hr 0 (by decide)
    have e43 : r17 43 = r16 43 := hr 43 (by decide)
    rw [← e0]
    rw [← e43]
    have hl : lv_has ls 1 [(0, .ref (r17 0))] := by rw [e0]; exact hl
    have ha : ∀ c, c < 0 + 1 → r17 c = ρ c := fun c hc => (hr c (by omega)).trans (ha c hc)
    refine wr_putR hC hH rfl ⟨by decide, by decide⟩ (by decide) f_X8_41 g_8_5 (Or.inl ⟨_, rfl⟩) (Or.inr ⟨hnm, _, rfl, rfl⟩) dX8_init_67 hz hpt hF (fun u19 H locs hz hpt hF hH => ?_)
    refine lv_aload_n hx hb dX8_init_70 rfl (lv_at hl 0 rfl) ?_
    refine wr_new (ci := 3) (C := RX3) (T := TX3) (N := 10) tyX3 hC hH hz hpt rfl rfl (by decide) gwX3 tyX3_ok zd_X3 n_X8_38 z_X3 zi_X3 rfl (Nat.le_of_ble_eq_true rfl) (Nat.le_of_ble_eq_true rfl) dX8_init_71 (fun r20 H hr hz hpt hH => ?_)
    have hz : wZr (0 + 51) u19 := hz
    have hpt : wPt (0 + 51) u19 := hpt
    have hH : wHr D κ r20 0 51 A s.heap H locs u19 := hH
    have e0 : r20 0 = r17 0 := hr 0 (by decide)
    rw [← e0]
    have hl : lv_has ls 1 [(0, .ref (r20 0))] := by rw [e0]; exact hl
    have ha : ∀ c, c < 0 + 1 → r20 c = ρ c := fun c hc => (hr c (by omega)).trans (ha c hc)
    refine lv_dup hx hb dX8_init_74 rfl ?_
    refine wr_ctorN rfl hC hE hH hz hpt hl.1 c_X3_init_50 rfl y_X3_init zn_X3 q_X8_40 rfl ⟨Nat.le_of_ble_eq_true rfl, Nat.le_of_ble_eq_true rfl⟩ ⟨Nat.le_of_ble_eq_true rfl, Nat.le_of_ble_eq_true rfl⟩ rfl (Nat.le_of_ble_eq_true rfl) dX8_init_75 hF (fun r21 u22 H locs hr hz hpt hF hH => ?_)
    have e0 : r21 0 = r20 0 := hr 0 (by decide)
    have e50 : r21 50 = r20 50 := hr 50 (by decide)
    rw [← e0]
    rw [← e50]
    have hl : lv_has ls 1 [(0, .ref (r21 0))] := by rw [e0]; exact hl
    have ha : ∀ c, c < 0 + 1 → r21 c = ρ c := fun c hc => (hr c (by omega)).trans (ha c hc)
    refine wr_putR hC hH rfl ⟨by decide, by decide⟩ (by decide) f_X8_45 g_8_6 (Or.inl ⟨_, rfl⟩) (Or.inr ⟨hnm, _, rfl, rfl⟩) dX8_init_78 hz hpt hF (fun u23 H locs hz hpt hF hH => ?_)
    refine lv_aload_n hx hb dX8_init_81 rfl (lv_at hl 0 rfl) ?_
    refine wr_new (ci := 3) (C := RX3) (T := TX3) (N := 10) tyX3 hC hH hz hpt rfl rfl (by decide) gwX3 tyX3_ok zd_X3 n_X8_38 z_X3 zi_X3 rfl (Nat.le_of_ble_eq_true rfl) (Nat.le_of_ble_eq_true rfl) dX8_init_82 (fun r24 H hr hz hpt hH => ?_)
    have hz : wZr (0 + 58) u23 := hz
    have hpt : wPt (0 + 58) u23 := hpt
    have hH : wHr D κ r24 0 58 A s.heap H locs u23 := hH
    have e0 : r24 0 = r21 0 := hr 0 (by decide)
    rw [← e0]
    have hl : lv_has ls 1 [(0, .ref (r24 0))] := by rw [e0]; exact hl
    have ha : ∀ c, c < 0 + 1 → r24 c = ρ c := fun c hc => (hr c (by omega)).trans (ha c hc)
    refine lv_dup hx hb dX8_init_85 rfl ?_
    refine wr_ctorN rfl hC hE hH hz hpt hl.1 c_X3_init_57 rfl y_X3_init zn_X3 q_X8_40 rfl ⟨Nat.le_of_ble_eq_true rfl, Nat.le_of_ble_eq_true rfl⟩ ⟨Nat.le_of_ble_eq_true rfl, Nat.le_of_ble_eq_true rfl⟩ rfl (Nat.le_of_ble_eq_true rfl) dX8_init_86 hF (fun r25 u26 H locs hr hz hpt hF hH => ?_)
    have e0 : r25 0 = r24 0 := hr 0 (by decide)
    have e57 : r25 57 = r24 57 := hr 57 (by decide)
    rw [← e0]
    rw [← e57]
    have hl : lv_has ls 1 [(0, .ref (r25 0))] := by rw [e0]; exact hl
    have ha : ∀ c, c < 0 + 1 → r25 c = ρ c := fun c hc => (hr c (by omega)).trans (ha c hc)
    refine wr_putR hC hH rfl ⟨by decide, by decide⟩ (by decide) f_X8_48 g_8_7 (Or.inl ⟨_, rfl⟩) (Or.inr ⟨hnm, _, rfl, rfl⟩) dX8_init_89 hz hpt hF (fun u27 H locs hz hpt hF hH => ?_)
    refine lv_aload_n hx hb dX8_init_92 rfl (lv_at hl 0 rfl) ?_
    refine lv_iconst hx hb dX8_init_93 k_iconst_0 ?_
    refine wr_putZ hC hH rfl ⟨by decide, by decide⟩ f_X8_51 g_8_8 dX8_init_94 hz hpt (Or.inl rfl) hF (fun u28 H locs hz hpt hF hH => ?_)
    refine lv_aload_n hx hb dX8_init_97 rfl (lv_at hl 0 rfl) ?_
    refine wr_new (ci := 0) (C := RX0) (T := TX0) (N := 10) tyX0 hC hH hz hpt rfl rfl (by decide) gwX0 tyX0_ok zd_X0 n_X8_55 z_X0 zi_X0 rfl (Nat.le_of_ble_eq_true rfl) (Nat.le_of_ble_eq_true rfl) dX8_init_98 (fun r29 H hr hz hpt hH => ?_)
    have hz : wZr (0 + 65) u28 := hz
    have hpt : wPt (0 + 65) u28 := hpt
    have hH : wHr D κ r29 0 65 A s.heap H locs u28 := hH
    have e0 : r29 0 = r25 0 := hr 0 (by decide)
    rw [← e0]
    have hl : lv_has ls 1 [(0, .ref (r29 0))] := by rw [e0]; exact hl
    have ha : ∀ c, c < 0 + 1 → r29 c = ρ c := fun c hc => (hr c (by omega)).trans (ha c hc)
    refine lv_dup hx hb dX8_init_101 rfl ?_
    refine lv_aload_n hx hb dX8_init_102 rfl (lv_at hl 0 rfl) ?_
    obtain ⟨hg, hF⟩ := wG_some hF
    refine wr_getR hC hH rfl ⟨by decide, by decide⟩ f_X8_22 dX8_init_103 hg ?_
    refine wr_ctor rfl hC hE hH hz hpt hl.1 c_X0_init_64 rfl y_X0_init zn_X0 m_X8_57 rfl ⟨Nat.le_of_ble_eq_true rfl, Nat.le_of_ble_eq_true rfl⟩ ⟨Nat.le_of_ble_eq_true rfl, Nat.le_of_ble_eq_true rfl⟩ rfl (Nat.le_of_ble_eq_true rfl) dX8_init_106 hF (fun r30 u31 H locs hr hz hpt hF hH => ?_)
    have e0 : r30 0 = r29 0 := hr 0 (by decide)
    have e64 : r30 64 = r29 64 := hr 64 (by decide)
    rw [← e0]
    rw [← e64]
    have hl : lv_has ls 1 [(0, .ref (r30 0))] := by rw [e0]; exact hl
    have ha : ∀ c, c < 0 + 1 → r30 c = ρ c := fun c hc => (hr c (by omega)).trans (ha c hc)
    refine wr_putR hC hH rfl ⟨by decide, by decide⟩ (by decide) f_X8_60 g_8_9 (Or.inl ⟨_, rfl⟩) (Or.inr ⟨hnm, _, rfl, rfl⟩) dX8_init_109 hz hpt hF (fun u32 H locs hz hpt hF hH => ?_)
    refine lv_aload_n hx hb dX8_init_112 rfl (lv_at hl 0 rfl) ?_
    refine wr_new (ci := 7) (C := RX7) (T := TX7) (N := 4) tyX7 hC hH hz hpt rfl rfl (by decide) gwX7 tyX7_ok zd_X7 n_X8_64 z_X7 zi_X7 rfl (Nat.le_of_ble_eq_true rfl) (Nat.le_of_ble_eq_true rfl) dX8_init_113 (fun r33 H hr hz hpt hH => ?_)
    have hz : wZr (0 + 67) u32 := hz
    have hpt : wPt (0 + 67) u32 := hpt
    have hH : wHr D κ r33 0 67 A s.heap H locs u32 := hH
    have e0 : r33 0 = r30 0 := hr 0 (by decide)
    rw [← e0]
    have hl : lv_has ls 1 [(0, .ref (r33 0))] := by rw [e0]; exact hl
    have ha : ∀ c, c < 0 + 1 → r33 c = ρ c := fun c hc => (hr c (by omega)).trans (ha c hc)
    refine lv_dup hx hb dX8_init_116 rfl ?_
    refine wr_ctorN rfl hC hE hH hz hpt hl.1 c_X7_init_66 rfl y_X7_init zn_X7 q_X8_66 rfl ⟨Nat.le_of_ble_eq_true rfl, Nat.le_of_ble_eq_true rfl⟩ ⟨Nat.le_of_ble_eq_true rfl, Nat.le_of_ble_eq_true rfl⟩ rfl (Nat.le_of_ble_eq_true rfl) dX8_init_117 hF (fun r34 u35 H locs hr hz hpt hF hH => ?_)
    have e0 : r34 0 = r33 0 := hr 0 (by decide)
    have e66 : r34 66 = r33 66 := hr 66 (by decide)
    rw [← e0]
    rw [← e66]
    have hl : lv_has ls 1 [(0, .ref (r34 0))] := by rw [e0]; exact hl
    have ha : ∀ c, c < 0 + 1 → r34 c = ρ c := fun c hc => (hr c (by omega)).trans (ha c hc)
    refine wr_putR hC hH rfl ⟨by decide, by decide⟩ (by decide) f_X8_67 g_8_10 (Or.inl ⟨_, rfl⟩) (Or.inr ⟨hnm, _, rfl, rfl⟩) dX8_init_120 hz hpt hF (fun u36 H locs hz hpt hF hH => ?_)
    refine lv_aload_n hx hb dX8_init_123 rfl (lv_at hl 0 rfl) ?_
    refine wr_new (ci := 4) (C := RX4) (T := TX4) (N := 8) tyX4 hC hH hz hpt rfl rfl (by decide) gwX4 tyX4_ok zd_X4 n_X8_71 z_X4 zi_X4 rfl (Nat.le_of_ble_eq_true rfl) (Nat.le_of_ble_eq_true rfl) dX8_init_124 (fun r37 H hr hz hpt hH => ?_)
    have hz : wZr (0 + 71) u36 := hz
    have hpt : wPt (0 + 71) u36 := hpt
    have hH : wHr D κ r37 0 71 A s.heap H locs u36 := hH
    have e0 : r37 0 = r34 0 := hr 0 (by decide)
    rw [← e0]
    have hl : lv_has ls 1 [(0, .ref (r37 0))] := by rw [e0]; exact hl
    have ha : ∀ c, c < 0 + 1 → r37 c = ρ c := fun c hc => (hr c (by omega)).trans (ha c hc)
    refine lv_dup hx hb dX8_init_127 rfl ?_
    refine wr_ctorN rfl hC hE hH hz hpt hl.1 c_X4_init_70 rfl y_X4_init zn_X4 q_X8_73 rfl ⟨Nat.le_of_ble_eq_true rfl, Nat.le_of_ble_eq_true rfl⟩ ⟨Nat.le_of_ble_eq_true rfl, Nat.le_of_ble_eq_true rfl⟩ rfl (Nat.le_of_ble_eq_true rfl) dX8_init_128 hF (fun r38 u39 H locs hr hz hpt hF hH => ?_)
    have e0 : r38 0 = r37 0 := hr 0 (by decide)
    have e70 : r38 70 = r37 70 := hr 70 (by decide)
    rw [← e0]
    rw [← e70]
    have hl : lv_has ls 1 [(0, .ref (r38 0))] := by rw [e0]; exact hl
    have ha : ∀ c, c < 0 + 1 → r38 c = ρ c := fun c hc => (hr c (by omega)).trans (ha c hc)
    refine wr_putR hC hH rfl ⟨by decide, by decide⟩ (by decide) f_X8_74 g_8_11 (Or.inl ⟨_, rfl⟩) (Or.inr ⟨hnm, _, rfl, rfl⟩) dX8_init_131 hz hpt hF (fun u40 H locs hz hpt hF hH => ?_)
    refine lv_aload_n hx hb dX8_init_134 rfl (lv_at hl 0 rfl) ?_
    refine lv_bipush hx hb dX8_init_135 k_bipush_6 ?_
    refine wr_newa (atype := .int) (t := 0) (a0 := (6, .inl (fun _ => 0))) hC hH hz hpt za_int rfl rfl (fun _ _ => rfl) rfl (fun _ => rfl) (w_row0 hz rfl rfl (by decide)) ⟨by decide, by decide⟩ (by decide) (Nat.le_of_ble_eq_true rfl) (Nat.le_of_ble_eq_true rfl) dX8_init_137 (fun r41 H hr hz hpt hH => ?_)
    have hz : wZr (0 + 78) u40 := hz
    have hpt : wPt (0 + 78) u40 := hpt
    have hH : wHr D κ r41 0 78 A s.heap H locs u40 := hH
    have e0 : r41 0 = r38 0 := hr 0 (by decide)
    rw [← e0]
    have hl : lv_has ls 1 [(0, .ref (r41 0))] := by rw [e0]; exact hl
    have ha : ∀ c, c < 0 + 1 → r41 c = ρ c := fun c hc => (hr c (by omega)).trans (ha c hc)
    refine wr_putR hC hH rfl ⟨by decide, by decide⟩ (by decide) f_X8_78 g_8_12 (Or.inr ⟨_, rfl⟩) (Or.inr ⟨hnm, _, rfl, rfl⟩) dX8_init_139 hz hpt hF (fun u42 H locs hz hpt hF hH => ?_)
    refine lv_aload_n hx hb dX8_init_142 rfl (lv_at hl 0 rfl) ?_
    refine lv_bipush hx hb dX8_init_143 k_bipush_6 ?_
    refine wr_newa (atype := .int) (t := 0) (a0 := (6, .inl (fun _ => 0))) hC hH hz hpt za_int rfl rfl (fun _ _ => rfl) rfl (fun _ => rfl) (w_row0 hz rfl rfl (by decide)) ⟨by decide, by decide⟩ (by decide) (Nat.le_of_ble_eq_true rfl) (Nat.le_of_ble_eq_true rfl) dX8_init_145 (fun r43 H hr hz hpt hH => ?_)
    have hz : wZr (0 + 79) u42 := hz
    have hpt : wPt (0 + 79) u42 := hpt
    have hH : wHr D κ r43 0 79 A s.heap H locs u42 := hH
    have e0 : r43 0 = r41 0 := hr 0 (by decide)
    rw [← e0]
    have hl : lv_has ls 1 [(0, .ref (r43 0))] := by rw [e0]; exact hl
    have ha : ∀ c, c < 0 + 1 → r43 c = ρ c := fun c hc => (hr c (by omega)).trans (ha c hc)
    refine wr_putR hC hH rfl ⟨by decide, by decide⟩ (by decide) f_X8_82 g_8_13 (Or.inr ⟨_, rfl⟩) (Or.inr ⟨hnm, _, rfl, rfl⟩) dX8_init_147 hz hpt hF (fun u44 H locs hz hpt hF hH => ?_)
    refine W.widen (k := 78) (n := 3890) (Nat.le_of_ble_eq_true rfl) (Nat.le_of_ble_eq_true rfl) ?_
    exact wr_vret hC hH ha (fun _ => ⟨hz, hpt⟩) hr0 hlk dX8_init_150 hF
  exact key _ _ hH

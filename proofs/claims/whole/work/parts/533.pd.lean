theorem in_X10_needs_X10 : ∀ w ∈ u_ws RX10 TX10 16, w ∈ wsX10_needs := by decide +kernel
theorem in_X10_needs_X4 : ∀ w ∈ u_ws RX4 TX4 3, w ∈ wsX10_needs := by decide +kernel
abbrev W_X10_needs (cs : Nat → ClassId) (a0 : Nat) (p0 : Nat → Nat) (i0_13 : Int32) (i0_14 : Int32) (v0_15 : Nat → Int32) (p1 : Nat → Nat) (i1_0 : Int32) (i1_6 : Int32) (i1_8 : Int32) (i1_10 : Int32) (i1_11 : Int32) (i1_12 : Int32) (v1_1 : Nat → Int32) (v1_2 : Nat → Int32) (v1_3 : Nat → Int32) (v1_4 : Nat → Int32) (v1_5 : Nat → Int32) (v1_7 : Nat → Int32) (v1_9 : Nat → Int32) (p2 : Nat → Nat) (i2_2 : Int32) (p3 : Nat → Nat) (i3_3 : Int32) (i3_4 : Int32) (i3_5 : Int32) (i3_6 : Int32) (i3_7 : Int32) (v3_0 : Nat → Int32) (v3_1 : Nat → Int32) (v3_2 : Nat → Int32) : va_W := wX10 cs a0 p0 i0_13 i0_14 v0_15 ++ wX6 cs (p0 1) p1 i1_0 i1_6 i1_8 i1_10 i1_11 i1_12 v1_1 v1_2 v1_3 v1_4 v1_5 v1_7 v1_9 ++ wX4 cs (p0 9) p2 i2_2 ++ wX2 cs (p2 0) p3 i3_3 i3_4 i3_5 i3_6 i3_7 v3_0 v3_1 v3_2
abbrev rm_X10_needs : Room := { frames := 7, cells := 1, slots := 6, locals := 102 }
def f_X10_needs  (v0_15 : Nat → Int32) (i1_8 : Int32) (v1_9 : Nat → Int32) (v3_0 : Nat → Int32) (v3_1 : Nat → Int32) (x1 : Int32) : Option (Nat × Int32 × (Nat → Int32)) := (f_X10_needOrder v0_15 i1_8 x1).bind fun q2 => if q2.1 = 0 then ((f_X6_cellOf v1_9 x1).bind fun q17 => (f_X6_part v1_9 x1 (3)).bind fun q26 => (f_X2_outsideOf v3_0 v3_1 q17 q26).bind fun q29 => some (0, q29, q2.2)) else (some (q2.1, 0, q2.2))
set_option maxHeartbeats 4000000 in
set_option maxRecDepth 100000 in
theorem c_X10_needs (l : Launch) (D : va_G) (cs : Nat → ClassId) (hl0 : l.stackTraces = false)  (sz : Nat) (a0 : Nat) (p0 : Nat → Nat) (i0_13 : Int32) (i0_14 : Int32) (v0_15 : Nat → Int32) (p1 : Nat → Nat) (i1_0 : Int32) (i1_6 : Int32) (i1_8 : Int32) (i1_10 : Int32) (i1_11 : Int32) (i1_12 : Int32) (v1_1 : Nat → Int32) (v1_2 : Nat → Int32) (v1_3 : Nat → Int32) (v1_4 : Nat → Int32) (v1_5 : Nat → Int32) (v1_7 : Nat → Int32) (v1_9 : Nat → Int32) (p2 : Nat → Nat) (i2_2 : Int32) (p3 : Nat → Nat) (i3_3 : Int32) (i3_4 : Int32) (i3_5 : Int32) (i3_6 : Int32) (i3_7 : Int32) (v3_0 : Nat → Int32) (v3_1 : Nat → Int32) (v3_2 : Nat → Int32) (x1 : Int32) (res : Nat × Int32 × (Nat → Int32)) (hf : f_X10_needs  v0_15 i1_8 v1_9 v3_0 v3_1 x1 = some res) : XI l D cs yX10_needs wsX10_needs rm_X10_needs [.ref a0, .int x1] sz (W_X10_needs cs a0 p0 i0_13 i0_14 v0_15 p1 i1_0 i1_6 i1_8 i1_10 i1_11 i1_12 v1_1 v1_2 v1_3 v1_4 v1_5 v1_7 v1_9 p2 i2_2 p3 i3_3 i3_4 i3_5 i3_6 i3_7 v3_0 v3_1 v3_2) (W_X10_needs cs a0 p0 i0_13 i0_14 res.2.2 p1 i1_0 i1_6 i1_8 i1_10 i1_11 i1_12 v1_1 v1_2 v1_3 v1_4 v1_5 v1_7 v1_9 p2 i2_2 p3 i3_3 i3_4 i3_5 i3_6 i3_7 v3_0 v3_1 v3_2) res.1 res.2.1 1 6 := by
  rw [f_X10_needs] at hf
  refine ow_enterT (cc := cX10_needs) (nL := 2) (ret := (some .int)) hl0 (by decide) rfl (Nat.le_of_ble_eq_true rfl) (fun p e s m below meth c ls H locs C0 T0 hP hD hS hA hl => ?_)
  obtain ⟨hx, hb, hr, hlk, hml, hown, hts, hK, hG, hE⟩ := id C0
  have hl : lv_has ls 2 [(0, .ref a0), (1, .int x1)] := hl
  refine lv_aload_n hx hb dX10_needs_0 rfl (lv_at hl 0 rfl) ?_
  refine lv_iload_n hx hb dX10_needs_1 rfl (lv_at hl 1 rfl) ?_
  obtain ⟨q2, hq, hf⟩ := bd_some hf
  refine ow_tVV (As := [.int x1]) (rest := []) (wr := ow_pk (W_X10_needs cs a0 p0 i0_13 i0_14 v0_15 p1 i1_0 i1_6 i1_8 i1_10 i1_11 i1_12 v1_1 v1_2 v1_3 v1_4 v1_5 v1_7 v1_9 p2 i2_2 p3 i3_3 i3_4 i3_5 i3_6 i3_7 v3_0 v3_1 v3_2) [10, 11, 12, 13, 14]) (wf := (W_X10_needs cs a0 p0 i0_13 i0_14 q2.2 p1 i1_0 i1_6 i1_8 i1_10 i1_11 i1_12 v1_1 v1_2 v1_3 v1_4 v1_5 v1_7 v1_9 p2 i2_2 p3 i3_3 i3_4 i3_5 i3_6 i3_7 v3_0 v3_1 v3_2)) (k := q2.1) C0 T0 (c_X10_needOrder l D cs T0.1 H.size a0 p0 i0_13 i0_14 v0_15 p1 i1_0 i1_6 i1_8 i1_10 i1_11 i1_12 v1_1 v1_2 v1_3 v1_4 v1_5 v1_7 v1_9 x1 q2 hq) (cwV 1 hts gX10_needs_X10_needOrder rfl rfl rfl (by decide +kernel) ⟨Nat.le_of_ble_eq_true rfl, Nat.le_of_ble_eq_true rfl⟩) 10 rfl rfl hP hD hS (fun q h => Or.inr h) [0, 1, 2, 3, 4, 5, 6, 7, 8, 9] [10, 11, 12, 13, 14] [5, 6, 7, 8, 9, 10, 11, 12, 13, 14, 0, 1, 2, 3, 4] rfl (by decide) rfl (by decide) (by decide) rfl (by decide) rfl hl.1 rfl (Nat.le_of_ble_eq_true rfl) ⟨(Nat.le_of_ble_eq_true rfl), (Nat.le_of_ble_eq_true rfl)⟩ dX10_needs_2 (fun hz => ?_) (Nat.le_of_ble_eq_true rfl) (Nat.le_of_ble_eq_true rfl) (fun hz H locs hP hD hS => ?_)
  · replace hf := ow_f hz hf
    obtain rfl := Option.some.inj hf
    exact ⟨rfl, rfl⟩
  replace hf := ow_t hz hf
  refine lv_aload_n hx hb dX10_needs_5 rfl (lv_at hl 0 rfl) ?_
  refine va_get (D := D) (ci := 10) (v := .ref (p0 9)) (C := RX10) (T := TX10) (N := 16) hx hb hts in_X10_needs_X10 hown hK hP 0 rfl rfl 9 (by decide) (hts (.fieldLink RX10 63 "PaneDays" "past" "LPaneDays$Past;") (List.mem_of_getElem? (i := 1) rfl)) (fun _ h9 => h9) rfl dX10_needs_6 ?_
  refine va_get (D := D) (ci := 4) (v := .ref (p2 0)) (C := RX4) (T := TX4) (N := 3) hx hb hts in_X10_needs_X4 hown hK hP 10 rfl rfl 0 (by decide) (hts (.fieldLink RX10 76 "PaneDays$Past" "now" "LPaneDays$Glass;") (List.mem_of_getElem? (i := 2) rfl)) (fun _ h9 => h9) rfl dX10_needs_9 ?_
  refine lv_aload_n hx hb dX10_needs_12 rfl (lv_at hl 0 rfl) ?_
  refine va_get (D := D) (ci := 10) (v := .ref (p0 1)) (C := RX10) (T := TX10) (N := 16) hx hb hts in_X10_needs_X10 hown hK hP 0 rfl rfl 1 (by decide) (hts (.fieldLink RX10 19 "PaneDays" "street" "LPaneDays$Street;") (List.mem_of_getElem? (i := 3) rfl)) (fun _ h9 => h9) rfl dX10_needs_13 ?_
  refine lv_iload_n hx hb dX10_needs_16 rfl (lv_at hl 1 rfl) ?_
  obtain ⟨q17, hq, hf⟩ := bd_some hf
  refine ow_callVI (As := [.int x1]) (rest := [.ref (p2 0)]) (wr := ow_pk (W_X10_needs cs a0 p0 i0_13 i0_14 q2.2 p1 i1_0 i1_6 i1_8 i1_10 i1_11 i1_12 v1_1 v1_2 v1_3 v1_4 v1_5 v1_7 v1_9 p2 i2_2 p3 i3_3 i3_4 i3_5 i3_6 i3_7 v3_0 v3_1 v3_2) [0, 1, 10, 11, 12, 13, 14]) (wf := (W_X10_needs cs a0 p0 i0_13 i0_14 q2.2 p1 i1_0 i1_6 i1_8 i1_10 i1_11 i1_12 v1_1 v1_2 v1_3 v1_4 v1_5 v1_7 v1_9 p2 i2_2 p3 i3_3 i3_4 i3_5 i3_6 i3_7 v3_0 v3_1 v3_2)) (r := q17) C0 (c_X6_cellOf l D cs H.size (p0 1) p1 i1_0 i1_6 i1_8 i1_10 i1_11 i1_12 v1_1 v1_2 v1_3 v1_4 v1_5 v1_7 v1_9 x1 q17 hq) (cwV 1 hts gX10_needs_X6_cellOf rfl rfl rfl (by decide +kernel) ⟨Nat.le_of_ble_eq_true rfl, Nat.le_of_ble_eq_true rfl⟩) 6 rfl rfl hP hD hS (fun q h => Or.inr h) [2, 3, 4, 5, 6, 7, 8, 9] [0, 1, 10, 11, 12, 13, 14] [0, 1, 7, 8, 9, 10, 11, 12, 13, 14, 2, 3, 4, 5, 6] rfl (by decide) rfl (by decide) (by decide) rfl (by decide) rfl hl.1 rfl (Nat.le_of_ble_eq_true rfl) ⟨(Nat.le_of_ble_eq_true rfl), (Nat.le_of_ble_eq_true rfl)⟩ dX10_needs_17 (fun H locs hP hD hS => ?_)
  refine lv_aload_n hx hb dX10_needs_20 rfl (lv_at hl 0 rfl) ?_
  refine va_get (D := D) (ci := 10) (v := .ref (p0 1)) (C := RX10) (T := TX10) (N := 16) hx hb hts in_X10_needs_X10 hown hK hP 0 rfl rfl 1 (by decide) (hts (.fieldLink RX10 19 "PaneDays" "street" "LPaneDays$Street;") (List.mem_of_getElem? (i := 3) rfl)) (fun _ h9 => h9) rfl dX10_needs_21 ?_
  refine lv_iload_n hx hb dX10_needs_24 rfl (lv_at hl 1 rfl) ?_
  refine lv_iconst (v := 3) hx hb dX10_needs_25 (by decide) ?_
  obtain ⟨q26, hq, hf⟩ := bd_some hf
  refine ow_callVI (As := [.int x1, .int 3]) (rest := [.int q17, .ref (p2 0)]) (wr := ow_pk (W_X10_needs cs a0 p0 i0_13 i0_14 q2.2 p1 i1_0 i1_6 i1_8 i1_10 i1_11 i1_12 v1_1 v1_2 v1_3 v1_4 v1_5 v1_7 v1_9 p2 i2_2 p3 i3_3 i3_4 i3_5 i3_6 i3_7 v3_0 v3_1 v3_2) [0, 1, 10, 11, 12, 13, 14]) (wf := (W_X10_needs cs a0 p0 i0_13 i0_14 q2.2 p1 i1_0 i1_6 i1_8 i1_10 i1_11 i1_12 v1_1 v1_2 v1_3 v1_4 v1_5 v1_7 v1_9 p2 i2_2 p3 i3_3 i3_4 i3_5 i3_6 i3_7 v3_0 v3_1 v3_2)) (r := q26) C0 (c_X6_part l D cs H.size (p0 1) p1 i1_0 i1_6 i1_8 i1_10 i1_11 i1_12 v1_1 v1_2 v1_3 v1_4 v1_5 v1_7 v1_9 x1 (3) q26 hq) (cwV 2 hts gX10_needs_X6_part rfl rfl rfl (by decide +kernel) ⟨Nat.le_of_ble_eq_true rfl, Nat.le_of_ble_eq_true rfl⟩) 6 rfl rfl hP hD hS (fun q h => Or.inr h) [2, 3, 4, 5, 6, 7, 8, 9] [0, 1, 10, 11, 12, 13, 14] [0, 1, 7, 8, 9, 10, 11, 12, 13, 14, 2, 3, 4, 5, 6] rfl (by decide) rfl (by decide) (by decide) rfl (by decide) rfl hl.1 rfl (Nat.le_of_ble_eq_true rfl) ⟨(Nat.le_of_ble_eq_true rfl), (Nat.le_of_ble_eq_true rfl)⟩ dX10_needs_26 (fun H locs hP hD hS => ?_)
  obtain ⟨q29, hq, hf⟩ := bd_some hf
  refine ow_callVI (As := [.int q17, .int q26]) (rest := []) (wr := ow_pk (W_X10_needs cs a0 p0 i0_13 i0_14 q2.2 p1 i1_0 i1_6 i1_8 i1_10 i1_11 i1_12 v1_1 v1_2 v1_3 v1_4 v1_5 v1_7 v1_9 p2 i2_2 p3 i3_3 i3_4 i3_5 i3_6 i3_7 v3_0 v3_1 v3_2) [0, 1, 2, 3, 4, 5, 6, 7, 8, 9, 10]) (wf := (W_X10_needs cs a0 p0 i0_13 i0_14 q2.2 p1 i1_0 i1_6 i1_8 i1_10 i1_11 i1_12 v1_1 v1_2 v1_3 v1_4 v1_5 v1_7 v1_9 p2 i2_2 p3 i3_3 i3_4 i3_5 i3_6 i3_7 v3_0 v3_1 v3_2)) (r := q29) C0 (c_X2_outsideOf l D cs H.size (p2 0) p3 i3_3 i3_4 i3_5 i3_6 i3_7 v3_0 v3_1 v3_2 q17 q26 q29 hq) (cwV 2 hts gX10_needs_X2_outsideOf rfl rfl rfl (by decide +kernel) ⟨Nat.le_of_ble_eq_true rfl, Nat.le_of_ble_eq_true rfl⟩) 2 rfl rfl hP hD hS (fun q h => Or.inr h) [11, 12, 13, 14] [0, 1, 2, 3, 4, 5, 6, 7, 8, 9, 10] [0, 1, 2, 3, 4, 5, 6, 7, 8, 9, 10, 11, 12, 13, 14] rfl (by decide) rfl (by decide) (by decide) rfl (by decide) rfl hl.1 rfl (Nat.le_of_ble_eq_true rfl) ⟨(Nat.le_of_ble_eq_true rfl), (Nat.le_of_ble_eq_true rfl)⟩ dX10_needs_29 (fun H locs hP hD hS => ?_)
  obtain rfl := Option.some.inj hf
  exact ow_tretI C0 rfl hP hD hS (Nat.le_of_ble_eq_true rfl) (Nat.le_of_ble_eq_true rfl) dX10_needs_32
theorem in_X10_order_X10 : ∀ w ∈ u_ws RX10 TX10 16, w ∈ wsX10_order := by decide +kernel
abbrev W_X10_order (cs : Nat → ClassId) (a0 : Nat) (p0 : Nat → Nat) (i0_13 : Int32) (i0_14 : Int32) (v0_15 : Nat → Int32) (p1 : Nat → Nat) (i1_0 : Int32) (i1_6 : Int32) (i1_8 : Int32) (i1_10 : Int32) (i1_11 : Int32) (i1_12 : Int32) (v1_1 : Nat → Int32) (v1_2 : Nat → Int32) (v1_3 : Nat → Int32) (v1_4 : Nat → Int32) (v1_5 : Nat → Int32) (v1_7 : Nat → Int32) (v1_9 : Nat → Int32) (p2 : Nat → Nat) (i2_2 : Int32) (p3 : Nat → Nat) (i3_3 : Int32) (i3_4 : Int32) (i3_5 : Int32) (i3_6 : Int32) (i3_7 : Int32) (v3_0 : Nat → Int32) (v3_1 : Nat → Int32) (v3_2 : Nat → Int32) : va_W := wX10 cs a0 p0 i0_13 i0_14 v0_15 ++ wX6 cs (p0 1) p1 i1_0 i1_6 i1_8 i1_10 i1_11 i1_12 v1_1 v1_2 v1_3 v1_4 v1_5 v1_7 v1_9 ++ wX4 cs (p0 9) p2 i2_2 ++ wX2 cs (p2 0) p3 i3_3 i3_4 i3_5 i3_6 i3_7 v3_0 v3_1 v3_2
abbrev rm_X10_order : Room := { frames := 8, cells := 2, slots := 12, locals := 124 }
def f_X10_order  (v0_15 : Nat → Int32) (i1_8 : Int32) (v1_9 : Nat → Int32) (i3_4 : Int32) (i3_7 : Int32) (v3_0 : Nat → Int32) (v3_1 : Nat → Int32) (x1 : Int32) (x2 : Int32) : Option (Nat × Int32 × (Nat → Int32)) := (f_X10_needOrder v0_15 i1_8 x1).bind fun q2 => if q2.1 = 0 then ((f_X10_needWhat q2.2 x2 (5)).bind fun q8 => if q8.1 = 0 then (if x2 = 5 then ((f_X10_orderState v1_9 i3_4 i3_7 v3_0 v3_1 x1).bind fun q18 => some (0, q18, q8.2)) else ((f_X6_part v1_9 x1 x2).bind fun q30 => some (0, q30, q8.2))) else (some (q8.1, 0, q8.2))) else (some (q2.1, 0, q2.2))
set_option maxHeartbeats 4000000 in
set_option maxRecDepth 100000 in
theorem c_X10_order (l : Launch) (D : va_G) (cs : Nat → ClassId) (hl0 : l.stackTraces = false)  (sz : Nat) (a0 : Nat) (p0 : Nat → Nat) (i0_13 : Int32) (i0_14 : Int32) (v0_15 : Nat → Int32) (p1 : Nat → Nat) (i1_0 : Int32) (i1_6 : Int32) (i1_8 : Int32) (i1_10 : Int32) (i1_11 : Int32) (i1_12 : Int32) (v1_1 : Nat → Int32) (v1_2 : Nat → Int32) (v1_3 : Nat → Int32) (v1_4 : Nat → Int32) (v1_5 : Nat → Int32) (v1_7 : Nat → Int32) (v1_9 : Nat → Int32) (p2 : Nat → Nat) (i2_2 : Int32) (p3 : Nat → Nat) (i3_3 : Int32) (i3_4 : Int32) (i3_5 : Int32) (i3_6 : Int32) (i3_7 : Int32) (v3_0 : Nat → Int32) (v3_1 : Nat → Int32) (v3_2 : Nat → Int32) (x1 : Int32) (x2 : Int32) (res : Nat × Int32 × (Nat → Int32)) (hf : f_X10_order  v0_15 i1_8 v1_9 i3_4 i3_7 v3_0 v3_1 x1 x2 = some res) : XI l D cs yX10_order wsX10_order rm_X10_order [.ref a0, .int x1, .int x2] sz (W_X10_order cs a0 p0 i0_13 i0_14 v0_15 p1 i1_0 i1_6 i1_8 i1_10 i1_11 i1_12 v1_1 v1_2 v1_3 v1_4 v1_5 v1_7 v1_9 p2 i2_2 p3 i3_3 i3_4 i3_5 i3_6 i3_7 v3_0 v3_1 v3_2) (W_X10_order cs a0 p0 i0_13 i0_14 res.2.2 p1 i1_0 i1_6 i1_8 i1_10 i1_11 i1_12 v1_1 v1_2 v1_3 v1_4 v1_5 v1_7 v1_9 p2 i2_2 p3 i3_3 i3_4 i3_5 i3_6 i3_7 v3_0 v3_1 v3_2) res.1 res.2.1 2 12 := by
  rw [f_X10_order] at hf
  refine ow_enterT (cc := cX10_order) (nL := 3) (ret := (some .int)) hl0 (by decide) rfl (Nat.le_of_ble_eq_true rfl) (fun p e s m below meth c ls H locs C0 T0 hP hD hS hA hl => ?_)
  obtain ⟨hx, hb, hr, hlk, hml, hown, hts, hK, hG, hE⟩ := id C0
  have hl : lv_has ls 3 [(0, .ref a0), (1, .int x1), (2, .int x2)] := hl
  refine lv_aload_n hx hb dX10_order_0 rfl (lv_at hl 0 rfl) ?_
  refine lv_iload_n hx hb dX10_order_1 rfl (lv_at hl 1 rfl) ?_
  obtain ⟨q2, hq, hf⟩ := bd_some hf
  refine ow_tVV (As := [.int x1]) (rest := []) (wr := ow_pk (W_X10_order cs a0 p0 i0_13 i0_14 v0_15 p1 i1_0 i1_6 i1_8 i1_10 i1_11 i1_12 v1_1 v1_2 v1_3 v1_4 v1_5 v1_7 v1_9 p2 i2_2 p3 i3_3 i3_4 i3_5 i3_6 i3_7 v3_0 v3_1 v3_2) [10, 11, 12, 13, 14]) (wf := (W_X10_order cs a0 p0 i0_13 i0_14 q2.2 p1 i1_0 i1_6 i1_8 i1_10 i1_11 i1_12 v1_1 v1_2 v1_3 v1_4 v1_5 v1_7 v1_9 p2 i2_2 p3 i3_3 i3_4 i3_5 i3_6 i3_7 v3_0 v3_1 v3_2)) (k := q2.1) C0 T0 (c_X10_needOrder l D cs T0.1 H.size a0 p0 i0_13 i0_14 v0_15 p1 i1_0 i1_6 i1_8 i1_10 i1_11 i1_12 v1_1 v1_2 v1_3 v1_4 v1_5 v1_7 v1_9 x1 q2 hq) (cwV 1 hts gX10_order_X10_needOrder rfl rfl rfl (by decide +kernel) ⟨Nat.le_of_ble_eq_true rfl, Nat.le_of_ble_eq_true rfl⟩) 10 rfl rfl hP hD hS (fun q h => Or.inr h) [0, 1, 2, 3, 4, 5, 6, 7, 8, 9] [10, 11, 12, 13, 14] [5, 6, 7, 8, 9, 10, 11, 12, 13, 14, 0, 1, 2, 3, 4] rfl (by decide) rfl (by decide) (by decide) rfl (by decide) rfl hl.1 rfl (Nat.le_of_ble_eq_true rfl) ⟨(Nat.le_of_ble_eq_true rfl), (Nat.le_of_ble_eq_true rfl)⟩ dX10_order_2 (fun hz => ?_) (Nat.le_of_ble_eq_true rfl) (Nat.le_of_ble_eq_true rfl) (fun hz H locs hP hD hS => ?_)
  · replace hf := ow_f hz hf
    obtain rfl := Option.some.inj hf
    exact ⟨rfl, rfl⟩
  replace hf := ow_t hz hf
  refine lv_aload_n hx hb dX10_order_5 rfl (lv_at hl 0 rfl) ?_
  refine lv_iload_n hx hb dX10_order_6 rfl (lv_at hl 2 rfl) ?_
  refine lv_iconst (v := 5) hx hb dX10_order_7 (by decide) ?_
  obtain ⟨q8, hq, hf⟩ := bd_some hf
  refine ow_tVV (As := [.int x2, .int 5]) (rest := []) (wr := ow_pk (W_X10_order cs a0 p0 i0_13 i0_14 q2.2 p1 i1_0 i1_6 i1_8 i1_10 i1_11 i1_12 v1_1 v1_2 v1_3 v1_4 v1_5 v1_7 v1_9 p2 i2_2 p3 i3_3 i3_4 i3_5 i3_6 i3_7 v3_0 v3_1 v3_2) [2, 3, 4, 5, 6, 7, 8, 9, 10, 11, 12, 13, 14]) (wf := (W_X10_order cs a0 p0 i0_13 i0_14 q8.2 p1 i1_0 i1_6 i1_8 i1_10 i1_11 i1_12 v1_1 v1_2 v1_3 v1_4 v1_5 v1_7 v1_9 p2 i2_2 p3 i3_3 i3_4 i3_5 i3_6 i3_7 v3_0 v3_1 v3_2)) (k := q8.1) C0 T0 (c_X10_needWhat l D cs T0.1 H.size a0 p0 i0_13 i0_14 q2.2 x2 (5) q8 hq) (cwV 2 hts gX10_order_X10_needWhat rfl rfl rfl (by decide +kernel) ⟨Nat.le_of_ble_eq_true rfl, Nat.le_of_ble_eq_true rfl⟩) 10 rfl rfl hP hD hS (fun q h => Or.inr h) [0, 1] [2, 3, 4, 5, 6, 7, 8, 9, 10, 11, 12, 13, 14] [13, 14, 0, 1, 2, 3, 4, 5, 6, 7, 8, 9, 10, 11, 12] rfl (by decide) rfl (by decide) (by decide) rfl (by decide) rfl hl.1 rfl (Nat.le_of_ble_eq_true rfl) ⟨(Nat.le_of_ble_eq_true rfl), (Nat.le_of_ble_eq_true rfl)⟩ dX10_order_8 (fun hz => ?_) (Nat.le_of_ble_eq_true rfl) (Nat.le_of_ble_eq_true rfl) (fun hz H locs hP hD hS => ?_)
  · replace hf := ow_f hz hf
    obtain rfl := Option.some.inj hf
    exact ⟨rfl, rfl⟩
  replace hf := ow_t hz hf
  refine lv_iload_n hx hb dX10_order_11 rfl (lv_at hl 2 rfl) ?_
  refine lv_iconst (v := 5) hx hb dX10_order_12 (by decide) ?_
  refine lv_icmp_ne (tgt := 24) hx hb dX10_order_13 (by decide) (fun hc => ?_) (fun hc => ?_)
  · replace hf := ow_f hc hf
    refine lv_aload_n hx hb dX10_order_24 rfl (lv_at hl 0 rfl) ?_
    refine va_get (D := D) (ci := 10) (v := .ref (p0 1)) (C := RX10) (T := TX10) (N := 16) hx hb hts in_X10_order_X10 hown hK hP 0 rfl rfl 1 (by decide) (hts (.fieldLink RX10 19 "PaneDays" "street" "LPaneDays$Street;") (List.mem_of_getElem? (i := 1) rfl)) (fun _ h9 => h9) rfl dX10_order_25 ?_
    refine lv_iload_n hx hb dX10_order_28 rfl (lv_at hl 1 rfl) ?_
    refine lv_iload_n hx hb dX10_order_29 rfl (lv_at hl 2 rfl) ?_
    obtain ⟨q30, hq, hf⟩ := bd_some hf
    refine ow_callVI (As := [.int x1, .int x2]) (rest := []) (wr := ow_pk (W_X10_order cs a0 p0 i0_13 i0_14 q8.2 p1 i1_0 i1_6 i1_8 i1_10 i1_11 i1_12 v1_1 v1_2 v1_3 v1_4 v1_5 v1_7 v1_9 p2 i2_2 p3 i3_3 i3_4 i3_5 i3_6 i3_7 v3_0 v3_1 v3_2) [0, 1, 10, 11, 12, 13, 14]) (wf := (W_X10_order cs a0 p0 i0_13 i0_14 q8.2 p1 i1_0 i1_6 i1_8 i1_10 i1_11 i1_12 v1_1 v1_2 v1_3 v1_4 v1_5 v1_7 v1_9 p2 i2_2 p3 i3_3 i3_4 i3_5 i3_6 i3_7 v3_0 v3_1 v3_2)) (r := q30) C0 (c_X6_part l D cs H.size (p0 1) p1 i1_0 i1_6 i1_8 i1_10 i1_11 i1_12 v1_1 v1_2 v1_3 v1_4 v1_5 v1_7 v1_9 x1 x2 q30 hq) (cwV 2 hts gX10_order_X6_part rfl rfl rfl (by decide +kernel) ⟨Nat.le_of_ble_eq_true rfl, Nat.le_of_ble_eq_true rfl⟩) 6 rfl rfl hP hD hS (fun q h => Or.inr h) [2, 3, 4, 5, 6, 7, 8, 9] [0, 1, 10, 11, 12, 13, 14] [0, 1, 7, 8, 9, 10, 11, 12, 13, 14, 2, 3, 4, 5, 6] rfl (by decide) rfl (by decide) (by decide) rfl (by decide) rfl hl.1 rfl (Nat.le_of_ble_eq_true rfl) ⟨(Nat.le_of_ble_eq_true rfl), (Nat.le_of_ble_eq_true rfl)⟩ dX10_order_30 (fun H locs hP hD hS => ?_)
    obtain rfl := Option.some.inj hf
    exact ow_tretI C0 rfl hP hD hS (Nat.le_of_ble_eq_true rfl) (Nat.le_of_ble_eq_true rfl) dX10_order_33
  · replace hf := ow_t hc hf
    refine lv_aload_n hx hb dX10_order_16 rfl (lv_at hl 0 rfl) ?_
    refine lv_iload_n hx hb dX10_order_17 rfl (lv_at hl 1 rfl) ?_
    obtain ⟨q18, hq, hf⟩ := bd_some hf
    refine ow_callVI (As := [.int x1]) (rest := []) (wr := ow_pk (W_X10_order cs a0 p0 i0_13 i0_14 q8.2 p1 i1_0 i1_6 i1_8 i1_10 i1_11 i1_12 v1_1 v1_2 v1_3 v1_4 v1_5 v1_7 v1_9 p2 i2_2 p3 i3_3 i3_4 i3_5 i3_6 i3_7 v3_0 v3_1 v3_2) []) (wf := (W_X10_order cs a0 p0 i0_13 i0_14 q8.2 p1 i1_0 i1_6 i1_8 i1_10 i1_11 i1_12 v1_1 v1_2 v1_3 v1_4 v1_5 v1_7 v1_9 p2 i2_2 p3 i3_3 i3_4 i3_5 i3_6 i3_7 v3_0 v3_1 v3_2)) (r := q18) C0 (c_X10_orderState l D cs H.size a0 p0 i0_13 i0_14 q8.2 p2 i2_2 p1 i1_0 i1_6 i1_8 i1_10 i1_11 i1_12 v1_1 v1_2 v1_3 v1_4 v1_5 v1_7 v1_9 p3 i3_3 i3_4 i3_5 i3_6 i3_7 v3_0 v3_1 v3_2 x1 q18 hq) (cwV 1 hts gX10_order_X10_orderState rfl rfl rfl (by decide +kernel) ⟨Nat.le_of_ble_eq_true rfl, Nat.le_of_ble_eq_true rfl⟩) 10 rfl rfl hP hD hS (fun q h => Or.inr h) [0, 1, 10, 2, 3, 4, 5, 6, 7, 8, 9, 11, 12, 13, 14] [] [0, 1, 3, 4, 5, 6, 7, 8, 9, 10, 2, 11, 12, 13, 14] rfl (by decide) rfl (by decide) (by decide) rfl (by decide) rfl hl.1 rfl (Nat.le_of_ble_eq_true rfl) ⟨(Nat.le_of_ble_eq_true rfl), (Nat.le_of_ble_eq_true rfl)⟩ dX10_order_18 (fun H locs hP hD hS => ?_)
    refine lv_goto (tgt := 33) hx hb dX10_order_21 (by decide) ?_
    obtain rfl := Option.some.inj hf
    exact ow_tretI C0 rfl hP hD hS (Nat.le_of_ble_eq_true rfl) (Nat.le_of_ble_eq_true rfl) dX10_order_33
theorem in_X10_settles_X10 : ∀ w ∈ u_ws RX10 TX10 16, w ∈ wsX10_settles := by decide +kernel
theorem in_X10_settles_X2 : ∀ w ∈ u_ws RX2 TX2 8, w ∈ wsX10_settles := by decide +kernel
theorem in_X10_settles_X4 : ∀ w ∈ u_ws RX4 TX4 3, w ∈ wsX10_settles := by decide +kernel
abbrev W_X10_settles (cs : Nat → ClassId) (a0 : Nat) (p0 : Nat → Nat) (i0_13 : Int32) (i0_14 : Int32) (v0_15 : Nat → Int32) (p1 : Nat → Nat) (i1_0 : Int32) (i1_6 : Int32) (i1_8 : Int32) (i1_10 : Int32) (i1_11 : Int32) (i1_12 : Int32) (v1_1 : Nat → Int32) (v1_2 : Nat → Int32) (v1_3 : Nat → Int32) (v1_4 : Nat → Int32) (v1_5 : Nat → Int32) (v1_7 : Nat → Int32) (v1_9 : Nat → Int32) (p2 : Nat → Nat) (i2_2 : Int32) (p3 : Nat → Nat) (i3_3 : Int32) (i3_4 : Int32) (i3_5 : Int32) (i3_6 : Int32) (i3_7 : Int32) (v3_0 : Nat → Int32) (v3_1 : Nat → Int32) (v3_2 : Nat → Int32) (p4 : Nat → Nat) (i4_1 : Int32) (i4_2 : Int32) (i4_3 : Int32) (v4_4 : Nat → Int32) (v4_5 : Nat → Int32) (p5 : Nat → Nat) (i5_2 : Int32) (v5_0 : Nat → Int32) (v5_1 : Nat → Int32) : va_W := wX10 cs a0 p0 i0_13 i0_14 v0_15 ++ wX6 cs (p0 1) p1 i1_0 i1_6 i1_8 i1_10 i1_11 i1_12 v1_1 v1_2 v1_3 v1_4 v1_5 v1_7 v1_9 ++ wX4 cs (p0 9) p2 i2_2 ++ wX2 cs (p2 0) p3 i3_3 i3_4 i3_5 i3_6 i3_7 v3_0 v3_1 v3_2 ++ wX8 cs (p0 10) p4 i4_1 i4_2 i4_3 v4_4 v4_5 ++ wX3 cs (p0 3) p5 i5_2 v5_0 v5_1
abbrev rm_X10_settles : Room := { frames := 8, cells := 2, slots := 12, locals := 125 }
def f_X10_settles  (v0_15 : Nat → Int32) (i1_0 : Int32) (v1_1 : Nat → Int32) (v1_2 : Nat → Int32) (v1_4 : Nat → Int32) (i3_4 : Int32) (i3_6 : Int32) (v3_0 : Nat → Int32) (v3_1 : Nat → Int32) (v4_4 : Nat → Int32) (i5_2 : Int32) (v5_0 : Nat → Int32) (v5_1 : Nat → Int32) (x1 : Int32) (x2 : Int32) (x3 : Int32) : Option (Nat × Int32 × (Nat → Int32) × (Nat → Int32) × (Nat → Int32)) := (f_X10_needCell v0_15 i1_0 v1_1 v1_2 x1 x2 x3).bind fun q4 => if q4.1 = 0 then ((f_X2_isBroken i3_6 x1).bind fun q21 => if q21 = 0 then (if i3_4 < 200 then ((f_X8_wouldSettle v4_4 i3_4 v3_0 v3_1 v1_4 i5_2 v5_0 v5_1 q4.2.1).bind fun q56 => cz q56.1 (some (0, q56.1, q4.2.2, q56.2.1, q56.2.2))) else (some (0, 0, q4.2.2, v4_4, v5_1))) else (some (0, 0, q4.2.2, v4_4, v5_1))) else (some (q4.1, 0, q4.2.2, v4_4, v5_1))
set_option maxHeartbeats 4000000 in
set_option maxRecDepth 100000 in
theorem c_X10_settles (l : Launch) (D : va_G) (cs : Nat → ClassId) (hl0 : l.stackTraces = false)  (sz : Nat) (a0 : Nat) (p0 : Nat → Nat) (i0_13 : Int32) (i0_14 : Int32) (v0_15 : Nat → Int32) (p1 : Nat → Nat) (i1_0 : Int32) (i1_6 : Int32) (i1_8 : Int32) (i1_10 : Int32) (i1_11 : Int32) (i1_12 : Int32) (v1_1 : Nat → Int32) (v1_2 : Nat → Int32) (v1_3 : Nat → Int32) (v1_4 : Nat → Int32) (v1_5 : Nat → Int32) (v1_7 : Nat → Int32) (v1_9 : Nat → Int32) (p2 : Nat → Nat) (i2_2 : Int32) (p3 : Nat → Nat) (i3_3 : Int32) (i3_4 : Int32) (i3_5 : Int32) (i3_6 : Int32) (i3_7 : Int32) (v3_0 : Nat → Int32) (v3_1 : Nat → Int32) (v3_2 : Nat → Int32) (p4 : Nat → Nat) (i4_1 : Int32) (i4_2 : Int32) (i4_3 : Int32) (v4_4 : Nat → Int32) (v4_5 : Nat → Int32) (p5 : Nat → Nat) (i5_2 : Int32) (v5_0 : Nat → Int32) (v5_1 : Nat → Int32) (x1 : Int32) (x2 : Int32) (x3 : Int32) (res : Nat × Int32 × (Nat → Int32) × (Nat → Int32) × (Nat → Int32)) (hf : f_X10_settles  v0_15 i1_0 v1_1 v1_2 v1_4 i3_4 i3_6 v3_0 v3_1 v4_4 i5_2 v5_0 v5_1 x1 x2 x3 = some res) : XI l D cs yX10_settles wsX10_settles rm_X10_settles [.ref a0, .int x1, .int x2, .int x3] sz (W_X10_settles cs a0 p0 i0_13 i0_14 v0_15 p1 i1_0 i1_6 i1_8 i1_10 i1_11 i1_12 v1_1 v1_2 v1_3 v1_4 v1_5 v1_7 v1_9 p2 i2_2 p3 i3_3 i3_4 i3_5 i3_6 i3_7 v3_0 v3_1 v3_2 p4 i4_1 i4_2 i4_3 v4_4 v4_5 p5 i5_2 v5_0 v5_1) (W_X10_settles cs a0 p0 i0_13 i0_14 res.2.2.1 p1 i1_0 i1_6 i1_8 i1_10 i1_11 i1_12 v1_1 v1_2 v1_3 v1_4 v1_5 v1_7 v1_9 p2 i2_2 p3 i3_3 i3_4 i3_5 i3_6 i3_7 v3_0 v3_1 v3_2 p4 i4_1 i4_2 i4_3 res.2.2.2.1 v4_5 p5 i5_2 v5_0 res.2.2.2.2) res.1 res.2.1 2 12 := by
  rw [f_X10_settles] at hf
  refine ow_enterT (cc := cX10_settles) (nL := 6) (ret := (some .boolean)) hl0 (by decide) rfl (Nat.le_of_ble_eq_true rfl) (fun p e s m below meth c ls H locs C0 T0 hP hD hS hA hl => ?_)
  obtain ⟨hx, hb, hr, hlk, hml, hown, hts, hK, hG, hE⟩ := id C0
  have hl : lv_has ls 6 [(0, .ref a0), (1, .int x1), (2, .int x2), (3, .int x3)] := hl
  refine lv_aload_n hx hb dX10_settles_0 rfl (lv_at hl 0 rfl) ?_
  refine lv_iload_n hx hb dX10_settles_1 rfl (lv_at hl 1 rfl) ?_
  refine lv_iload_n hx hb dX10_settles_2 rfl (lv_at hl 2 rfl) ?_
  refine lv_iload_n hx hb dX10_settles_3 rfl (lv_at hl 3 rfl) ?_
  obtain ⟨q4, hq, hf⟩ := bd_some hf
  refine ow_tVI (As := [.int x1, .int x2, .int x3]) (rest := []) (wr := ow_pk (W_X10_settles cs a0 p0 i0_13 i0_14 v0_15 p1 i1_0 i1_6 i1_8 i1_10 i1_11 i1_12 v1_1 v1_2 v1_3 v1_4 v1_5 v1_7 v1_9 p2 i2_2 p3 i3_3 i3_4 i3_5 i3_6 i3_7 v3_0 v3_1 v3_2 p4 i4_1 i4_2 i4_3 v4_4 v4_5 p5 i5_2 v5_0 v5_1) [10, 11, 12, 13, 14, 15, 16, 17, 18, 19, 20]) (wf := (W_X10_settles cs a0 p0 i0_13 i0_14 q4.2.2 p1 i1_0 i1_6 i1_8 i1_10 i1_11 i1_12 v1_1 v1_2 v1_3 v1_4 v1_5 v1_7 v1_9 p2 i2_2 p3 i3_3 i3_4 i3_5 i3_6 i3_7 v3_0 v3_1 v3_2 p4 i4_1 i4_2 i4_3 v4_4 v4_5 p5 i5_2 v5_0 v5_1)) (r := q4.2.1) (k := q4.1) C0 T0 (c_X10_needCell l D cs T0.1 H.size a0 p0 i0_13 i0_14 v0_15 p1 i1_0 i1_6 i1_8 i1_10 i1_11 i1_12 v1_1 v1_2 v1_3 v1_4 v1_5 v1_7 v1_9 x1 x2 x3 q4 hq) (cwV 3 hts gX10_settles_X10_needCell rfl rfl rfl (by decide +kernel) ⟨Nat.le_of_ble_eq_true rfl, Nat.le_of_ble_eq_true rfl⟩) 10 rfl rfl hP hD hS (fun q h => Or.inr h) [0, 1, 2, 3, 4, 5, 6, 7, 8, 9] [10, 11, 12, 13, 14, 15, 16, 17, 18, 19, 20] [11, 12, 13, 14, 15, 16, 17, 18, 19, 20, 0, 1, 2, 3, 4, 5, 6, 7, 8, 9, 10] rfl (by decide) rfl (by decide) (by decide) rfl (by decide) rfl hl.1 rfl (Nat.le_of_ble_eq_true rfl) ⟨(Nat.le_of_ble_eq_true rfl), (Nat.le_of_ble_eq_true rfl)⟩ dX10_settles_4 (fun hz => ?_) (Nat.le_of_ble_eq_true rfl) (Nat.le_of_ble_eq_true rfl) (fun hz H locs hP hD hS => ?_)
  · replace hf := ow_f hz hf
    obtain rfl := Option.some.inj hf
    exact ⟨rfl, rfl⟩
  replace hf := ow_t hz hf
  refine lv_istore (lv' := [(4, .int q4.2.1), (0, .ref a0), (1, .int x1), (2, .int x2), (3, .int x3)]) hx hb dX10_settles_7 hl (by decide) rfl (fun ls hl => ?_)
  refine lv_aload_n hx hb dX10_settles_9 rfl (lv_at hl 1 rfl) ?_
  refine va_get (D := D) (ci := 10) (v := .ref (p0 9)) (C := RX10) (T := TX10) (N := 16) hx hb hts in_X10_settles_X10 hown hK hP 0 rfl rfl 9 (by decide) (hts (.fieldLink RX10 63 "PaneDays" "past" "LPaneDays$Past;") (List.mem_of_getElem? (i := 1) rfl)) (fun _ h9 => h9) rfl dX10_settles_10 ?_
  refine va_get (D := D) (ci := 4) (v := .ref (p2 0)) (C := RX4) (T := TX4) (N := 3) hx hb hts in_X10_settles_X4 hown hK hP 10 rfl rfl 0 (by decide) (hts (.fieldLink RX10 76 "PaneDays$Past" "now" "LPaneDays$Glass;") (List.mem_of_getElem? (i := 2) rfl)) (fun _ h9 => h9) rfl dX10_settles_13 ?_
  refine lv_astore (lv' := [(5, .ref (p2 0)), (4, .int q4.2.1), (0, .ref a0), (1, .int x1), (2, .int x2), (3, .int x3)]) hx hb dX10_settles_16 hl (by decide) rfl (fun ls hl => ?_)
  refine lv_aload hx hb dX10_settles_18 (lv_at hl 0 rfl) ?_
  refine lv_iload_n hx hb dX10_settles_20 rfl (lv_at hl 3 rfl) ?_
  obtain ⟨q21, hq, hf⟩ := bd_some hf
  refine ow_callVI (As := [.int x1]) (rest := []) (wr := ow_pk (W_X10_settles cs a0 p0 i0_13 i0_14 q4.2.2 p1 i1_0 i1_6 i1_8 i1_10 i1_11 i1_12 v1_1 v1_2 v1_3 v1_4 v1_5 v1_7 v1_9 p2 i2_2 p3 i3_3 i3_4 i3_5 i3_6 i3_7 v3_0 v3_1 v3_2 p4 i4_1 i4_2 i4_3 v4_4 v4_5 p5 i5_2 v5_0 v5_1) [0, 1, 2, 3, 4, 5, 6, 7, 8, 9, 10, 15, 16, 17, 18, 19, 20]) (wf := (W_X10_settles cs a0 p0 i0_13 i0_14 q4.2.2 p1 i1_0 i1_6 i1_8 i1_10 i1_11 i1_12 v1_1 v1_2 v1_3 v1_4 v1_5 v1_7 v1_9 p2 i2_2 p3 i3_3 i3_4 i3_5 i3_6 i3_7 v3_0 v3_1 v3_2 p4 i4_1 i4_2 i4_3 v4_4 v4_5 p5 i5_2 v5_0 v5_1)) (r := q21) C0 (c_X2_isBroken l D cs H.size (p2 0) p3 i3_3 i3_4 i3_5 i3_6 i3_7 v3_0 v3_1 v3_2 x1 q21 hq) (cwV 1 hts gX10_settles_X2_isBroken rfl rfl rfl (by decide +kernel) ⟨Nat.le_of_ble_eq_true rfl, Nat.le_of_ble_eq_true rfl⟩) 2 rfl rfl hP hD hS (fun q h => Or.inr h) [11, 12, 13, 14] [0, 1, 2, 3, 4, 5, 6, 7, 8, 9, 10, 15, 16, 17, 18, 19, 20] [0, 1, 2, 3, 4, 5, 6, 7, 8, 9, 10, 17, 18, 19, 20, 11, 12, 13, 14, 15, 16] rfl (by decide) rfl (by decide) (by decide) rfl (by decide) rfl hl.1 rfl (Nat.le_of_ble_eq_true rfl) ⟨(Nat.le_of_ble_eq_true rfl), (Nat.le_of_ble_eq_true rfl)⟩ dX10_settles_21 (fun H locs hP hD hS => ?_)
  refine lv_if_ne (tgt := 38) hx hb dX10_settles_24 (by decide) (fun hc => ?_) (fun hc => ?_)
  · replace hf := ow_f hc hf
    refine lv_iconst (v := 0) hx hb dX10_settles_38 (by decide) ?_
    obtain rfl := Option.some.inj hf
    exact ow_tretZ C0 (Or.inl rfl) rfl hP hD hS (Nat.le_of_ble_eq_true rfl) (Nat.le_of_ble_eq_true rfl) dX10_settles_39
  · replace hf := ow_t hc hf
    refine lv_aload hx hb dX10_settles_27 (lv_at hl 0 rfl) ?_
    refine va_get (D := D) (ci := 2) (v := .int i3_4) (C := RX2) (T := TX2) (N := 8) hx hb hts in_X10_settles_X2 hown hK hP 11 rfl rfl 4 (by decide) (hts (.fieldLink RX10 171 "PaneDays$Glass" "day" "I") (List.mem_of_getElem? (i := 3) rfl)) (fun _ h9 => h9) rfl dX10_settles_29 ?_
    refine lv_sipush (v := 200) hx hb dX10_settles_32 (by decide) ?_
    refine lv_icmp_lt (tgt := 40) hx hb dX10_settles_35 (by decide) (fun hc => ?_) (fun hc => ?_)
    · replace hf := ow_t hc hf
      refine lv_aload_n hx hb dX10_settles_40 rfl (lv_at hl 2 rfl) ?_
      refine va_get (D := D) (ci := 10) (v := .ref (p0 10)) (C := RX10) (T := TX10) (N := 16) hx hb hts in_X10_settles_X10 hown hK hP 0 rfl rfl 10 (by decide) (hts (.fieldLink RX10 70 "PaneDays" "weather" "LPaneDays$Weather;") (List.mem_of_getElem? (i := 4) rfl)) (fun _ h9 => h9) rfl dX10_settles_41 ?_
      refine lv_aload hx hb dX10_settles_44 (lv_at hl 0 rfl) ?_
      refine lv_aload_n hx hb dX10_settles_46 rfl (lv_at hl 2 rfl) ?_
      refine va_get (D := D) (ci := 10) (v := .ref (p0 1)) (C := RX10) (T := TX10) (N := 16) hx hb hts in_X10_settles_X10 hown hK hP 0 rfl rfl 1 (by decide) (hts (.fieldLink RX10 19 "PaneDays" "street" "LPaneDays$Street;") (List.mem_of_getElem? (i := 5) rfl)) (fun _ h9 => h9) rfl dX10_settles_47 ?_
      refine lv_aload_n hx hb dX10_settles_50 rfl (lv_at hl 2 rfl) ?_
      refine va_get (D := D) (ci := 10) (v := .ref (p0 3)) (C := RX10) (T := TX10) (N := 16) hx hb hts in_X10_settles_X10 hown hK hP 0 rfl rfl 3 (by decide) (hts (.fieldLink RX10 29 "PaneDays" "law" "LPaneDays$Law;") (List.mem_of_getElem? (i := 6) rfl)) (fun _ h9 => h9) rfl dX10_settles_51 ?_
      refine lv_iload hx hb dX10_settles_54 (lv_at hl 1 rfl) ?_
      obtain ⟨q56, hq, hf⟩ := bd_some hf
      refine ow_callVI (As := [.ref (p2 0), .ref (p0 1), .ref (p0 3), .int q4.2.1]) (rest := []) (wr := ow_pk (W_X10_settles cs a0 p0 i0_13 i0_14 q4.2.2 p1 i1_0 i1_6 i1_8 i1_10 i1_11 i1_12 v1_1 v1_2 v1_3 v1_4 v1_5 v1_7 v1_9 p2 i2_2 p3 i3_3 i3_4 i3_5 i3_6 i3_7 v3_0 v3_1 v3_2 p4 i4_1 i4_2 i4_3 v4_4 v4_5 p5 i5_2 v5_0 v5_1) [0, 1, 10]) (wf := (W_X10_settles cs a0 p0 i0_13 i0_14 q4.2.2 p1 i1_0 i1_6 i1_8 i1_10 i1_11 i1_12 v1_1 v1_2 v1_3 v1_4 v1_5 v1_7 v1_9 p2 i2_2 p3 i3_3 i3_4 i3_5 i3_6 i3_7 v3_0 v3_1 v3_2 p4 i4_1 i4_2 i4_3 q56.2.1 v4_5 p5 i5_2 v5_0 q56.2.2)) (r := q56.1) C0 (c_X8_wouldSettle l D cs H.size (p0 10) p4 i4_1 i4_2 i4_3 v4_4 v4_5 (p2 0) p3 i3_3 i3_4 i3_5 i3_6 i3_7 v3_0 v3_1 v3_2 (p0 1) p1 i1_0 i1_6 i1_8 i1_10 i1_11 i1_12 v1_1 v1_2 v1_3 v1_4 v1_5 v1_7 v1_9 (p0 3) p5 i5_2 v5_0 v5_1 q4.2.1 q56 hq) (cwV 4 hts gX10_settles_X8_wouldSettle rfl rfl rfl (by decide +kernel) ⟨Nat.le_of_ble_eq_true rfl, Nat.le_of_ble_eq_true rfl⟩) 8 rfl rfl hP hD hS (fun q h => Or.inr h) [15, 16, 17, 11, 12, 13, 14, 2, 3, 4, 5, 6, 7, 8, 9, 18, 19, 20] [0, 1, 10] [0, 1, 10, 11, 12, 13, 14, 15, 16, 17, 2, 6, 7, 8, 9, 3, 4, 5, 18, 19, 20] rfl (by decide) rfl (by decide) (by decide) rfl (by decide) rfl hl.1 rfl (Nat.le_of_ble_eq_true rfl) ⟨(Nat.le_of_ble_eq_true rfl), (Nat.le_of_ble_eq_true rfl)⟩ dX10_settles_56 (fun H locs hP hD hS => ?_)
      obtain ⟨hz, hf⟩ := cz_some hf
      obtain rfl := Option.some.inj hf
      exact ow_tretZ C0 hz rfl hP hD hS (Nat.le_of_ble_eq_true rfl) (Nat.le_of_ble_eq_true rfl) dX10_settles_59
    · replace hf := ow_f hc hf
      refine lv_iconst (v := 0) hx hb dX10_settles_38 (by decide) ?_
      obtain rfl := Option.some.inj hf
      exact ow_tretZ C0 (Or.inl rfl) rfl hP hD hS (Nat.le_of_ble_eq_true rfl) (Nat.le_of_ble_eq_true rfl) dX10_settles_39
theorem in_X10_showing_X10 : ∀ w ∈ u_ws RX10 TX10 16, w ∈ wsX10_showing := by decide +kernel
theorem in_X10_showing_X4 : ∀ w ∈ u_ws RX4 TX4 3, w ∈ wsX10_showing := by decide +kernel
theorem in_X10_showing_X6 : ∀ w ∈ u_ws RX6 TX6 13, w ∈ wsX10_showing := by decide +kernel
abbrev W_X10_showing (cs : Nat → ClassId) (a0 : Nat) (p0 : Nat → Nat) (i0_13 : Int32) (i0_14 : Int32) (v0_15 : Nat → Int32) (p1 : Nat → Nat) (i1_0 : Int32) (i1_6 : Int32) (i1_8 : Int32) (i1_10 : Int32) (i1_11 : Int32) (i1_12 : Int32) (v1_1 : Nat → Int32) (v1_2 : Nat → Int32) (v1_3 : Nat → Int32) (v1_4 : Nat → Int32) (v1_5 : Nat → Int32) (v1_7 : Nat → Int32) (v1_9 : Nat → Int32) (p2 : Nat → Nat) (i2_2 : Int32) (p3 : Nat → Nat) (i3_0 : Int32) (i3_1 : Int32) (v3_2 : Nat → Int32) (v3_3 : Nat → Int32) (p4 : Nat → Nat) (i4_3 : Int32) (i4_4 : Int32) (i4_5 : Int32) (i4_6 : Int32) (i4_7 : Int32) (v4_0 : Nat → Int32) (v4_1 : Nat → Int32) (v4_2 : Nat → Int32) : va_W := wX10 cs a0 p0 i0_13 i0_14 v0_15 ++ wX6 cs (p0 1) p1 i1_0 i1_6 i1_8 i1_10 i1_11 i1_12 v1_1 v1_2 v1_3 v1_4 v1_5 v1_7 v1_9 ++ wX4 cs (p0 9) p2 i2_2 ++ wX1 cs (p0 7) p3 i3_0 i3_1 v3_2 v3_3 ++ wX2 cs (p2 0) p4 i4_3 i4_4 i4_5 i4_6 i4_7 v4_0 v4_1 v4_2
abbrev rm_X10_showing : Room := { frames := 7, cells := 2, slots := 12, locals := 102 }
def f_X10_showing_b22  (i1_0 : Int32) (v1_5 : Nat → Int32) (v4_0 : Nat → Int32) (v4_1 : Nat → Int32)  (v0_15 : Nat → Int32) (x1 : Int32) (x2 : Int32) (t1 : Int32) : Option (Nat × Int32 × (Nat → Int32)) := (f_X10_need v0_15 t1).bind fun q22 => if q22.1 = 0 then (ck x1 5 ((f_X1_cellsShowing v4_0 v4_1 x1 (v1_5 (x1).toNatClampNeg) x2).bind fun q47 => some (0, q47, q22.2))) else (some (q22.1, 0, q22.2))
set_option maxHeartbeats 4000000 in
set_option maxRecDepth 100000 in
theorem w_X10_showing_b22 {p : Program} {l : Launch} {e : Env} {s : State} {m : MethodId} {below : List Frame} {meth : Method} {c : Code} {D : va_G} {cs : Nat → ClassId} {av : Array Value} {w0 : va_W} (C0 : Cx p s m meth c av wsX10_showing cX10_showing 3 (some .int) RX10 D cs w0) (T0 : CxT l s c)  (a0 : Nat) (p0 : Nat → Nat) (i0_13 : Int32) (i0_14 : Int32) (p1 : Nat → Nat) (i1_0 : Int32) (i1_6 : Int32) (i1_8 : Int32) (i1_10 : Int32) (i1_11 : Int32) (i1_12 : Int32) (v1_1 : Nat → Int32) (v1_2 : Nat → Int32) (v1_3 : Nat → Int32) (v1_4 : Nat → Int32) (v1_5 : Nat → Int32) (v1_7 : Nat → Int32) (v1_9 : Nat → Int32) (p2 : Nat → Nat) (i2_2 : Int32) (p3 : Nat → Nat) (i3_0 : Int32) (i3_1 : Int32) (v3_2 : Nat → Int32) (v3_3 : Nat → Int32) (p4 : Nat → Nat) (i4_3 : Int32) (i4_4 : Int32) (i4_5 : Int32) (i4_6 : Int32) (i4_7 : Int32) (v4_0 : Nat → Int32) (v4_1 : Nat → Int32) (v4_2 : Nat → Int32) (res : Nat × Int32 × (Nat → Int32))  : ∀ (v0_15 : Nat → Int32) (x1 : Int32) (x2 : Int32) (t1 : Int32), f_X10_showing_b22 i1_0 v1_5 v4_0 v4_1 v0_15 x1 x2 t1 = some res → ∀ (H : Heap) (locs : List Loc) (ls : Array Slot), va_P D vwCl (W_X10_showing cs a0 p0 i0_13 i0_14 v0_15 p1 i1_0 i1_6 i1_8 i1_10 i1_11 i1_12 v1_1 v1_2 v1_3 v1_4 v1_5 v1_7 v1_9 p2 i2_2 p3 i3_0 i3_1 v3_2 v3_3 p4 i4_3 i4_4 i4_5 i4_6 i4_7 v4_0 v4_1 v4_2) H → va_D (va_A w0 s.heap.size) (W_X10_showing cs a0 p0 i0_13 i0_14 v0_15 p1 i1_0 i1_6 i1_8 i1_10 i1_11 i1_12 v1_1 v1_2 v1_3 v1_4 v1_5 v1_7 v1_9 p2 i2_2 p3 i3_0 i3_1 v3_2 v3_3 p4 i4_3 i4_4 i4_5 i4_6 i4_7 v4_0 v4_1 v4_2) → va_S (va_A w0 s.heap.size) s.heap H locs → lv_has ls 3 [(0, .ref a0), (1, .int x1), (2, .int x2)] → W p l e rm_X10_showing s m av below meth c H locs 1 6 (vx_MQ below (xI D cs w0 (W_X10_showing cs a0 p0 i0_13 i0_14 res.2.2 p1 i1_0 i1_6 i1_8 i1_10 i1_11 i1_12 v1_1 v1_2 v1_3 v1_4 v1_5 v1_7 v1_9 p2 i2_2 p3 i3_0 i3_1 v3_2 v3_3 p4 i4_3 i4_4 i4_5 i4_6 i4_7 v4_0 v4_1 v4_2) res.1 res.2.1 s.heap.size) (xX D cs w0 (W_X10_showing cs a0 p0 i0_13 i0_14 res.2.2 p1 i1_0 i1_6 i1_8 i1_10 i1_11 i1_12 v1_1 v1_2 v1_3 v1_4 v1_5 v1_7 v1_9 p2 i2_2 p3 i3_0 i3_1 v3_2 v3_3 p4 i4_3 i4_4 i4_5 i4_6 i4_7 v4_0 v4_1 v4_2) res.1 s.heap.size) av s 2 12 (va_A w0 s.heap.size)) (F0 m 22 ls [.int t1, .ref a0]) := by
  obtain ⟨hx, hb, hr, hlk, hml, hown, hts, hK, hG, hE⟩ := id C0
  intro v0_15 x1 x2 t1 hf H locs ls hP hD hS hl
  rw [f_X10_showing_b22] at hf
  obtain ⟨q22, hq, hf⟩ := bd_some hf
  refine ow_tVV (As := [.int t1]) (rest := []) (wr := ow_pk (W_X10_showing cs a0 p0 i0_13 i0_14 v0_15 p1 i1_0 i1_6 i1_8 i1_10 i1_11 i1_12 v1_1 v1_2 v1_3 v1_4 v1_5 v1_7 v1_9 p2 i2_2 p3 i3_0 i3_1 v3_2 v3_3 p4 i4_3 i4_4 i4_5 i4_6 i4_7 v4_0 v4_1 v4_2) [2, 3, 4, 5, 6, 7, 8, 9, 10, 11, 12, 13, 14, 15, 16, 17]) (wf := (W_X10_showing cs a0 p0 i0_13 i0_14 q22.2 p1 i1_0 i1_6 i1_8 i1_10 i1_11 i1_12 v1_1 v1_2 v1_3 v1_4 v1_5 v1_7 v1_9 p2 i2_2 p3 i3_0 i3_1 v3_2 v3_3 p4 i4_3 i4_4 i4_5 i4_6 i4_7 v4_0 v4_1 v4_2)) (k := q22.1) C0 T0 (c_X10_need l D cs T0.1 H.size a0 p0 i0_13 i0_14 v0_15 t1 q22 hq) (cwV 1 hts gX10_showing_X10_need rfl rfl rfl (by decide +kernel) ⟨Nat.le_of_ble_eq_true rfl, Nat.le_of_ble_eq_true rfl⟩) 10 rfl rfl hP hD hS (fun q h => Or.inr h) [0, 1] [2, 3, 4, 5, 6, 7, 8, 9, 10, 11, 12, 13, 14, 15, 16, 17] [16, 17, 0, 1, 2, 3, 4, 5, 6, 7, 8, 9, 10, 11, 12, 13, 14, 15] rfl (by decide) rfl (by decide) (by decide) rfl (by decide) rfl hl.1 rfl (Nat.le_of_ble_eq_true rfl) ⟨(Nat.le_of_ble_eq_true rfl), (Nat.le_of_ble_eq_true rfl)⟩ dX10_showing_22 (fun hz => ?_) (Nat.le_of_ble_eq_true rfl) (Nat.le_of_ble_eq_true rfl) (fun hz H locs hP hD hS => ?_)
  · replace hf := ow_f hz hf
    obtain rfl := Option.some.inj hf
    exact ⟨rfl, rfl⟩
  replace hf := ow_t hz hf
  refine lv_aload_n hx hb dX10_showing_25 rfl (lv_at hl 0 rfl) ?_
  refine va_get (D := D) (ci := 10) (v := .ref (p0 7)) (C := RX10) (T := TX10) (N := 16) hx hb hts in_X10_showing_X10 hown hK hP 0 rfl rfl 7 (by decide) (hts (.fieldLink RX10 49 "PaneDays" "gaze" "LPaneDays$Gaze;") (List.mem_of_getElem? (i := 1) rfl)) (fun _ h9 => h9) rfl dX10_showing_26 ?_
  refine lv_aload_n hx hb dX10_showing_29 rfl (lv_at hl 0 rfl) ?_
  refine va_get (D := D) (ci := 10) (v := .ref (p0 9)) (C := RX10) (T := TX10) (N := 16) hx hb hts in_X10_showing_X10 hown hK hP 0 rfl rfl 9 (by decide) (hts (.fieldLink RX10 63 "PaneDays" "past" "LPaneDays$Past;") (List.mem_of_getElem? (i := 2) rfl)) (fun _ h9 => h9) rfl dX10_showing_30 ?_
  refine va_get (D := D) (ci := 4) (v := .ref (p2 0)) (C := RX4) (T := TX4) (N := 3) hx hb hts in_X10_showing_X4 hown hK hP 10 rfl rfl 0 (by decide) (hts (.fieldLink RX10 76 "PaneDays$Past" "now" "LPaneDays$Glass;") (List.mem_of_getElem? (i := 3) rfl)) (fun _ h9 => h9) rfl dX10_showing_33 ?_
  refine lv_iload_n hx hb dX10_showing_36 rfl (lv_at hl 1 rfl) ?_
  refine lv_aload_n hx hb dX10_showing_37 rfl (lv_at hl 0 rfl) ?_
  refine va_get (D := D) (ci := 10) (v := .ref (p0 1)) (C := RX10) (T := TX10) (N := 16) hx hb hts in_X10_showing_X10 hown hK hP 0 rfl rfl 1 (by decide) (hts (.fieldLink RX10 19 "PaneDays" "street" "LPaneDays$Street;") (List.mem_of_getElem? (i := 4) rfl)) (fun _ h9 => h9) rfl dX10_showing_38 ?_
  refine va_get (D := D) (ci := 6) (v := .ref (p1 5)) (C := RX6) (T := TX6) (N := 13) hx hb hts in_X10_showing_X6 hown hK hP 2 rfl rfl 5 (by decide) (hts (.fieldLink RX10 237 "PaneDays$Street" "cells" "[I") (List.mem_of_getElem? (i := 5) rfl)) (fun _ h9 => h9) rfl dX10_showing_41 ?_
  refine lv_iload_n hx hb dX10_showing_44 rfl (lv_at hl 1 rfl) ?_
  obtain ⟨hin, hf⟩ := ck_some hf
  refine va_iald (f := v1_5) hx hb hK hP 7 0 rfl rfl hin dX10_showing_45 ?_
  refine lv_iload_n hx hb dX10_showing_46 rfl (lv_at hl 2 rfl) ?_
  obtain ⟨q47, hq, hf⟩ := bd_some hf
  refine ow_callVI (As := [.ref (p2 0), .int x1, .int (v1_5 (x1).toNatClampNeg), .int x2]) (rest := []) (wr := ow_pk (W_X10_showing cs a0 p0 i0_13 i0_14 q22.2 p1 i1_0 i1_6 i1_8 i1_10 i1_11 i1_12 v1_1 v1_2 v1_3 v1_4 v1_5 v1_7 v1_9 p2 i2_2 p3 i3_0 i3_1 v3_2 v3_3 p4 i4_3 i4_4 i4_5 i4_6 i4_7 v4_0 v4_1 v4_2) [0, 1, 2, 3, 4, 5, 6, 7, 8, 9, 10]) (wf := (W_X10_showing cs a0 p0 i0_13 i0_14 q22.2 p1 i1_0 i1_6 i1_8 i1_10 i1_11 i1_12 v1_1 v1_2 v1_3 v1_4 v1_5 v1_7 v1_9 p2 i2_2 p3 i3_0 i3_1 v3_2 v3_3 p4 i4_3 i4_4 i4_5 i4_6 i4_7 v4_0 v4_1 v4_2)) (r := q47) C0 (c_X1_cellsShowing l D cs H.size (p0 7) p3 i3_0 i3_1 v3_2 v3_3 (p2 0) p4 i4_3 i4_4 i4_5 i4_6 i4_7 v4_0 v4_1 v4_2 x1 (v1_5 (x1).toNatClampNeg) x2 q47 hq) (cwV 4 hts gX10_showing_X1_cellsShowing rfl rfl rfl (by decide +kernel) ⟨Nat.le_of_ble_eq_true rfl, Nat.le_of_ble_eq_true rfl⟩) 1 rfl rfl hP hD hS (fun q h => Or.inr h) [11, 12, 13, 14, 15, 16, 17] [0, 1, 2, 3, 4, 5, 6, 7, 8, 9, 10] [0, 1, 2, 3, 4, 5, 6, 7, 8, 9, 10, 11, 12, 13, 14, 15, 16, 17] rfl (by decide) rfl (by decide) (by decide) rfl (by decide) rfl hl.1 rfl (Nat.le_of_ble_eq_true rfl) ⟨(Nat.le_of_ble_eq_true rfl), (Nat.le_of_ble_eq_true rfl)⟩ dX10_showing_47 (fun H locs hP hD hS => ?_)
  obtain rfl := Option.some.inj hf
  exact ow_tretI C0 rfl hP hD hS (Nat.le_of_ble_eq_true rfl) (Nat.le_of_ble_eq_true rfl) dX10_showing_50
def f_X10_showing_b21  (i1_0 : Int32) (v1_5 : Nat → Int32) (v4_0 : Nat → Int32) (v4_1 : Nat → Int32)  (v0_15 : Nat → Int32) (x1 : Int32) (x2 : Int32) : Option (Nat × Int32 × (Nat → Int32)) := f_X10_showing_b22 i1_0 v1_5 v4_0 v4_1 v0_15 x1 x2 (0)
set_option maxHeartbeats 4000000 in
set_option maxRecDepth 100000 in
theorem w_X10_showing_b21 {p : Program} {l : Launch} {e : Env} {s : State} {m : MethodId} {below : List Frame} {meth : Method} {c : Code} {D : va_G} {cs : Nat → ClassId} {av : Array Value} {w0 : va_W} (C0 : Cx p s m meth c av wsX10_showing cX10_showing 3 (some .int) RX10 D cs w0) (T0 : CxT l s c)  (a0 : Nat) (p0 : Nat → Nat) (i0_13 : Int32) (i0_14 : Int32) (p1 : Nat → Nat) (i1_0 : Int32) (i1_6 : Int32) (i1_8 : Int32) (i1_10 : Int32) (i1_11 : Int32) (i1_12 : Int32) (v1_1 : Nat → Int32) (v1_2 : Nat → Int32) (v1_3 : Nat → Int32) (v1_4 : Nat → Int32) (v1_5 : Nat → Int32) (v1_7 : Nat → Int32) (v1_9 : Nat → Int32) (p2 : Nat → Nat) (i2_2 : Int32) (p3 : Nat → Nat) (i3_0 : Int32) (i3_1 : Int32) (v3_2 : Nat → Int32) (v3_3 : Nat → Int32) (p4 : Nat → Nat) (i4_3 : Int32) (i4_4 : Int32) (i4_5 : Int32) (i4_6 : Int32) (i4_7 : Int32) (v4_0 : Nat → Int32) (v4_1 : Nat → Int32) (v4_2 : Nat → Int32) (res : Nat × Int32 × (Nat → Int32))  : ∀ (v0_15 : Nat → Int32) (x1 : Int32) (x2 : Int32), f_X10_showing_b21 i1_0 v1_5 v4_0 v4_1 v0_15 x1 x2 = some res → ∀ (H : Heap) (locs : List Loc) (ls : Array Slot), va_P D vwCl (W_X10_showing cs a0 p0 i0_13 i0_14 v0_15 p1 i1_0 i1_6 i1_8 i1_10 i1_11 i1_12 v1_1 v1_2 v1_3 v1_4 v1_5 v1_7 v1_9 p2 i2_2 p3 i3_0 i3_1 v3_2 v3_3 p4 i4_3 i4_4 i4_5 i4_6 i4_7 v4_0 v4_1 v4_2) H → va_D (va_A w0 s.heap.size) (W_X10_showing cs a0 p0 i0_13 i0_14 v0_15 p1 i1_0 i1_6 i1_8 i1_10 i1_11 i1_12 v1_1 v1_2 v1_3 v1_4 v1_5 v1_7 v1_9 p2 i2_2 p3 i3_0 i3_1 v3_2 v3_3 p4 i4_3 i4_4 i4_5 i4_6 i4_7 v4_0 v4_1 v4_2) → va_S (va_A w0 s.heap.size) s.heap H locs → lv_has ls 3 [(0, .ref a0), (1, .int x1), (2, .int x2)] → W p l e rm_X10_showing s m av below meth c H locs 1 6 (vx_MQ below (xI D cs w0 (W_X10_showing cs a0 p0 i0_13 i0_14 res.2.2 p1 i1_0 i1_6 i1_8 i1_10 i1_11 i1_12 v1_1 v1_2 v1_3 v1_4 v1_5 v1_7 v1_9 p2 i2_2 p3 i3_0 i3_1 v3_2 v3_3 p4 i4_3 i4_4 i4_5 i4_6 i4_7 v4_0 v4_1 v4_2) res.1 res.2.1 s.heap.size) (xX D cs w0 (W_X10_showing cs a0 p0 i0_13 i0_14 res.2.2 p1 i1_0 i1_6 i1_8 i1_10 i1_11 i1_12 v1_1 v1_2 v1_3 v1_4 v1_5 v1_7 v1_9 p2 i2_2 p3 i3_0 i3_1 v3_2 v3_3 p4 i4_3 i4_4 i4_5 i4_6 i4_7 v4_0 v4_1 v4_2) res.1 s.heap.size) av s 2 12 (va_A w0 s.heap.size)) (F0 m 21 ls [.ref a0]) := by
  obtain ⟨hx, hb, hr, hlk, hml, hown, hts, hK, hG, hE⟩ := id C0
  intro v0_15 x1 x2 hf H locs ls hP hD hS hl
  rw [f_X10_showing_b21] at hf
  refine lv_iconst (v := 0) hx hb dX10_showing_21 (by decide) ?_
  refine W.widen (k := 1) (n := 6) (Nat.le_of_ble_eq_true rfl) (Nat.le_of_ble_eq_true rfl) ?_
  exact w_X10_showing_b22 C0 T0 a0 p0 i0_13 i0_14 p1 i1_0 i1_6 i1_8 i1_10 i1_11 i1_12 v1_1 v1_2 v1_3 v1_4 v1_5 v1_7 v1_9 p2 i2_2 p3 i3_0 i3_1 v3_2 v3_3 p4 i4_3 i4_4 i4_5 i4_6 i4_7 v4_0 v4_1 v4_2 res v0_15 x1 x2 (0) hf _ _ _ hP hD hS (lv_sub hl [0, 1, 2] rfl)
def f_X10_showing  (v0_15 : Nat → Int32) (i1_0 : Int32) (v1_5 : Nat → Int32) (v4_0 : Nat → Int32) (v4_1 : Nat → Int32) (x1 : Int32) (x2 : Int32) : Option (Nat × Int32 × (Nat → Int32)) := (f_X10_needPane v0_15 i1_0 x1).bind fun q2 => if q2.1 = 0 then (if x2 < 0 then (f_X10_showing_b21 i1_0 v1_5 v4_0 v4_1 q2.2 x1 x2) else (if 200 < x2 then (f_X10_showing_b21 i1_0 v1_5 v4_0 v4_1 q2.2 x1 x2) else (f_X10_showing_b22 i1_0 v1_5 v4_0 v4_1 q2.2 x1 x2 (1)))) else (some (q2.1, 0, q2.2))
set_option maxHeartbeats 4000000 in
set_option maxRecDepth 100000 in
theorem c_X10_showing (l : Launch) (D : va_G) (cs : Nat → ClassId) (hl0 : l.stackTraces = false)  (sz : Nat) (a0 : Nat) (p0 : Nat → Nat) (i0_13 : Int32) (i0_14 : Int32) (v0_15 : Nat → Int32) (p1 : Nat → Nat) (i1_0 : Int32) (i1_6 : Int32) (i1_8 : Int32) (i1_10 : Int32) (i1_11 : Int32) (i1_12 : Int32) (v1_1 : Nat → Int32) (v1_2 : Nat → Int32) (v1_3 : Nat → Int32) (v1_4 : Nat → Int32) (v1_5 : Nat → Int32) (v1_7 : Nat → Int32) (v1_9 : Nat → Int32) (p2 : Nat → Nat) (i2_2 : Int32) (p3 : Nat → Nat) (i3_0 : Int32) (i3_1 : Int32) (v3_2 : Nat → Int32) (v3_3 : Nat → Int32) (p4 : Nat → Nat) (i4_3 : Int32) (i4_4 : Int32) (i4_5 : Int32) (i4_6 : Int32) (i4_7 : Int32) (v4_0 : Nat → Int32) (v4_1 : Nat → Int32) (v4_2 : Nat → Int32) (x1 : Int32) (x2 : Int32) (res : Nat × Int32 × (Nat → Int32)) (hf : f_X10_showing  v0_15 i1_0 v1_5 v4_0 v4_1 x1 x2 = some res) : XI l D cs yX10_showing wsX10_showing rm_X10_showing [.ref a0, .int x1, .int x2] sz (W_X10_showing cs a0 p0 i0_13 i0_14 v0_15 p1 i1_0 i1_6 i1_8 i1_10 i1_11 i1_12 v1_1 v1_2 v1_3 v1_4 v1_5 v1_7 v1_9 p2 i2_2 p3 i3_0 i3_1 v3_2 v3_3 p4 i4_3 i4_4 i4_5 i4_6 i4_7 v4_0 v4_1 v4_2) (W_X10_showing cs a0 p0 i0_13 i0_14 res.2.2 p1 i1_0 i1_6 i1_8 i1_10 i1_11 i1_12 v1_1 v1_2 v1_3 v1_4 v1_5 v1_7 v1_9 p2 i2_2 p3 i3_0 i3_1 v3_2 v3_3 p4 i4_3 i4_4 i4_5 i4_6 i4_7 v4_0 v4_1 v4_2) res.1 res.2.1 2 12 := by
  rw [f_X10_showing] at hf
  refine ow_enterT (cc := cX10_showing) (nL := 3) (ret := (some .int)) hl0 (by decide) rfl (Nat.le_of_ble_eq_true rfl) (fun p e s m below meth c ls H locs C0 T0 hP hD hS hA hl => ?_)
  obtain ⟨hx, hb, hr, hlk, hml, hown, hts, hK, hG, hE⟩ := id C0
  have hl : lv_has ls 3 [(0, .ref a0), (1, .int x1), (2, .int x2)] := hl
  refine lv_aload_n hx hb dX10_showing_0 rfl (lv_at hl 0 rfl) ?_
  refine lv_iload_n hx hb dX10_showing_1 rfl (lv_at hl 1 rfl) ?_
  obtain ⟨q2, hq, hf⟩ := bd_some hf
  refine ow_tVV (As := [.int x1]) (rest := []) (wr := ow_pk (W_X10_showing cs a0 p0 i0_13 i0_14 v0_15 p1 i1_0 i1_6 i1_8 i1_10 i1_11 i1_12 v1_1 v1_2 v1_3 v1_4 v1_5 v1_7 v1_9 p2 i2_2 p3 i3_0 i3_1 v3_2 v3_3 p4 i4_3 i4_4 i4_5 i4_6 i4_7 v4_0 v4_1 v4_2) [10, 11, 12, 13, 14, 15, 16, 17]) (wf := (W_X10_showing cs a0 p0 i0_13 i0_14 q2.2 p1 i1_0 i1_6 i1_8 i1_10 i1_11 i1_12 v1_1 v1_2 v1_3 v1_4 v1_5 v1_7 v1_9 p2 i2_2 p3 i3_0 i3_1 v3_2 v3_3 p4 i4_3 i4_4 i4_5 i4_6 i4_7 v4_0 v4_1 v4_2)) (k := q2.1) C0 T0 (c_X10_needPane l D cs T0.1 H.size a0 p0 i0_13 i0_14 v0_15 p1 i1_0 i1_6 i1_8 i1_10 i1_11 i1_12 v1_1 v1_2 v1_3 v1_4 v1_5 v1_7 v1_9 x1 q2 hq) (cwV 1 hts gX10_showing_X10_needPane rfl rfl rfl (by decide +kernel) ⟨Nat.le_of_ble_eq_true rfl, Nat.le_of_ble_eq_true rfl⟩) 10 rfl rfl hP hD hS (fun q h => Or.inr h) [0, 1, 2, 3, 4, 5, 6, 7, 8, 9] [10, 11, 12, 13, 14, 15, 16, 17] [8, 9, 10, 11, 12, 13, 14, 15, 16, 17, 0, 1, 2, 3, 4, 5, 6, 7] rfl (by decide) rfl (by decide) (by decide) rfl (by decide) rfl hl.1 rfl (Nat.le_of_ble_eq_true rfl) ⟨(Nat.le_of_ble_eq_true rfl), (Nat.le_of_ble_eq_true rfl)⟩ dX10_showing_2 (fun hz => ?_) (Nat.le_of_ble_eq_true rfl) (Nat.le_of_ble_eq_true rfl) (fun hz H locs hP hD hS => ?_)
  · replace hf := ow_f hz hf
    obtain rfl := Option.some.inj hf
    exact ⟨rfl, rfl⟩
  replace hf := ow_t hz hf
  refine lv_aload_n hx hb dX10_showing_5 rfl (lv_at hl 0 rfl) ?_
  refine lv_iload_n hx hb dX10_showing_6 rfl (lv_at hl 2 rfl) ?_
  refine lv_if_lt (tgt := 21) hx hb dX10_showing_7 (by decide) (fun hc => ?_) (fun hc => ?_)
  · replace hf := ow_t hc hf
    refine W.widen (k := 1) (n := 6) (Nat.le_of_ble_eq_true rfl) (Nat.le_of_ble_eq_true rfl) ?_
    exact w_X10_showing_b21 C0 T0 a0 p0 i0_13 i0_14 p1 i1_0 i1_6 i1_8 i1_10 i1_11 i1_12 v1_1 v1_2 v1_3 v1_4 v1_5 v1_7 v1_9 p2 i2_2 p3 i3_0 i3_1 v3_2 v3_3 p4 i4_3 i4_4 i4_5 i4_6 i4_7 v4_0 v4_1 v4_2 res q2.2 x1 x2 hf _ _ _ hP hD hS (lv_sub hl [0, 1, 2] rfl)
  · replace hf := ow_f hc hf
    refine lv_iload_n hx hb dX10_showing_10 rfl (lv_at hl 2 rfl) ?_
    refine lv_sipush (v := 200) hx hb dX10_showing_11 (by decide) ?_
    refine lv_icmp_gt (tgt := 21) hx hb dX10_showing_14 (by decide) (fun hc => ?_) (fun hc => ?_)
    · replace hf := ow_t hc hf
      refine W.widen (k := 1) (n := 6) (Nat.le_of_ble_eq_true rfl) (Nat.le_of_ble_eq_true rfl) ?_
      exact w_X10_showing_b21 C0 T0 a0 p0 i0_13 i0_14 p1 i1_0 i1_6 i1_8 i1_10 i1_11 i1_12 v1_1 v1_2 v1_3 v1_4 v1_5 v1_7 v1_9 p2 i2_2 p3 i3_0 i3_1 v3_2 v3_3 p4 i4_3 i4_4 i4_5 i4_6 i4_7 v4_0 v4_1 v4_2 res q2.2 x1 x2 hf _ _ _ hP hD hS (lv_sub hl [0, 1, 2] rfl)
    · replace hf := ow_f hc hf
      refine lv_iconst (v := 1) hx hb dX10_showing_17 (by decide) ?_
      refine lv_goto (tgt := 22) hx hb dX10_showing_18 (by decide) ?_
      refine W.widen (k := 1) (n := 6) (Nat.le_of_ble_eq_true rfl) (Nat.le_of_ble_eq_true rfl) ?_
      exact w_X10_showing_b22 C0 T0 a0 p0 i0_13 i0_14 p1 i1_0 i1_6 i1_8 i1_10 i1_11 i1_12 v1_1 v1_2 v1_3 v1_4 v1_5 v1_7 v1_9 p2 i2_2 p3 i3_0 i3_1 v3_2 v3_3 p4 i4_3 i4_4 i4_5 i4_6 i4_7 v4_0 v4_1 v4_2 res q2.2 x1 x2 (1) hf _ _ _ hP hD hS (lv_sub hl [0, 1, 2] rfl)
theorem in_X10_have_X10 : ∀ w ∈ u_ws RX10 TX10 16, w ∈ wsX10_have := by decide +kernel
theorem in_X10_have_X4 : ∀ w ∈ u_ws RX4 TX4 3, w ∈ wsX10_have := by decide +kernel
abbrev W_X10_have (cs : Nat → ClassId) (a0 : Nat) (p0 : Nat → Nat) (i0_13 : Int32) (i0_14 : Int32) (v0_15 : Nat → Int32) (p1 : Nat → Nat) (i1_0 : Int32) (i1_6 : Int32) (i1_8 : Int32) (i1_10 : Int32) (i1_11 : Int32) (i1_12 : Int32) (v1_1 : Nat → Int32) (v1_2 : Nat → Int32) (v1_3 : Nat → Int32) (v1_4 : Nat → Int32) (v1_5 : Nat → Int32) (v1_7 : Nat → Int32) (v1_9 : Nat → Int32) (p2 : Nat → Nat) (i2_2 : Int32) (p3 : Nat → Nat) (i3_0 : Int32) (i3_1 : Int32) (v3_2 : Nat → Int32) (v3_3 : Nat → Int32) (p4 : Nat → Nat) (i4_3 : Int32) (i4_4 : Int32) (i4_5 : Int32) (i4_6 : Int32) (i4_7 : Int32) (v4_0 : Nat → Int32) (v4_1 : Nat → Int32) (v4_2 : Nat → Int32) : va_W := wX10 cs a0 p0 i0_13 i0_14 v0_15 ++ wX6 cs (p0 1) p1 i1_0 i1_6 i1_8 i1_10 i1_11 i1_12 v1_1 v1_2 v1_3 v1_4 v1_5 v1_7 v1_9 ++ wX4 cs (p0 9) p2 i2_2 ++ wX1 cs (p0 7) p3 i3_0 i3_1 v3_2 v3_3 ++ wX2 cs (p2 0) p4 i4_3 i4_4 i4_5 i4_6 i4_7 v4_0 v4_1 v4_2
abbrev rm_X10_have : Room := { frames := 7, cells := 2, slots := 12, locals := 102 }
def f_X10_have_b23  (i1_0 : Int32) (v4_0 : Nat → Int32) (v4_1 : Nat → Int32)  (v0_15 : Nat → Int32) (x1 : Int32) (x2 : Int32) (t1 : Int32) : Option (Nat × Int32 × (Nat → Int32)) := (f_X10_need v0_15 t1).bind fun q23 => if q23.1 = 0 then ((f_X1_cellsHaving v4_0 v4_1 x1 x2).bind fun q39 => some (0, q39, q23.2)) else (some (q23.1, 0, q23.2))
set_option maxHeartbeats 4000000 in
set_option maxRecDepth 100000 in
theorem w_X10_have_b23 {p : Program} {l : Launch} {e : Env} {s : State} {m : MethodId} {below : List Frame} {meth : Method} {c : Code} {D : va_G} {cs : Nat → ClassId} {av : Array Value} {w0 : va_W} (C0 : Cx p s m meth c av wsX10_have cX10_have 3 (some .int) RX10 D cs w0) (T0 : CxT l s c)  (a0 : Nat) (p0 : Nat → Nat) (i0_13 : Int32) (i0_14 : Int32) (p1 : Nat → Nat) (i1_0 : Int32) (i1_6 : Int32) (i1_8 : Int32) (i1_10 : Int32) (i1_11 : Int32) (i1_12 : Int32) (v1_1 : Nat → Int32) (v1_2 : Nat → Int32) (v1_3 : Nat → Int32) (v1_4 : Nat → Int32) (v1_5 : Nat → Int32) (v1_7 : Nat → Int32) (v1_9 : Nat → Int32) (p2 : Nat → Nat) (i2_2 : Int32) (p3 : Nat → Nat) (i3_0 : Int32) (i3_1 : Int32) (v3_2 : Nat → Int32) (v3_3 : Nat → Int32) (p4 : Nat → Nat) (i4_3 : Int32) (i4_4 : Int32) (i4_5 : Int32) (i4_6 : Int32) (i4_7 : Int32) (v4_0 : Nat → Int32) (v4_1 : Nat → Int32) (v4_2 : Nat → Int32) (res : Nat × Int32 × (Nat → Int32))  : ∀ (v0_15 : Nat → Int32) (x1 : Int32) (x2 : Int32) (t1 : Int32), f_X10_have_b23 i1_0 v4_0 v4_1 v0_15 x1 x2 t1 = some res → ∀ (H : Heap) (locs : List Loc) (ls : Array Slot), va_P D vwCl (W_X10_have cs a0 p0 i0_13 i0_14 v0_15 p1 i1_0 i1_6 i1_8 i1_10 i1_11 i1_12 v1_1 v1_2 v1_3 v1_4 v1_5 v1_7 v1_9 p2 i2_2 p3 i3_0 i3_1 v3_2 v3_3 p4 i4_3 i4_4 i4_5 i4_6 i4_7 v4_0 v4_1 v4_2) H → va_D (va_A w0 s.heap.size) (W_X10_have cs a0 p0 i0_13 i0_14 v0_15 p1 i1_0 i1_6 i1_8 i1_10 i1_11 i1_12 v1_1 v1_2 v1_3 v1_4 v1_5 v1_7 v1_9 p2 i2_2 p3 i3_0 i3_1 v3_2 v3_3 p4 i4_3 i4_4 i4_5 i4_6 i4_7 v4_0 v4_1 v4_2) → va_S (va_A w0 s.heap.size) s.heap H locs → lv_has ls 3 [(0, .ref a0), (1, .int x1), (2, .int x2)] → W p l e rm_X10_have s m av below meth c H locs 1 6 (vx_MQ below (xI D cs w0 (W_X10_have cs a0 p0 i0_13 i0_14 res.2.2 p1 i1_0 i1_6 i1_8 i1_10 i1_11 i1_12 v1_1 v1_2 v1_3 v1_4 v1_5 v1_7 v1_9 p2 i2_2 p3 i3_0 i3_1 v3_2 v3_3 p4 i4_3 i4_4 i4_5 i4_6 i4_7 v4_0 v4_1 v4_2) res.1 res.2.1 s.heap.size) (xX D cs w0 (W_X10_have cs a0 p0 i0_13 i0_14 res.2.2 p1 i1_0 i1_6 i1_8 i1_10 i1_11 i1_12 v1_1 v1_2 v1_3 v1_4 v1_5 v1_7 v1_9 p2 i2_2 p3 i3_0 i3_1 v3_2 v3_3 p4 i4_3 i4_4 i4_5 i4_6 i4_7 v4_0 v4_1 v4_2) res.1 s.heap.size) av s 2 12 (va_A w0 s.heap.size)) (F0 m 23 ls [.int t1, .ref a0]) := by
  obtain ⟨hx, hb, hr, hlk, hml, hown, hts, hK, hG, hE⟩ := id C0
  intro v0_15 x1 x2 t1 hf H locs ls hP hD hS hl
  rw [f_X10_have_b23] at hf
  obtain ⟨q23, hq, hf⟩ := bd_some hf
  refine ow_tVV (As := [.int t1]) (rest := []) (wr := ow_pk (W_X10_have cs a0 p0 i0_13 i0_14 v0_15 p1 i1_0 i1_6 i1_8 i1_10 i1_11 i1_12 v1_1 v1_2 v1_3 v1_4 v1_5 v1_7 v1_9 p2 i2_2 p3 i3_0 i3_1 v3_2 v3_3 p4 i4_3 i4_4 i4_5 i4_6 i4_7 v4_0 v4_1 v4_2) [2, 3, 4, 5, 6, 7, 8, 9, 10, 11, 12, 13, 14, 15, 16, 17]) (wf := (W_X10_have cs a0 p0 i0_13 i0_14 q23.2 p1 i1_0 i1_6 i1_8 i1_10 i1_11 i1_12 v1_1 v1_2 v1_3 v1_4 v1_5 v1_7 v1_9 p2 i2_2 p3 i3_0 i3_1 v3_2 v3_3 p4 i4_3 i4_4 i4_5 i4_6 i4_7 v4_0 v4_1 v4_2)) (k := q23.1) C0 T0 (c_X10_need l D cs T0.1 H.size a0 p0 i0_13 i0_14 v0_15 t1 q23 hq) (cwV 1 hts gX10_have_X10_need rfl rfl rfl (by decide +kernel) ⟨Nat.le_of_ble_eq_true rfl, Nat.le_of_ble_eq_true rfl⟩) 10 rfl rfl hP hD hS (fun q h => Or.inr h) [0, 1] [2, 3, 4, 5, 6, 7, 8, 9, 10, 11, 12, 13, 14, 15, 16, 17] [16, 17, 0, 1, 2, 3, 4, 5, 6, 7, 8, 9, 10, 11, 12, 13, 14, 15] rfl (by decide) rfl (by decide) (by decide) rfl (by decide) rfl hl.1 rfl (Nat.le_of_ble_eq_true rfl) ⟨(Nat.le_of_ble_eq_true rfl), (Nat.le_of_ble_eq_true rfl)⟩ dX10_have_23 (fun hz => ?_) (Nat.le_of_ble_eq_true rfl) (Nat.le_of_ble_eq_true rfl) (fun hz H locs hP hD hS => ?_)
  · replace hf := ow_f hz hf
    obtain rfl := Option.some.inj hf
    exact ⟨rfl, rfl⟩
  replace hf := ow_t hz hf
  refine lv_aload_n hx hb dX10_have_26 rfl (lv_at hl 0 rfl) ?_
  refine va_get (D := D) (ci := 10) (v := .ref (p0 7)) (C := RX10) (T := TX10) (N := 16) hx hb hts in_X10_have_X10 hown hK hP 0 rfl rfl 7 (by decide) (hts (.fieldLink RX10 49 "PaneDays" "gaze" "LPaneDays$Gaze;") (List.mem_of_getElem? (i := 1) rfl)) (fun _ h9 => h9) rfl dX10_have_27 ?_
  refine lv_aload_n hx hb dX10_have_30 rfl (lv_at hl 0 rfl) ?_
  refine va_get (D := D) (ci := 10) (v := .ref (p0 9)) (C := RX10) (T := TX10) (N := 16) hx hb hts in_X10_have_X10 hown hK hP 0 rfl rfl 9 (by decide) (hts (.fieldLink RX10 63 "PaneDays" "past" "LPaneDays$Past;") (List.mem_of_getElem? (i := 2) rfl)) (fun _ h9 => h9) rfl dX10_have_31 ?_
  refine va_get (D := D) (ci := 4) (v := .ref (p2 0)) (C := RX4) (T := TX4) (N := 3) hx hb hts in_X10_have_X4 hown hK hP 10 rfl rfl 0 (by decide) (hts (.fieldLink RX10 76 "PaneDays$Past" "now" "LPaneDays$Glass;") (List.mem_of_getElem? (i := 3) rfl)) (fun _ h9 => h9) rfl dX10_have_34 ?_
  refine lv_iload_n hx hb dX10_have_37 rfl (lv_at hl 1 rfl) ?_
  refine lv_iload_n hx hb dX10_have_38 rfl (lv_at hl 2 rfl) ?_
  obtain ⟨q39, hq, hf⟩ := bd_some hf
  refine ow_callVI (As := [.ref (p2 0), .int x1, .int x2]) (rest := []) (wr := ow_pk (W_X10_have cs a0 p0 i0_13 i0_14 q23.2 p1 i1_0 i1_6 i1_8 i1_10 i1_11 i1_12 v1_1 v1_2 v1_3 v1_4 v1_5 v1_7 v1_9 p2 i2_2 p3 i3_0 i3_1 v3_2 v3_3 p4 i4_3 i4_4 i4_5 i4_6 i4_7 v4_0 v4_1 v4_2) [0, 1, 2, 3, 4, 5, 6, 7, 8, 9, 10]) (wf := (W_X10_have cs a0 p0 i0_13 i0_14 q23.2 p1 i1_0 i1_6 i1_8 i1_10 i1_11 i1_12 v1_1 v1_2 v1_3 v1_4 v1_5 v1_7 v1_9 p2 i2_2 p3 i3_0 i3_1 v3_2 v3_3 p4 i4_3 i4_4 i4_5 i4_6 i4_7 v4_0 v4_1 v4_2)) (r := q39) C0 (c_X1_cellsHaving l D cs H.size (p0 7) p3 i3_0 i3_1 v3_2 v3_3 (p2 0) p4 i4_3 i4_4 i4_5 i4_6 i4_7 v4_0 v4_1 v4_2 x1 x2 q39 hq) (cwV 3 hts gX10_have_X1_cellsHaving rfl rfl rfl (by decide +kernel) ⟨Nat.le_of_ble_eq_true rfl, Nat.le_of_ble_eq_true rfl⟩) 1 rfl rfl hP hD hS (fun q h => Or.inr h) [11, 12, 13, 14, 15, 16, 17] [0, 1, 2, 3, 4, 5, 6, 7, 8, 9, 10] [0, 1, 2, 3, 4, 5, 6, 7, 8, 9, 10, 11, 12, 13, 14, 15, 16, 17] rfl (by decide) rfl (by decide) (by decide) rfl (by decide) rfl hl.1 rfl (Nat.le_of_ble_eq_true rfl) ⟨(Nat.le_of_ble_eq_true rfl), (Nat.le_of_ble_eq_true rfl)⟩ dX10_have_39 (fun H locs hP hD hS => ?_)
  obtain rfl := Option.some.inj hf
  exact ow_tretI C0 rfl hP hD hS (Nat.le_of_ble_eq_true rfl) (Nat.le_of_ble_eq_true rfl) dX10_have_42
def f_X10_have_b22  (i1_0 : Int32) (v4_0 : Nat → Int32) (v4_1 : Nat → Int32)  (v0_15 : Nat → Int32) (x1 : Int32) (x2 : Int32) : Option (Nat × Int32 × (Nat → Int32)) := f_X10_have_b23 i1_0 v4_0 v4_1 v0_15 x1 x2 (0)
set_option maxHeartbeats 4000000 in
set_option maxRecDepth 100000 in
theorem w_X10_have_b22 {p : Program} {l : Launch} {e : Env} {s : State} {m : MethodId} {below : List Frame} {meth : Method} {c : Code} {D : va_G} {cs : Nat → ClassId} {av : Array Value} {w0 : va_W} (C0 : Cx p s m meth c av wsX10_have cX10_have 3 (some .int) RX10 D cs w0) (T0 : CxT l s c)  (a0 : Nat) (p0 : Nat → Nat) (i0_13 : Int32) (i0_14 : Int32) (p1 : Nat → Nat) (i1_0 : Int32) (i1_6 : Int32) (i1_8 : Int32) (i1_10 : Int32) (i1_11 : Int32) (i1_12 : Int32) (v1_1 : Nat → Int32) (v1_2 : Nat → Int32) (v1_3 : Nat → Int32) (v1_4 : Nat → Int32) (v1_5 : Nat → Int32) (v1_7 : Nat → Int32) (v1_9 : Nat → Int32) (p2 : Nat → Nat) (i2_2 : Int32) (p3 : Nat → Nat) (i3_0 : Int32) (i3_1 : Int32) (v3_2 : Nat → Int32) (v3_3 : Nat → Int32) (p4 : Nat → Nat) (i4_3 : Int32) (i4_4 : Int32) (i4_5 : Int32) (i4_6 : Int32) (i4_7 : Int32) (v4_0 : Nat → Int32) (v4_1 : Nat → Int32) (v4_2 : Nat → Int32) (res : Nat × Int32 × (Nat → Int32))  : ∀ (v0_15 : Nat → Int32) (x1 : Int32) (x2 : Int32), f_X10_have_b22 i1_0 v4_0 v4_1 v0_15 x1 x2 = some res → ∀ (H : Heap) (locs : List Loc) (ls : Array Slot), va_P D vwCl (W_X10_have cs a0 p0 i0_13 i0_14 v0_15 p1 i1_0 i1_6 i1_8 i1_10 i1_11 i1_12 v1_1 v1_2 v1_3 v1_4 v1_5 v1_7 v1_9 p2 i2_2 p3 i3_0 i3_1 v3_2 v3_3 p4 i4_3 i4_4 i4_5 i4_6 i4_7 v4_0 v4_1 v4_2) H → va_D (va_A w0 s.heap.size) (W_X10_have cs a0 p0 i0_13 i0_14 v0_15 p1 i1_0 i1_6 i1_8 i1_10 i1_11 i1_12 v1_1 v1_2 v1_3 v1_4 v1_5 v1_7 v1_9 p2 i2_2 p3 i3_0 i3_1 v3_2 v3_3 p4 i4_3 i4_4 i4_5 i4_6 i4_7 v4_0 v4_1 v4_2) → va_S (va_A w0 s.heap.size) s.heap H locs → lv_has ls 3 [(0, .ref a0), (1, .int x1), (2, .int x2)] → W p l e rm_X10_have s m av below meth c H locs 1 6 (vx_MQ below (xI D cs w0 (W_X10_have cs a0 p0 i0_13 i0_14 res.2.2 p1 i1_0 i1_6 i1_8 i1_10 i1_11 i1_12 v1_1 v1_2 v1_3 v1_4 v1_5 v1_7 v1_9 p2 i2_2 p3 i3_0 i3_1 v3_2 v3_3 p4 i4_3 i4_4 i4_5 i4_6 i4_7 v4_0 v4_1 v4_2) res.1 res.2.1 s.heap.size) (xX D cs w0 (W_X10_have cs a0 p0 i0_13 i0_14 res.2.2 p1 i1_0 i1_6 i1_8 i1_10 i1_11 i1_12 v1_1 v1_2 v1_3 v1_4 v1_5 v1_7 v1_9 p2 i2_2 p3 i3_0 i3_1 v3_2 v3_3 p4 i4_3 i4_4 i4_5 i4_6 i4_7 v4_0 v4_1 v4_2) res.1 s.heap.size) av s 2 12 (va_A w0 s.heap.size)) (F0 m 22 ls [.ref a0]) := by
  obtain ⟨hx, hb, hr, hlk, hml, hown, hts, hK, hG, hE⟩ := id C0
  intro v0_15 x1 x2 hf H locs ls hP hD hS hl
  rw [f_X10_have_b22] at hf
  refine lv_iconst (v := 0) hx hb dX10_have_22 (by decide) ?_
  refine W.widen (k := 1) (n := 6) (Nat.le_of_ble_eq_true rfl) (Nat.le_of_ble_eq_true rfl) ?_
  exact w_X10_have_b23 C0 T0 a0 p0 i0_13 i0_14 p1 i1_0 i1_6 i1_8 i1_10 i1_11 i1_12 v1_1 v1_2 v1_3 v1_4 v1_5 v1_7 v1_9 p2 i2_2 p3 i3_0 i3_1 v3_2 v3_3 p4 i4_3 i4_4 i4_5 i4_6 i4_7 v4_0 v4_1 v4_2 res v0_15 x1 x2 (0) hf _ _ _ hP hD hS (lv_sub hl [0, 1, 2] rfl)
def f_X10_have  (v0_15 : Nat → Int32) (i1_0 : Int32) (v4_0 : Nat → Int32) (v4_1 : Nat → Int32) (x1 : Int32) (x2 : Int32) : Option (Nat × Int32 × (Nat → Int32)) := (f_X10_needPane v0_15 i1_0 x1).bind fun q2 => if q2.1 = 0 then (if x2 < 1 then (f_X10_have_b22 i1_0 v4_0 v4_1 q2.2 x1 x2) else (if 200 < x2 then (f_X10_have_b22 i1_0 v4_0 v4_1 q2.2 x1 x2) else (f_X10_have_b23 i1_0 v4_0 v4_1 q2.2 x1 x2 (1)))) else (some (q2.1, 0, q2.2))
set_option maxHeartbeats 4000000 in
set_option maxRecDepth 100000 in
theorem c_X10_have (l : Launch) (D : va_G) (cs : Nat → ClassId) (hl0 : l.stackTraces = false)  (sz : Nat) (a0 : Nat) (p0 : Nat → Nat) (i0_13 : Int32) (i0_14 : Int32) (v0_15 : Nat → Int32) (p1 : Nat → Nat) (i1_0 : Int32) (i1_6 : Int32) (i1_8 : Int32) (i1_10 : Int32) (i1_11 : Int32) (i1_12 : Int32) (v1_1 : Nat → Int32) (v1_2 : Nat → Int32) (v1_3 : Nat → Int32) (v1_4 : Nat → Int32) (v1_5 : Nat → Int32) (v1_7 : Nat → Int32) (v1_9 : Nat → Int32) (p2 : Nat → Nat) (i2_2 : Int32) (p3 : Nat → Nat) (i3_0 : Int32) (i3_1 : Int32) (v3_2 : Nat → Int32) (v3_3 : Nat → Int32) (p4 : Nat → Nat) (i4_3 : Int32) (i4_4 : Int32) (i4_5 : Int32) (i4_6 : Int32) (i4_7 : Int32) (v4_0 : Nat → Int32) (v4_1 : Nat → Int32) (v4_2 : Nat → Int32) (x1 : Int32) (x2 : Int32) (res : Nat × Int32 × (Nat → Int32)) (hf : f_X10_have  v0_15 i1_0 v4_0 v4_1 x1 x2 = some res) : XI l D cs yX10_have wsX10_have rm_X10_have [.ref a0, .int x1, .int x2] sz (W_X10_have cs a0 p0 i0_13 i0_14 v0_15 p1 i1_0 i1_6 i1_8 i1_10 i1_11 i1_12 v1_1 v1_2 v1_3 v1_4 v1_5 v1_7 v1_9 p2 i2_2 p3 i3_0 i3_1 v3_2 v3_3 p4 i4_3 i4_4 i4_5 i4_6 i4_7 v4_0 v4_1 v4_2) (W_X10_have cs a0 p0 i0_13 i0_14 res.2.2 p1 i1_0 i1_6 i1_8 i1_10 i1_11 i1_12 v1_1 v1_2 v1_3 v1_4 v1_5 v1_7 v1_9 p2 i2_2 p3 i3_0 i3_1 v3_2 v3_3 p4 i4_3 i4_4 i4_5 i4_6 i4_7 v4_0 v4_1 v4_2) res.1 res.2.1 2 12 := by
  rw [f_X10_have] at hf
  refine ow_enterT (cc := cX10_have) (nL := 3) (ret := (some .int)) hl0 (by decide) rfl (Nat.le_of_ble_eq_true rfl) (fun p e s m below meth c ls H locs C0 T0 hP hD hS hA hl => ?_)
  obtain ⟨hx, hb, hr, hlk, hml, hown, hts, hK, hG, hE⟩ := id C0
  have hl : lv_has ls 3 [(0, .ref a0), (1, .int x1), (2, .int x2)] := hl
  refine lv_aload_n hx hb dX10_have_0 rfl (lv_at hl 0 rfl) ?_
  refine lv_iload_n hx hb dX10_have_1 rfl (lv_at hl 1 rfl) ?_
  obtain ⟨q2, hq, hf⟩ := bd_some hf
  refine ow_tVV (As := [.int x1]) (rest := []) (wr := ow_pk (W_X10_have cs a0 p0 i0_13 i0_14 v0_15 p1 i1_0 i1_6 i1_8 i1_10 i1_11 i1_12 v1_1 v1_2 v1_3 v1_4 v1_5 v1_7 v1_9 p2 i2_2 p3 i3_0 i3_1 v3_2 v3_3 p4 i4_3 i4_4 i4_5 i4_6 i4_7 v4_0 v4_1 v4_2) [10, 11, 12, 13, 14, 15, 16, 17]) (wf := (W_X10_have cs a0 p0 i0_13 i0_14 q2.2 p1 i1_0 i1_6 i1_8 i1_10 i1_11 i1_12 v1_1 v1_2 v1_3 v1_4 v1_5 v1_7 v1_9 p2 i2_2 p3 i3_0 i3_1 v3_2 v3_3 p4 i4_3 i4_4 i4_5 i4_6 i4_7 v4_0 v4_1 v4_2)) (k := q2.1) C0 T0 (c_X10_needPane l D cs T0.1 H.size a0 p0 i0_13 i0_14 v0_15 p1 i1_0 i1_6 i1_8 i1_10 i1_11 i1_12 v1_1 v1_2 v1_3 v1_4 v1_5 v1_7 v1_9 x1 q2 hq) (cwV 1 hts gX10_have_X10_needPane rfl rfl rfl (by decide +kernel) ⟨Nat.le_of_ble_eq_true rfl, Nat.le_of_ble_eq_true rfl⟩) 10 rfl rfl hP hD hS (fun q h => Or.inr h) [0, 1, 2, 3, 4, 5, 6, 7, 8, 9] [10, 11, 12, 13, 14, 15, 16, 17] [8, 9, 10, 11, 12, 13, 14, 15, 16, 17, 0, 1, 2, 3, 4, 5, 6, 7] rfl (by decide) rfl (by decide) (by decide) rfl (by decide) rfl hl.1 rfl (Nat.le_of_ble_eq_true rfl) ⟨(Nat.le_of_ble_eq_true rfl), (Nat.le_of_ble_eq_true rfl)⟩ dX10_have_2 (fun hz => ?_) (Nat.le_of_ble_eq_true rfl) (Nat.le_of_ble_eq_true rfl) (fun hz H locs hP hD hS => ?_)
  · replace hf := ow_f hz hf
    obtain rfl := Option.some.inj hf
    exact ⟨rfl, rfl⟩
  replace hf := ow_t hz hf
  refine lv_aload_n hx hb dX10_have_5 rfl (lv_at hl 0 rfl) ?_
  refine lv_iload_n hx hb dX10_have_6 rfl (lv_at hl 2 rfl) ?_
  refine lv_iconst (v := 1) hx hb dX10_have_7 (by decide) ?_
  refine lv_icmp_lt (tgt := 22) hx hb dX10_have_8 (by decide) (fun hc => ?_) (fun hc => ?_)
  · replace hf := ow_t hc hf
    refine W.widen (k := 1) (n := 6) (Nat.le_of_ble_eq_true rfl) (Nat.le_of_ble_eq_true rfl) ?_
    exact w_X10_have_b22 C0 T0 a0 p0 i0_13 i0_14 p1 i1_0 i1_6 i1_8 i1_10 i1_11 i1_12 v1_1 v1_2 v1_3 v1_4 v1_5 v1_7 v1_9 p2 i2_2 p3 i3_0 i3_1 v3_2 v3_3 p4 i4_3 i4_4 i4_5 i4_6 i4_7 v4_0 v4_1 v4_2 res q2.2 x1 x2 hf _ _ _ hP hD hS (lv_sub hl [0, 1, 2] rfl)
  · replace hf := ow_f hc hf
    refine lv_iload_n hx hb dX10_have_11 rfl (lv_at hl 2 rfl) ?_
    refine lv_sipush (v := 200) hx hb dX10_have_12 (by decide) ?_
    refine lv_icmp_gt (tgt := 22) hx hb dX10_have_15 (by decide) (fun hc => ?_) (fun hc => ?_)
    · replace hf := ow_t hc hf
      refine W.widen (k := 1) (n := 6) (Nat.le_of_ble_eq_true rfl) (Nat.le_of_ble_eq_true rfl) ?_
      exact w_X10_have_b22 C0 T0 a0 p0 i0_13 i0_14 p1 i1_0 i1_6 i1_8 i1_10 i1_11 i1_12 v1_1 v1_2 v1_3 v1_4 v1_5 v1_7 v1_9 p2 i2_2 p3 i3_0 i3_1 v3_2 v3_3 p4 i4_3 i4_4 i4_5 i4_6 i4_7 v4_0 v4_1 v4_2 res q2.2 x1 x2 hf _ _ _ hP hD hS (lv_sub hl [0, 1, 2] rfl)
    · replace hf := ow_f hc hf
      refine lv_iconst (v := 1) hx hb dX10_have_18 (by decide) ?_
      refine lv_goto (tgt := 23) hx hb dX10_have_19 (by decide) ?_
      refine W.widen (k := 1) (n := 6) (Nat.le_of_ble_eq_true rfl) (Nat.le_of_ble_eq_true rfl) ?_
      exact w_X10_have_b23 C0 T0 a0 p0 i0_13 i0_14 p1 i1_0 i1_6 i1_8 i1_10 i1_11 i1_12 v1_1 v1_2 v1_3 v1_4 v1_5 v1_7 v1_9 p2 i2_2 p3 i3_0 i3_1 v3_2 v3_3 p4 i4_3 i4_4 i4_5 i4_6 i4_7 v4_0 v4_1 v4_2 res q2.2 x1 x2 (1) hf _ _ _ hP hD hS (lv_sub hl [0, 1, 2] rfl)
theorem in_X10_films_X10 : ∀ w ∈ u_ws RX10 TX10 16, w ∈ wsX10_films := by decide +kernel
theorem in_X10_films_X2 : ∀ w ∈ u_ws RX2 TX2 8, w ∈ wsX10_films := by decide +kernel
theorem in_X10_films_X4 : ∀ w ∈ u_ws RX4 TX4 3, w ∈ wsX10_films := by decide +kernel
abbrev W_X10_films (cs : Nat → ClassId) (a0 : Nat) (p0 : Nat → Nat) (i0_13 : Int32) (i0_14 : Int32) (v0_15 : Nat → Int32) (p1 : Nat → Nat) (i1_2 : Int32) (p2 : Nat → Nat) (i2_3 : Int32) (i2_4 : Int32) (i2_5 : Int32) (i2_6 : Int32) (i2_7 : Int32) (v2_0 : Nat → Int32) (v2_1 : Nat → Int32) (v2_2 : Nat → Int32) : va_W := wX10 cs a0 p0 i0_13 i0_14 v0_15 ++ wX4 cs (p0 9) p1 i1_2 ++ wX2 cs (p1 0) p2 i2_3 i2_4 i2_5 i2_6 i2_7 v2_0 v2_1 v2_2
abbrev rm_X10_films : Room := { frames := 8, cells := 2, slots := 12, locals := 124 }
def f_X10_films_b18  (v2_0 : Nat → Int32) (v2_1 : Nat → Int32) (v2_2 : Nat → Int32)  (v0_15 : Nat → Int32) (x1 : Int32) (x2 : Int32) (t1 : Int32) : Option (Nat × Int32 × (Nat → Int32)) := (f_X10_need v0_15 t1).bind fun q18 => if q18.1 = 0 then ((f_X10_needWhat q18.2 x2 (1)).bind fun q24 => if q24.1 = 0 then (if x2 = 0 then (ck x1 201 (some (0, v2_2 (x1).toNatClampNeg, q24.2))) else ((f_X2_filmsOf v2_0 v2_1 x1).bind fun q54 => some (0, q54, q24.2))) else (some (q24.1, 0, q24.2))) else (some (q18.1, 0, q18.2))
set_option maxHeartbeats 4000000 in
set_option maxRecDepth 100000 in
theorem w_X10_films_b18 {p : Program} {l : Launch} {e : Env} {s : State} {m : MethodId} {below : List Frame} {meth : Method} {c : Code} {D : va_G} {cs : Nat → ClassId} {av : Array Value} {w0 : va_W} (C0 : Cx p s m meth c av wsX10_films cX10_films 3 (some .int) RX10 D cs w0) (T0 : CxT l s c)  (a0 : Nat) (p0 : Nat → Nat) (i0_13 : Int32) (i0_14 : Int32) (p1 : Nat → Nat) (i1_2 : Int32) (p2 : Nat → Nat) (i2_3 : Int32) (i2_4 : Int32) (i2_5 : Int32) (i2_6 : Int32) (i2_7 : Int32) (v2_0 : Nat → Int32) (v2_1 : Nat → Int32) (v2_2 : Nat → Int32) (res : Nat × Int32 × (Nat → Int32))  : ∀ (v0_15 : Nat → Int32) (x1 : Int32) (x2 : Int32) (t1 : Int32), f_X10_films_b18 v2_0 v2_1 v2_2 v0_15 x1 x2 t1 = some res → ∀ (H : Heap) (locs : List Loc) (ls : Array Slot), va_P D vwCl (W_X10_films cs a0 p0 i0_13 i0_14 v0_15 p1 i1_2 p2 i2_3 i2_4 i2_5 i2_6 i2_7 v2_0 v2_1 v2_2) H → va_D (va_A w0 s.heap.size) (W_X10_films cs a0 p0 i0_13 i0_14 v0_15 p1 i1_2 p2 i2_3 i2_4 i2_5 i2_6 i2_7 v2_0 v2_1 v2_2) → va_S (va_A w0 s.heap.size) s.heap H locs → lv_has ls 3 [(0, .ref a0), (1, .int x1), (2, .int x2)] → W p l e rm_X10_films s m av below meth c H locs 0 0 (vx_MQ below (xI D cs w0 (W_X10_films cs a0 p0 i0_13 i0_14 res.2.2 p1 i1_2 p2 i2_3 i2_4 i2_5 i2_6 i2_7 v2_0 v2_1 v2_2) res.1 res.2.1 s.heap.size) (xX D cs w0 (W_X10_films cs a0 p0 i0_13 i0_14 res.2.2 p1 i1_2 p2 i2_3 i2_4 i2_5 i2_6 i2_7 v2_0 v2_1 v2_2) res.1 s.heap.size) av s 2 12 (va_A w0 s.heap.size)) (F0 m 18 ls [.int t1, .ref a0]) := by
  obtain ⟨hx, hb, hr, hlk, hml, hown, hts, hK, hG, hE⟩ := id C0
  intro v0_15 x1 x2 t1 hf H locs ls hP hD hS hl
  rw [f_X10_films_b18] at hf
  obtain ⟨q18, hq, hf⟩ := bd_some hf
  refine ow_tVV (As := [.int t1]) (rest := []) (wr := ow_pk (W_X10_films cs a0 p0 i0_13 i0_14 v0_15 p1 i1_2 p2 i2_3 i2_4 i2_5 i2_6 i2_7 v2_0 v2_1 v2_2) [2, 3, 4, 5, 6]) (wf := (W_X10_films cs a0 p0 i0_13 i0_14 q18.2 p1 i1_2 p2 i2_3 i2_4 i2_5 i2_6 i2_7 v2_0 v2_1 v2_2)) (k := q18.1) C0 T0 (c_X10_need l D cs T0.1 H.size a0 p0 i0_13 i0_14 v0_15 t1 q18 hq) (cwV 1 hts gX10_films_X10_need rfl rfl rfl (by decide +kernel) ⟨Nat.le_of_ble_eq_true rfl, Nat.le_of_ble_eq_true rfl⟩) 10 rfl rfl hP hD hS (fun q h => Or.inr h) [0, 1] [2, 3, 4, 5, 6] [5, 6, 0, 1, 2, 3, 4] rfl (by decide) rfl (by decide) (by decide) rfl (by decide) rfl hl.1 rfl (Nat.le_of_ble_eq_true rfl) ⟨(Nat.le_of_ble_eq_true rfl), (Nat.le_of_ble_eq_true rfl)⟩ dX10_films_18 (fun hz => ?_) (Nat.le_of_ble_eq_true rfl) (Nat.le_of_ble_eq_true rfl) (fun hz H locs hP hD hS => ?_)
  · replace hf := ow_f hz hf
    obtain rfl := Option.some.inj hf
    exact ⟨rfl, rfl⟩
  replace hf := ow_t hz hf
  refine lv_aload_n hx hb dX10_films_21 rfl (lv_at hl 0 rfl) ?_
  refine lv_iload_n hx hb dX10_films_22 rfl (lv_at hl 2 rfl) ?_
  refine lv_iconst (v := 1) hx hb dX10_films_23 (by decide) ?_
  obtain ⟨q24, hq, hf⟩ := bd_some hf
  refine ow_tVV (As := [.int x2, .int 1]) (rest := []) (wr := ow_pk (W_X10_films cs a0 p0 i0_13 i0_14 q18.2 p1 i1_2 p2 i2_3 i2_4 i2_5 i2_6 i2_7 v2_0 v2_1 v2_2) [2, 3, 4, 5, 6]) (wf := (W_X10_films cs a0 p0 i0_13 i0_14 q24.2 p1 i1_2 p2 i2_3 i2_4 i2_5 i2_6 i2_7 v2_0 v2_1 v2_2)) (k := q24.1) C0 T0 (c_X10_needWhat l D cs T0.1 H.size a0 p0 i0_13 i0_14 q18.2 x2 (1) q24 hq) (cwV 2 hts gX10_films_X10_needWhat rfl rfl rfl (by decide +kernel) ⟨Nat.le_of_ble_eq_true rfl, Nat.le_of_ble_eq_true rfl⟩) 10 rfl rfl hP hD hS (fun q h => Or.inr h) [0, 1] [2, 3, 4, 5, 6] [5, 6, 0, 1, 2, 3, 4] rfl (by decide) rfl (by decide) (by decide) rfl (by decide) rfl hl.1 rfl (Nat.le_of_ble_eq_true rfl) ⟨(Nat.le_of_ble_eq_true rfl), (Nat.le_of_ble_eq_true rfl)⟩ dX10_films_24 (fun hz => ?_) (Nat.le_of_ble_eq_true rfl) (Nat.le_of_ble_eq_true rfl) (fun hz H locs hP hD hS => ?_)
  · replace hf := ow_f hz hf
    obtain rfl := Option.some.inj hf
    exact ⟨rfl, rfl⟩
  replace hf := ow_t hz hf
  refine lv_iload_n hx hb dX10_films_27 rfl (lv_at hl 2 rfl) ?_
  refine lv_if_ne (tgt := 46) hx hb dX10_films_28 (by decide) (fun hc => ?_) (fun hc => ?_)
  · replace hf := ow_f hc hf
    refine lv_aload_n hx hb dX10_films_46 rfl (lv_at hl 0 rfl) ?_
    refine va_get (D := D) (ci := 10) (v := .ref (p0 9)) (C := RX10) (T := TX10) (N := 16) hx hb hts in_X10_films_X10 hown hK hP 0 rfl rfl 9 (by decide) (hts (.fieldLink RX10 63 "PaneDays" "past" "LPaneDays$Past;") (List.mem_of_getElem? (i := 1) rfl)) (fun _ h9 => h9) rfl dX10_films_47 ?_
    refine va_get (D := D) (ci := 4) (v := .ref (p1 0)) (C := RX4) (T := TX4) (N := 3) hx hb hts in_X10_films_X4 hown hK hP 2 rfl rfl 0 (by decide) (hts (.fieldLink RX10 76 "PaneDays$Past" "now" "LPaneDays$Glass;") (List.mem_of_getElem? (i := 2) rfl)) (fun _ h9 => h9) rfl dX10_films_50 ?_
    refine lv_iload_n hx hb dX10_films_53 rfl (lv_at hl 1 rfl) ?_
    obtain ⟨q54, hq, hf⟩ := bd_some hf
    refine ow_callVI (As := [.int x1]) (rest := []) (wr := ow_pk (W_X10_films cs a0 p0 i0_13 i0_14 q24.2 p1 i1_2 p2 i2_3 i2_4 i2_5 i2_6 i2_7 v2_0 v2_1 v2_2) [0, 1, 2]) (wf := (W_X10_films cs a0 p0 i0_13 i0_14 q24.2 p1 i1_2 p2 i2_3 i2_4 i2_5 i2_6 i2_7 v2_0 v2_1 v2_2)) (r := q54) C0 (c_X2_filmsOf l D cs H.size (p1 0) p2 i2_3 i2_4 i2_5 i2_6 i2_7 v2_0 v2_1 v2_2 x1 q54 hq) (cwV 1 hts gX10_films_X2_filmsOf rfl rfl rfl (by decide +kernel) ⟨Nat.le_of_ble_eq_true rfl, Nat.le_of_ble_eq_true rfl⟩) 2 rfl rfl hP hD hS (fun q h => Or.inr h) [3, 4, 5, 6] [0, 1, 2] [0, 1, 2, 3, 4, 5, 6] rfl (by decide) rfl (by decide) (by decide) rfl (by decide) rfl hl.1 rfl (Nat.le_of_ble_eq_true rfl) ⟨(Nat.le_of_ble_eq_true rfl), (Nat.le_of_ble_eq_true rfl)⟩ dX10_films_54 (fun H locs hP hD hS => ?_)
    obtain rfl := Option.some.inj hf
    exact ow_tretI C0 rfl hP hD hS (Nat.le_of_ble_eq_true rfl) (Nat.le_of_ble_eq_true rfl) dX10_films_57
  · replace hf := ow_t hc hf
    refine lv_aload_n hx hb dX10_films_31 rfl (lv_at hl 0 rfl) ?_
    refine va_get (D := D) (ci := 10) (v := .ref (p0 9)) (C := RX10) (T := TX10) (N := 16) hx hb hts in_X10_films_X10 hown hK hP 0 rfl rfl 9 (by decide) (hts (.fieldLink RX10 63 "PaneDays" "past" "LPaneDays$Past;") (List.mem_of_getElem? (i := 1) rfl)) (fun _ h9 => h9) rfl dX10_films_32 ?_
    refine va_get (D := D) (ci := 4) (v := .ref (p1 0)) (C := RX4) (T := TX4) (N := 3) hx hb hts in_X10_films_X4 hown hK hP 2 rfl rfl 0 (by decide) (hts (.fieldLink RX10 76 "PaneDays$Past" "now" "LPaneDays$Glass;") (List.mem_of_getElem? (i := 2) rfl)) (fun _ h9 => h9) rfl dX10_films_35 ?_
    refine va_get (D := D) (ci := 2) (v := .ref (p2 2)) (C := RX2) (T := TX2) (N := 8) hx hb hts in_X10_films_X2 hown hK hP 3 rfl rfl 2 (by decide) (hts (.fieldLink RX10 227 "PaneDays$Glass" "rag" "[I") (List.mem_of_getElem? (i := 3) rfl)) (fun _ h9 => h9) rfl dX10_films_38 ?_
    refine lv_iload_n hx hb dX10_films_41 rfl (lv_at hl 1 rfl) ?_
    obtain ⟨hin, hf⟩ := ck_some hf
    refine va_iald (f := v2_2) hx hb hK hP 6 0 rfl rfl hin dX10_films_42 ?_
    refine lv_goto (tgt := 57) hx hb dX10_films_43 (by decide) ?_
    obtain rfl := Option.some.inj hf
    exact ow_tretI C0 rfl hP hD hS (Nat.le_of_ble_eq_true rfl) (Nat.le_of_ble_eq_true rfl) dX10_films_57
def f_X10_films_b17  (v2_0 : Nat → Int32) (v2_1 : Nat → Int32) (v2_2 : Nat → Int32)  (v0_15 : Nat → Int32) (x1 : Int32) (x2 : Int32) : Option (Nat × Int32 × (Nat → Int32)) := f_X10_films_b18 v2_0 v2_1 v2_2 v0_15 x1 x2 (0)
set_option maxHeartbeats 4000000 in
set_option maxRecDepth 100000 in
theorem w_X10_films_b17 {p : Program} {l : Launch} {e : Env} {s : State} {m : MethodId} {below : List Frame} {meth : Method} {c : Code} {D : va_G} {cs : Nat → ClassId} {av : Array Value} {w0 : va_W} (C0 : Cx p s m meth c av wsX10_films cX10_films 3 (some .int) RX10 D cs w0) (T0 : CxT l s c)  (a0 : Nat) (p0 : Nat → Nat) (i0_13 : Int32) (i0_14 : Int32) (p1 : Nat → Nat) (i1_2 : Int32) (p2 : Nat → Nat) (i2_3 : Int32) (i2_4 : Int32) (i2_5 : Int32) (i2_6 : Int32) (i2_7 : Int32) (v2_0 : Nat → Int32) (v2_1 : Nat → Int32) (v2_2 : Nat → Int32) (res : Nat × Int32 × (Nat → Int32))  : ∀ (v0_15 : Nat → Int32) (x1 : Int32) (x2 : Int32), f_X10_films_b17 v2_0 v2_1 v2_2 v0_15 x1 x2 = some res → ∀ (H : Heap) (locs : List Loc) (ls : Array Slot), va_P D vwCl (W_X10_films cs a0 p0 i0_13 i0_14 v0_15 p1 i1_2 p2 i2_3 i2_4 i2_5 i2_6 i2_7 v2_0 v2_1 v2_2) H → va_D (va_A w0 s.heap.size) (W_X10_films cs a0 p0 i0_13 i0_14 v0_15 p1 i1_2 p2 i2_3 i2_4 i2_5 i2_6 i2_7 v2_0 v2_1 v2_2) → va_S (va_A w0 s.heap.size) s.heap H locs → lv_has ls 3 [(0, .ref a0), (1, .int x1), (2, .int x2)] → W p l e rm_X10_films s m av below meth c H locs 0 0 (vx_MQ below (xI D cs w0 (W_X10_films cs a0 p0 i0_13 i0_14 res.2.2 p1 i1_2 p2 i2_3 i2_4 i2_5 i2_6 i2_7 v2_0 v2_1 v2_2) res.1 res.2.1 s.heap.size) (xX D cs w0 (W_X10_films cs a0 p0 i0_13 i0_14 res.2.2 p1 i1_2 p2 i2_3 i2_4 i2_5 i2_6 i2_7 v2_0 v2_1 v2_2) res.1 s.heap.size) av s 2 12 (va_A w0 s.heap.size)) (F0 m 17 ls [.ref a0]) := by
  obtain ⟨hx, hb, hr, hlk, hml, hown, hts, hK, hG, hE⟩ := id C0
  intro v0_15 x1 x2 hf H locs ls hP hD hS hl
  rw [f_X10_films_b17] at hf
  refine lv_iconst (v := 0) hx hb dX10_films_17 (by decide) ?_
  refine W.widen (k := 0) (n := 0) (Nat.le_of_ble_eq_true rfl) (Nat.le_of_ble_eq_true rfl) ?_
  exact w_X10_films_b18 C0 T0 a0 p0 i0_13 i0_14 p1 i1_2 p2 i2_3 i2_4 i2_5 i2_6 i2_7 v2_0 v2_1 v2_2 res v0_15 x1 x2 (0) hf _ _ _ hP hD hS (lv_sub hl [0, 1, 2] rfl)
def f_X10_films  (v0_15 : Nat → Int32) (v2_0 : Nat → Int32) (v2_1 : Nat → Int32) (v2_2 : Nat → Int32) (x1 : Int32) (x2 : Int32) : Option (Nat × Int32 × (Nat → Int32)) := if x1 < 1 then (f_X10_films_b17 v2_0 v2_1 v2_2 v0_15 x1 x2) else (if 200 < x1 then (f_X10_films_b17 v2_0 v2_1 v2_2 v0_15 x1 x2) else (f_X10_films_b18 v2_0 v2_1 v2_2 v0_15 x1 x2 (1)))
set_option maxHeartbeats 4000000 in
set_option maxRecDepth 100000 in
theorem c_X10_films (l : Launch) (D : va_G) (cs : Nat → ClassId) (hl0 : l.stackTraces = false)  (sz : Nat) (a0 : Nat) (p0 : Nat → Nat) (i0_13 : Int32) (i0_14 : Int32) (v0_15 : Nat → Int32) (p1 : Nat → Nat) (i1_2 : Int32) (p2 : Nat → Nat) (i2_3 : Int32) (i2_4 : Int32) (i2_5 : Int32) (i2_6 : Int32) (i2_7 : Int32) (v2_0 : Nat → Int32) (v2_1 : Nat → Int32) (v2_2 : Nat → Int32) (x1 : Int32) (x2 : Int32) (res : Nat × Int32 × (Nat → Int32)) (hf : f_X10_films  v0_15 v2_0 v2_1 v2_2 x1 x2 = some res) : XI l D cs yX10_films wsX10_films rm_X10_films [.ref a0, .int x1, .int x2] sz (W_X10_films cs a0 p0 i0_13 i0_14 v0_15 p1 i1_2 p2 i2_3 i2_4 i2_5 i2_6 i2_7 v2_0 v2_1 v2_2) (W_X10_films cs a0 p0 i0_13 i0_14 res.2.2 p1 i1_2 p2 i2_3 i2_4 i2_5 i2_6 i2_7 v2_0 v2_1 v2_2) res.1 res.2.1 2 12 := by
  rw [f_X10_films] at hf
  refine ow_enterT (cc := cX10_films) (nL := 3) (ret := (some .int)) hl0 (by decide) rfl (Nat.le_of_ble_eq_true rfl) (fun p e s m below meth c ls H locs C0 T0 hP hD hS hA hl => ?_)
  obtain ⟨hx, hb, hr, hlk, hml, hown, hts, hK, hG, hE⟩ := id C0
  have hl : lv_has ls 3 [(0, .ref a0), (1, .int x1), (2, .int x2)] := hl
  refine lv_aload_n hx hb dX10_films_0 rfl (lv_at hl 0 rfl) ?_
  refine lv_iload_n hx hb dX10_films_1 rfl (lv_at hl 1 rfl) ?_
  refine lv_iconst (v := 1) hx hb dX10_films_2 (by decide) ?_
  refine lv_icmp_lt (tgt := 17) hx hb dX10_films_3 (by decide) (fun hc => ?_) (fun hc => ?_)
  · replace hf := ow_t hc hf
    refine W.widen (k := 0) (n := 0) (Nat.le_of_ble_eq_true rfl) (Nat.le_of_ble_eq_true rfl) ?_
    exact w_X10_films_b17 C0 T0 a0 p0 i0_13 i0_14 p1 i1_2 p2 i2_3 i2_4 i2_5 i2_6 i2_7 v2_0 v2_1 v2_2 res v0_15 x1 x2 hf _ _ _ hP hD hS (lv_sub hl [0, 1, 2] rfl)
  · replace hf := ow_f hc hf
    refine lv_iload_n hx hb dX10_films_6 rfl (lv_at hl 1 rfl) ?_
    refine lv_sipush (v := 200) hx hb dX10_films_7 (by decide) ?_
    refine lv_icmp_gt (tgt := 17) hx hb dX10_films_10 (by decide) (fun hc => ?_) (fun hc => ?_)
    · replace hf := ow_t hc hf
      refine W.widen (k := 0) (n := 0) (Nat.le_of_ble_eq_true rfl) (Nat.le_of_ble_eq_true rfl) ?_
      exact w_X10_films_b17 C0 T0 a0 p0 i0_13 i0_14 p1 i1_2 p2 i2_3 i2_4 i2_5 i2_6 i2_7 v2_0 v2_1 v2_2 res v0_15 x1 x2 hf _ _ _ hP hD hS (lv_sub hl [0, 1, 2] rfl)
    · replace hf := ow_f hc hf
      refine lv_iconst (v := 1) hx hb dX10_films_13 (by decide) ?_
      refine lv_goto (tgt := 18) hx hb dX10_films_14 (by decide) ?_
      refine W.widen (k := 0) (n := 0) (Nat.le_of_ble_eq_true rfl) (Nat.le_of_ble_eq_true rfl) ?_
      exact w_X10_films_b18 C0 T0 a0 p0 i0_13 i0_14 p1 i1_2 p2 i2_3 i2_4 i2_5 i2_6 i2_7 v2_0 v2_1 v2_2 res v0_15 x1 x2 (1) hf _ _ _ hP hD hS (lv_sub hl [0, 1, 2] rfl)
theorem in_X10_film_X10 : ∀ w ∈ u_ws RX10 TX10 16, w ∈ wsX10_film := by decide +kernel
theorem in_X10_film_X4 : ∀ w ∈ u_ws RX4 TX4 3, w ∈ wsX10_film := by decide +kernel
abbrev W_X10_film (cs : Nat → ClassId) (a0 : Nat) (p0 : Nat → Nat) (i0_13 : Int32) (i0_14 : Int32) (v0_15 : Nat → Int32) (p1 : Nat → Nat) (i1_2 : Int32) (p2 : Nat → Nat) (i2_0 : Int32) (i2_6 : Int32) (i2_8 : Int32) (i2_10 : Int32) (i2_11 : Int32) (i2_12 : Int32) (v2_1 : Nat → Int32) (v2_2 : Nat → Int32) (v2_3 : Nat → Int32) (v2_4 : Nat → Int32) (v2_5 : Nat → Int32) (v2_7 : Nat → Int32) (v2_9 : Nat → Int32) (p3 : Nat → Nat) (i3_3 : Int32) (i3_4 : Int32) (i3_5 : Int32) (i3_6 : Int32) (i3_7 : Int32) (v3_0 : Nat → Int32) (v3_1 : Nat → Int32) (v3_2 : Nat → Int32) : va_W := wX10 cs a0 p0 i0_13 i0_14 v0_15 ++ wX4 cs (p0 9) p1 i1_2 ++ wX6 cs (p0 1) p2 i2_0 i2_6 i2_8 i2_10 i2_11 i2_12 v2_1 v2_2 v2_3 v2_4 v2_5 v2_7 v2_9 ++ wX2 cs (p1 0) p3 i3_3 i3_4 i3_5 i3_6 i3_7 v3_0 v3_1 v3_2
abbrev rm_X10_film : Room := { frames := 8, cells := 2, slots := 12, locals := 125 }
def f_X10_film  (v0_15 : Nat → Int32) (i2_0 : Int32) (v2_1 : Nat → Int32) (v2_2 : Nat → Int32) (v3_0 : Nat → Int32) (v3_1 : Nat → Int32) (x1 : Int32) (x2 : Int32) (x3 : Int32) (x4 : Int32) : Option (Nat × Int32 × (Nat → Int32)) := (f_X10_needCell v0_15 i2_0 v2_1 v2_2 x1 x2 x3).bind fun q11 => if q11.1 = 0 then ((f_X2_behind v3_0 v3_1 q11.2.1 x4).bind fun q16 => some (0, q16, q11.2.2)) else (some (q11.1, 0, q11.2.2))
set_option maxHeartbeats 4000000 in
set_option maxRecDepth 100000 in
theorem c_X10_film (l : Launch) (D : va_G) (cs : Nat → ClassId) (hl0 : l.stackTraces = false)  (sz : Nat) (a0 : Nat) (p0 : Nat → Nat) (i0_13 : Int32) (i0_14 : Int32) (v0_15 : Nat → Int32) (p1 : Nat → Nat) (i1_2 : Int32) (p2 : Nat → Nat) (i2_0 : Int32) (i2_6 : Int32) (i2_8 : Int32) (i2_10 : Int32) (i2_11 : Int32) (i2_12 : Int32) (v2_1 : Nat → Int32) (v2_2 : Nat → Int32) (v2_3 : Nat → Int32) (v2_4 : Nat → Int32) (v2_5 : Nat → Int32) (v2_7 : Nat → Int32) (v2_9 : Nat → Int32) (p3 : Nat → Nat) (i3_3 : Int32) (i3_4 : Int32) (i3_5 : Int32) (i3_6 : Int32) (i3_7 : Int32) (v3_0 : Nat → Int32) (v3_1 : Nat → Int32) (v3_2 : Nat → Int32) (x1 : Int32) (x2 : Int32) (x3 : Int32) (x4 : Int32) (res : Nat × Int32 × (Nat → Int32)) (hf : f_X10_film  v0_15 i2_0 v2_1 v2_2 v3_0 v3_1 x1 x2 x3 x4 = some res) : XI l D cs yX10_film wsX10_film rm_X10_film [.ref a0, .int x1, .int x2, .int x3, .int x4] sz (W_X10_film cs a0 p0 i0_13 i0_14 v0_15 p1 i1_2 p2 i2_0 i2_6 i2_8 i2_10 i2_11 i2_12 v2_1 v2_2 v2_3 v2_4 v2_5 v2_7 v2_9 p3 i3_3 i3_4 i3_5 i3_6 i3_7 v3_0 v3_1 v3_2) (W_X10_film cs a0 p0 i0_13 i0_14 res.2.2 p1 i1_2 p2 i2_0 i2_6 i2_8 i2_10 i2_11 i2_12 v2_1 v2_2 v2_3 v2_4 v2_5 v2_7 v2_9 p3 i3_3 i3_4 i3_5 i3_6 i3_7 v3_0 v3_1 v3_2) res.1 res.2.1 2 12 := by
  rw [f_X10_film] at hf
  refine ow_enterT (cc := cX10_film) (nL := 5) (ret := (some .int)) hl0 (by decide) rfl (Nat.le_of_ble_eq_true rfl) (fun p e s m below meth c ls H locs C0 T0 hP hD hS hA hl => ?_)
  obtain ⟨hx, hb, hr, hlk, hml, hown, hts, hK, hG, hE⟩ := id C0
  have hl : lv_has ls 5 [(0, .ref a0), (1, .int x1), (2, .int x2), (3, .int x3), (4, .int x4)] := hl
  refine lv_aload_n hx hb dX10_film_0 rfl (lv_at hl 0 rfl) ?_
  refine va_get (D := D) (ci := 10) (v := .ref (p0 9)) (C := RX10) (T := TX10) (N := 16) hx hb hts in_X10_film_X10 hown hK hP 0 rfl rfl 9 (by decide) (hts (.fieldLink RX10 63 "PaneDays" "past" "LPaneDays$Past;") (List.mem_of_getElem? (i := 1) rfl)) (fun _ h9 => h9) rfl dX10_film_1 ?_
  refine va_get (D := D) (ci := 4) (v := .ref (p1 0)) (C := RX4) (T := TX4) (N := 3) hx hb hts in_X10_film_X4 hown hK hP 2 rfl rfl 0 (by decide) (hts (.fieldLink RX10 76 "PaneDays$Past" "now" "LPaneDays$Glass;") (List.mem_of_getElem? (i := 2) rfl)) (fun _ h9 => h9) rfl dX10_film_4 ?_
  refine lv_aload_n hx hb dX10_film_7 rfl (lv_at hl 0 rfl) ?_
  refine lv_iload_n hx hb dX10_film_8 rfl (lv_at hl 1 rfl) ?_
  refine lv_iload_n hx hb dX10_film_9 rfl (lv_at hl 2 rfl) ?_
  refine lv_iload_n hx hb dX10_film_10 rfl (lv_at hl 3 rfl) ?_
  obtain ⟨q11, hq, hf⟩ := bd_some hf
  refine ow_tVI (As := [.int x1, .int x2, .int x3]) (rest := [.ref (p1 0)]) (wr := ow_pk (W_X10_film cs a0 p0 i0_13 i0_14 v0_15 p1 i1_2 p2 i2_0 i2_6 i2_8 i2_10 i2_11 i2_12 v2_1 v2_2 v2_3 v2_4 v2_5 v2_7 v2_9 p3 i3_3 i3_4 i3_5 i3_6 i3_7 v3_0 v3_1 v3_2) [2, 11, 12, 13, 14]) (wf := (W_X10_film cs a0 p0 i0_13 i0_14 q11.2.2 p1 i1_2 p2 i2_0 i2_6 i2_8 i2_10 i2_11 i2_12 v2_1 v2_2 v2_3 v2_4 v2_5 v2_7 v2_9 p3 i3_3 i3_4 i3_5 i3_6 i3_7 v3_0 v3_1 v3_2)) (r := q11.2.1) (k := q11.1) C0 T0 (c_X10_needCell l D cs T0.1 H.size a0 p0 i0_13 i0_14 v0_15 p2 i2_0 i2_6 i2_8 i2_10 i2_11 i2_12 v2_1 v2_2 v2_3 v2_4 v2_5 v2_7 v2_9 x1 x2 x3 q11 hq) (cwV 3 hts gX10_film_X10_needCell rfl rfl rfl (by decide +kernel) ⟨Nat.le_of_ble_eq_true rfl, Nat.le_of_ble_eq_true rfl⟩) 10 rfl rfl hP hD hS (fun q h => Or.inr h) [0, 1, 3, 4, 5, 6, 7, 8, 9, 10] [2, 11, 12, 13, 14] [5, 6, 0, 7, 8, 9, 10, 11, 12, 13, 14, 1, 2, 3, 4] rfl (by decide) rfl (by decide) (by decide) rfl (by decide) rfl hl.1 rfl (Nat.le_of_ble_eq_true rfl) ⟨(Nat.le_of_ble_eq_true rfl), (Nat.le_of_ble_eq_true rfl)⟩ dX10_film_11 (fun hz => ?_) (Nat.le_of_ble_eq_true rfl) (Nat.le_of_ble_eq_true rfl) (fun hz H locs hP hD hS => ?_)
  · replace hf := ow_f hz hf
    obtain rfl := Option.some.inj hf
    exact ⟨rfl, rfl⟩
  replace hf := ow_t hz hf
  refine lv_iload hx hb dX10_film_14 (lv_at hl 4 rfl) ?_
  obtain ⟨q16, hq, hf⟩ := bd_some hf
  refine ow_callVI (As := [.int q11.2.1, .int x4]) (rest := []) (wr := ow_pk (W_X10_film cs a0 p0 i0_13 i0_14 q11.2.2 p1 i1_2 p2 i2_0 i2_6 i2_8 i2_10 i2_11 i2_12 v2_1 v2_2 v2_3 v2_4 v2_5 v2_7 v2_9 p3 i3_3 i3_4 i3_5 i3_6 i3_7 v3_0 v3_1 v3_2) [0, 1, 2, 3, 4, 5, 6, 7, 8, 9, 10]) (wf := (W_X10_film cs a0 p0 i0_13 i0_14 q11.2.2 p1 i1_2 p2 i2_0 i2_6 i2_8 i2_10 i2_11 i2_12 v2_1 v2_2 v2_3 v2_4 v2_5 v2_7 v2_9 p3 i3_3 i3_4 i3_5 i3_6 i3_7 v3_0 v3_1 v3_2)) (r := q16) C0 (c_X2_behind l D cs H.size (p1 0) p3 i3_3 i3_4 i3_5 i3_6 i3_7 v3_0 v3_1 v3_2 q11.2.1 x4 q16 hq) (cwV 2 hts gX10_film_X2_behind rfl rfl rfl (by decide +kernel) ⟨Nat.le_of_ble_eq_true rfl, Nat.le_of_ble_eq_true rfl⟩) 2 rfl rfl hP hD hS (fun q h => Or.inr h) [11, 12, 13, 14] [0, 1, 2, 3, 4, 5, 6, 7, 8, 9, 10] [0, 1, 2, 3, 4, 5, 6, 7, 8, 9, 10, 11, 12, 13, 14] rfl (by decide) rfl (by decide) (by decide) rfl (by decide) rfl hl.1 rfl (Nat.le_of_ble_eq_true rfl) ⟨(Nat.le_of_ble_eq_true rfl), (Nat.le_of_ble_eq_true rfl)⟩ dX10_film_16 (fun H locs hP hD hS => ?_)
  obtain rfl := Option.some.inj hf
  exact ow_tretI C0 rfl hP hD hS (Nat.le_of_ble_eq_true rfl) (Nat.le_of_ble_eq_true rfl) dX10_film_19
theorem in_X10_deep_X10 : ∀ w ∈ u_ws RX10 TX10 16, w ∈ wsX10_deep := by decide +kernel
theorem in_X10_deep_X2 : ∀ w ∈ u_ws RX2 TX2 8, w ∈ wsX10_deep := by decide +kernel
theorem in_X10_deep_X4 : ∀ w ∈ u_ws RX4 TX4 3, w ∈ wsX10_deep := by decide +kernel
abbrev W_X10_deep (cs : Nat → ClassId) (a0 : Nat) (p0 : Nat → Nat) (i0_13 : Int32) (i0_14 : Int32) (v0_15 : Nat → Int32) (p1 : Nat → Nat) (i1_2 : Int32) (p2 : Nat → Nat) (i2_3 : Int32) (i2_4 : Int32) (i2_5 : Int32) (i2_6 : Int32) (i2_7 : Int32) (v2_0 : Nat → Int32) (v2_1 : Nat → Int32) (v2_2 : Nat → Int32) (p3 : Nat → Nat) (i3_0 : Int32) (i3_6 : Int32) (i3_8 : Int32) (i3_10 : Int32) (i3_11 : Int32) (i3_12 : Int32) (v3_1 : Nat → Int32) (v3_2 : Nat → Int32) (v3_3 : Nat → Int32) (v3_4 : Nat → Int32) (v3_5 : Nat → Int32) (v3_7 : Nat → Int32) (v3_9 : Nat → Int32) : va_W := wX10 cs a0 p0 i0_13 i0_14 v0_15 ++ wX4 cs (p0 9) p1 i1_2 ++ wX2 cs (p1 0) p2 i2_3 i2_4 i2_5 i2_6 i2_7 v2_0 v2_1 v2_2 ++ wX6 cs (p0 1) p3 i3_0 i3_6 i3_8 i3_10 i3_11 i3_12 v3_1 v3_2 v3_3 v3_4 v3_5 v3_7 v3_9
abbrev rm_X10_deep : Room := { frames := 8, cells := 2, slots := 12, locals := 125 }
def f_X10_deep  (v0_15 : Nat → Int32) (v2_1 : Nat → Int32) (i3_0 : Int32) (v3_1 : Nat → Int32) (v3_2 : Nat → Int32) (x1 : Int32) (x2 : Int32) (x3 : Int32) : Option (Nat × Int32 × (Nat → Int32)) := (f_X10_needCell v0_15 i3_0 v3_1 v3_2 x1 x2 x3).bind fun q14 => if q14.1 = 0 then (ck q14.2.1 80 (some (0, v2_1 (q14.2.1).toNatClampNeg, q14.2.2))) else (some (q14.1, 0, q14.2.2))
set_option maxHeartbeats 4000000 in
set_option maxRecDepth 100000 in
theorem c_X10_deep (l : Launch) (D : va_G) (cs : Nat → ClassId) (hl0 : l.stackTraces = false)  (sz : Nat) (a0 : Nat) (p0 : Nat → Nat) (i0_13 : Int32) (i0_14 : Int32) (v0_15 : Nat → Int32) (p1 : Nat → Nat) (i1_2 : Int32) (p2 : Nat → Nat) (i2_3 : Int32) (i2_4 : Int32) (i2_5 : Int32) (i2_6 : Int32) (i2_7 : Int32) (v2_0 : Nat → Int32) (v2_1 : Nat → Int32) (v2_2 : Nat → Int32) (p3 : Nat → Nat) (i3_0 : Int32) (i3_6 : Int32) (i3_8 : Int32) (i3_10 : Int32) (i3_11 : Int32) (i3_12 : Int32) (v3_1 : Nat → Int32) (v3_2 : Nat → Int32) (v3_3 : Nat → Int32) (v3_4 : Nat → Int32) (v3_5 : Nat → Int32) (v3_7 : Nat → Int32) (v3_9 : Nat → Int32) (x1 : Int32) (x2 : Int32) (x3 : Int32) (res : Nat × Int32 × (Nat → Int32)) (hf : f_X10_deep  v0_15 v2_1 i3_0 v3_1 v3_2 x1 x2 x3 = some res) : XI l D cs yX10_deep wsX10_deep rm_X10_deep [.ref a0, .int x1, .int x2, .int x3] sz (W_X10_deep cs a0 p0 i0_13 i0_14 v0_15 p1 i1_2 p2 i2_3 i2_4 i2_5 i2_6 i2_7 v2_0 v2_1 v2_2 p3 i3_0 i3_6 i3_8 i3_10 i3_11 i3_12 v3_1 v3_2 v3_3 v3_4 v3_5 v3_7 v3_9) (W_X10_deep cs a0 p0 i0_13 i0_14 res.2.2 p1 i1_2 p2 i2_3 i2_4 i2_5 i2_6 i2_7 v2_0 v2_1 v2_2 p3 i3_0 i3_6 i3_8 i3_10 i3_11 i3_12 v3_1 v3_2 v3_3 v3_4 v3_5 v3_7 v3_9) res.1 res.2.1 2 12 := by
  rw [f_X10_deep] at hf
  refine ow_enterT (cc := cX10_deep) (nL := 4) (ret := (some .int)) hl0 (by decide) rfl (Nat.le_of_ble_eq_true rfl) (fun p e s m below meth c ls H locs C0 T0 hP hD hS hA hl => ?_)
  obtain ⟨hx, hb, hr, hlk, hml, hown, hts, hK, hG, hE⟩ := id C0
  have hl : lv_has ls 4 [(0, .ref a0), (1, .int x1), (2, .int x2), (3, .int x3)] := hl
  refine lv_aload_n hx hb dX10_deep_0 rfl (lv_at hl 0 rfl) ?_
  refine va_get (D := D) (ci := 10) (v := .ref (p0 9)) (C := RX10) (T := TX10) (N := 16) hx hb hts in_X10_deep_X10 hown hK hP 0 rfl rfl 9 (by decide) (hts (.fieldLink RX10 63 "PaneDays" "past" "LPaneDays$Past;") (List.mem_of_getElem? (i := 1) rfl)) (fun _ h9 => h9) rfl dX10_deep_1 ?_
  refine va_get (D := D) (ci := 4) (v := .ref (p1 0)) (C := RX4) (T := TX4) (N := 3) hx hb hts in_X10_deep_X4 hown hK hP 2 rfl rfl 0 (by decide) (hts (.fieldLink RX10 76 "PaneDays$Past" "now" "LPaneDays$Glass;") (List.mem_of_getElem? (i := 2) rfl)) (fun _ h9 => h9) rfl dX10_deep_4 ?_
  refine va_get (D := D) (ci := 2) (v := .ref (p2 1)) (C := RX2) (T := TX2) (N := 8) hx hb hts in_X10_deep_X2 hown hK hP 3 rfl rfl 1 (by decide) (hts (.fieldLink RX10 216 "PaneDays$Glass" "depth" "[I") (List.mem_of_getElem? (i := 3) rfl)) (fun _ h9 => h9) rfl dX10_deep_7 ?_
  refine lv_aload_n hx hb dX10_deep_10 rfl (lv_at hl 0 rfl) ?_
  refine lv_iload_n hx hb dX10_deep_11 rfl (lv_at hl 1 rfl) ?_
  refine lv_iload_n hx hb dX10_deep_12 rfl (lv_at hl 2 rfl) ?_
  refine lv_iload_n hx hb dX10_deep_13 rfl (lv_at hl 3 rfl) ?_
  obtain ⟨q14, hq, hf⟩ := bd_some hf
  refine ow_tVI (As := [.int x1, .int x2, .int x3]) (rest := [.ref (p2 1)]) (wr := ow_pk (W_X10_deep cs a0 p0 i0_13 i0_14 v0_15 p1 i1_2 p2 i2_3 i2_4 i2_5 i2_6 i2_7 v2_0 v2_1 v2_2 p3 i3_0 i3_6 i3_8 i3_10 i3_11 i3_12 v3_1 v3_2 v3_3 v3_4 v3_5 v3_7 v3_9) [2, 3, 4, 5, 6]) (wf := (W_X10_deep cs a0 p0 i0_13 i0_14 q14.2.2 p1 i1_2 p2 i2_3 i2_4 i2_5 i2_6 i2_7 v2_0 v2_1 v2_2 p3 i3_0 i3_6 i3_8 i3_10 i3_11 i3_12 v3_1 v3_2 v3_3 v3_4 v3_5 v3_7 v3_9)) (r := q14.2.1) (k := q14.1) C0 T0 (c_X10_needCell l D cs T0.1 H.size a0 p0 i0_13 i0_14 v0_15 p3 i3_0 i3_6 i3_8 i3_10 i3_11 i3_12 v3_1 v3_2 v3_3 v3_4 v3_5 v3_7 v3_9 x1 x2 x3 q14 hq) (cwV 3 hts gX10_deep_X10_needCell rfl rfl rfl (by decide +kernel) ⟨Nat.le_of_ble_eq_true rfl, Nat.le_of_ble_eq_true rfl⟩) 10 rfl rfl hP hD hS (fun q h => Or.inr h) [0, 1, 7, 8, 9, 10, 11, 12, 13, 14] [2, 3, 4, 5, 6] [5, 6, 0, 1, 2, 3, 4, 7, 8, 9, 10, 11, 12, 13, 14] rfl (by decide) rfl (by decide) (by decide) rfl (by decide) rfl hl.1 rfl (Nat.le_of_ble_eq_true rfl) ⟨(Nat.le_of_ble_eq_true rfl), (Nat.le_of_ble_eq_true rfl)⟩ dX10_deep_14 (fun hz => ?_) (Nat.le_of_ble_eq_true rfl) (Nat.le_of_ble_eq_true rfl) (fun hz H locs hP hD hS => ?_)
  · replace hf := ow_f hz hf
    obtain rfl := Option.some.inj hf
    exact ⟨rfl, rfl⟩
  replace hf := ow_t hz hf
  obtain ⟨hin, hf⟩ := ck_some hf
  refine va_iald (f := v2_1) hx hb hK hP 5 0 rfl rfl hin dX10_deep_17 ?_
  obtain rfl := Option.some.inj hf
  exact ow_tretI C0 rfl hP hD hS (Nat.le_of_ble_eq_true rfl) (Nat.le_of_ble_eq_true rfl) dX10_deep_18
theorem in_X10_shows_X10 : ∀ w ∈ u_ws RX10 TX10 16, w ∈ wsX10_shows := by decide +kernel
theorem in_X10_shows_X4 : ∀ w ∈ u_ws RX4 TX4 3, w ∈ wsX10_shows := by decide +kernel
abbrev W_X10_shows (cs : Nat → ClassId) (a0 : Nat) (p0 : Nat → Nat) (i0_13 : Int32) (i0_14 : Int32) (v0_15 : Nat → Int32) (p1 : Nat → Nat) (i1_2 : Int32) (p2 : Nat → Nat) (i2_0 : Int32) (i2_6 : Int32) (i2_8 : Int32) (i2_10 : Int32) (i2_11 : Int32) (i2_12 : Int32) (v2_1 : Nat → Int32) (v2_2 : Nat → Int32) (v2_3 : Nat → Int32) (v2_4 : Nat → Int32) (v2_5 : Nat → Int32) (v2_7 : Nat → Int32) (v2_9 : Nat → Int32) (p3 : Nat → Nat) (i3_3 : Int32) (i3_4 : Int32) (i3_5 : Int32) (i3_6 : Int32) (i3_7 : Int32) (v3_0 : Nat → Int32) (v3_1 : Nat → Int32) (v3_2 : Nat → Int32) : va_W := wX10 cs a0 p0 i0_13 i0_14 v0_15 ++ wX4 cs (p0 9) p1 i1_2 ++ wX6 cs (p0 1) p2 i2_0 i2_6 i2_8 i2_10 i2_11 i2_12 v2_1 v2_2 v2_3 v2_4 v2_5 v2_7 v2_9 ++ wX2 cs (p1 0) p3 i3_3 i3_4 i3_5 i3_6 i3_7 v3_0 v3_1 v3_2
abbrev rm_X10_shows : Room := { frames := 8, cells := 2, slots := 12, locals := 125 }
def f_X10_shows  (v0_15 : Nat → Int32) (i2_0 : Int32) (v2_1 : Nat → Int32) (v2_2 : Nat → Int32) (v3_0 : Nat → Int32) (v3_1 : Nat → Int32) (x1 : Int32) (x2 : Int32) (x3 : Int32) : Option (Nat × Int32 × (Nat → Int32)) := (f_X10_needCell v0_15 i2_0 v2_1 v2_2 x1 x2 x3).bind fun q11 => if q11.1 = 0 then ((f_X2_shown v3_0 v3_1 q11.2.1).bind fun q14 => some (0, q14, q11.2.2)) else (some (q11.1, 0, q11.2.2))
set_option maxHeartbeats 4000000 in
set_option maxRecDepth 100000 in
theorem c_X10_shows (l : Launch) (D : va_G) (cs : Nat → ClassId) (hl0 : l.stackTraces = false)  (sz : Nat) (a0 : Nat) (p0 : Nat → Nat) (i0_13 : Int32) (i0_14 : Int32) (v0_15 : Nat → Int32) (p1 : Nat → Nat) (i1_2 : Int32) (p2 : Nat → Nat) (i2_0 : Int32) (i2_6 : Int32) (i2_8 : Int32) (i2_10 : Int32) (i2_11 : Int32) (i2_12 : Int32) (v2_1 : Nat → Int32) (v2_2 : Nat → Int32) (v2_3 : Nat → Int32) (v2_4 : Nat → Int32) (v2_5 : Nat → Int32) (v2_7 : Nat → Int32) (v2_9 : Nat → Int32) (p3 : Nat → Nat) (i3_3 : Int32) (i3_4 : Int32) (i3_5 : Int32) (i3_6 : Int32) (i3_7 : Int32) (v3_0 : Nat → Int32) (v3_1 : Nat → Int32) (v3_2 : Nat → Int32) (x1 : Int32) (x2 : Int32) (x3 : Int32) (res : Nat × Int32 × (Nat → Int32)) (hf : f_X10_shows  v0_15 i2_0 v2_1 v2_2 v3_0 v3_1 x1 x2 x3 = some res) : XI l D cs yX10_shows wsX10_shows rm_X10_shows [.ref a0, .int x1, .int x2, .int x3] sz (W_X10_shows cs a0 p0 i0_13 i0_14 v0_15 p1 i1_2 p2 i2_0 i2_6 i2_8 i2_10 i2_11 i2_12 v2_1 v2_2 v2_3 v2_4 v2_5 v2_7 v2_9 p3 i3_3 i3_4 i3_5 i3_6 i3_7 v3_0 v3_1 v3_2) (W_X10_shows cs a0 p0 i0_13 i0_14 res.2.2 p1 i1_2 p2 i2_0 i2_6 i2_8 i2_10 i2_11 i2_12 v2_1 v2_2 v2_3 v2_4 v2_5 v2_7 v2_9 p3 i3_3 i3_4 i3_5 i3_6 i3_7 v3_0 v3_1 v3_2) res.1 res.2.1 2 12 := by
  rw [f_X10_shows] at hf
  refine ow_enterT (cc := cX10_shows) (nL := 4) (ret := (some .int)) hl0 (by decide) rfl (Nat.le_of_ble_eq_true rfl) (fun p e s m below meth c ls H locs C0 T0 hP hD hS hA hl => ?_)
  obtain ⟨hx, hb, hr, hlk, hml, hown, hts, hK, hG, hE⟩ := id C0
  have hl : lv_has ls 4 [(0, .ref a0), (1, .int x1), (2, .int x2), (3, .int x3)] := hl
  refine lv_aload_n hx hb dX10_shows_0 rfl (lv_at hl 0 rfl) ?_
  refine va_get (D := D) (ci := 10) (v := .ref (p0 9)) (C := RX10) (T := TX10) (N := 16) hx hb hts in_X10_shows_X10 hown hK hP 0 rfl rfl 9 (by decide) (hts (.fieldLink RX10 63 "PaneDays" "past" "LPaneDays$Past;") (List.mem_of_getElem? (i := 1) rfl)) (fun _ h9 => h9) rfl dX10_shows_1 ?_
  refine va_get (D := D) (ci := 4) (v := .ref (p1 0)) (C := RX4) (T := TX4) (N := 3) hx hb hts in_X10_shows_X4 hown hK hP 2 rfl rfl 0 (by decide) (hts (.fieldLink RX10 76 "PaneDays$Past" "now" "LPaneDays$Glass;") (List.mem_of_getElem? (i := 2) rfl)) (fun _ h9 => h9) rfl dX10_shows_4 ?_
  refine lv_aload_n hx hb dX10_shows_7 rfl (lv_at hl 0 rfl) ?_
  refine lv_iload_n hx hb dX10_shows_8 rfl (lv_at hl 1 rfl) ?_
  refine lv_iload_n hx hb dX10_shows_9 rfl (lv_at hl 2 rfl) ?_
  refine lv_iload_n hx hb dX10_shows_10 rfl (lv_at hl 3 rfl) ?_
  obtain ⟨q11, hq, hf⟩ := bd_some hf
  refine ow_tVI (As := [.int x1, .int x2, .int x3]) (rest := [.ref (p1 0)]) (wr := ow_pk (W_X10_shows cs a0 p0 i0_13 i0_14 v0_15 p1 i1_2 p2 i2_0 i2_6 i2_8 i2_10 i2_11 i2_12 v2_1 v2_2 v2_3 v2_4 v2_5 v2_7 v2_9 p3 i3_3 i3_4 i3_5 i3_6 i3_7 v3_0 v3_1 v3_2) [2, 11, 12, 13, 14]) (wf := (W_X10_shows cs a0 p0 i0_13 i0_14 q11.2.2 p1 i1_2 p2 i2_0 i2_6 i2_8 i2_10 i2_11 i2_12 v2_1 v2_2 v2_3 v2_4 v2_5 v2_7 v2_9 p3 i3_3 i3_4 i3_5 i3_6 i3_7 v3_0 v3_1 v3_2)) (r := q11.2.1) (k := q11.1) C0 T0 (c_X10_needCell l D cs T0.1 H.size a0 p0 i0_13 i0_14 v0_15 p2 i2_0 i2_6 i2_8 i2_10 i2_11 i2_12 v2_1 v2_2 v2_3 v2_4 v2_5 v2_7 v2_9 x1 x2 x3 q11 hq) (cwV 3 hts gX10_shows_X10_needCell rfl rfl rfl (by decide +kernel) ⟨Nat.le_of_ble_eq_true rfl, Nat.le_of_ble_eq_true rfl⟩) 10 rfl rfl hP hD hS (fun q h => Or.inr h) [0, 1, 3, 4, 5, 6, 7, 8, 9, 10] [2, 11, 12, 13, 14] [5, 6, 0, 7, 8, 9, 10, 11, 12, 13, 14, 1, 2, 3, 4] rfl (by decide) rfl (by decide) (by decide) rfl (by decide) rfl hl.1 rfl (Nat.le_of_ble_eq_true rfl) ⟨(Nat.le_of_ble_eq_true rfl), (Nat.le_of_ble_eq_true rfl)⟩ dX10_shows_11 (fun hz => ?_) (Nat.le_of_ble_eq_true rfl) (Nat.le_of_ble_eq_true rfl) (fun hz H locs hP hD hS => ?_)
  · replace hf := ow_f hz hf
    obtain rfl := Option.some.inj hf
    exact ⟨rfl, rfl⟩
  replace hf := ow_t hz hf
  obtain ⟨q14, hq, hf⟩ := bd_some hf
  refine ow_callVI (As := [.int q11.2.1]) (rest := []) (wr := ow_pk (W_X10_shows cs a0 p0 i0_13 i0_14 q11.2.2 p1 i1_2 p2 i2_0 i2_6 i2_8 i2_10 i2_11 i2_12 v2_1 v2_2 v2_3 v2_4 v2_5 v2_7 v2_9 p3 i3_3 i3_4 i3_5 i3_6 i3_7 v3_0 v3_1 v3_2) [0, 1, 2, 3, 4, 5, 6, 7, 8, 9, 10]) (wf := (W_X10_shows cs a0 p0 i0_13 i0_14 q11.2.2 p1 i1_2 p2 i2_0 i2_6 i2_8 i2_10 i2_11 i2_12 v2_1 v2_2 v2_3 v2_4 v2_5 v2_7 v2_9 p3 i3_3 i3_4 i3_5 i3_6 i3_7 v3_0 v3_1 v3_2)) (r := q14) C0 (c_X2_shown l D cs H.size (p1 0) p3 i3_3 i3_4 i3_5 i3_6 i3_7 v3_0 v3_1 v3_2 q11.2.1 q14 hq) (cwV 1 hts gX10_shows_X2_shown rfl rfl rfl (by decide +kernel) ⟨Nat.le_of_ble_eq_true rfl, Nat.le_of_ble_eq_true rfl⟩) 2 rfl rfl hP hD hS (fun q h => Or.inr h) [11, 12, 13, 14] [0, 1, 2, 3, 4, 5, 6, 7, 8, 9, 10] [0, 1, 2, 3, 4, 5, 6, 7, 8, 9, 10, 11, 12, 13, 14] rfl (by decide) rfl (by decide) (by decide) rfl (by decide) rfl hl.1 rfl (Nat.le_of_ble_eq_true rfl) ⟨(Nat.le_of_ble_eq_true rfl), (Nat.le_of_ble_eq_true rfl)⟩ dX10_shows_14 (fun H locs hP hD hS => ?_)
  obtain rfl := Option.some.inj hf
  exact ow_tretI C0 rfl hP hD hS (Nat.le_of_ble_eq_true rfl) (Nat.le_of_ble_eq_true rfl) dX10_shows_17
theorem in_X10_pane_X10 : ∀ w ∈ u_ws RX10 TX10 16, w ∈ wsX10_pane := by decide +kernel
theorem in_X10_pane_X4 : ∀ w ∈ u_ws RX4 TX4 3, w ∈ wsX10_pane := by decide +kernel
theorem in_X10_pane_X6 : ∀ w ∈ u_ws RX6 TX6 13, w ∈ wsX10_pane := by decide +kernel
abbrev W_X10_pane (cs : Nat → ClassId) (a0 : Nat) (p0 : Nat → Nat) (i0_13 : Int32) (i0_14 : Int32) (v0_15 : Nat → Int32) (p1 : Nat → Nat) (i1_0 : Int32) (i1_6 : Int32) (i1_8 : Int32) (i1_10 : Int32) (i1_11 : Int32) (i1_12 : Int32) (v1_1 : Nat → Int32) (v1_2 : Nat → Int32) (v1_3 : Nat → Int32) (v1_4 : Nat → Int32) (v1_5 : Nat → Int32) (v1_7 : Nat → Int32) (v1_9 : Nat → Int32) (p2 : Nat → Nat) (i2_2 : Int32) (p3 : Nat → Nat) (i3_3 : Int32) (i3_4 : Int32) (i3_5 : Int32) (i3_6 : Int32) (i3_7 : Int32) (v3_0 : Nat → Int32) (v3_1 : Nat → Int32) (v3_2 : Nat → Int32) : va_W := wX10 cs a0 p0 i0_13 i0_14 v0_15 ++ wX6 cs (p0 1) p1 i1_0 i1_6 i1_8 i1_10 i1_11 i1_12 v1_1 v1_2 v1_3 v1_4 v1_5 v1_7 v1_9 ++ wX4 cs (p0 9) p2 i2_2 ++ wX2 cs (p2 0) p3 i3_3 i3_4 i3_5 i3_6 i3_7 v3_0 v3_1 v3_2
abbrev rm_X10_pane : Room := { frames := 8, cells := 2, slots := 12, locals := 124 }
def f_X10_pane  (v0_15 : Nat → Int32) (i1_0 : Int32) (v1_1 : Nat → Int32) (v1_2 : Nat → Int32) (v1_3 : Nat → Int32) (v1_4 : Nat → Int32) (i3_6 : Int32) (v3_1 : Nat → Int32) (x1 : Int32) (x2 : Int32) : Option (Nat × Int32 × (Nat → Int32)) := (f_X10_needPane v0_15 i1_0 x1).bind fun q2 => if q2.1 = 0 then ((f_X10_needWhat q2.2 x2 (5)).bind fun q8 => if q8.1 = 0 then (if x2 = 0 then (ck x1 5 (some (0, v1_1 (x1).toNatClampNeg, q8.2))) else (if x2 = 1 then (ck x1 5 (some (0, v1_2 (x1).toNatClampNeg, q8.2))) else (if x2 = 2 then (ck x1 5 (some (0, v1_3 (x1).toNatClampNeg, q8.2))) else (if x2 = 3 then (ck x1 5 (some (0, v1_4 (x1).toNatClampNeg, q8.2))) else (if x2 = 4 then ((f_X2_filmsOn v3_1 x1).bind fun q96 => some (0, q96, q8.2)) else ((f_X2_isBroken i3_6 x1).bind fun q108 => if q108 = 0 then (some (0, 0, q8.2)) else (some (0, 1, q8.2)))))))) else (some (q8.1, 0, q8.2))) else (some (q2.1, 0, q2.2))
set_option maxHeartbeats 4000000 in
set_option maxRecDepth 100000 in
theorem c_X10_pane (l : Launch) (D : va_G) (cs : Nat → ClassId) (hl0 : l.stackTraces = false)  (sz : Nat) (a0 : Nat) (p0 : Nat → Nat) (i0_13 : Int32) (i0_14 : Int32) (v0_15 : Nat → Int32) (p1 : Nat → Nat) (i1_0 : Int32) (i1_6 : Int32) (i1_8 : Int32) (i1_10 : Int32) (i1_11 : Int32) (i1_12 : Int32) (v1_1 : Nat → Int32) (v1_2 : Nat → Int32) (v1_3 : Nat → Int32) (v1_4 : Nat → Int32) (v1_5 : Nat → Int32) (v1_7 : Nat → Int32) (v1_9 : Nat → Int32) (p2 : Nat → Nat) (i2_2 : Int32) (p3 : Nat → Nat) (i3_3 : Int32) (i3_4 : Int32) (i3_5 : Int32) (i3_6 : Int32) (i3_7 : Int32) (v3_0 : Nat → Int32) (v3_1 : Nat → Int32) (v3_2 : Nat → Int32) (x1 : Int32) (x2 : Int32) (res : Nat × Int32 × (Nat → Int32)) (hf : f_X10_pane  v0_15 i1_0 v1_1 v1_2 v1_3 v1_4 i3_6 v3_1 x1 x2 = some res) : XI l D cs yX10_pane wsX10_pane rm_X10_pane [.ref a0, .int x1, .int x2] sz (W_X10_pane cs a0 p0 i0_13 i0_14 v0_15 p1 i1_0 i1_6 i1_8 i1_10 i1_11 i1_12 v1_1 v1_2 v1_3 v1_4 v1_5 v1_7 v1_9 p2 i2_2 p3 i3_3 i3_4 i3_5 i3_6 i3_7 v3_0 v3_1 v3_2) (W_X10_pane cs a0 p0 i0_13 i0_14 res.2.2 p1 i1_0 i1_6 i1_8 i1_10 i1_11 i1_12 v1_1 v1_2 v1_3 v1_4 v1_5 v1_7 v1_9 p2 i2_2 p3 i3_3 i3_4 i3_5 i3_6 i3_7 v3_0 v3_1 v3_2) res.1 res.2.1 2 12 := by
  rw [f_X10_pane] at hf
  refine ow_enterT (cc := cX10_pane) (nL := 3) (ret := (some .int)) hl0 (by decide) rfl (Nat.le_of_ble_eq_true rfl) (fun p e s m below meth c ls H locs C0 T0 hP hD hS hA hl => ?_)
  obtain ⟨hx, hb, hr, hlk, hml, hown, hts, hK, hG, hE⟩ := id C0
  have hl : lv_has ls 3 [(0, .ref a0), (1, .int x1), (2, .int x2)] := hl
  refine lv_aload_n hx hb dX10_pane_0 rfl (lv_at hl 0 rfl) ?_
  refine lv_iload_n hx hb dX10_pane_1 rfl (lv_at hl 1 rfl) ?_
  obtain ⟨q2, hq, hf⟩ := bd_some hf
  refine ow_tVV (As := [.int x1]) (rest := []) (wr := ow_pk (W_X10_pane cs a0 p0 i0_13 i0_14 v0_15 p1 i1_0 i1_6 i1_8 i1_10 i1_11 i1_12 v1_1 v1_2 v1_3 v1_4 v1_5 v1_7 v1_9 p2 i2_2 p3 i3_3 i3_4 i3_5 i3_6 i3_7 v3_0 v3_1 v3_2) [10, 11, 12, 13, 14]) (wf := (W_X10_pane cs a0 p0 i0_13 i0_14 q2.2 p1 i1_0 i1_6 i1_8 i1_10 i1_11 i1_12 v1_1 v1_2 v1_3 v1_4 v1_5 v1_7 v1_9 p2 i2_2 p3 i3_3 i3_4 i3_5 i3_6 i3_7 v3_0 v3_1 v3_2)) (k := q2.1) C0 T0 (c_X10_needPane l D cs T0.1 H.size a0 p0 i0_13 i0_14 v0_15 p1 i1_0 i1_6 i1_8 i1_10 i1_11 i1_12 v1_1 v1_2 v1_3 v1_4 v1_5 v1_7 v1_9 x1 q2 hq) (cwV 1 hts gX10_pane_X10_needPane rfl rfl rfl (by decide +kernel) ⟨Nat.le_of_ble_eq_true rfl, Nat.le_of_ble_eq_true rfl⟩) 10 rfl rfl hP hD hS (fun q h => Or.inr h) [0, 1, 2, 3, 4, 5, 6, 7, 8, 9] [10, 11, 12, 13, 14] [5, 6, 7, 8, 9, 10, 11, 12, 13, 14, 0, 1, 2, 3, 4] rfl (by decide) rfl (by decide) (by decide) rfl (by decide) rfl hl.1 rfl (Nat.le_of_ble_eq_true rfl) ⟨(Nat.le_of_ble_eq_true rfl), (Nat.le_of_ble_eq_true rfl)⟩ dX10_pane_2 (fun hz => ?_) (Nat.le_of_ble_eq_true rfl) (Nat.le_of_ble_eq_true rfl) (fun hz H locs hP hD hS => ?_)
  · replace hf := ow_f hz hf
    obtain rfl := Option.some.inj hf
    exact ⟨rfl, rfl⟩
  replace hf := ow_t hz hf
  refine lv_aload_n hx hb dX10_pane_5 rfl (lv_at hl 0 rfl) ?_
  refine lv_iload_n hx hb dX10_pane_6 rfl (lv_at hl 2 rfl) ?_
  refine lv_iconst (v := 5) hx hb dX10_pane_7 (by decide) ?_
  obtain ⟨q8, hq, hf⟩ := bd_some hf
  refine ow_tVV (As := [.int x2, .int 5]) (rest := []) (wr := ow_pk (W_X10_pane cs a0 p0 i0_13 i0_14 q2.2 p1 i1_0 i1_6 i1_8 i1_10 i1_11 i1_12 v1_1 v1_2 v1_3 v1_4 v1_5 v1_7 v1_9 p2 i2_2 p3 i3_3 i3_4 i3_5 i3_6 i3_7 v3_0 v3_1 v3_2) [2, 3, 4, 5, 6, 7, 8, 9, 10, 11, 12, 13, 14]) (wf := (W_X10_pane cs a0 p0 i0_13 i0_14 q8.2 p1 i1_0 i1_6 i1_8 i1_10 i1_11 i1_12 v1_1 v1_2 v1_3 v1_4 v1_5 v1_7 v1_9 p2 i2_2 p3 i3_3 i3_4 i3_5 i3_6 i3_7 v3_0 v3_1 v3_2)) (k := q8.1) C0 T0 (c_X10_needWhat l D cs T0.1 H.size a0 p0 i0_13 i0_14 q2.2 x2 (5) q8 hq) (cwV 2 hts gX10_pane_X10_needWhat rfl rfl rfl (by decide +kernel) ⟨Nat.le_of_ble_eq_true rfl, Nat.le_of_ble_eq_true rfl⟩) 10 rfl rfl hP hD hS (fun q h => Or.inr h) [0, 1] [2, 3, 4, 5, 6, 7, 8, 9, 10, 11, 12, 13, 14] [13, 14, 0, 1, 2, 3, 4, 5, 6, 7, 8, 9, 10, 11, 12] rfl (by decide) rfl (by decide) (by decide) rfl (by decide) rfl hl.1 rfl (Nat.le_of_ble_eq_true rfl) ⟨(Nat.le_of_ble_eq_true rfl), (Nat.le_of_ble_eq_true rfl)⟩ dX10_pane_8 (fun hz => ?_) (Nat.le_of_ble_eq_true rfl) (Nat.le_of_ble_eq_true rfl) (fun hz H locs hP hD hS => ?_)
  · replace hf := ow_f hz hf
    obtain rfl := Option.some.inj hf
    exact ⟨rfl, rfl⟩
  replace hf := ow_t hz hf
  refine lv_iload_n hx hb dX10_pane_11 rfl (lv_at hl 2 rfl) ?_
  rcases Decidable.em (x2 = 0) with hc | hc
  · replace hf := ow_t hc hf
    refine lv_tableIn (tgt := 48) hx hb dX10_pane_12 (by rw [hc]; decide) (by rw [hc]; decide) (by rw [hc]; rfl) (by decide) ?_
    refine lv_aload_n hx hb dX10_pane_48 rfl (lv_at hl 0 rfl) ?_
    refine va_get (D := D) (ci := 10) (v := .ref (p0 1)) (C := RX10) (T := TX10) (N := 16) hx hb hts in_X10_pane_X10 hown hK hP 0 rfl rfl 1 (by decide) (hts (.fieldLink RX10 19 "PaneDays" "street" "LPaneDays$Street;") (List.mem_of_getElem? (i := 1) rfl)) (fun _ h9 => h9) rfl dX10_pane_49 ?_
    refine va_get (D := D) (ci := 6) (v := .ref (p1 1)) (C := RX6) (T := TX6) (N := 13) hx hb hts in_X10_pane_X6 hown hK hP 2 rfl rfl 1 (by decide) (hts (.fieldLink RX10 189 "PaneDays$Street" "wide" "[I") (List.mem_of_getElem? (i := 2) rfl)) (fun _ h9 => h9) rfl dX10_pane_52 ?_
    refine lv_iload_n hx hb dX10_pane_55 rfl (lv_at hl 1 rfl) ?_
    obtain ⟨hin, hf⟩ := ck_some hf
    refine va_iald (f := v1_1) hx hb hK hP 3 0 rfl rfl hin dX10_pane_56 ?_
    obtain rfl := Option.some.inj hf
    exact ow_tretI C0 rfl hP hD hS (Nat.le_of_ble_eq_true rfl) (Nat.le_of_ble_eq_true rfl) dX10_pane_57
  replace hf := ow_f hc hf
  have hn0 := hc
  rcases Decidable.em (x2 = 1) with hc | hc
  · replace hf := ow_t hc hf
    refine lv_tableIn (tgt := 58) hx hb dX10_pane_12 (by rw [hc]; decide) (by rw [hc]; decide) (by rw [hc]; rfl) (by decide) ?_
    refine lv_aload_n hx hb dX10_pane_58 rfl (lv_at hl 0 rfl) ?_
    refine va_get (D := D) (ci := 10) (v := .ref (p0 1)) (C := RX10) (T := TX10) (N := 16) hx hb hts in_X10_pane_X10 hown hK hP 0 rfl rfl 1 (by decide) (hts (.fieldLink RX10 19 "PaneDays" "street" "LPaneDays$Street;") (List.mem_of_getElem? (i := 1) rfl)) (fun _ h9 => h9) rfl dX10_pane_59 ?_
    refine va_get (D := D) (ci := 6) (v := .ref (p1 2)) (C := RX6) (T := TX6) (N := 13) hx hb hts in_X10_pane_X6 hown hK hP 2 rfl rfl 2 (by decide) (hts (.fieldLink RX10 192 "PaneDays$Street" "high" "[I") (List.mem_of_getElem? (i := 3) rfl)) (fun _ h9 => h9) rfl dX10_pane_62 ?_
    refine lv_iload_n hx hb dX10_pane_65 rfl (lv_at hl 1 rfl) ?_
    obtain ⟨hin, hf⟩ := ck_some hf
    refine va_iald (f := v1_2) hx hb hK hP 4 0 rfl rfl hin dX10_pane_66 ?_
    obtain rfl := Option.some.inj hf
    exact ow_tretI C0 rfl hP hD hS (Nat.le_of_ble_eq_true rfl) (Nat.le_of_ble_eq_true rfl) dX10_pane_67
  replace hf := ow_f hc hf
  have hn1 := hc
  rcases Decidable.em (x2 = 2) with hc | hc
  · replace hf := ow_t hc hf
    refine lv_tableIn (tgt := 68) hx hb dX10_pane_12 (by rw [hc]; decide) (by rw [hc]; decide) (by rw [hc]; rfl) (by decide) ?_
    refine lv_aload_n hx hb dX10_pane_68 rfl (lv_at hl 0 rfl) ?_
    refine va_get (D := D) (ci := 10) (v := .ref (p0 1)) (C := RX10) (T := TX10) (N := 16) hx hb hts in_X10_pane_X10 hown hK hP 0 rfl rfl 1 (by decide) (hts (.fieldLink RX10 19 "PaneDays" "street" "LPaneDays$Street;") (List.mem_of_getElem? (i := 1) rfl)) (fun _ h9 => h9) rfl dX10_pane_69 ?_
    refine va_get (D := D) (ci := 6) (v := .ref (p1 3)) (C := RX6) (T := TX6) (N := 13) hx hb hts in_X10_pane_X6 hown hK hP 2 rfl rfl 3 (by decide) (hts (.fieldLink RX10 195 "PaneDays$Street" "along" "[I") (List.mem_of_getElem? (i := 4) rfl)) (fun _ h9 => h9) rfl dX10_pane_72 ?_
    refine lv_iload_n hx hb dX10_pane_75 rfl (lv_at hl 1 rfl) ?_
    obtain ⟨hin, hf⟩ := ck_some hf
    refine va_iald (f := v1_3) hx hb hK hP 5 0 rfl rfl hin dX10_pane_76 ?_
    obtain rfl := Option.some.inj hf
    exact ow_tretI C0 rfl hP hD hS (Nat.le_of_ble_eq_true rfl) (Nat.le_of_ble_eq_true rfl) dX10_pane_77
  replace hf := ow_f hc hf
  have hn2 := hc
  rcases Decidable.em (x2 = 3) with hc | hc
  · replace hf := ow_t hc hf
    refine lv_tableIn (tgt := 78) hx hb dX10_pane_12 (by rw [hc]; decide) (by rw [hc]; decide) (by rw [hc]; rfl) (by decide) ?_
    refine lv_aload_n hx hb dX10_pane_78 rfl (lv_at hl 0 rfl) ?_
    refine va_get (D := D) (ci := 10) (v := .ref (p0 1)) (C := RX10) (T := TX10) (N := 16) hx hb hts in_X10_pane_X10 hown hK hP 0 rfl rfl 1 (by decide) (hts (.fieldLink RX10 19 "PaneDays" "street" "LPaneDays$Street;") (List.mem_of_getElem? (i := 1) rfl)) (fun _ h9 => h9) rfl dX10_pane_79 ?_
    refine va_get (D := D) (ci := 6) (v := .ref (p1 4)) (C := RX6) (T := TX6) (N := 13) hx hb hts in_X10_pane_X6 hown hK hP 2 rfl rfl 4 (by decide) (hts (.fieldLink RX10 198 "PaneDays$Street" "floor" "[I") (List.mem_of_getElem? (i := 5) rfl)) (fun _ h9 => h9) rfl dX10_pane_82 ?_
    refine lv_iload_n hx hb dX10_pane_85 rfl (lv_at hl 1 rfl) ?_
    obtain ⟨hin, hf⟩ := ck_some hf
    refine va_iald (f := v1_4) hx hb hK hP 6 0 rfl rfl hin dX10_pane_86 ?_
    obtain rfl := Option.some.inj hf
    exact ow_tretI C0 rfl hP hD hS (Nat.le_of_ble_eq_true rfl) (Nat.le_of_ble_eq_true rfl) dX10_pane_87
  replace hf := ow_f hc hf
  have hn3 := hc
  rcases Decidable.em (x2 = 4) with hc | hc
  · replace hf := ow_t hc hf
    refine lv_tableIn (tgt := 88) hx hb dX10_pane_12 (by rw [hc]; decide) (by rw [hc]; decide) (by rw [hc]; rfl) (by decide) ?_
    refine lv_aload_n hx hb dX10_pane_88 rfl (lv_at hl 0 rfl) ?_
    refine va_get (D := D) (ci := 10) (v := .ref (p0 9)) (C := RX10) (T := TX10) (N := 16) hx hb hts in_X10_pane_X10 hown hK hP 0 rfl rfl 9 (by decide) (hts (.fieldLink RX10 63 "PaneDays" "past" "LPaneDays$Past;") (List.mem_of_getElem? (i := 6) rfl)) (fun _ h9 => h9) rfl dX10_pane_89 ?_
    refine va_get (D := D) (ci := 4) (v := .ref (p2 0)) (C := RX4) (T := TX4) (N := 3) hx hb hts in_X10_pane_X4 hown hK hP 10 rfl rfl 0 (by decide) (hts (.fieldLink RX10 76 "PaneDays$Past" "now" "LPaneDays$Glass;") (List.mem_of_getElem? (i := 7) rfl)) (fun _ h9 => h9) rfl dX10_pane_92 ?_
    refine lv_iload_n hx hb dX10_pane_95 rfl (lv_at hl 1 rfl) ?_
    obtain ⟨q96, hq, hf⟩ := bd_some hf
    refine ow_callVI (As := [.int x1]) (rest := []) (wr := ow_pk (W_X10_pane cs a0 p0 i0_13 i0_14 q8.2 p1 i1_0 i1_6 i1_8 i1_10 i1_11 i1_12 v1_1 v1_2 v1_3 v1_4 v1_5 v1_7 v1_9 p2 i2_2 p3 i3_3 i3_4 i3_5 i3_6 i3_7 v3_0 v3_1 v3_2) [0, 1, 2, 3, 4, 5, 6, 7, 8, 9, 10]) (wf := (W_X10_pane cs a0 p0 i0_13 i0_14 q8.2 p1 i1_0 i1_6 i1_8 i1_10 i1_11 i1_12 v1_1 v1_2 v1_3 v1_4 v1_5 v1_7 v1_9 p2 i2_2 p3 i3_3 i3_4 i3_5 i3_6 i3_7 v3_0 v3_1 v3_2)) (r := q96) C0 (c_X2_filmsOn l D cs H.size (p2 0) p3 i3_3 i3_4 i3_5 i3_6 i3_7 v3_0 v3_1 v3_2 x1 q96 hq) (cwV 1 hts gX10_pane_X2_filmsOn rfl rfl rfl (by decide +kernel) ⟨Nat.le_of_ble_eq_true rfl, Nat.le_of_ble_eq_true rfl⟩) 2 rfl rfl hP hD hS (fun q h => Or.inr h) [11, 12, 13, 14] [0, 1, 2, 3, 4, 5, 6, 7, 8, 9, 10] [0, 1, 2, 3, 4, 5, 6, 7, 8, 9, 10, 11, 12, 13, 14] rfl (by decide) rfl (by decide) (by decide) rfl (by decide) rfl hl.1 rfl (Nat.le_of_ble_eq_true rfl) ⟨(Nat.le_of_ble_eq_true rfl), (Nat.le_of_ble_eq_true rfl)⟩ dX10_pane_96 (fun H locs hP hD hS => ?_)
    obtain rfl := Option.some.inj hf
    exact ow_tretI C0 rfl hP hD hS (Nat.le_of_ble_eq_true rfl) (Nat.le_of_ble_eq_true rfl) dX10_pane_99
  replace hf := ow_f hc hf
  have hn4 := hc
  refine lv_tableOut (x := x2) (tgt := 100) hx hb dX10_pane_12 (ow_out (fun z h1 h2 => by rcases (show z = 0 ∨ z = 1 ∨ z = 2 ∨ z = 3 ∨ z = 4 by omega) with rfl | rfl | rfl | rfl | rfl <;> first | exact lv_neT hn0 (by decide) | exact lv_neT hn1 (by decide) | exact lv_neT hn2 (by decide) | exact lv_neT hn3 (by decide) | exact lv_neT hn4 (by decide))) (by decide) ?_
  refine lv_aload_n hx hb dX10_pane_100 rfl (lv_at hl 0 rfl) ?_
  refine va_get (D := D) (ci := 10) (v := .ref (p0 9)) (C := RX10) (T := TX10) (N := 16) hx hb hts in_X10_pane_X10 hown hK hP 0 rfl rfl 9 (by decide) (hts (.fieldLink RX10 63 "PaneDays" "past" "LPaneDays$Past;") (List.mem_of_getElem? (i := 6) rfl)) (fun _ h9 => h9) rfl dX10_pane_101 ?_
  refine va_get (D := D) (ci := 4) (v := .ref (p2 0)) (C := RX4) (T := TX4) (N := 3) hx hb hts in_X10_pane_X4 hown hK hP 10 rfl rfl 0 (by decide) (hts (.fieldLink RX10 76 "PaneDays$Past" "now" "LPaneDays$Glass;") (List.mem_of_getElem? (i := 7) rfl)) (fun _ h9 => h9) rfl dX10_pane_104 ?_
  refine lv_iload_n hx hb dX10_pane_107 rfl (lv_at hl 1 rfl) ?_
  obtain ⟨q108, hq, hf⟩ := bd_some hf
  refine ow_callVI (As := [.int x1]) (rest := []) (wr := ow_pk (W_X10_pane cs a0 p0 i0_13 i0_14 q8.2 p1 i1_0 i1_6 i1_8 i1_10 i1_11 i1_12 v1_1 v1_2 v1_3 v1_4 v1_5 v1_7 v1_9 p2 i2_2 p3 i3_3 i3_4 i3_5 i3_6 i3_7 v3_0 v3_1 v3_2) [0, 1, 2, 3, 4, 5, 6, 7, 8, 9, 10]) (wf := (W_X10_pane cs a0 p0 i0_13 i0_14 q8.2 p1 i1_0 i1_6 i1_8 i1_10 i1_11 i1_12 v1_1 v1_2 v1_3 v1_4 v1_5 v1_7 v1_9 p2 i2_2 p3 i3_3 i3_4 i3_5 i3_6 i3_7 v3_0 v3_1 v3_2)) (r := q108) C0 (c_X2_isBroken l D cs H.size (p2 0) p3 i3_3 i3_4 i3_5 i3_6 i3_7 v3_0 v3_1 v3_2 x1 q108 hq) (cwV 1 hts gX10_pane_X2_isBroken rfl rfl rfl (by decide +kernel) ⟨Nat.le_of_ble_eq_true rfl, Nat.le_of_ble_eq_true rfl⟩) 2 rfl rfl hP hD hS (fun q h => Or.inr h) [11, 12, 13, 14] [0, 1, 2, 3, 4, 5, 6, 7, 8, 9, 10] [0, 1, 2, 3, 4, 5, 6, 7, 8, 9, 10, 11, 12, 13, 14] rfl (by decide) rfl (by decide) (by decide) rfl (by decide) rfl hl.1 rfl (Nat.le_of_ble_eq_true rfl) ⟨(Nat.le_of_ble_eq_true rfl), (Nat.le_of_ble_eq_true rfl)⟩ dX10_pane_108 (fun H locs hP hD hS => ?_)
  refine lv_if_eq (tgt := 118) hx hb dX10_pane_111 (by decide) (fun hc => ?_) (fun hc => ?_)
  · replace hf := ow_t hc hf
    refine lv_iconst (v := 0) hx hb dX10_pane_118 (by decide) ?_
    obtain rfl := Option.some.inj hf
    exact ow_tretI C0 rfl hP hD hS (Nat.le_of_ble_eq_true rfl) (Nat.le_of_ble_eq_true rfl) dX10_pane_119
  · replace hf := ow_f hc hf
    refine lv_iconst (v := 1) hx hb dX10_pane_114 (by decide) ?_
    refine lv_goto (tgt := 119) hx hb dX10_pane_115 (by decide) ?_
    obtain rfl := Option.some.inj hf
    exact ow_tretI C0 rfl hP hD hS (Nat.le_of_ble_eq_true rfl) (Nat.le_of_ble_eq_true rfl) dX10_pane_119

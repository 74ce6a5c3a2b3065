theorem in_X10_told_X0 : ∀ w ∈ u_ws RX0 TX0 4, w ∈ wsX10_told := by decide +kernel
theorem in_X10_told_X10 : ∀ w ∈ u_ws RX10 TX10 16, w ∈ wsX10_told := by decide +kernel
theorem in_X10_told_X2 : ∀ w ∈ u_ws RX2 TX2 8, w ∈ wsX10_told := by decide +kernel
theorem in_X10_told_X4 : ∀ w ∈ u_ws RX4 TX4 3, w ∈ wsX10_told := by decide +kernel
theorem in_X10_told_X6 : ∀ w ∈ u_ws RX6 TX6 13, w ∈ wsX10_told := by decide +kernel
abbrev W_X10_told (cs : Nat → ClassId) (a0 : Nat) (p0 : Nat → Nat) (i0_13 : Int32) (i0_14 : Int32) (v0_15 : Nat → Int32) (p1 : Nat → Nat) (i1_0 : Int32) (i1_1 : Int32) (v1_2 : Nat → Int32) (v1_3 : Nat → Int32) (p2 : Nat → Nat) (i2_2 : Int32) (p3 : Nat → Nat) (i3_3 : Int32) (i3_4 : Int32) (i3_5 : Int32) (i3_6 : Int32) (i3_7 : Int32) (v3_0 : Nat → Int32) (v3_1 : Nat → Int32) (v3_2 : Nat → Int32) (p4 : Nat → Nat) (i4_0 : Int32) (i4_6 : Int32) (i4_8 : Int32) (i4_10 : Int32) (i4_11 : Int32) (i4_12 : Int32) (v4_1 : Nat → Int32) (v4_2 : Nat → Int32) (v4_3 : Nat → Int32) (v4_4 : Nat → Int32) (v4_5 : Nat → Int32) (v4_7 : Nat → Int32) (v4_9 : Nat → Int32) : va_W := wX10 cs a0 p0 i0_13 i0_14 v0_15 ++ wX0 cs (p0 5) p1 i1_0 i1_1 v1_2 v1_3 ++ wX4 cs (p0 9) p2 i2_2 ++ wX2 cs (p2 0) p3 i3_3 i3_4 i3_5 i3_6 i3_7 v3_0 v3_1 v3_2 ++ wX6 cs (p0 1) p4 i4_0 i4_6 i4_8 i4_10 i4_11 i4_12 v4_1 v4_2 v4_3 v4_4 v4_5 v4_7 v4_9
abbrev rm_X10_told : Room := { frames := 8, cells := 1, slots := 6, locals := 124 }
def f_X10_told  (i0_14 : Int32) (v0_15 : Nat → Int32) (i1_0 : Int32) (i3_3 : Int32) (i3_4 : Int32) (i3_5 : Int32) (v3_1 : Nat → Int32) (i4_0 : Int32) (i4_6 : Int32) (i4_8 : Int32) (x1 : Int32) : Option (Nat × Int32 × (Nat → Int32)) := (f_X10_needWhat v0_15 x1 (8)).bind fun q4 => if q4.1 = 0 then (if x1 = 0 then (some (0, i4_0, q4.2)) else (if x1 = 1 then (some (0, i4_8, q4.2)) else (if x1 = 2 then (some (0, i4_6, q4.2)) else (if x1 = 3 then (some (0, i3_4, q4.2)) else (if x1 = 4 then ((f_X2_filmsOnAll v3_1).bind fun q98 => some (0, q98, q4.2)) else (if x1 = 5 then (some (0, i3_3, q4.2)) else (if x1 = 6 then (some (0, i3_5, q4.2)) else (if x1 = 7 then (some (0, i1_0, q4.2)) else (some (0, i0_14, q4.2)))))))))) else (some (q4.1, 0, q4.2))
set_option maxHeartbeats 4000000 in
set_option maxRecDepth 100000 in
theorem c_X10_told (l : Launch) (D : va_G) (cs : Nat → ClassId) (hl0 : l.stackTraces = false)  (sz : Nat) (a0 : Nat) (p0 : Nat → Nat) (i0_13 : Int32) (i0_14 : Int32) (v0_15 : Nat → Int32) (p1 : Nat → Nat) (i1_0 : Int32) (i1_1 : Int32) (v1_2 : Nat → Int32) (v1_3 : Nat → Int32) (p2 : Nat → Nat) (i2_2 : Int32) (p3 : Nat → Nat) (i3_3 : Int32) (i3_4 : Int32) (i3_5 : Int32) (i3_6 : Int32) (i3_7 : Int32) (v3_0 : Nat → Int32) (v3_1 : Nat → Int32) (v3_2 : Nat → Int32) (p4 : Nat → Nat) (i4_0 : Int32) (i4_6 : Int32) (i4_8 : Int32) (i4_10 : Int32) (i4_11 : Int32) (i4_12 : Int32) (v4_1 : Nat → Int32) (v4_2 : Nat → Int32) (v4_3 : Nat → Int32) (v4_4 : Nat → Int32) (v4_5 : Nat → Int32) (v4_7 : Nat → Int32) (v4_9 : Nat → Int32) (x1 : Int32) (res : Nat × Int32 × (Nat → Int32)) (hf : f_X10_told  i0_14 v0_15 i1_0 i3_3 i3_4 i3_5 v3_1 i4_0 i4_6 i4_8 x1 = some res) : XI l D cs yX10_told wsX10_told rm_X10_told [.ref a0, .int x1] sz (W_X10_told cs a0 p0 i0_13 i0_14 v0_15 p1 i1_0 i1_1 v1_2 v1_3 p2 i2_2 p3 i3_3 i3_4 i3_5 i3_6 i3_7 v3_0 v3_1 v3_2 p4 i4_0 i4_6 i4_8 i4_10 i4_11 i4_12 v4_1 v4_2 v4_3 v4_4 v4_5 v4_7 v4_9) (W_X10_told cs a0 p0 i0_13 i0_14 res.2.2 p1 i1_0 i1_1 v1_2 v1_3 p2 i2_2 p3 i3_3 i3_4 i3_5 i3_6 i3_7 v3_0 v3_1 v3_2 p4 i4_0 i4_6 i4_8 i4_10 i4_11 i4_12 v4_1 v4_2 v4_3 v4_4 v4_5 v4_7 v4_9) res.1 res.2.1 1 6 := by
  rw [f_X10_told] at hf
  refine ow_enterT (cc := cX10_told) (nL := 2) (ret := (some .int)) hl0 (by decide) rfl (Nat.le_of_ble_eq_true rfl) (fun p e s m below meth c ls H locs C0 T0 hP hD hS hA hl => ?_)
  obtain ⟨hx, hb, hr, hlk, hml, hown, hts, hK, hG, hE⟩ := id C0
  have hl : lv_has ls 2 [(0, .ref a0), (1, .int x1)] := hl
  refine lv_aload_n hx hb dX10_told_0 rfl (lv_at hl 0 rfl) ?_
  refine lv_iload_n hx hb dX10_told_1 rfl (lv_at hl 1 rfl) ?_
  refine lv_bipush (v := 8) hx hb dX10_told_2 (by decide) ?_
  obtain ⟨q4, hq, hf⟩ := bd_some hf
  refine ow_tVV (As := [.int x1, .int 8]) (rest := []) (wr := ow_pk (W_X10_told cs a0 p0 i0_13 i0_14 v0_15 p1 i1_0 i1_1 v1_2 v1_3 p2 i2_2 p3 i3_3 i3_4 i3_5 i3_6 i3_7 v3_0 v3_1 v3_2 p4 i4_0 i4_6 i4_8 i4_10 i4_11 i4_12 v4_1 v4_2 v4_3 v4_4 v4_5 v4_7 v4_9) [2, 3, 4, 5, 6, 7, 8, 9, 10, 11, 12, 13, 14, 15, 16, 17]) (wf := (W_X10_told cs a0 p0 i0_13 i0_14 q4.2 p1 i1_0 i1_1 v1_2 v1_3 p2 i2_2 p3 i3_3 i3_4 i3_5 i3_6 i3_7 v3_0 v3_1 v3_2 p4 i4_0 i4_6 i4_8 i4_10 i4_11 i4_12 v4_1 v4_2 v4_3 v4_4 v4_5 v4_7 v4_9)) (k := q4.1) C0 T0 (c_X10_needWhat l D cs T0.1 H.size a0 p0 i0_13 i0_14 v0_15 x1 (8) q4 hq) (cwV 2 hts gX10_told_X10_needWhat rfl rfl rfl (by decide +kernel) ⟨Nat.le_of_ble_eq_true rfl, Nat.le_of_ble_eq_true rfl⟩) 10 rfl rfl hP hD hS (fun q h => Or.inr h) [0, 1] [2, 3, 4, 5, 6, 7, 8, 9, 10, 11, 12, 13, 14, 15, 16, 17] [16, 17, 0, 1, 2, 3, 4, 5, 6, 7, 8, 9, 10, 11, 12, 13, 14, 15] rfl (by decide) rfl (by decide) (by decide) rfl (by decide) rfl hl.1 rfl (Nat.le_of_ble_eq_true rfl) ⟨(Nat.le_of_ble_eq_true rfl), (Nat.le_of_ble_eq_true rfl)⟩ dX10_told_4 (fun hz => ?_) (Nat.le_of_ble_eq_true rfl) (Nat.le_of_ble_eq_true rfl) (fun hz H locs hP hD hS => ?_)
  · replace hf := ow_f hz hf
    obtain rfl := Option.some.inj hf
    exact ⟨rfl, rfl⟩
  replace hf := ow_t hz hf
  refine lv_iload_n hx hb dX10_told_7 rfl (lv_at hl 1 rfl) ?_
  rcases Decidable.em (x1 = 0) with hc | hc
  · replace hf := ow_t hc hf
    refine lv_tableIn (tgt := 56) hx hb dX10_told_8 (by rw [hc]; decide) (by rw [hc]; decide) (by rw [hc]; rfl) (by decide) ?_
    refine lv_aload_n hx hb dX10_told_56 rfl (lv_at hl 0 rfl) ?_
    refine va_get (D := D) (ci := 10) (v := .ref (p0 1)) (C := RX10) (T := TX10) (N := 16) hx hb hts in_X10_told_X10 hown hK hP 0 rfl rfl 1 (by decide) (hts (.fieldLink RX10 19 "PaneDays" "street" "LPaneDays$Street;") (List.mem_of_getElem? (i := 1) rfl)) (fun _ h9 => h9) rfl dX10_told_57 ?_
    refine va_get (D := D) (ci := 6) (v := .int i4_0) (C := RX6) (T := TX6) (N := 13) hx hb hts in_X10_told_X6 hown hK hP 10 rfl rfl 0 (by decide) (hts (.fieldLink RX10 129 "PaneDays$Street" "panes" "I") (List.mem_of_getElem? (i := 2) rfl)) (fun _ h9 => h9) rfl dX10_told_60 ?_
    obtain rfl := Option.some.inj hf
    exact ow_tretI C0 rfl hP hD hS (Nat.le_of_ble_eq_true rfl) (Nat.le_of_ble_eq_true rfl) dX10_told_63
  replace hf := ow_f hc hf
  have hn0 := hc
  rcases Decidable.em (x1 = 1) with hc | hc
  · replace hf := ow_t hc hf
    refine lv_tableIn (tgt := 64) hx hb dX10_told_8 (by rw [hc]; decide) (by rw [hc]; decide) (by rw [hc]; rfl) (by decide) ?_
    refine lv_aload_n hx hb dX10_told_64 rfl (lv_at hl 0 rfl) ?_
    refine va_get (D := D) (ci := 10) (v := .ref (p0 1)) (C := RX10) (T := TX10) (N := 16) hx hb hts in_X10_told_X10 hown hK hP 0 rfl rfl 1 (by decide) (hts (.fieldLink RX10 19 "PaneDays" "street" "LPaneDays$Street;") (List.mem_of_getElem? (i := 1) rfl)) (fun _ h9 => h9) rfl dX10_told_65 ?_
    refine va_get (D := D) (ci := 6) (v := .int i4_8) (C := RX6) (T := TX6) (N := 13) hx hb hts in_X10_told_X6 hown hK hP 10 rfl rfl 8 (by decide) (hts (.fieldLink RX10 165 "PaneDays$Street" "orders" "I") (List.mem_of_getElem? (i := 3) rfl)) (fun _ h9 => h9) rfl dX10_told_68 ?_
    obtain rfl := Option.some.inj hf
    exact ow_tretI C0 rfl hP hD hS (Nat.le_of_ble_eq_true rfl) (Nat.le_of_ble_eq_true rfl) dX10_told_71
  replace hf := ow_f hc hf
  have hn1 := hc
  rcases Decidable.em (x1 = 2) with hc | hc
  · replace hf := ow_t hc hf
    refine lv_tableIn (tgt := 72) hx hb dX10_told_8 (by rw [hc]; decide) (by rw [hc]; decide) (by rw [hc]; rfl) (by decide) ?_
    refine lv_aload_n hx hb dX10_told_72 rfl (lv_at hl 0 rfl) ?_
    refine va_get (D := D) (ci := 10) (v := .ref (p0 1)) (C := RX10) (T := TX10) (N := 16) hx hb hts in_X10_told_X10 hown hK hP 0 rfl rfl 1 (by decide) (hts (.fieldLink RX10 19 "PaneDays" "street" "LPaneDays$Street;") (List.mem_of_getElem? (i := 1) rfl)) (fun _ h9 => h9) rfl dX10_told_73 ?_
    refine va_get (D := D) (ci := 6) (v := .int i4_6) (C := RX6) (T := TX6) (N := 13) hx hb hts in_X10_told_X6 hown hK hP 10 rfl rfl 6 (by decide) (hts (.fieldLink RX10 168 "PaneDays$Street" "rains" "I") (List.mem_of_getElem? (i := 4) rfl)) (fun _ h9 => h9) rfl dX10_told_76 ?_
    obtain rfl := Option.some.inj hf
    exact ow_tretI C0 rfl hP hD hS (Nat.le_of_ble_eq_true rfl) (Nat.le_of_ble_eq_true rfl) dX10_told_79
  replace hf := ow_f hc hf
  have hn2 := hc
  rcases Decidable.em (x1 = 3) with hc | hc
  · replace hf := ow_t hc hf
    refine lv_tableIn (tgt := 80) hx hb dX10_told_8 (by rw [hc]; decide) (by rw [hc]; decide) (by rw [hc]; rfl) (by decide) ?_
    refine lv_aload_n hx hb dX10_told_80 rfl (lv_at hl 0 rfl) ?_
    refine va_get (D := D) (ci := 10) (v := .ref (p0 9)) (C := RX10) (T := TX10) (N := 16) hx hb hts in_X10_told_X10 hown hK hP 0 rfl rfl 9 (by decide) (hts (.fieldLink RX10 63 "PaneDays" "past" "LPaneDays$Past;") (List.mem_of_getElem? (i := 5) rfl)) (fun _ h9 => h9) rfl dX10_told_81 ?_
    refine va_get (D := D) (ci := 4) (v := .ref (p2 0)) (C := RX4) (T := TX4) (N := 3) hx hb hts in_X10_told_X4 hown hK hP 5 rfl rfl 0 (by decide) (hts (.fieldLink RX10 76 "PaneDays$Past" "now" "LPaneDays$Glass;") (List.mem_of_getElem? (i := 6) rfl)) (fun _ h9 => h9) rfl dX10_told_84 ?_
    refine va_get (D := D) (ci := 2) (v := .int i3_4) (C := RX2) (T := TX2) (N := 8) hx hb hts in_X10_told_X2 hown hK hP 6 rfl rfl 4 (by decide) (hts (.fieldLink RX10 171 "PaneDays$Glass" "day" "I") (List.mem_of_getElem? (i := 7) rfl)) (fun _ h9 => h9) rfl dX10_told_87 ?_
    obtain rfl := Option.some.inj hf
    exact ow_tretI C0 rfl hP hD hS (Nat.le_of_ble_eq_true rfl) (Nat.le_of_ble_eq_true rfl) dX10_told_90
  replace hf := ow_f hc hf
  have hn3 := hc
  rcases Decidable.em (x1 = 4) with hc | hc
  · replace hf := ow_t hc hf
    refine lv_tableIn (tgt := 91) hx hb dX10_told_8 (by rw [hc]; decide) (by rw [hc]; decide) (by rw [hc]; rfl) (by decide) ?_
    refine lv_aload_n hx hb dX10_told_91 rfl (lv_at hl 0 rfl) ?_
    refine va_get (D := D) (ci := 10) (v := .ref (p0 9)) (C := RX10) (T := TX10) (N := 16) hx hb hts in_X10_told_X10 hown hK hP 0 rfl rfl 9 (by decide) (hts (.fieldLink RX10 63 "PaneDays" "past" "LPaneDays$Past;") (List.mem_of_getElem? (i := 5) rfl)) (fun _ h9 => h9) rfl dX10_told_92 ?_
    refine va_get (D := D) (ci := 4) (v := .ref (p2 0)) (C := RX4) (T := TX4) (N := 3) hx hb hts in_X10_told_X4 hown hK hP 5 rfl rfl 0 (by decide) (hts (.fieldLink RX10 76 "PaneDays$Past" "now" "LPaneDays$Glass;") (List.mem_of_getElem? (i := 6) rfl)) (fun _ h9 => h9) rfl dX10_told_95 ?_
    obtain ⟨q98, hq, hf⟩ := bd_some hf
    refine ow_callVI (As := []) (rest := []) (wr := ow_pk (W_X10_told cs a0 p0 i0_13 i0_14 q4.2 p1 i1_0 i1_1 v1_2 v1_3 p2 i2_2 p3 i3_3 i3_4 i3_5 i3_6 i3_7 v3_0 v3_1 v3_2 p4 i4_0 i4_6 i4_8 i4_10 i4_11 i4_12 v4_1 v4_2 v4_3 v4_4 v4_5 v4_7 v4_9) [0, 1, 2, 3, 4, 5, 10, 11, 12, 13, 14, 15, 16, 17]) (wf := (W_X10_told cs a0 p0 i0_13 i0_14 q4.2 p1 i1_0 i1_1 v1_2 v1_3 p2 i2_2 p3 i3_3 i3_4 i3_5 i3_6 i3_7 v3_0 v3_1 v3_2 p4 i4_0 i4_6 i4_8 i4_10 i4_11 i4_12 v4_1 v4_2 v4_3 v4_4 v4_5 v4_7 v4_9)) (r := q98) C0 (c_X2_filmsOnAll l D cs H.size (p2 0) p3 i3_3 i3_4 i3_5 i3_6 i3_7 v3_0 v3_1 v3_2  q98 hq) (cwV 0 hts gX10_told_X2_filmsOnAll rfl rfl rfl (by decide +kernel) ⟨Nat.le_of_ble_eq_true rfl, Nat.le_of_ble_eq_true rfl⟩) 2 rfl rfl hP hD hS (fun q h => Or.inr h) [6, 7, 8, 9] [0, 1, 2, 3, 4, 5, 10, 11, 12, 13, 14, 15, 16, 17] [0, 1, 2, 3, 4, 5, 14, 15, 16, 17, 6, 7, 8, 9, 10, 11, 12, 13] rfl (by decide) rfl (by decide) (by decide) rfl (by decide) rfl hl.1 rfl (Nat.le_of_ble_eq_true rfl) ⟨(Nat.le_of_ble_eq_true rfl), (Nat.le_of_ble_eq_true rfl)⟩ dX10_told_98 (fun H locs hP hD hS => ?_)
    obtain rfl := Option.some.inj hf
    exact ow_tretI C0 rfl hP hD hS (Nat.le_of_ble_eq_true rfl) (Nat.le_of_ble_eq_true rfl) dX10_told_101
  replace hf := ow_f hc hf
  have hn4 := hc
  rcases Decidable.em (x1 = 5) with hc | hc
  · replace hf := ow_t hc hf
    refine lv_tableIn (tgt := 102) hx hb dX10_told_8 (by rw [hc]; decide) (by rw [hc]; decide) (by rw [hc]; rfl) (by decide) ?_
    refine lv_aload_n hx hb dX10_told_102 rfl (lv_at hl 0 rfl) ?_
    refine va_get (D := D) (ci := 10) (v := .ref (p0 9)) (C := RX10) (T := TX10) (N := 16) hx hb hts in_X10_told_X10 hown hK hP 0 rfl rfl 9 (by decide) (hts (.fieldLink RX10 63 "PaneDays" "past" "LPaneDays$Past;") (List.mem_of_getElem? (i := 5) rfl)) (fun _ h9 => h9) rfl dX10_told_103 ?_
    refine va_get (D := D) (ci := 4) (v := .ref (p2 0)) (C := RX4) (T := TX4) (N := 3) hx hb hts in_X10_told_X4 hown hK hP 5 rfl rfl 0 (by decide) (hts (.fieldLink RX10 76 "PaneDays$Past" "now" "LPaneDays$Glass;") (List.mem_of_getElem? (i := 6) rfl)) (fun _ h9 => h9) rfl dX10_told_106 ?_
    refine va_get (D := D) (ci := 2) (v := .int i3_3) (C := RX2) (T := TX2) (N := 8) hx hb hts in_X10_told_X2 hown hK hP 6 rfl rfl 3 (by decide) (hts (.fieldLink RX10 180 "PaneDays$Glass" "onRag" "I") (List.mem_of_getElem? (i := 8) rfl)) (fun _ h9 => h9) rfl dX10_told_109 ?_
    obtain rfl := Option.some.inj hf
    exact ow_tretI C0 rfl hP hD hS (Nat.le_of_ble_eq_true rfl) (Nat.le_of_ble_eq_true rfl) dX10_told_112
  replace hf := ow_f hc hf
  have hn5 := hc
  rcases Decidable.em (x1 = 6) with hc | hc
  · replace hf := ow_t hc hf
    refine lv_tableIn (tgt := 113) hx hb dX10_told_8 (by rw [hc]; decide) (by rw [hc]; decide) (by rw [hc]; rfl) (by decide) ?_
    refine lv_aload_n hx hb dX10_told_113 rfl (lv_at hl 0 rfl) ?_
    refine va_get (D := D) (ci := 10) (v := .ref (p0 9)) (C := RX10) (T := TX10) (N := 16) hx hb hts in_X10_told_X10 hown hK hP 0 rfl rfl 9 (by decide) (hts (.fieldLink RX10 63 "PaneDays" "past" "LPaneDays$Past;") (List.mem_of_getElem? (i := 5) rfl)) (fun _ h9 => h9) rfl dX10_told_114 ?_
    refine va_get (D := D) (ci := 4) (v := .ref (p2 0)) (C := RX4) (T := TX4) (N := 3) hx hb hts in_X10_told_X4 hown hK hP 5 rfl rfl 0 (by decide) (hts (.fieldLink RX10 76 "PaneDays$Past" "now" "LPaneDays$Glass;") (List.mem_of_getElem? (i := 6) rfl)) (fun _ h9 => h9) rfl dX10_told_117 ?_
    refine va_get (D := D) (ci := 2) (v := .int i3_5) (C := RX2) (T := TX2) (N := 8) hx hb hts in_X10_told_X2 hown hK hP 6 rfl rfl 5 (by decide) (hts (.fieldLink RX10 183 "PaneDays$Glass" "washed" "I") (List.mem_of_getElem? (i := 9) rfl)) (fun _ h9 => h9) rfl dX10_told_120 ?_
    obtain rfl := Option.some.inj hf
    exact ow_tretI C0 rfl hP hD hS (Nat.le_of_ble_eq_true rfl) (Nat.le_of_ble_eq_true rfl) dX10_told_123
  replace hf := ow_f hc hf
  have hn6 := hc
  rcases Decidable.em (x1 = 7) with hc | hc
  · replace hf := ow_t hc hf
    refine lv_tableIn (tgt := 124) hx hb dX10_told_8 (by rw [hc]; decide) (by rw [hc]; decide) (by rw [hc]; rfl) (by decide) ?_
    refine lv_aload_n hx hb dX10_told_124 rfl (lv_at hl 0 rfl) ?_
    refine va_get (D := D) (ci := 10) (v := .ref (p0 5)) (C := RX10) (T := TX10) (N := 16) hx hb hts in_X10_told_X10 hown hK hP 0 rfl rfl 5 (by decide) (hts (.fieldLink RX10 39 "PaneDays" "book" "LPaneDays$Book;") (List.mem_of_getElem? (i := 10) rfl)) (fun _ h9 => h9) rfl dX10_told_125 ?_
    refine va_get (D := D) (ci := 0) (v := .int i1_0) (C := RX0) (T := TX0) (N := 4) hx hb hts in_X10_told_X0 hown hK hP 2 rfl rfl 0 (by decide) (hts (.fieldLink RX10 153 "PaneDays$Book" "lines" "I") (List.mem_of_getElem? (i := 11) rfl)) (fun _ h9 => h9) rfl dX10_told_128 ?_
    obtain rfl := Option.some.inj hf
    exact ow_tretI C0 rfl hP hD hS (Nat.le_of_ble_eq_true rfl) (Nat.le_of_ble_eq_true rfl) dX10_told_131
  replace hf := ow_f hc hf
  have hn7 := hc
  refine lv_tableOut (x := x1) (tgt := 132) hx hb dX10_told_8 (ow_out (fun z h1 h2 => by rcases (show z = 0 ∨ z = 1 ∨ z = 2 ∨ z = 3 ∨ z = 4 ∨ z = 5 ∨ z = 6 ∨ z = 7 by omega) with rfl | rfl | rfl | rfl | rfl | rfl | rfl | rfl <;> first | exact lv_neT hn0 (by decide) | exact lv_neT hn1 (by decide) | exact lv_neT hn2 (by decide) | exact lv_neT hn3 (by decide) | exact lv_neT hn4 (by decide) | exact lv_neT hn5 (by decide) | exact lv_neT hn6 (by decide) | exact lv_neT hn7 (by decide))) (by decide) ?_
  refine lv_aload_n hx hb dX10_told_132 rfl (lv_at hl 0 rfl) ?_
  refine va_get (D := D) (ci := 10) (v := .int i0_14) (C := RX10) (T := TX10) (N := 16) hx hb hts in_X10_told_X10 hown hK hP 0 rfl rfl 14 (by decide) (hts (.fieldLink RX10 126 "PaneDays" "refusedSteps" "I") (List.mem_of_getElem? (i := 12) rfl)) (fun _ h9 => h9) rfl dX10_told_133 ?_
  obtain rfl := Option.some.inj hf
  exact ow_tretI C0 rfl hP hD hS (Nat.le_of_ble_eq_true rfl) (Nat.le_of_ble_eq_true rfl) dX10_told_136
theorem in_X10_fault_X10 : ∀ w ∈ u_ws RX10 TX10 16, w ∈ wsX10_fault := fun w h => List.mem_cons_of_mem _ (List.mem_append_left _ (List.mem_append_right _ h))
theorem in_X10_fault_X7 : ∀ w ∈ u_ws RX7 TX7 9, w ∈ wsX10_fault := fun w h => List.mem_cons_of_mem _ (List.mem_append_right _ h)
abbrev W_X10_fault (cs : Nat → ClassId) (a0 : Nat) (p0 : Nat → Nat) (i0_13 : Int32) (i0_14 : Int32) (v0_15 : Nat → Int32) (p1 : Nat → Nat) (i1_1 : Int32) (i1_2 : Int32) (i1_3 : Int32) (i1_4 : Int32) (i1_5 : Int32) (i1_6 : Int32) (i1_7 : Int32) (i1_8 : Int32) (v1_0 : Nat → Int32) : va_W := wX10 cs a0 p0 i0_13 i0_14 v0_15 ++ wX7 cs (p0 0) p1 i1_1 i1_2 i1_3 i1_4 i1_5 i1_6 i1_7 i1_8 v1_0
abbrev rm_X10_fault : Room := { frames := 0, cells := 0, slots := 0, locals := 0 }
def f_X10_fault  (i1_8 : Int32)  : Option (Int32) := some (i1_8)
set_option maxHeartbeats 4000000 in
set_option maxRecDepth 100000 in
theorem c_X10_fault (l : Launch) (D : va_G) (cs : Nat → ClassId)  (sz : Nat) (a0 : Nat) (p0 : Nat → Nat) (i0_13 : Int32) (i0_14 : Int32) (v0_15 : Nat → Int32) (p1 : Nat → Nat) (i1_1 : Int32) (i1_2 : Int32) (i1_3 : Int32) (i1_4 : Int32) (i1_5 : Int32) (i1_6 : Int32) (i1_7 : Int32) (i1_8 : Int32) (v1_0 : Nat → Int32)  (res : Int32) (hf : f_X10_fault  i1_8  = some res) : MI l D cs yX10_fault wsX10_fault rm_X10_fault [.ref a0] sz (W_X10_fault cs a0 p0 i0_13 i0_14 v0_15 p1 i1_1 i1_2 i1_3 i1_4 i1_5 i1_6 i1_7 i1_8 v1_0) (W_X10_fault cs a0 p0 i0_13 i0_14 v0_15 p1 i1_1 i1_2 i1_3 i1_4 i1_5 i1_6 i1_7 i1_8 v1_0) res := by
  rw [f_X10_fault] at hf
  refine ow_enter (cc := cX10_fault) (nL := 1) (ret := (some .int)) (by decide) rfl (Nat.le_of_ble_eq_true rfl) (fun p e s m below meth c ls H locs C0 hP hD hS hA hl => ?_)
  obtain ⟨hx, hb, hr, hlk, hml, hown, hts, hK, hG, hE⟩ := id C0
  have hl : lv_has ls 1 [(0, .ref a0)] := hl
  refine lv_aload_n hx hb dX10_fault_0 rfl (lv_at hl 0 rfl) ?_
  refine va_get (D := D) (ci := 10) (v := .ref (p0 0)) (C := RX10) (T := TX10) (N := 16) hx hb hts in_X10_fault_X10 hown hK hP 0 rfl rfl 0 (by decide) (hts (.fieldLink RX10 10 "PaneDays" "tape" "LPaneDays$Tape;") (List.mem_of_getElem? (i := 1) rfl)) (fun _ h9 => h9) rfl dX10_fault_1 ?_
  refine va_get (D := D) (ci := 7) (v := .int i1_8) (C := RX7) (T := TX7) (N := 9) hx hb hts in_X10_fault_X7 hown hK hP 2 rfl rfl 8 (by decide) (hts (.fieldLink RX10 156 "PaneDays$Tape" "place" "I") (List.mem_of_getElem? (i := 2) rfl)) (fun _ h9 => h9) rfl dX10_fault_4 ?_
  obtain rfl := Option.some.inj hf
  exact ow_retI C0 hP hD hS dX10_fault_7
theorem in_X10_feed_X10 : ∀ w ∈ u_ws RX10 TX10 16, w ∈ wsX10_feed := fun w h => List.mem_cons_of_mem _ (List.mem_append_left _ (List.mem_append_right _ h))
theorem in_X10_feed_X7 : ∀ w ∈ u_ws RX7 TX7 9, w ∈ wsX10_feed := fun w h => List.mem_cons_of_mem _ (List.mem_append_right _ h)
abbrev W_X10_feed (cs : Nat → ClassId) (a0 : Nat) (p0 : Nat → Nat) (i0_13 : Int32) (i0_14 : Int32) (v0_15 : Nat → Int32) (p1 : Nat → Nat) (i1_1 : Int32) (i1_2 : Int32) (i1_3 : Int32) (i1_4 : Int32) (i1_5 : Int32) (i1_6 : Int32) (i1_7 : Int32) (i1_8 : Int32) (v1_0 : Nat → Int32) : va_W := wX10 cs a0 p0 i0_13 i0_14 v0_15 ++ wX7 cs (p0 0) p1 i1_1 i1_2 i1_3 i1_4 i1_5 i1_6 i1_7 i1_8 v1_0
abbrev rm_X10_feed : Room := { frames := 1, cells := 0, slots := 0, locals := 22 }
def f_X10_feed  (i1_1 : Int32) (v1_0 : Nat → Int32) (x1 : Int32) (x2 : Int32) (x3 : Int32) (x4 : Int32) (x5 : Int32) : Option (Int32 × Int32 × (Nat → Int32)) := (f_X7_hasRoom i1_1).bind fun q4 => if q4 = 0 then (some ((-1), i1_1, v1_0)) else ((f_X7_put i1_1 v1_0 x1).bind fun q17 => (f_X7_put q17.1 q17.2 x2).bind fun q25 => (f_X7_put q25.1 q25.2 x3).bind fun q33 => (f_X7_put q33.1 q33.2 x4).bind fun q42 => (f_X7_put q42.1 q42.2 x5).bind fun q51 => some (q51.1, q51.1, q51.2))
set_option maxHeartbeats 4000000 in
set_option maxRecDepth 100000 in
theorem c_X10_feed (l : Launch) (D : va_G) (cs : Nat → ClassId)  (sz : Nat) (a0 : Nat) (p0 : Nat → Nat) (i0_13 : Int32) (i0_14 : Int32) (v0_15 : Nat → Int32) (p1 : Nat → Nat) (i1_1 : Int32) (i1_2 : Int32) (i1_3 : Int32) (i1_4 : Int32) (i1_5 : Int32) (i1_6 : Int32) (i1_7 : Int32) (i1_8 : Int32) (v1_0 : Nat → Int32) (x1 : Int32) (x2 : Int32) (x3 : Int32) (x4 : Int32) (x5 : Int32) (res : Int32 × Int32 × (Nat → Int32)) (hf : f_X10_feed  i1_1 v1_0 x1 x2 x3 x4 x5 = some res) : MI l D cs yX10_feed wsX10_feed rm_X10_feed [.ref a0, .int x1, .int x2, .int x3, .int x4, .int x5] sz (W_X10_feed cs a0 p0 i0_13 i0_14 v0_15 p1 i1_1 i1_2 i1_3 i1_4 i1_5 i1_6 i1_7 i1_8 v1_0) (W_X10_feed cs a0 p0 i0_13 i0_14 v0_15 p1 res.2.1 i1_2 i1_3 i1_4 i1_5 i1_6 i1_7 i1_8 res.2.2) res.1 := by
  rw [f_X10_feed] at hf
  refine ow_enter (cc := cX10_feed) (nL := 6) (ret := (some .int)) (by decide) rfl (Nat.le_of_ble_eq_true rfl) (fun p e s m below meth c ls H locs C0 hP hD hS hA hl => ?_)
  obtain ⟨hx, hb, hr, hlk, hml, hown, hts, hK, hG, hE⟩ := id C0
  have hl : lv_has ls 6 [(0, .ref a0), (1, .int x1), (2, .int x2), (3, .int x3), (4, .int x4), (5, .int x5)] := hl
  refine lv_aload_n hx hb dX10_feed_0 rfl (lv_at hl 0 rfl) ?_
  refine va_get (D := D) (ci := 10) (v := .ref (p0 0)) (C := RX10) (T := TX10) (N := 16) hx hb hts in_X10_feed_X10 hown hK hP 0 rfl rfl 0 (by decide) (hts (.fieldLink RX10 10 "PaneDays" "tape" "LPaneDays$Tape;") (List.mem_of_getElem? (i := 1) rfl)) (fun _ h9 => h9) rfl dX10_feed_1 ?_
  obtain ⟨q4, hq, hf⟩ := bd_some hf
  refine ow_callVI (As := []) (rest := []) (wr := ow_pk (W_X10_feed cs a0 p0 i0_13 i0_14 v0_15 p1 i1_1 i1_2 i1_3 i1_4 i1_5 i1_6 i1_7 i1_8 v1_0) [0, 1]) (wf := (W_X10_feed cs a0 p0 i0_13 i0_14 v0_15 p1 i1_1 i1_2 i1_3 i1_4 i1_5 i1_6 i1_7 i1_8 v1_0)) (r := q4) C0 (c_X7_hasRoom l D cs H.size (p0 0) p1 i1_1 i1_2 i1_3 i1_4 i1_5 i1_6 i1_7 i1_8 v1_0  q4 hq) (cwV 0 hts gX10_feed_X7_hasRoom rfl rfl rfl (by decide +kernel) ⟨Nat.le_of_ble_eq_true rfl, Nat.le_of_ble_eq_true rfl⟩) 7 rfl rfl hP hD hS (fun q h => Or.inr h) [2, 3] [0, 1] [0, 1, 2, 3] rfl (by decide) rfl (by decide) (by decide) rfl (by decide) rfl hl.1 rfl (Nat.le_of_ble_eq_true rfl) ⟨Nat.zero_le _, Nat.zero_le _⟩ dX10_feed_4 (fun H locs hP hD hS => ?_)
  refine lv_if_ne (tgt := 12) hx hb dX10_feed_7 (by decide) (fun hc => ?_) (fun hc => ?_)
  · replace hf := ow_f hc hf
    refine lv_aload_n hx hb dX10_feed_12 rfl (lv_at hl 0 rfl) ?_
    refine va_get (D := D) (ci := 10) (v := .ref (p0 0)) (C := RX10) (T := TX10) (N := 16) hx hb hts in_X10_feed_X10 hown hK hP 0 rfl rfl 0 (by decide) (hts (.fieldLink RX10 10 "PaneDays" "tape" "LPaneDays$Tape;") (List.mem_of_getElem? (i := 1) rfl)) (fun _ h9 => h9) rfl dX10_feed_13 ?_
    refine lv_iload_n hx hb dX10_feed_16 rfl (lv_at hl 1 rfl) ?_
    obtain ⟨q17, hq, hf⟩ := bd_some hf
    refine ow_callVV (As := [.int x1]) (rest := []) (wr := ow_pk (W_X10_feed cs a0 p0 i0_13 i0_14 v0_15 p1 i1_1 i1_2 i1_3 i1_4 i1_5 i1_6 i1_7 i1_8 v1_0) [0, 1]) (wf := (W_X10_feed cs a0 p0 i0_13 i0_14 v0_15 p1 q17.1 i1_2 i1_3 i1_4 i1_5 i1_6 i1_7 i1_8 q17.2)) C0 (c_X7_put l D cs H.size (p0 0) p1 i1_1 i1_2 i1_3 i1_4 i1_5 i1_6 i1_7 i1_8 v1_0 x1 q17 hq) (cwV 1 hts gX10_feed_X7_put rfl rfl rfl (by decide +kernel) ⟨Nat.le_of_ble_eq_true rfl, Nat.le_of_ble_eq_true rfl⟩) 7 rfl rfl hP hD hS (fun q h => Or.inr h) [2, 3] [0, 1] [0, 1, 2, 3] rfl (by decide) rfl (by decide) (by decide) rfl (by decide) rfl hl.1 rfl (Nat.le_of_ble_eq_true rfl) ⟨Nat.zero_le _, Nat.zero_le _⟩ dX10_feed_17 (fun H locs hP hD hS => ?_)
    refine lv_aload_n hx hb dX10_feed_20 rfl (lv_at hl 0 rfl) ?_
    refine va_get (D := D) (ci := 10) (v := .ref (p0 0)) (C := RX10) (T := TX10) (N := 16) hx hb hts in_X10_feed_X10 hown hK hP 0 rfl rfl 0 (by decide) (hts (.fieldLink RX10 10 "PaneDays" "tape" "LPaneDays$Tape;") (List.mem_of_getElem? (i := 1) rfl)) (fun _ h9 => h9) rfl dX10_feed_21 ?_
    refine lv_iload_n hx hb dX10_feed_24 rfl (lv_at hl 2 rfl) ?_
    obtain ⟨q25, hq, hf⟩ := bd_some hf
    refine ow_callVV (As := [.int x2]) (rest := []) (wr := ow_pk (W_X10_feed cs a0 p0 i0_13 i0_14 v0_15 p1 q17.1 i1_2 i1_3 i1_4 i1_5 i1_6 i1_7 i1_8 q17.2) [0, 1]) (wf := (W_X10_feed cs a0 p0 i0_13 i0_14 v0_15 p1 q25.1 i1_2 i1_3 i1_4 i1_5 i1_6 i1_7 i1_8 q25.2)) C0 (c_X7_put l D cs H.size (p0 0) p1 q17.1 i1_2 i1_3 i1_4 i1_5 i1_6 i1_7 i1_8 q17.2 x2 q25 hq) (cwV 1 hts gX10_feed_X7_put rfl rfl rfl (by decide +kernel) ⟨Nat.le_of_ble_eq_true rfl, Nat.le_of_ble_eq_true rfl⟩) 7 rfl rfl hP hD hS (fun q h => Or.inr h) [2, 3] [0, 1] [0, 1, 2, 3] rfl (by decide) rfl (by decide) (by decide) rfl (by decide) rfl hl.1 rfl (Nat.le_of_ble_eq_true rfl) ⟨Nat.zero_le _, Nat.zero_le _⟩ dX10_feed_25 (fun H locs hP hD hS => ?_)
    refine lv_aload_n hx hb dX10_feed_28 rfl (lv_at hl 0 rfl) ?_
    refine va_get (D := D) (ci := 10) (v := .ref (p0 0)) (C := RX10) (T := TX10) (N := 16) hx hb hts in_X10_feed_X10 hown hK hP 0 rfl rfl 0 (by decide) (hts (.fieldLink RX10 10 "PaneDays" "tape" "LPaneDays$Tape;") (List.mem_of_getElem? (i := 1) rfl)) (fun _ h9 => h9) rfl dX10_feed_29 ?_
    refine lv_iload_n hx hb dX10_feed_32 rfl (lv_at hl 3 rfl) ?_
    obtain ⟨q33, hq, hf⟩ := bd_some hf
    refine ow_callVV (As := [.int x3]) (rest := []) (wr := ow_pk (W_X10_feed cs a0 p0 i0_13 i0_14 v0_15 p1 q25.1 i1_2 i1_3 i1_4 i1_5 i1_6 i1_7 i1_8 q25.2) [0, 1]) (wf := (W_X10_feed cs a0 p0 i0_13 i0_14 v0_15 p1 q33.1 i1_2 i1_3 i1_4 i1_5 i1_6 i1_7 i1_8 q33.2)) C0 (c_X7_put l D cs H.size (p0 0) p1 q25.1 i1_2 i1_3 i1_4 i1_5 i1_6 i1_7 i1_8 q25.2 x3 q33 hq) (cwV 1 hts gX10_feed_X7_put rfl rfl rfl (by decide +kernel) ⟨Nat.le_of_ble_eq_true rfl, Nat.le_of_ble_eq_true rfl⟩) 7 rfl rfl hP hD hS (fun q h => Or.inr h) [2, 3] [0, 1] [0, 1, 2, 3] rfl (by decide) rfl (by decide) (by decide) rfl (by decide) rfl hl.1 rfl (Nat.le_of_ble_eq_true rfl) ⟨Nat.zero_le _, Nat.zero_le _⟩ dX10_feed_33 (fun H locs hP hD hS => ?_)
    refine lv_aload_n hx hb dX10_feed_36 rfl (lv_at hl 0 rfl) ?_
    refine va_get (D := D) (ci := 10) (v := .ref (p0 0)) (C := RX10) (T := TX10) (N := 16) hx hb hts in_X10_feed_X10 hown hK hP 0 rfl rfl 0 (by decide) (hts (.fieldLink RX10 10 "PaneDays" "tape" "LPaneDays$Tape;") (List.mem_of_getElem? (i := 1) rfl)) (fun _ h9 => h9) rfl dX10_feed_37 ?_
    refine lv_iload hx hb dX10_feed_40 (lv_at hl 4 rfl) ?_
    obtain ⟨q42, hq, hf⟩ := bd_some hf
    refine ow_callVV (As := [.int x4]) (rest := []) (wr := ow_pk (W_X10_feed cs a0 p0 i0_13 i0_14 v0_15 p1 q33.1 i1_2 i1_3 i1_4 i1_5 i1_6 i1_7 i1_8 q33.2) [0, 1]) (wf := (W_X10_feed cs a0 p0 i0_13 i0_14 v0_15 p1 q42.1 i1_2 i1_3 i1_4 i1_5 i1_6 i1_7 i1_8 q42.2)) C0 (c_X7_put l D cs H.size (p0 0) p1 q33.1 i1_2 i1_3 i1_4 i1_5 i1_6 i1_7 i1_8 q33.2 x4 q42 hq) (cwV 1 hts gX10_feed_X7_put rfl rfl rfl (by decide +kernel) ⟨Nat.le_of_ble_eq_true rfl, Nat.le_of_ble_eq_true rfl⟩) 7 rfl rfl hP hD hS (fun q h => Or.inr h) [2, 3] [0, 1] [0, 1, 2, 3] rfl (by decide) rfl (by decide) (by decide) rfl (by decide) rfl hl.1 rfl (Nat.le_of_ble_eq_true rfl) ⟨Nat.zero_le _, Nat.zero_le _⟩ dX10_feed_42 (fun H locs hP hD hS => ?_)
    refine lv_aload_n hx hb dX10_feed_45 rfl (lv_at hl 0 rfl) ?_
    refine va_get (D := D) (ci := 10) (v := .ref (p0 0)) (C := RX10) (T := TX10) (N := 16) hx hb hts in_X10_feed_X10 hown hK hP 0 rfl rfl 0 (by decide) (hts (.fieldLink RX10 10 "PaneDays" "tape" "LPaneDays$Tape;") (List.mem_of_getElem? (i := 1) rfl)) (fun _ h9 => h9) rfl dX10_feed_46 ?_
    refine lv_iload hx hb dX10_feed_49 (lv_at hl 5 rfl) ?_
    obtain ⟨q51, hq, hf⟩ := bd_some hf
    refine ow_callVV (As := [.int x5]) (rest := []) (wr := ow_pk (W_X10_feed cs a0 p0 i0_13 i0_14 v0_15 p1 q42.1 i1_2 i1_3 i1_4 i1_5 i1_6 i1_7 i1_8 q42.2) [0, 1]) (wf := (W_X10_feed cs a0 p0 i0_13 i0_14 v0_15 p1 q51.1 i1_2 i1_3 i1_4 i1_5 i1_6 i1_7 i1_8 q51.2)) C0 (c_X7_put l D cs H.size (p0 0) p1 q42.1 i1_2 i1_3 i1_4 i1_5 i1_6 i1_7 i1_8 q42.2 x5 q51 hq) (cwV 1 hts gX10_feed_X7_put rfl rfl rfl (by decide +kernel) ⟨Nat.le_of_ble_eq_true rfl, Nat.le_of_ble_eq_true rfl⟩) 7 rfl rfl hP hD hS (fun q h => Or.inr h) [2, 3] [0, 1] [0, 1, 2, 3] rfl (by decide) rfl (by decide) (by decide) rfl (by decide) rfl hl.1 rfl (Nat.le_of_ble_eq_true rfl) ⟨Nat.zero_le _, Nat.zero_le _⟩ dX10_feed_51 (fun H locs hP hD hS => ?_)
    refine lv_aload_n hx hb dX10_feed_54 rfl (lv_at hl 0 rfl) ?_
    refine va_get (D := D) (ci := 10) (v := .ref (p0 0)) (C := RX10) (T := TX10) (N := 16) hx hb hts in_X10_feed_X10 hown hK hP 0 rfl rfl 0 (by decide) (hts (.fieldLink RX10 10 "PaneDays" "tape" "LPaneDays$Tape;") (List.mem_of_getElem? (i := 1) rfl)) (fun _ h9 => h9) rfl dX10_feed_55 ?_
    refine va_get (D := D) (ci := 7) (v := .int q51.1) (C := RX7) (T := TX7) (N := 9) hx hb hts in_X10_feed_X7 hown hK hP 2 rfl rfl 1 (by decide) (hts (.fieldLink RX10 103 "PaneDays$Tape" "count" "I") (List.mem_of_getElem? (i := 2) rfl)) (fun _ h9 => h9) rfl dX10_feed_58 ?_
    obtain rfl := Option.some.inj hf
    exact ow_retI C0 hP hD hS dX10_feed_61
  · replace hf := ow_t hc hf
    refine lv_iconst (v := (-1)) hx hb dX10_feed_10 (by decide) ?_
    obtain rfl := Option.some.inj hf
    exact ow_retI C0 hP hD hS dX10_feed_11

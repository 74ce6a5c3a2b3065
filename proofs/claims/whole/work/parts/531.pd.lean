theorem in_X10_status_X10 : ∀ w ∈ u_ws RX10 TX10 16, w ∈ wsX10_status := fun w h => List.mem_cons_of_mem _ (List.mem_append_right _ h)
abbrev W_X10_status (cs : Nat → ClassId) (a0 : Nat) (p0 : Nat → Nat) (i0_13 : Int32) (i0_14 : Int32) (v0_15 : Nat → Int32) : va_W := wX10 cs a0 p0 i0_13 i0_14 v0_15
abbrev rm_X10_status : Room := { frames := 0, cells := 0, slots := 0, locals := 0 }
def f_X10_status  (v0_15 : Nat → Int32) (x1 : Int32) : Option (Int32) := if x1 < 0 then (some ((-1))) else (if 2 < x1 then (some ((-1))) else (ck x1 3 (some (v0_15 (x1).toNatClampNeg))))
set_option maxHeartbeats 4000000 in
set_option maxRecDepth 100000 in
theorem c_X10_status (l : Launch) (D : va_G) (cs : Nat → ClassId)  (sz : Nat) (a0 : Nat) (p0 : Nat → Nat) (i0_13 : Int32) (i0_14 : Int32) (v0_15 : Nat → Int32) (x1 : Int32) (res : Int32) (hf : f_X10_status  v0_15 x1 = some res) : MI l D cs yX10_status wsX10_status rm_X10_status [.ref a0, .int x1] sz (W_X10_status cs a0 p0 i0_13 i0_14 v0_15) (W_X10_status cs a0 p0 i0_13 i0_14 v0_15) res := by
  rw [f_X10_status] at hf
  refine ow_enter (cc := cX10_status) (nL := 2) (ret := (some .int)) (by decide) rfl (Nat.le_of_ble_eq_true rfl) (fun p e s m below meth c ls H locs C0 hP hD hS hA hl => ?_)
  obtain ⟨hx, hb, hr, hlk, hml, hown, hts, hK, hG, hE⟩ := id C0
  have hl : lv_has ls 2 [(0, .ref a0), (1, .int x1)] := hl
  refine lv_iload_n hx hb dX10_status_0 rfl (lv_at hl 1 rfl) ?_
  refine lv_if_lt (tgt := 18) hx hb dX10_status_1 (by decide) (fun hc => ?_) (fun hc => ?_)
  · replace hf := ow_t hc hf
    refine lv_iconst (v := (-1)) hx hb dX10_status_18 (by decide) ?_
    obtain rfl := Option.some.inj hf
    exact ow_retI C0 hP hD hS dX10_status_19
  · replace hf := ow_f hc hf
    refine lv_iload_n hx hb dX10_status_4 rfl (lv_at hl 1 rfl) ?_
    refine lv_iconst (v := 2) hx hb dX10_status_5 (by decide) ?_
    refine lv_icmp_gt (tgt := 18) hx hb dX10_status_6 (by decide) (fun hc => ?_) (fun hc => ?_)
    · replace hf := ow_t hc hf
      refine lv_iconst (v := (-1)) hx hb dX10_status_18 (by decide) ?_
      obtain rfl := Option.some.inj hf
      exact ow_retI C0 hP hD hS dX10_status_19
    · replace hf := ow_f hc hf
      refine lv_aload_n hx hb dX10_status_9 rfl (lv_at hl 0 rfl) ?_
      refine va_get (D := D) (ci := 10) (v := .ref (p0 15)) (C := RX10) (T := TX10) (N := 16) hx hb hts in_X10_status_X10 hown hK hP 0 rfl rfl 15 (by decide) (hts (.fieldLink RX10 91 "PaneDays" "refusedCalls" "[I") (List.mem_of_getElem? (i := 1) rfl)) (fun _ h9 => h9) rfl dX10_status_10 ?_
      refine lv_iload_n hx hb dX10_status_13 rfl (lv_at hl 1 rfl) ?_
      obtain ⟨hin, hf⟩ := ck_some hf
      refine va_iald (f := v0_15) hx hb hK hP 1 0 rfl rfl hin dX10_status_14 ?_
      refine lv_goto (tgt := 19) hx hb dX10_status_15 (by decide) ?_
      obtain rfl := Option.some.inj hf
      exact ow_retI C0 hP hD hS dX10_status_19
theorem in_X10_share_X10 : ∀ w ∈ u_ws RX10 TX10 16, w ∈ wsX10_share := by decide +kernel
theorem in_X10_share_X4 : ∀ w ∈ u_ws RX4 TX4 3, w ∈ wsX10_share := by decide +kernel
abbrev W_X10_share (cs : Nat → ClassId) (a0 : Nat) (p0 : Nat → Nat) (i0_13 : Int32) (i0_14 : Int32) (v0_15 : Nat → Int32) (p1 : Nat → Nat) (i1_0 : Int32) (i1_6 : Int32) (i1_8 : Int32) (i1_10 : Int32) (i1_11 : Int32) (i1_12 : Int32) (v1_1 : Nat → Int32) (v1_2 : Nat → Int32) (v1_3 : Nat → Int32) (v1_4 : Nat → Int32) (v1_5 : Nat → Int32) (v1_7 : Nat → Int32) (v1_9 : Nat → Int32) (p2 : Nat → Nat) (i2_2 : Int32) (p3 : Nat → Nat) (i3_0 : Int32) (i3_1 : Int32) (v3_2 : Nat → Int32) (v3_3 : Nat → Int32) (p4 : Nat → Nat) (i4_3 : Int32) (i4_4 : Int32) (i4_5 : Int32) (i4_6 : Int32) (i4_7 : Int32) (v4_0 : Nat → Int32) (v4_1 : Nat → Int32) (v4_2 : Nat → Int32) : va_W := wX10 cs a0 p0 i0_13 i0_14 v0_15 ++ wX6 cs (p0 1) p1 i1_0 i1_6 i1_8 i1_10 i1_11 i1_12 v1_1 v1_2 v1_3 v1_4 v1_5 v1_7 v1_9 ++ wX4 cs (p0 9) p2 i2_2 ++ wX1 cs (p0 7) p3 i3_0 i3_1 v3_2 v3_3 ++ wX2 cs (p2 0) p4 i4_3 i4_4 i4_5 i4_6 i4_7 v4_0 v4_1 v4_2
abbrev rm_X10_share : Room := { frames := 8, cells := 3, slots := 18, locals := 125 }
def f_X10_share_b28  (i1_0 : Int32) (v1_1 : Nat → Int32) (v1_2 : Nat → Int32) (v4_1 : Nat → Int32)  (v0_15 : Nat → Int32) (x4 : Int32) (x5 : Int32) (t1 : Int32) : Option (Nat × Int32 × (Nat → Int32)) := (f_X10_need v0_15 t1).bind fun q28 => if q28.1 = 0 then ((f_X1_shareOf v4_1 x5 x4).bind fun q46 => some (0, q46, q28.2)) else (some (q28.1, 0, q28.2))
set_option maxHeartbeats 4000000 in
set_option maxRecDepth 100000 in
theorem w_X10_share_b28 {p : Program} {l : Launch} {e : Env} {s : State} {m : MethodId} {below : List Frame} {meth : Method} {c : Code} {D : va_G} {cs : Nat → ClassId} {av : Array Value} {w0 : va_W} (C0 : Cx p s m meth c av wsX10_share cX10_share 6 (some .int) RX10 D cs w0) (T0 : CxT l s c)  (a0 : Nat) (p0 : Nat → Nat) (i0_13 : Int32) (i0_14 : Int32) (p1 : Nat → Nat) (i1_0 : Int32) (i1_6 : Int32) (i1_8 : Int32) (i1_10 : Int32) (i1_11 : Int32) (i1_12 : Int32) (v1_1 : Nat → Int32) (v1_2 : Nat → Int32) (v1_3 : Nat → Int32) (v1_4 : Nat → Int32) (v1_5 : Nat → Int32) (v1_7 : Nat → Int32) (v1_9 : Nat → Int32) (p2 : Nat → Nat) (i2_2 : Int32) (p3 : Nat → Nat) (i3_0 : Int32) (i3_1 : Int32) (v3_2 : Nat → Int32) (v3_3 : Nat → Int32) (p4 : Nat → Nat) (i4_3 : Int32) (i4_4 : Int32) (i4_5 : Int32) (i4_6 : Int32) (i4_7 : Int32) (v4_0 : Nat → Int32) (v4_1 : Nat → Int32) (v4_2 : Nat → Int32) (res : Nat × Int32 × (Nat → Int32))  : ∀ (v0_15 : Nat → Int32) (x4 : Int32) (x5 : Int32) (t1 : Int32), f_X10_share_b28 i1_0 v1_1 v1_2 v4_1 v0_15 x4 x5 t1 = some res → ∀ (H : Heap) (locs : List Loc) (ls : Array Slot), va_P D vwCl (W_X10_share cs a0 p0 i0_13 i0_14 v0_15 p1 i1_0 i1_6 i1_8 i1_10 i1_11 i1_12 v1_1 v1_2 v1_3 v1_4 v1_5 v1_7 v1_9 p2 i2_2 p3 i3_0 i3_1 v3_2 v3_3 p4 i4_3 i4_4 i4_5 i4_6 i4_7 v4_0 v4_1 v4_2) H → va_D (va_A w0 s.heap.size) (W_X10_share cs a0 p0 i0_13 i0_14 v0_15 p1 i1_0 i1_6 i1_8 i1_10 i1_11 i1_12 v1_1 v1_2 v1_3 v1_4 v1_5 v1_7 v1_9 p2 i2_2 p3 i3_0 i3_1 v3_2 v3_3 p4 i4_3 i4_4 i4_5 i4_6 i4_7 v4_0 v4_1 v4_2) → va_S (va_A w0 s.heap.size) s.heap H locs → lv_has ls 6 [(0, .ref a0), (4, .int x4), (5, .int x5)] → W p l e rm_X10_share s m av below meth c H locs 2 12 (vx_MQ below (xI D cs w0 (W_X10_share cs a0 p0 i0_13 i0_14 res.2.2 p1 i1_0 i1_6 i1_8 i1_10 i1_11 i1_12 v1_1 v1_2 v1_3 v1_4 v1_5 v1_7 v1_9 p2 i2_2 p3 i3_0 i3_1 v3_2 v3_3 p4 i4_3 i4_4 i4_5 i4_6 i4_7 v4_0 v4_1 v4_2) res.1 res.2.1 s.heap.size) (xX D cs w0 (W_X10_share cs a0 p0 i0_13 i0_14 res.2.2 p1 i1_0 i1_6 i1_8 i1_10 i1_11 i1_12 v1_1 v1_2 v1_3 v1_4 v1_5 v1_7 v1_9 p2 i2_2 p3 i3_0 i3_1 v3_2 v3_3 p4 i4_3 i4_4 i4_5 i4_6 i4_7 v4_0 v4_1 v4_2) res.1 s.heap.size) av s 3 18 (va_A w0 s.heap.size)) (F0 m 28 ls [.int t1, .ref a0]) := by
  obtain ⟨hx, hb, hr, hlk, hml, hown, hts, hK, hG, hE⟩ := id C0
  intro v0_15 x4 x5 t1 hf H locs ls hP hD hS hl
  rw [f_X10_share_b28] at hf
  obtain ⟨q28, hq, hf⟩ := bd_some hf
  refine ow_tVV (As := [.int t1]) (rest := []) (wr := ow_pk (W_X10_share cs a0 p0 i0_13 i0_14 v0_15 p1 i1_0 i1_6 i1_8 i1_10 i1_11 i1_12 v1_1 v1_2 v1_3 v1_4 v1_5 v1_7 v1_9 p2 i2_2 p3 i3_0 i3_1 v3_2 v3_3 p4 i4_3 i4_4 i4_5 i4_6 i4_7 v4_0 v4_1 v4_2) [2, 3, 4, 5, 6, 7, 8, 9, 10, 11, 12, 13, 14, 15, 16, 17]) (wf := (W_X10_share cs a0 p0 i0_13 i0_14 q28.2 p1 i1_0 i1_6 i1_8 i1_10 i1_11 i1_12 v1_1 v1_2 v1_3 v1_4 v1_5 v1_7 v1_9 p2 i2_2 p3 i3_0 i3_1 v3_2 v3_3 p4 i4_3 i4_4 i4_5 i4_6 i4_7 v4_0 v4_1 v4_2)) (k := q28.1) C0 T0 (c_X10_need l D cs T0.1 H.size a0 p0 i0_13 i0_14 v0_15 t1 q28 hq) (cwV 1 hts gX10_share_X10_need rfl rfl rfl (by decide +kernel) ⟨Nat.le_of_ble_eq_true rfl, Nat.le_of_ble_eq_true rfl⟩) 10 rfl rfl hP hD hS (fun q h => Or.inr h) [0, 1] [2, 3, 4, 5, 6, 7, 8, 9, 10, 11, 12, 13, 14, 15, 16, 17] [16, 17, 0, 1, 2, 3, 4, 5, 6, 7, 8, 9, 10, 11, 12, 13, 14, 15] rfl (by decide) rfl (by decide) (by decide) rfl (by decide) rfl hl.1 rfl (Nat.le_of_ble_eq_true rfl) ⟨(Nat.le_of_ble_eq_true rfl), (Nat.le_of_ble_eq_true rfl)⟩ dX10_share_28 (fun hz => ?_) (Nat.le_of_ble_eq_true rfl) (Nat.le_of_ble_eq_true rfl) (fun hz H locs hP hD hS => ?_)
  · replace hf := ow_f hz hf
    obtain rfl := Option.some.inj hf
    exact ⟨rfl, rfl⟩
  replace hf := ow_t hz hf
  refine lv_aload_n hx hb dX10_share_31 rfl (lv_at hl 0 rfl) ?_
  refine va_get (D := D) (ci := 10) (v := .ref (p0 7)) (C := RX10) (T := TX10) (N := 16) hx hb hts in_X10_share_X10 hown hK hP 0 rfl rfl 7 (by decide) (hts (.fieldLink RX10 49 "PaneDays" "gaze" "LPaneDays$Gaze;") (List.mem_of_getElem? (i := 1) rfl)) (fun _ h9 => h9) rfl dX10_share_32 ?_
  refine lv_aload_n hx hb dX10_share_35 rfl (lv_at hl 0 rfl) ?_
  refine va_get (D := D) (ci := 10) (v := .ref (p0 9)) (C := RX10) (T := TX10) (N := 16) hx hb hts in_X10_share_X10 hown hK hP 0 rfl rfl 9 (by decide) (hts (.fieldLink RX10 63 "PaneDays" "past" "LPaneDays$Past;") (List.mem_of_getElem? (i := 2) rfl)) (fun _ h9 => h9) rfl dX10_share_36 ?_
  refine va_get (D := D) (ci := 4) (v := .ref (p2 0)) (C := RX4) (T := TX4) (N := 3) hx hb hts in_X10_share_X4 hown hK hP 10 rfl rfl 0 (by decide) (hts (.fieldLink RX10 76 "PaneDays$Past" "now" "LPaneDays$Glass;") (List.mem_of_getElem? (i := 3) rfl)) (fun _ h9 => h9) rfl dX10_share_39 ?_
  refine lv_iload hx hb dX10_share_42 (lv_at hl 2 rfl) ?_
  refine lv_iload hx hb dX10_share_44 (lv_at hl 1 rfl) ?_
  obtain ⟨q46, hq, hf⟩ := bd_some hf
  refine ow_callVI (As := [.ref (p2 0), .int x5, .int x4]) (rest := []) (wr := ow_pk (W_X10_share cs a0 p0 i0_13 i0_14 q28.2 p1 i1_0 i1_6 i1_8 i1_10 i1_11 i1_12 v1_1 v1_2 v1_3 v1_4 v1_5 v1_7 v1_9 p2 i2_2 p3 i3_0 i3_1 v3_2 v3_3 p4 i4_3 i4_4 i4_5 i4_6 i4_7 v4_0 v4_1 v4_2) [0, 1, 2, 3, 4, 5, 6, 7, 8, 9, 10]) (wf := (W_X10_share cs a0 p0 i0_13 i0_14 q28.2 p1 i1_0 i1_6 i1_8 i1_10 i1_11 i1_12 v1_1 v1_2 v1_3 v1_4 v1_5 v1_7 v1_9 p2 i2_2 p3 i3_0 i3_1 v3_2 v3_3 p4 i4_3 i4_4 i4_5 i4_6 i4_7 v4_0 v4_1 v4_2)) (r := q46) C0 (c_X1_shareOf l D cs H.size (p0 7) p3 i3_0 i3_1 v3_2 v3_3 (p2 0) p4 i4_3 i4_4 i4_5 i4_6 i4_7 v4_0 v4_1 v4_2 x5 x4 q46 hq) (cwV 3 hts gX10_share_X1_shareOf rfl rfl rfl (by decide +kernel) ⟨Nat.le_of_ble_eq_true rfl, Nat.le_of_ble_eq_true rfl⟩) 1 rfl rfl hP hD hS (fun q h => Or.inr h) [11, 12, 13, 14, 15, 16, 17] [0, 1, 2, 3, 4, 5, 6, 7, 8, 9, 10] [0, 1, 2, 3, 4, 5, 6, 7, 8, 9, 10, 11, 12, 13, 14, 15, 16, 17] rfl (by decide) rfl (by decide) (by decide) rfl (by decide) rfl hl.1 rfl (Nat.le_of_ble_eq_true rfl) ⟨(Nat.le_of_ble_eq_true rfl), (Nat.le_of_ble_eq_true rfl)⟩ dX10_share_46 (fun H locs hP hD hS => ?_)
  obtain rfl := Option.some.inj hf
  exact ow_tretI C0 rfl hP hD hS (Nat.le_of_ble_eq_true rfl) (Nat.le_of_ble_eq_true rfl) dX10_share_49
def f_X10_share_b27  (i1_0 : Int32) (v1_1 : Nat → Int32) (v1_2 : Nat → Int32) (v4_1 : Nat → Int32)  (v0_15 : Nat → Int32) (x4 : Int32) (x5 : Int32) : Option (Nat × Int32 × (Nat → Int32)) := f_X10_share_b28 i1_0 v1_1 v1_2 v4_1 v0_15 x4 x5 (0)
set_option maxHeartbeats 4000000 in
set_option maxRecDepth 100000 in
theorem w_X10_share_b27 {p : Program} {l : Launch} {e : Env} {s : State} {m : MethodId} {below : List Frame} {meth : Method} {c : Code} {D : va_G} {cs : Nat → ClassId} {av : Array Value} {w0 : va_W} (C0 : Cx p s m meth c av wsX10_share cX10_share 6 (some .int) RX10 D cs w0) (T0 : CxT l s c)  (a0 : Nat) (p0 : Nat → Nat) (i0_13 : Int32) (i0_14 : Int32) (p1 : Nat → Nat) (i1_0 : Int32) (i1_6 : Int32) (i1_8 : Int32) (i1_10 : Int32) (i1_11 : Int32) (i1_12 : Int32) (v1_1 : Nat → Int32) (v1_2 : Nat → Int32) (v1_3 : Nat → Int32) (v1_4 : Nat → Int32) (v1_5 : Nat → Int32) (v1_7 : Nat → Int32) (v1_9 : Nat → Int32) (p2 : Nat → Nat) (i2_2 : Int32) (p3 : Nat → Nat) (i3_0 : Int32) (i3_1 : Int32) (v3_2 : Nat → Int32) (v3_3 : Nat → Int32) (p4 : Nat → Nat) (i4_3 : Int32) (i4_4 : Int32) (i4_5 : Int32) (i4_6 : Int32) (i4_7 : Int32) (v4_0 : Nat → Int32) (v4_1 : Nat → Int32) (v4_2 : Nat → Int32) (res : Nat × Int32 × (Nat → Int32))  : ∀ (v0_15 : Nat → Int32) (x4 : Int32) (x5 : Int32), f_X10_share_b27 i1_0 v1_1 v1_2 v4_1 v0_15 x4 x5 = some res → ∀ (H : Heap) (locs : List Loc) (ls : Array Slot), va_P D vwCl (W_X10_share cs a0 p0 i0_13 i0_14 v0_15 p1 i1_0 i1_6 i1_8 i1_10 i1_11 i1_12 v1_1 v1_2 v1_3 v1_4 v1_5 v1_7 v1_9 p2 i2_2 p3 i3_0 i3_1 v3_2 v3_3 p4 i4_3 i4_4 i4_5 i4_6 i4_7 v4_0 v4_1 v4_2) H → va_D (va_A w0 s.heap.size) (W_X10_share cs a0 p0 i0_13 i0_14 v0_15 p1 i1_0 i1_6 i1_8 i1_10 i1_11 i1_12 v1_1 v1_2 v1_3 v1_4 v1_5 v1_7 v1_9 p2 i2_2 p3 i3_0 i3_1 v3_2 v3_3 p4 i4_3 i4_4 i4_5 i4_6 i4_7 v4_0 v4_1 v4_2) → va_S (va_A w0 s.heap.size) s.heap H locs → lv_has ls 6 [(0, .ref a0), (4, .int x4), (5, .int x5)] → W p l e rm_X10_share s m av below meth c H locs 2 12 (vx_MQ below (xI D cs w0 (W_X10_share cs a0 p0 i0_13 i0_14 res.2.2 p1 i1_0 i1_6 i1_8 i1_10 i1_11 i1_12 v1_1 v1_2 v1_3 v1_4 v1_5 v1_7 v1_9 p2 i2_2 p3 i3_0 i3_1 v3_2 v3_3 p4 i4_3 i4_4 i4_5 i4_6 i4_7 v4_0 v4_1 v4_2) res.1 res.2.1 s.heap.size) (xX D cs w0 (W_X10_share cs a0 p0 i0_13 i0_14 res.2.2 p1 i1_0 i1_6 i1_8 i1_10 i1_11 i1_12 v1_1 v1_2 v1_3 v1_4 v1_5 v1_7 v1_9 p2 i2_2 p3 i3_0 i3_1 v3_2 v3_3 p4 i4_3 i4_4 i4_5 i4_6 i4_7 v4_0 v4_1 v4_2) res.1 s.heap.size) av s 3 18 (va_A w0 s.heap.size)) (F0 m 27 ls [.ref a0]) := by
  obtain ⟨hx, hb, hr, hlk, hml, hown, hts, hK, hG, hE⟩ := id C0
  intro v0_15 x4 x5 hf H locs ls hP hD hS hl
  rw [f_X10_share_b27] at hf
  refine lv_iconst (v := 0) hx hb dX10_share_27 (by decide) ?_
  refine W.widen (k := 2) (n := 12) (Nat.le_of_ble_eq_true rfl) (Nat.le_of_ble_eq_true rfl) ?_
  exact w_X10_share_b28 C0 T0 a0 p0 i0_13 i0_14 p1 i1_0 i1_6 i1_8 i1_10 i1_11 i1_12 v1_1 v1_2 v1_3 v1_4 v1_5 v1_7 v1_9 p2 i2_2 p3 i3_0 i3_1 v3_2 v3_3 p4 i4_3 i4_4 i4_5 i4_6 i4_7 v4_0 v4_1 v4_2 res v0_15 x4 x5 (0) hf _ _ _ hP hD hS (lv_sub hl [0, 1, 2] rfl)
def f_X10_share  (v0_15 : Nat → Int32) (i1_0 : Int32) (v1_1 : Nat → Int32) (v1_2 : Nat → Int32) (v4_1 : Nat → Int32) (x1 : Int32) (x2 : Int32) (x3 : Int32) (x4 : Int32) : Option (Nat × Int32 × (Nat → Int32)) := (f_X10_needCell v0_15 i1_0 v1_1 v1_2 x1 x2 x3).bind fun q4 => if q4.1 = 0 then (if x4 < 0 then (f_X10_share_b27 i1_0 v1_1 v1_2 v4_1 q4.2.2 x4 q4.2.1) else (if 9999 < x4 then (f_X10_share_b27 i1_0 v1_1 v1_2 v4_1 q4.2.2 x4 q4.2.1) else (f_X10_share_b28 i1_0 v1_1 v1_2 v4_1 q4.2.2 x4 q4.2.1 (1)))) else (some (q4.1, 0, q4.2.2))
set_option maxHeartbeats 4000000 in
set_option maxRecDepth 100000 in
theorem c_X10_share (l : Launch) (D : va_G) (cs : Nat → ClassId) (hl0 : l.stackTraces = false)  (sz : Nat) (a0 : Nat) (p0 : Nat → Nat) (i0_13 : Int32) (i0_14 : Int32) (v0_15 : Nat → Int32) (p1 : Nat → Nat) (i1_0 : Int32) (i1_6 : Int32) (i1_8 : Int32) (i1_10 : Int32) (i1_11 : Int32) (i1_12 : Int32) (v1_1 : Nat → Int32) (v1_2 : Nat → Int32) (v1_3 : Nat → Int32) (v1_4 : Nat → Int32) (v1_5 : Nat → Int32) (v1_7 : Nat → Int32) (v1_9 : Nat → Int32) (p2 : Nat → Nat) (i2_2 : Int32) (p3 : Nat → Nat) (i3_0 : Int32) (i3_1 : Int32) (v3_2 : Nat → Int32) (v3_3 : Nat → Int32) (p4 : Nat → Nat) (i4_3 : Int32) (i4_4 : Int32) (i4_5 : Int32) (i4_6 : Int32) (i4_7 : Int32) (v4_0 : Nat → Int32) (v4_1 : Nat → Int32) (v4_2 : Nat → Int32) (x1 : Int32) (x2 : Int32) (x3 : Int32) (x4 : Int32) (res : Nat × Int32 × (Nat → Int32)) (hf : f_X10_share  v0_15 i1_0 v1_1 v1_2 v4_1 x1 x2 x3 x4 = some res) : XI l D cs yX10_share wsX10_share rm_X10_share [.ref a0, .int x1, .int x2, .int x3, .int x4] sz (W_X10_share cs a0 p0 i0_13 i0_14 v0_15 p1 i1_0 i1_6 i1_8 i1_10 i1_11 i1_12 v1_1 v1_2 v1_3 v1_4 v1_5 v1_7 v1_9 p2 i2_2 p3 i3_0 i3_1 v3_2 v3_3 p4 i4_3 i4_4 i4_5 i4_6 i4_7 v4_0 v4_1 v4_2) (W_X10_share cs a0 p0 i0_13 i0_14 res.2.2 p1 i1_0 i1_6 i1_8 i1_10 i1_11 i1_12 v1_1 v1_2 v1_3 v1_4 v1_5 v1_7 v1_9 p2 i2_2 p3 i3_0 i3_1 v3_2 v3_3 p4 i4_3 i4_4 i4_5 i4_6 i4_7 v4_0 v4_1 v4_2) res.1 res.2.1 3 18 := by
  rw [f_X10_share] at hf
  refine ow_enterT (cc := cX10_share) (nL := 6) (ret := (some .int)) hl0 (by decide) rfl (Nat.le_of_ble_eq_true rfl) (fun p e s m below meth c ls H locs C0 T0 hP hD hS hA hl => ?_)
  obtain ⟨hx, hb, hr, hlk, hml, hown, hts, hK, hG, hE⟩ := id C0
  have hl : lv_has ls 6 [(0, .ref a0), (1, .int x1), (2, .int x2), (3, .int x3), (4, .int x4)] := hl
  refine lv_aload_n hx hb dX10_share_0 rfl (lv_at hl 0 rfl) ?_
  refine lv_iload_n hx hb dX10_share_1 rfl (lv_at hl 1 rfl) ?_
  refine lv_iload_n hx hb dX10_share_2 rfl (lv_at hl 2 rfl) ?_
  refine lv_iload_n hx hb dX10_share_3 rfl (lv_at hl 3 rfl) ?_
  obtain ⟨q4, hq, hf⟩ := bd_some hf
  refine ow_tVI (As := [.int x1, .int x2, .int x3]) (rest := []) (wr := ow_pk (W_X10_share cs a0 p0 i0_13 i0_14 v0_15 p1 i1_0 i1_6 i1_8 i1_10 i1_11 i1_12 v1_1 v1_2 v1_3 v1_4 v1_5 v1_7 v1_9 p2 i2_2 p3 i3_0 i3_1 v3_2 v3_3 p4 i4_3 i4_4 i4_5 i4_6 i4_7 v4_0 v4_1 v4_2) [10, 11, 12, 13, 14, 15, 16, 17]) (wf := (W_X10_share cs a0 p0 i0_13 i0_14 q4.2.2 p1 i1_0 i1_6 i1_8 i1_10 i1_11 i1_12 v1_1 v1_2 v1_3 v1_4 v1_5 v1_7 v1_9 p2 i2_2 p3 i3_0 i3_1 v3_2 v3_3 p4 i4_3 i4_4 i4_5 i4_6 i4_7 v4_0 v4_1 v4_2)) (r := q4.2.1) (k := q4.1) C0 T0 (c_X10_needCell l D cs T0.1 H.size a0 p0 i0_13 i0_14 v0_15 p1 i1_0 i1_6 i1_8 i1_10 i1_11 i1_12 v1_1 v1_2 v1_3 v1_4 v1_5 v1_7 v1_9 x1 x2 x3 q4 hq) (cwV 3 hts gX10_share_X10_needCell rfl rfl rfl (by decide +kernel) ⟨Nat.le_of_ble_eq_true rfl, Nat.le_of_ble_eq_true rfl⟩) 10 rfl rfl hP hD hS (fun q h => Or.inr h) [0, 1, 2, 3, 4, 5, 6, 7, 8, 9] [10, 11, 12, 13, 14, 15, 16, 17] [8, 9, 10, 11, 12, 13, 14, 15, 16, 17, 0, 1, 2, 3, 4, 5, 6, 7] rfl (by decide) rfl (by decide) (by decide) rfl (by decide) rfl hl.1 rfl (Nat.le_of_ble_eq_true rfl) ⟨(Nat.le_of_ble_eq_true rfl), (Nat.le_of_ble_eq_true rfl)⟩ dX10_share_4 (fun hz => ?_) (Nat.le_of_ble_eq_true rfl) (Nat.le_of_ble_eq_true rfl) (fun hz H locs hP hD hS => ?_)
  · replace hf := ow_f hz hf
    obtain rfl := Option.some.inj hf
    exact ⟨rfl, rfl⟩
  replace hf := ow_t hz hf
  refine lv_istore (lv' := [(5, .int q4.2.1), (0, .ref a0), (1, .int x1), (2, .int x2), (3, .int x3), (4, .int x4)]) hx hb dX10_share_7 hl (by decide) rfl (fun ls hl => ?_)
  refine lv_aload_n hx hb dX10_share_9 rfl (lv_at hl 1 rfl) ?_
  refine lv_iload hx hb dX10_share_10 (lv_at hl 5 rfl) ?_
  refine lv_if_lt (tgt := 27) hx hb dX10_share_12 (by decide) (fun hc => ?_) (fun hc => ?_)
  · replace hf := ow_t hc hf
    refine W.widen (k := 2) (n := 12) (Nat.le_of_ble_eq_true rfl) (Nat.le_of_ble_eq_true rfl) ?_
    exact w_X10_share_b27 C0 T0 a0 p0 i0_13 i0_14 p1 i1_0 i1_6 i1_8 i1_10 i1_11 i1_12 v1_1 v1_2 v1_3 v1_4 v1_5 v1_7 v1_9 p2 i2_2 p3 i3_0 i3_1 v3_2 v3_3 p4 i4_3 i4_4 i4_5 i4_6 i4_7 v4_0 v4_1 v4_2 res q4.2.2 x4 q4.2.1 hf _ _ _ hP hD hS (lv_sub hl [1, 5, 0] rfl)
  · replace hf := ow_f hc hf
    refine lv_iload hx hb dX10_share_15 (lv_at hl 5 rfl) ?_
    refine lv_sipush (v := 9999) hx hb dX10_share_17 (by decide) ?_
    refine lv_icmp_gt (tgt := 27) hx hb dX10_share_20 (by decide) (fun hc => ?_) (fun hc => ?_)
    · replace hf := ow_t hc hf
      refine W.widen (k := 2) (n := 12) (Nat.le_of_ble_eq_true rfl) (Nat.le_of_ble_eq_true rfl) ?_
      exact w_X10_share_b27 C0 T0 a0 p0 i0_13 i0_14 p1 i1_0 i1_6 i1_8 i1_10 i1_11 i1_12 v1_1 v1_2 v1_3 v1_4 v1_5 v1_7 v1_9 p2 i2_2 p3 i3_0 i3_1 v3_2 v3_3 p4 i4_3 i4_4 i4_5 i4_6 i4_7 v4_0 v4_1 v4_2 res q4.2.2 x4 q4.2.1 hf _ _ _ hP hD hS (lv_sub hl [1, 5, 0] rfl)
    · replace hf := ow_f hc hf
      refine lv_iconst (v := 1) hx hb dX10_share_23 (by decide) ?_
      refine lv_goto (tgt := 28) hx hb dX10_share_24 (by decide) ?_
      refine W.widen (k := 2) (n := 12) (Nat.le_of_ble_eq_true rfl) (Nat.le_of_ble_eq_true rfl) ?_
      exact w_X10_share_b28 C0 T0 a0 p0 i0_13 i0_14 p1 i1_0 i1_6 i1_8 i1_10 i1_11 i1_12 v1_1 v1_2 v1_3 v1_4 v1_5 v1_7 v1_9 p2 i2_2 p3 i3_0 i3_1 v3_2 v3_3 p4 i4_3 i4_4 i4_5 i4_6 i4_7 v4_0 v4_1 v4_2 res q4.2.2 x4 q4.2.1 (1) hf _ _ _ hP hD hS (lv_sub hl [1, 5, 0] rfl)
theorem in_X10_by_X10 : ∀ w ∈ u_ws RX10 TX10 16, w ∈ wsX10_by := by decide +kernel
theorem in_X10_by_X2 : ∀ w ∈ u_ws RX2 TX2 8, w ∈ wsX10_by := by decide +kernel
theorem in_X10_by_X4 : ∀ w ∈ u_ws RX4 TX4 3, w ∈ wsX10_by := by decide +kernel
theorem in_X10_by_X5 : ∀ w ∈ u_ws RX5 TX5 3, w ∈ wsX10_by := by decide +kernel
abbrev W_X10_by (cs : Nat → ClassId) (a0 : Nat) (p0 : Nat → Nat) (i0_13 : Int32) (i0_14 : Int32) (v0_15 : Nat → Int32) (p1 : Nat → Nat) (i1_0 : Int32) (i1_6 : Int32) (i1_8 : Int32) (i1_10 : Int32) (i1_11 : Int32) (i1_12 : Int32) (v1_1 : Nat → Int32) (v1_2 : Nat → Int32) (v1_3 : Nat → Int32) (v1_4 : Nat → Int32) (v1_5 : Nat → Int32) (v1_7 : Nat → Int32) (v1_9 : Nat → Int32) (p2 : Nat → Nat) (i2_2 : Int32) (p3 : Nat → Nat) (i3_3 : Int32) (i3_4 : Int32) (i3_5 : Int32) (i3_6 : Int32) (i3_7 : Int32) (v3_0 : Nat → Int32) (v3_1 : Nat → Int32) (v3_2 : Nat → Int32) (p4 : Nat → Nat) (i4_0 : Int32) (i4_1 : Int32) (v4_2 : Nat → Int32) : va_W := wX10 cs a0 p0 i0_13 i0_14 v0_15 ++ wX6 cs (p0 1) p1 i1_0 i1_6 i1_8 i1_10 i1_11 i1_12 v1_1 v1_2 v1_3 v1_4 v1_5 v1_7 v1_9 ++ wX4 cs (p0 9) p2 i2_2 ++ wX2 cs (p2 0) p3 i3_3 i3_4 i3_5 i3_6 i3_7 v3_0 v3_1 v3_2 ++ wX5 cs (p0 8) p4 i4_0 i4_1 v4_2
abbrev rm_X10_by : Room := { frames := 12, cells := 2, slots := 12, locals := 351 }
def f_X10_by_b23  (i1_8 : Int32) (i1_10 : Int32) (i1_11 : Int32) (v1_3 : Nat → Int32) (v1_4 : Nat → Int32) (v1_9 : Nat → Int32) (i3_4 : Int32)  (v0_15 : Nat → Int32) (i4_0 : Int32) (i4_1 : Int32) (v4_2 : Nat → Int32) (x1 : Int32) (x2 : Int32) (t1 : Int32) : Option (Nat × Int32 × (Nat → Int32) × Int32 × Int32 × (Nat → Int32)) := (f_X10_need v0_15 t1).bind fun q23 => if q23.1 = 0 then ((f_X5_walkInTime i4_0 i4_1 v4_2 i1_8 i1_10 i1_11 v1_3 v1_4 v1_9 x1 i3_4 x2).bind fun q46 => if q46.1 = ((-1)) then (some (0, 0, q23.2, q46.1, q46.2.1, q46.2.2)) else (some (0, 1, q23.2, q46.1, q46.2.1, q46.2.2))) else (some (q23.1, 0, q23.2, i4_0, i4_1, v4_2))
set_option maxHeartbeats 4000000 in
set_option maxRecDepth 100000 in
theorem w_X10_by_b23 {p : Program} {l : Launch} {e : Env} {s : State} {m : MethodId} {below : List Frame} {meth : Method} {c : Code} {D : va_G} {cs : Nat → ClassId} {av : Array Value} {w0 : va_W} (C0 : Cx p s m meth c av wsX10_by cX10_by 3 (some .boolean) RX10 D cs w0) (T0 : CxT l s c)  (a0 : Nat) (p0 : Nat → Nat) (i0_13 : Int32) (i0_14 : Int32) (p1 : Nat → Nat) (i1_0 : Int32) (i1_6 : Int32) (i1_8 : Int32) (i1_10 : Int32) (i1_11 : Int32) (i1_12 : Int32) (v1_1 : Nat → Int32) (v1_2 : Nat → Int32) (v1_3 : Nat → Int32) (v1_4 : Nat → Int32) (v1_5 : Nat → Int32) (v1_7 : Nat → Int32) (v1_9 : Nat → Int32) (p2 : Nat → Nat) (i2_2 : Int32) (p3 : Nat → Nat) (i3_3 : Int32) (i3_4 : Int32) (i3_5 : Int32) (i3_6 : Int32) (i3_7 : Int32) (v3_0 : Nat → Int32) (v3_1 : Nat → Int32) (v3_2 : Nat → Int32) (p4 : Nat → Nat) (res : Nat × Int32 × (Nat → Int32) × Int32 × Int32 × (Nat → Int32))  : ∀ (v0_15 : Nat → Int32) (i4_0 : Int32) (i4_1 : Int32) (v4_2 : Nat → Int32) (x1 : Int32) (x2 : Int32) (t1 : Int32), f_X10_by_b23 i1_8 i1_10 i1_11 v1_3 v1_4 v1_9 i3_4 v0_15 i4_0 i4_1 v4_2 x1 x2 t1 = some res → ∀ (H : Heap) (locs : List Loc) (ls : Array Slot), va_P D vwCl (W_X10_by cs a0 p0 i0_13 i0_14 v0_15 p1 i1_0 i1_6 i1_8 i1_10 i1_11 i1_12 v1_1 v1_2 v1_3 v1_4 v1_5 v1_7 v1_9 p2 i2_2 p3 i3_3 i3_4 i3_5 i3_6 i3_7 v3_0 v3_1 v3_2 p4 i4_0 i4_1 v4_2) H → va_D (va_A w0 s.heap.size) (W_X10_by cs a0 p0 i0_13 i0_14 v0_15 p1 i1_0 i1_6 i1_8 i1_10 i1_11 i1_12 v1_1 v1_2 v1_3 v1_4 v1_5 v1_7 v1_9 p2 i2_2 p3 i3_3 i3_4 i3_5 i3_6 i3_7 v3_0 v3_1 v3_2 p4 i4_0 i4_1 v4_2) → va_S (va_A w0 s.heap.size) s.heap H locs → lv_has ls 3 [(0, .ref a0), (1, .int x1), (2, .int x2)] → W p l e rm_X10_by s m av below meth c H locs 1 6 (vx_MQ below (xI D cs w0 (W_X10_by cs a0 p0 i0_13 i0_14 res.2.2.1 p1 i1_0 i1_6 i1_8 i1_10 i1_11 i1_12 v1_1 v1_2 v1_3 v1_4 v1_5 v1_7 v1_9 p2 i2_2 p3 i3_3 i3_4 i3_5 i3_6 i3_7 v3_0 v3_1 v3_2 p4 res.2.2.2.1 res.2.2.2.2.1 res.2.2.2.2.2) res.1 res.2.1 s.heap.size) (xX D cs w0 (W_X10_by cs a0 p0 i0_13 i0_14 res.2.2.1 p1 i1_0 i1_6 i1_8 i1_10 i1_11 i1_12 v1_1 v1_2 v1_3 v1_4 v1_5 v1_7 v1_9 p2 i2_2 p3 i3_3 i3_4 i3_5 i3_6 i3_7 v3_0 v3_1 v3_2 p4 res.2.2.2.1 res.2.2.2.2.1 res.2.2.2.2.2) res.1 s.heap.size) av s 2 12 (va_A w0 s.heap.size)) (F0 m 23 ls [.int t1, .ref a0]) := by
  obtain ⟨hx, hb, hr, hlk, hml, hown, hts, hK, hG, hE⟩ := id C0
  intro v0_15 i4_0 i4_1 v4_2 x1 x2 t1 hf H locs ls hP hD hS hl
  rw [f_X10_by_b23] at hf
  obtain ⟨q23, hq, hf⟩ := bd_some hf
  refine ow_tVV (As := [.int t1]) (rest := []) (wr := ow_pk (W_X10_by cs a0 p0 i0_13 i0_14 v0_15 p1 i1_0 i1_6 i1_8 i1_10 i1_11 i1_12 v1_1 v1_2 v1_3 v1_4 v1_5 v1_7 v1_9 p2 i2_2 p3 i3_3 i3_4 i3_5 i3_6 i3_7 v3_0 v3_1 v3_2 p4 i4_0 i4_1 v4_2) [2, 3, 4, 5, 6, 7, 8, 9, 10, 11, 12, 13, 14, 15, 16]) (wf := (W_X10_by cs a0 p0 i0_13 i0_14 q23.2 p1 i1_0 i1_6 i1_8 i1_10 i1_11 i1_12 v1_1 v1_2 v1_3 v1_4 v1_5 v1_7 v1_9 p2 i2_2 p3 i3_3 i3_4 i3_5 i3_6 i3_7 v3_0 v3_1 v3_2 p4 i4_0 i4_1 v4_2)) (k := q23.1) C0 T0 (c_X10_need l D cs T0.1 H.size a0 p0 i0_13 i0_14 v0_15 t1 q23 hq) (cwV 1 hts gX10_by_X10_need rfl rfl rfl (by decide +kernel) ⟨Nat.le_of_ble_eq_true rfl, Nat.le_of_ble_eq_true rfl⟩) 10 rfl rfl hP hD hS (fun q h => Or.inr h) [0, 1] [2, 3, 4, 5, 6, 7, 8, 9, 10, 11, 12, 13, 14, 15, 16] [15, 16, 0, 1, 2, 3, 4, 5, 6, 7, 8, 9, 10, 11, 12, 13, 14] rfl (by decide) rfl (by decide) (by decide) rfl (by decide) rfl hl.1 rfl (Nat.le_of_ble_eq_true rfl) ⟨(Nat.le_of_ble_eq_true rfl), (Nat.le_of_ble_eq_true rfl)⟩ dX10_by_23 (fun hz => ?_) (Nat.le_of_ble_eq_true rfl) (Nat.le_of_ble_eq_true rfl) (fun hz H locs hP hD hS => ?_)
  · replace hf := ow_f hz hf
    obtain rfl := Option.some.inj hf
    exact ⟨rfl, rfl⟩
  replace hf := ow_t hz hf
  refine lv_aload_n hx hb dX10_by_26 rfl (lv_at hl 0 rfl) ?_
  refine va_get (D := D) (ci := 10) (v := .ref (p0 8)) (C := RX10) (T := TX10) (N := 16) hx hb hts in_X10_by_X10 hown hK hP 0 rfl rfl 8 (by decide) (hts (.fieldLink RX10 56 "PaneDays" "rounds" "LPaneDays$Rounds;") (List.mem_of_getElem? (i := 1) rfl)) (fun _ h9 => h9) rfl dX10_by_27 ?_
  refine lv_aload_n hx hb dX10_by_30 rfl (lv_at hl 0 rfl) ?_
  refine va_get (D := D) (ci := 10) (v := .ref (p0 1)) (C := RX10) (T := TX10) (N := 16) hx hb hts in_X10_by_X10 hown hK hP 0 rfl rfl 1 (by decide) (hts (.fieldLink RX10 19 "PaneDays" "street" "LPaneDays$Street;") (List.mem_of_getElem? (i := 2) rfl)) (fun _ h9 => h9) rfl dX10_by_31 ?_
  refine lv_iload_n hx hb dX10_by_34 rfl (lv_at hl 1 rfl) ?_
  refine lv_aload_n hx hb dX10_by_35 rfl (lv_at hl 0 rfl) ?_
  refine va_get (D := D) (ci := 10) (v := .ref (p0 9)) (C := RX10) (T := TX10) (N := 16) hx hb hts in_X10_by_X10 hown hK hP 0 rfl rfl 9 (by decide) (hts (.fieldLink RX10 63 "PaneDays" "past" "LPaneDays$Past;") (List.mem_of_getElem? (i := 3) rfl)) (fun _ h9 => h9) rfl dX10_by_36 ?_
  refine va_get (D := D) (ci := 4) (v := .ref (p2 0)) (C := RX4) (T := TX4) (N := 3) hx hb hts in_X10_by_X4 hown hK hP 10 rfl rfl 0 (by decide) (hts (.fieldLink RX10 76 "PaneDays$Past" "now" "LPaneDays$Glass;") (List.mem_of_getElem? (i := 4) rfl)) (fun _ h9 => h9) rfl dX10_by_39 ?_
  refine va_get (D := D) (ci := 2) (v := .int i3_4) (C := RX2) (T := TX2) (N := 8) hx hb hts in_X10_by_X2 hown hK hP 11 rfl rfl 4 (by decide) (hts (.fieldLink RX10 171 "PaneDays$Glass" "day" "I") (List.mem_of_getElem? (i := 5) rfl)) (fun _ h9 => h9) rfl dX10_by_42 ?_
  refine lv_iload_n hx hb dX10_by_45 rfl (lv_at hl 2 rfl) ?_
  obtain ⟨q46, hq, hf⟩ := bd_some hf
  refine ow_callVV (As := [.ref (p0 1), .int x1, .int i3_4, .int x2]) (rest := []) (wr := ow_pk (W_X10_by cs a0 p0 i0_13 i0_14 q23.2 p1 i1_0 i1_6 i1_8 i1_10 i1_11 i1_12 v1_1 v1_2 v1_3 v1_4 v1_5 v1_7 v1_9 p2 i2_2 p3 i3_3 i3_4 i3_5 i3_6 i3_7 v3_0 v3_1 v3_2 p4 i4_0 i4_1 v4_2) [0, 1, 10, 11, 12, 13, 14]) (wf := (W_X10_by cs a0 p0 i0_13 i0_14 q23.2 p1 i1_0 i1_6 i1_8 i1_10 i1_11 i1_12 v1_1 v1_2 v1_3 v1_4 v1_5 v1_7 v1_9 p2 i2_2 p3 i3_3 i3_4 i3_5 i3_6 i3_7 v3_0 v3_1 v3_2 p4 q46.1 q46.2.1 q46.2.2)) C0 (c_X5_walkInTime l D cs H.size (p0 8) p4 i4_0 i4_1 v4_2 (p0 1) p1 i1_0 i1_6 i1_8 i1_10 i1_11 i1_12 v1_1 v1_2 v1_3 v1_4 v1_5 v1_7 v1_9 x1 i3_4 x2 q46 hq) (cwV 4 hts gX10_by_X5_walkInTime rfl rfl rfl (by decide +kernel) ⟨Nat.le_of_ble_eq_true rfl, Nat.le_of_ble_eq_true rfl⟩) 5 rfl rfl hP hD hS (fun q h => Or.inr h) [15, 16, 2, 3, 4, 5, 6, 7, 8, 9] [0, 1, 10, 11, 12, 13, 14] [0, 1, 9, 10, 11, 12, 13, 14, 15, 16, 2, 3, 4, 5, 6, 7, 8] rfl (by decide) rfl (by decide) (by decide) rfl (by decide) rfl hl.1 rfl (Nat.le_of_ble_eq_true rfl) ⟨(Nat.le_of_ble_eq_true rfl), (Nat.le_of_ble_eq_true rfl)⟩ dX10_by_46 (fun H locs hP hD hS => ?_)
  refine lv_aload_n hx hb dX10_by_49 rfl (lv_at hl 0 rfl) ?_
  refine va_get (D := D) (ci := 10) (v := .ref (p0 8)) (C := RX10) (T := TX10) (N := 16) hx hb hts in_X10_by_X10 hown hK hP 0 rfl rfl 8 (by decide) (hts (.fieldLink RX10 56 "PaneDays" "rounds" "LPaneDays$Rounds;") (List.mem_of_getElem? (i := 1) rfl)) (fun _ h9 => h9) rfl dX10_by_50 ?_
  refine va_get (D := D) (ci := 5) (v := .int q46.1) (C := RX5) (T := TX5) (N := 3) hx hb hts in_X10_by_X5 hown hK hP 15 rfl rfl 0 (by decide) (hts (.fieldLink RX10 322 "PaneDays$Rounds" "fewest" "I") (List.mem_of_getElem? (i := 6) rfl)) (fun _ h9 => h9) rfl dX10_by_53 ?_
  refine lv_iconst (v := (-1)) hx hb dX10_by_56 (by decide) ?_
  refine lv_icmp_eq (tgt := 64) hx hb dX10_by_57 (by decide) (fun hc => ?_) (fun hc => ?_)
  · replace hf := ow_t hc hf
    refine lv_iconst (v := 0) hx hb dX10_by_64 (by decide) ?_
    obtain rfl := Option.some.inj hf
    exact ow_tretZ C0 (Or.inl rfl) rfl hP hD hS (Nat.le_of_ble_eq_true rfl) (Nat.le_of_ble_eq_true rfl) dX10_by_65
  · replace hf := ow_f hc hf
    refine lv_iconst (v := 1) hx hb dX10_by_60 (by decide) ?_
    refine lv_goto (tgt := 65) hx hb dX10_by_61 (by decide) ?_
    obtain rfl := Option.some.inj hf
    exact ow_tretZ C0 (Or.inr rfl) rfl hP hD hS (Nat.le_of_ble_eq_true rfl) (Nat.le_of_ble_eq_true rfl) dX10_by_65
def f_X10_by_b22  (i1_8 : Int32) (i1_10 : Int32) (i1_11 : Int32) (v1_3 : Nat → Int32) (v1_4 : Nat → Int32) (v1_9 : Nat → Int32) (i3_4 : Int32)  (v0_15 : Nat → Int32) (i4_0 : Int32) (i4_1 : Int32) (v4_2 : Nat → Int32) (x1 : Int32) (x2 : Int32) : Option (Nat × Int32 × (Nat → Int32) × Int32 × Int32 × (Nat → Int32)) := f_X10_by_b23 i1_8 i1_10 i1_11 v1_3 v1_4 v1_9 i3_4 v0_15 i4_0 i4_1 v4_2 x1 x2 (0)
set_option maxHeartbeats 4000000 in
set_option maxRecDepth 100000 in
theorem w_X10_by_b22 {p : Program} {l : Launch} {e : Env} {s : State} {m : MethodId} {below : List Frame} {meth : Method} {c : Code} {D : va_G} {cs : Nat → ClassId} {av : Array Value} {w0 : va_W} (C0 : Cx p s m meth c av wsX10_by cX10_by 3 (some .boolean) RX10 D cs w0) (T0 : CxT l s c)  (a0 : Nat) (p0 : Nat → Nat) (i0_13 : Int32) (i0_14 : Int32) (p1 : Nat → Nat) (i1_0 : Int32) (i1_6 : Int32) (i1_8 : Int32) (i1_10 : Int32) (i1_11 : Int32) (i1_12 : Int32) (v1_1 : Nat → Int32) (v1_2 : Nat → Int32) (v1_3 : Nat → Int32) (v1_4 : Nat → Int32) (v1_5 : Nat → Int32) (v1_7 : Nat → Int32) (v1_9 : Nat → Int32) (p2 : Nat → Nat) (i2_2 : Int32) (p3 : Nat → Nat) (i3_3 : Int32) (i3_4 : Int32) (i3_5 : Int32) (i3_6 : Int32) (i3_7 : Int32) (v3_0 : Nat → Int32) (v3_1 : Nat → Int32) (v3_2 : Nat → Int32) (p4 : Nat → Nat) (res : Nat × Int32 × (Nat → Int32) × Int32 × Int32 × (Nat → Int32))  : ∀ (v0_15 : Nat → Int32) (i4_0 : Int32) (i4_1 : Int32) (v4_2 : Nat → Int32) (x1 : Int32) (x2 : Int32), f_X10_by_b22 i1_8 i1_10 i1_11 v1_3 v1_4 v1_9 i3_4 v0_15 i4_0 i4_1 v4_2 x1 x2 = some res → ∀ (H : Heap) (locs : List Loc) (ls : Array Slot), va_P D vwCl (W_X10_by cs a0 p0 i0_13 i0_14 v0_15 p1 i1_0 i1_6 i1_8 i1_10 i1_11 i1_12 v1_1 v1_2 v1_3 v1_4 v1_5 v1_7 v1_9 p2 i2_2 p3 i3_3 i3_4 i3_5 i3_6 i3_7 v3_0 v3_1 v3_2 p4 i4_0 i4_1 v4_2) H → va_D (va_A w0 s.heap.size) (W_X10_by cs a0 p0 i0_13 i0_14 v0_15 p1 i1_0 i1_6 i1_8 i1_10 i1_11 i1_12 v1_1 v1_2 v1_3 v1_4 v1_5 v1_7 v1_9 p2 i2_2 p3 i3_3 i3_4 i3_5 i3_6 i3_7 v3_0 v3_1 v3_2 p4 i4_0 i4_1 v4_2) → va_S (va_A w0 s.heap.size) s.heap H locs → lv_has ls 3 [(0, .ref a0), (1, .int x1), (2, .int x2)] → W p l e rm_X10_by s m av below meth c H locs 1 6 (vx_MQ below (xI D cs w0 (W_X10_by cs a0 p0 i0_13 i0_14 res.2.2.1 p1 i1_0 i1_6 i1_8 i1_10 i1_11 i1_12 v1_1 v1_2 v1_3 v1_4 v1_5 v1_7 v1_9 p2 i2_2 p3 i3_3 i3_4 i3_5 i3_6 i3_7 v3_0 v3_1 v3_2 p4 res.2.2.2.1 res.2.2.2.2.1 res.2.2.2.2.2) res.1 res.2.1 s.heap.size) (xX D cs w0 (W_X10_by cs a0 p0 i0_13 i0_14 res.2.2.1 p1 i1_0 i1_6 i1_8 i1_10 i1_11 i1_12 v1_1 v1_2 v1_3 v1_4 v1_5 v1_7 v1_9 p2 i2_2 p3 i3_3 i3_4 i3_5 i3_6 i3_7 v3_0 v3_1 v3_2 p4 res.2.2.2.1 res.2.2.2.2.1 res.2.2.2.2.2) res.1 s.heap.size) av s 2 12 (va_A w0 s.heap.size)) (F0 m 22 ls [.ref a0]) := by
  obtain ⟨hx, hb, hr, hlk, hml, hown, hts, hK, hG, hE⟩ := id C0
  intro v0_15 i4_0 i4_1 v4_2 x1 x2 hf H locs ls hP hD hS hl
  rw [f_X10_by_b22] at hf
  refine lv_iconst (v := 0) hx hb dX10_by_22 (by decide) ?_
  refine W.widen (k := 1) (n := 6) (Nat.le_of_ble_eq_true rfl) (Nat.le_of_ble_eq_true rfl) ?_
  exact w_X10_by_b23 C0 T0 a0 p0 i0_13 i0_14 p1 i1_0 i1_6 i1_8 i1_10 i1_11 i1_12 v1_1 v1_2 v1_3 v1_4 v1_5 v1_7 v1_9 p2 i2_2 p3 i3_3 i3_4 i3_5 i3_6 i3_7 v3_0 v3_1 v3_2 p4 res v0_15 i4_0 i4_1 v4_2 x1 x2 (0) hf _ _ _ hP hD hS (lv_sub hl [0, 1, 2] rfl)
def f_X10_by  (v0_15 : Nat → Int32) (i1_8 : Int32) (i1_10 : Int32) (i1_11 : Int32) (v1_3 : Nat → Int32) (v1_4 : Nat → Int32) (v1_9 : Nat → Int32) (i3_4 : Int32) (i4_0 : Int32) (i4_1 : Int32) (v4_2 : Nat → Int32) (x1 : Int32) (x2 : Int32) : Option (Nat × Int32 × (Nat → Int32) × Int32 × Int32 × (Nat → Int32)) := (f_X10_needOrders v0_15 i1_8 x1).bind fun q2 => if q2.1 = 0 then (if x2 < 1 then (f_X10_by_b22 i1_8 i1_10 i1_11 v1_3 v1_4 v1_9 i3_4 q2.2 i4_0 i4_1 v4_2 x1 x2) else (if 999 < x2 then (f_X10_by_b22 i1_8 i1_10 i1_11 v1_3 v1_4 v1_9 i3_4 q2.2 i4_0 i4_1 v4_2 x1 x2) else (f_X10_by_b23 i1_8 i1_10 i1_11 v1_3 v1_4 v1_9 i3_4 q2.2 i4_0 i4_1 v4_2 x1 x2 (1)))) else (some (q2.1, 0, q2.2, i4_0, i4_1, v4_2))
set_option maxHeartbeats 4000000 in
set_option maxRecDepth 100000 in
theorem c_X10_by (l : Launch) (D : va_G) (cs : Nat → ClassId) (hl0 : l.stackTraces = false)  (sz : Nat) (a0 : Nat) (p0 : Nat → Nat) (i0_13 : Int32) (i0_14 : Int32) (v0_15 : Nat → Int32) (p1 : Nat → Nat) (i1_0 : Int32) (i1_6 : Int32) (i1_8 : Int32) (i1_10 : Int32) (i1_11 : Int32) (i1_12 : Int32) (v1_1 : Nat → Int32) (v1_2 : Nat → Int32) (v1_3 : Nat → Int32) (v1_4 : Nat → Int32) (v1_5 : Nat → Int32) (v1_7 : Nat → Int32) (v1_9 : Nat → Int32) (p2 : Nat → Nat) (i2_2 : Int32) (p3 : Nat → Nat) (i3_3 : Int32) (i3_4 : Int32) (i3_5 : Int32) (i3_6 : Int32) (i3_7 : Int32) (v3_0 : Nat → Int32) (v3_1 : Nat → Int32) (v3_2 : Nat → Int32) (p4 : Nat → Nat) (i4_0 : Int32) (i4_1 : Int32) (v4_2 : Nat → Int32) (x1 : Int32) (x2 : Int32) (res : Nat × Int32 × (Nat → Int32) × Int32 × Int32 × (Nat → Int32)) (hf : f_X10_by  v0_15 i1_8 i1_10 i1_11 v1_3 v1_4 v1_9 i3_4 i4_0 i4_1 v4_2 x1 x2 = some res) : XI l D cs yX10_by wsX10_by rm_X10_by [.ref a0, .int x1, .int x2] sz (W_X10_by cs a0 p0 i0_13 i0_14 v0_15 p1 i1_0 i1_6 i1_8 i1_10 i1_11 i1_12 v1_1 v1_2 v1_3 v1_4 v1_5 v1_7 v1_9 p2 i2_2 p3 i3_3 i3_4 i3_5 i3_6 i3_7 v3_0 v3_1 v3_2 p4 i4_0 i4_1 v4_2) (W_X10_by cs a0 p0 i0_13 i0_14 res.2.2.1 p1 i1_0 i1_6 i1_8 i1_10 i1_11 i1_12 v1_1 v1_2 v1_3 v1_4 v1_5 v1_7 v1_9 p2 i2_2 p3 i3_3 i3_4 i3_5 i3_6 i3_7 v3_0 v3_1 v3_2 p4 res.2.2.2.1 res.2.2.2.2.1 res.2.2.2.2.2) res.1 res.2.1 2 12 := by
  rw [f_X10_by] at hf
  refine ow_enterT (cc := cX10_by) (nL := 3) (ret := (some .boolean)) hl0 (by decide) rfl (Nat.le_of_ble_eq_true rfl) (fun p e s m below meth c ls H locs C0 T0 hP hD hS hA hl => ?_)
  obtain ⟨hx, hb, hr, hlk, hml, hown, hts, hK, hG, hE⟩ := id C0
  have hl : lv_has ls 3 [(0, .ref a0), (1, .int x1), (2, .int x2)] := hl
  refine lv_aload_n hx hb dX10_by_0 rfl (lv_at hl 0 rfl) ?_
  refine lv_iload_n hx hb dX10_by_1 rfl (lv_at hl 1 rfl) ?_
  obtain ⟨q2, hq, hf⟩ := bd_some hf
  refine ow_tVV (As := [.int x1]) (rest := []) (wr := ow_pk (W_X10_by cs a0 p0 i0_13 i0_14 v0_15 p1 i1_0 i1_6 i1_8 i1_10 i1_11 i1_12 v1_1 v1_2 v1_3 v1_4 v1_5 v1_7 v1_9 p2 i2_2 p3 i3_3 i3_4 i3_5 i3_6 i3_7 v3_0 v3_1 v3_2 p4 i4_0 i4_1 v4_2) [10, 11, 12, 13, 14, 15, 16]) (wf := (W_X10_by cs a0 p0 i0_13 i0_14 q2.2 p1 i1_0 i1_6 i1_8 i1_10 i1_11 i1_12 v1_1 v1_2 v1_3 v1_4 v1_5 v1_7 v1_9 p2 i2_2 p3 i3_3 i3_4 i3_5 i3_6 i3_7 v3_0 v3_1 v3_2 p4 i4_0 i4_1 v4_2)) (k := q2.1) C0 T0 (c_X10_needOrders l D cs T0.1 H.size a0 p0 i0_13 i0_14 v0_15 p1 i1_0 i1_6 i1_8 i1_10 i1_11 i1_12 v1_1 v1_2 v1_3 v1_4 v1_5 v1_7 v1_9 x1 q2 hq) (cwV 1 hts gX10_by_X10_needOrders rfl rfl rfl (by decide +kernel) ⟨Nat.le_of_ble_eq_true rfl, Nat.le_of_ble_eq_true rfl⟩) 10 rfl rfl hP hD hS (fun q h => Or.inr h) [0, 1, 2, 3, 4, 5, 6, 7, 8, 9] [10, 11, 12, 13, 14, 15, 16] [7, 8, 9, 10, 11, 12, 13, 14, 15, 16, 0, 1, 2, 3, 4, 5, 6] rfl (by decide) rfl (by decide) (by decide) rfl (by decide) rfl hl.1 rfl (Nat.le_of_ble_eq_true rfl) ⟨(Nat.le_of_ble_eq_true rfl), (Nat.le_of_ble_eq_true rfl)⟩ dX10_by_2 (fun hz => ?_) (Nat.le_of_ble_eq_true rfl) (Nat.le_of_ble_eq_true rfl) (fun hz H locs hP hD hS => ?_)
  · replace hf := ow_f hz hf
    obtain rfl := Option.some.inj hf
    exact ⟨rfl, rfl⟩
  replace hf := ow_t hz hf
  refine lv_aload_n hx hb dX10_by_5 rfl (lv_at hl 0 rfl) ?_
  refine lv_iload_n hx hb dX10_by_6 rfl (lv_at hl 2 rfl) ?_
  refine lv_iconst (v := 1) hx hb dX10_by_7 (by decide) ?_
  refine lv_icmp_lt (tgt := 22) hx hb dX10_by_8 (by decide) (fun hc => ?_) (fun hc => ?_)
  · replace hf := ow_t hc hf
    refine W.widen (k := 1) (n := 6) (Nat.le_of_ble_eq_true rfl) (Nat.le_of_ble_eq_true rfl) ?_
    exact w_X10_by_b22 C0 T0 a0 p0 i0_13 i0_14 p1 i1_0 i1_6 i1_8 i1_10 i1_11 i1_12 v1_1 v1_2 v1_3 v1_4 v1_5 v1_7 v1_9 p2 i2_2 p3 i3_3 i3_4 i3_5 i3_6 i3_7 v3_0 v3_1 v3_2 p4 res q2.2 i4_0 i4_1 v4_2 x1 x2 hf _ _ _ hP hD hS (lv_sub hl [0, 1, 2] rfl)
  · replace hf := ow_f hc hf
    refine lv_iload_n hx hb dX10_by_11 rfl (lv_at hl 2 rfl) ?_
    refine lv_sipush (v := 999) hx hb dX10_by_12 (by decide) ?_
    refine lv_icmp_gt (tgt := 22) hx hb dX10_by_15 (by decide) (fun hc => ?_) (fun hc => ?_)
    · replace hf := ow_t hc hf
      refine W.widen (k := 1) (n := 6) (Nat.le_of_ble_eq_true rfl) (Nat.le_of_ble_eq_true rfl) ?_
      exact w_X10_by_b22 C0 T0 a0 p0 i0_13 i0_14 p1 i1_0 i1_6 i1_8 i1_10 i1_11 i1_12 v1_1 v1_2 v1_3 v1_4 v1_5 v1_7 v1_9 p2 i2_2 p3 i3_3 i3_4 i3_5 i3_6 i3_7 v3_0 v3_1 v3_2 p4 res q2.2 i4_0 i4_1 v4_2 x1 x2 hf _ _ _ hP hD hS (lv_sub hl [0, 1, 2] rfl)
    · replace hf := ow_f hc hf
      refine lv_iconst (v := 1) hx hb dX10_by_18 (by decide) ?_
      refine lv_goto (tgt := 23) hx hb dX10_by_19 (by decide) ?_
      refine W.widen (k := 1) (n := 6) (Nat.le_of_ble_eq_true rfl) (Nat.le_of_ble_eq_true rfl) ?_
      exact w_X10_by_b23 C0 T0 a0 p0 i0_13 i0_14 p1 i1_0 i1_6 i1_8 i1_10 i1_11 i1_12 v1_1 v1_2 v1_3 v1_4 v1_5 v1_7 v1_9 p2 i2_2 p3 i3_3 i3_4 i3_5 i3_6 i3_7 v3_0 v3_1 v3_2 p4 res q2.2 i4_0 i4_1 v4_2 x1 x2 (1) hf _ _ _ hP hD hS (lv_sub hl [0, 1, 2] rfl)
theorem in_X10_round_X10 : ∀ w ∈ u_ws RX10 TX10 16, w ∈ wsX10_round := by decide +kernel
theorem in_X10_round_X5 : ∀ w ∈ u_ws RX5 TX5 3, w ∈ wsX10_round := by decide +kernel
abbrev W_X10_round (cs : Nat → ClassId) (a0 : Nat) (p0 : Nat → Nat) (i0_13 : Int32) (i0_14 : Int32) (v0_15 : Nat → Int32) (p1 : Nat → Nat) (i1_0 : Int32) (i1_6 : Int32) (i1_8 : Int32) (i1_10 : Int32) (i1_11 : Int32) (i1_12 : Int32) (v1_1 : Nat → Int32) (v1_2 : Nat → Int32) (v1_3 : Nat → Int32) (v1_4 : Nat → Int32) (v1_5 : Nat → Int32) (v1_7 : Nat → Int32) (v1_9 : Nat → Int32) (p2 : Nat → Nat) (i2_0 : Int32) (i2_1 : Int32) (v2_2 : Nat → Int32) : va_W := wX10 cs a0 p0 i0_13 i0_14 v0_15 ++ wX6 cs (p0 1) p1 i1_0 i1_6 i1_8 i1_10 i1_11 i1_12 v1_1 v1_2 v1_3 v1_4 v1_5 v1_7 v1_9 ++ wX5 cs (p0 8) p2 i2_0 i2_1 v2_2
abbrev rm_X10_round : Room := { frames := 12, cells := 2, slots := 12, locals := 346 }
def f_X10_round  (v0_15 : Nat → Int32) (i1_8 : Int32) (i1_10 : Int32) (i1_11 : Int32) (v1_3 : Nat → Int32) (v1_4 : Nat → Int32) (v1_9 : Nat → Int32) (i2_0 : Int32) (i2_1 : Int32) (v2_2 : Nat → Int32) (x1 : Int32) (x2 : Int32) : Option (Nat × Int32 × (Nat → Int32) × Int32 × Int32 × (Nat → Int32)) := (f_X10_needOrders v0_15 i1_8 x1).bind fun q2 => if q2.1 = 0 then ((f_X10_needWhat q2.2 x2 (1)).bind fun q8 => if q8.1 = 0 then ((f_X5_walkFreely i2_0 i2_1 v2_2 i1_8 i1_10 i1_11 v1_3 v1_4 v1_9 x1).bind fun q20 => if x2 = 0 then (some (0, q20.1, q8.2, q20.1, q20.2.1, q20.2.2)) else (some (0, q20.2.1, q8.2, q20.1, q20.2.1, q20.2.2))) else (some (q8.1, 0, q8.2, i2_0, i2_1, v2_2))) else (some (q2.1, 0, q2.2, i2_0, i2_1, v2_2))
set_option maxHeartbeats 4000000 in
set_option maxRecDepth 100000 in
theorem c_X10_round (l : Launch) (D : va_G) (cs : Nat → ClassId) (hl0 : l.stackTraces = false)  (sz : Nat) (a0 : Nat) (p0 : Nat → Nat) (i0_13 : Int32) (i0_14 : Int32) (v0_15 : Nat → Int32) (p1 : Nat → Nat) (i1_0 : Int32) (i1_6 : Int32) (i1_8 : Int32) (i1_10 : Int32) (i1_11 : Int32) (i1_12 : Int32) (v1_1 : Nat → Int32) (v1_2 : Nat → Int32) (v1_3 : Nat → Int32) (v1_4 : Nat → Int32) (v1_5 : Nat → Int32) (v1_7 : Nat → Int32) (v1_9 : Nat → Int32) (p2 : Nat → Nat) (i2_0 : Int32) (i2_1 : Int32) (v2_2 : Nat → Int32) (x1 : Int32) (x2 : Int32) (res : Nat × Int32 × (Nat → Int32) × Int32 × Int32 × (Nat → Int32)) (hf : f_X10_round  v0_15 i1_8 i1_10 i1_11 v1_3 v1_4 v1_9 i2_0 i2_1 v2_2 x1 x2 = some res) : XI l D cs yX10_round wsX10_round rm_X10_round [.ref a0, .int x1, .int x2] sz (W_X10_round cs a0 p0 i0_13 i0_14 v0_15 p1 i1_0 i1_6 i1_8 i1_10 i1_11 i1_12 v1_1 v1_2 v1_3 v1_4 v1_5 v1_7 v1_9 p2 i2_0 i2_1 v2_2) (W_X10_round cs a0 p0 i0_13 i0_14 res.2.2.1 p1 i1_0 i1_6 i1_8 i1_10 i1_11 i1_12 v1_1 v1_2 v1_3 v1_4 v1_5 v1_7 v1_9 p2 res.2.2.2.1 res.2.2.2.2.1 res.2.2.2.2.2) res.1 res.2.1 2 12 := by
  rw [f_X10_round] at hf
  refine ow_enterT (cc := cX10_round) (nL := 3) (ret := (some .int)) hl0 (by decide) rfl (Nat.le_of_ble_eq_true rfl) (fun p e s m below meth c ls H locs C0 T0 hP hD hS hA hl => ?_)
  obtain ⟨hx, hb, hr, hlk, hml, hown, hts, hK, hG, hE⟩ := id C0
  have hl : lv_has ls 3 [(0, .ref a0), (1, .int x1), (2, .int x2)] := hl
  refine lv_aload_n hx hb dX10_round_0 rfl (lv_at hl 0 rfl) ?_
  refine lv_iload_n hx hb dX10_round_1 rfl (lv_at hl 1 rfl) ?_
  obtain ⟨q2, hq, hf⟩ := bd_some hf
  refine ow_tVV (As := [.int x1]) (rest := []) (wr := ow_pk (W_X10_round cs a0 p0 i0_13 i0_14 v0_15 p1 i1_0 i1_6 i1_8 i1_10 i1_11 i1_12 v1_1 v1_2 v1_3 v1_4 v1_5 v1_7 v1_9 p2 i2_0 i2_1 v2_2) [10, 11]) (wf := (W_X10_round cs a0 p0 i0_13 i0_14 q2.2 p1 i1_0 i1_6 i1_8 i1_10 i1_11 i1_12 v1_1 v1_2 v1_3 v1_4 v1_5 v1_7 v1_9 p2 i2_0 i2_1 v2_2)) (k := q2.1) C0 T0 (c_X10_needOrders l D cs T0.1 H.size a0 p0 i0_13 i0_14 v0_15 p1 i1_0 i1_6 i1_8 i1_10 i1_11 i1_12 v1_1 v1_2 v1_3 v1_4 v1_5 v1_7 v1_9 x1 q2 hq) (cwV 1 hts gX10_round_X10_needOrders rfl rfl rfl (by decide +kernel) ⟨Nat.le_of_ble_eq_true rfl, Nat.le_of_ble_eq_true rfl⟩) 10 rfl rfl hP hD hS (fun q h => Or.inr h) [0, 1, 2, 3, 4, 5, 6, 7, 8, 9] [10, 11] [2, 3, 4, 5, 6, 7, 8, 9, 10, 11, 0, 1] rfl (by decide) rfl (by decide) (by decide) rfl (by decide) rfl hl.1 rfl (Nat.le_of_ble_eq_true rfl) ⟨(Nat.le_of_ble_eq_true rfl), (Nat.le_of_ble_eq_true rfl)⟩ dX10_round_2 (fun hz => ?_) (Nat.le_of_ble_eq_true rfl) (Nat.le_of_ble_eq_true rfl) (fun hz H locs hP hD hS => ?_)
  · replace hf := ow_f hz hf
    obtain rfl := Option.some.inj hf
    exact ⟨rfl, rfl⟩
  replace hf := ow_t hz hf
  refine lv_aload_n hx hb dX10_round_5 rfl (lv_at hl 0 rfl) ?_
  refine lv_iload_n hx hb dX10_round_6 rfl (lv_at hl 2 rfl) ?_
  refine lv_iconst (v := 1) hx hb dX10_round_7 (by decide) ?_
  obtain ⟨q8, hq, hf⟩ := bd_some hf
  refine ow_tVV (As := [.int x2, .int 1]) (rest := []) (wr := ow_pk (W_X10_round cs a0 p0 i0_13 i0_14 q2.2 p1 i1_0 i1_6 i1_8 i1_10 i1_11 i1_12 v1_1 v1_2 v1_3 v1_4 v1_5 v1_7 v1_9 p2 i2_0 i2_1 v2_2) [2, 3, 4, 5, 6, 7, 8, 9, 10, 11]) (wf := (W_X10_round cs a0 p0 i0_13 i0_14 q8.2 p1 i1_0 i1_6 i1_8 i1_10 i1_11 i1_12 v1_1 v1_2 v1_3 v1_4 v1_5 v1_7 v1_9 p2 i2_0 i2_1 v2_2)) (k := q8.1) C0 T0 (c_X10_needWhat l D cs T0.1 H.size a0 p0 i0_13 i0_14 q2.2 x2 (1) q8 hq) (cwV 2 hts gX10_round_X10_needWhat rfl rfl rfl (by decide +kernel) ⟨Nat.le_of_ble_eq_true rfl, Nat.le_of_ble_eq_true rfl⟩) 10 rfl rfl hP hD hS (fun q h => Or.inr h) [0, 1] [2, 3, 4, 5, 6, 7, 8, 9, 10, 11] [10, 11, 0, 1, 2, 3, 4, 5, 6, 7, 8, 9] rfl (by decide) rfl (by decide) (by decide) rfl (by decide) rfl hl.1 rfl (Nat.le_of_ble_eq_true rfl) ⟨(Nat.le_of_ble_eq_true rfl), (Nat.le_of_ble_eq_true rfl)⟩ dX10_round_8 (fun hz => ?_) (Nat.le_of_ble_eq_true rfl) (Nat.le_of_ble_eq_true rfl) (fun hz H locs hP hD hS => ?_)
  · replace hf := ow_f hz hf
    obtain rfl := Option.some.inj hf
    exact ⟨rfl, rfl⟩
  replace hf := ow_t hz hf
  refine lv_aload_n hx hb dX10_round_11 rfl (lv_at hl 0 rfl) ?_
  refine va_get (D := D) (ci := 10) (v := .ref (p0 8)) (C := RX10) (T := TX10) (N := 16) hx hb hts in_X10_round_X10 hown hK hP 0 rfl rfl 8 (by decide) (hts (.fieldLink RX10 56 "PaneDays" "rounds" "LPaneDays$Rounds;") (List.mem_of_getElem? (i := 1) rfl)) (fun _ h9 => h9) rfl dX10_round_12 ?_
  refine lv_aload_n hx hb dX10_round_15 rfl (lv_at hl 0 rfl) ?_
  refine va_get (D := D) (ci := 10) (v := .ref (p0 1)) (C := RX10) (T := TX10) (N := 16) hx hb hts in_X10_round_X10 hown hK hP 0 rfl rfl 1 (by decide) (hts (.fieldLink RX10 19 "PaneDays" "street" "LPaneDays$Street;") (List.mem_of_getElem? (i := 2) rfl)) (fun _ h9 => h9) rfl dX10_round_16 ?_
  refine lv_iload_n hx hb dX10_round_19 rfl (lv_at hl 1 rfl) ?_
  obtain ⟨q20, hq, hf⟩ := bd_some hf
  refine ow_callVV (As := [.ref (p0 1), .int x1]) (rest := []) (wr := ow_pk (W_X10_round cs a0 p0 i0_13 i0_14 q8.2 p1 i1_0 i1_6 i1_8 i1_10 i1_11 i1_12 v1_1 v1_2 v1_3 v1_4 v1_5 v1_7 v1_9 p2 i2_0 i2_1 v2_2) [0, 1]) (wf := (W_X10_round cs a0 p0 i0_13 i0_14 q8.2 p1 i1_0 i1_6 i1_8 i1_10 i1_11 i1_12 v1_1 v1_2 v1_3 v1_4 v1_5 v1_7 v1_9 p2 q20.1 q20.2.1 q20.2.2)) C0 (c_X5_walkFreely l D cs H.size (p0 8) p2 i2_0 i2_1 v2_2 (p0 1) p1 i1_0 i1_6 i1_8 i1_10 i1_11 i1_12 v1_1 v1_2 v1_3 v1_4 v1_5 v1_7 v1_9 x1 q20 hq) (cwV 2 hts gX10_round_X5_walkFreely rfl rfl rfl (by decide +kernel) ⟨Nat.le_of_ble_eq_true rfl, Nat.le_of_ble_eq_true rfl⟩) 5 rfl rfl hP hD hS (fun q h => Or.inr h) [10, 11, 2, 3, 4, 5, 6, 7, 8, 9] [0, 1] [0, 1, 4, 5, 6, 7, 8, 9, 10, 11, 2, 3] rfl (by decide) rfl (by decide) (by decide) rfl (by decide) rfl hl.1 rfl (Nat.le_of_ble_eq_true rfl) ⟨(Nat.le_of_ble_eq_true rfl), (Nat.le_of_ble_eq_true rfl)⟩ dX10_round_20 (fun H locs hP hD hS => ?_)
  refine lv_iload_n hx hb dX10_round_23 rfl (lv_at hl 2 rfl) ?_
  refine lv_if_ne (tgt := 37) hx hb dX10_round_24 (by decide) (fun hc => ?_) (fun hc => ?_)
  · replace hf := ow_f hc hf
    refine lv_aload_n hx hb dX10_round_37 rfl (lv_at hl 0 rfl) ?_
    refine va_get (D := D) (ci := 10) (v := .ref (p0 8)) (C := RX10) (T := TX10) (N := 16) hx hb hts in_X10_round_X10 hown hK hP 0 rfl rfl 8 (by decide) (hts (.fieldLink RX10 56 "PaneDays" "rounds" "LPaneDays$Rounds;") (List.mem_of_getElem? (i := 1) rfl)) (fun _ h9 => h9) rfl dX10_round_38 ?_
    refine va_get (D := D) (ci := 5) (v := .int q20.2.1) (C := RX5) (T := TX5) (N := 3) hx hb hts in_X10_round_X5 hown hK hP 10 rfl rfl 1 (by decide) (hts (.fieldLink RX10 325 "PaneDays$Rounds" "bestRow" "I") (List.mem_of_getElem? (i := 4) rfl)) (fun _ h9 => h9) rfl dX10_round_41 ?_
    obtain rfl := Option.some.inj hf
    exact ow_tretI C0 rfl hP hD hS (Nat.le_of_ble_eq_true rfl) (Nat.le_of_ble_eq_true rfl) dX10_round_44
  · replace hf := ow_t hc hf
    refine lv_aload_n hx hb dX10_round_27 rfl (lv_at hl 0 rfl) ?_
    refine va_get (D := D) (ci := 10) (v := .ref (p0 8)) (C := RX10) (T := TX10) (N := 16) hx hb hts in_X10_round_X10 hown hK hP 0 rfl rfl 8 (by decide) (hts (.fieldLink RX10 56 "PaneDays" "rounds" "LPaneDays$Rounds;") (List.mem_of_getElem? (i := 1) rfl)) (fun _ h9 => h9) rfl dX10_round_28 ?_
    refine va_get (D := D) (ci := 5) (v := .int q20.1) (C := RX5) (T := TX5) (N := 3) hx hb hts in_X10_round_X5 hown hK hP 10 rfl rfl 0 (by decide) (hts (.fieldLink RX10 322 "PaneDays$Rounds" "fewest" "I") (List.mem_of_getElem? (i := 3) rfl)) (fun _ h9 => h9) rfl dX10_round_31 ?_
    refine lv_goto (tgt := 44) hx hb dX10_round_34 (by decide) ?_
    obtain rfl := Option.some.inj hf
    exact ow_tretI C0 rfl hP hD hS (Nat.le_of_ble_eq_true rfl) (Nat.le_of_ble_eq_true rfl) dX10_round_44
theorem in_X10_game_X10 : ∀ w ∈ u_ws RX10 TX10 16, w ∈ wsX10_game := by decide +kernel
theorem in_X10_game_X4 : ∀ w ∈ u_ws RX4 TX4 3, w ∈ wsX10_game := by decide +kernel
abbrev W_X10_game (cs : Nat → ClassId) (a0 : Nat) (p0 : Nat → Nat) (i0_13 : Int32) (i0_14 : Int32) (v0_15 : Nat → Int32) (p1 : Nat → Nat) (i1_0 : Int32) (i1_6 : Int32) (i1_8 : Int32) (i1_10 : Int32) (i1_11 : Int32) (i1_12 : Int32) (v1_1 : Nat → Int32) (v1_2 : Nat → Int32) (v1_3 : Nat → Int32) (v1_4 : Nat → Int32) (v1_5 : Nat → Int32) (v1_7 : Nat → Int32) (v1_9 : Nat → Int32) (p2 : Nat → Nat) (i2_2 : Int32) (p3 : Nat → Nat) (i3_0 : Int32) (i3_1 : Int32) (v3_2 : Nat → Int32) (v3_3 : Nat → Int32) (p4 : Nat → Nat) (i4_3 : Int32) (i4_4 : Int32) (i4_5 : Int32) (i4_6 : Int32) (i4_7 : Int32) (v4_0 : Nat → Int32) (v4_1 : Nat → Int32) (v4_2 : Nat → Int32) : va_W := wX10 cs a0 p0 i0_13 i0_14 v0_15 ++ wX6 cs (p0 1) p1 i1_0 i1_6 i1_8 i1_10 i1_11 i1_12 v1_1 v1_2 v1_3 v1_4 v1_5 v1_7 v1_9 ++ wX4 cs (p0 9) p2 i2_2 ++ wX1 cs (p0 7) p3 i3_0 i3_1 v3_2 v3_3 ++ wX2 cs (p2 0) p4 i4_3 i4_4 i4_5 i4_6 i4_7 v4_0 v4_1 v4_2
abbrev rm_X10_game : Room := { frames := 8, cells := 3, slots := 18, locals := 124 }
def f_X10_game_b22  (i1_0 : Int32) (v4_1 : Nat → Int32)  (v0_15 : Nat → Int32) (x1 : Int32) (x2 : Int32) (x3 : Int32) (t1 : Int32) : Option (Nat × Int32 × (Nat → Int32)) := (f_X10_need v0_15 t1).bind fun q22 => if q22.1 = 0 then ((f_X10_needWhat q22.2 x3 (1)).bind fun q28 => if q28.1 = 0 then ((f_X1_winningCells v4_1 x1 x2).bind fun q44 => if x3 = 1 then (some (0, q44, q28.2)) else (if q44 = 0 then (some (0, 0, q28.2)) else (some (0, 1, q28.2)))) else (some (q28.1, 0, q28.2))) else (some (q22.1, 0, q22.2))
set_option maxHeartbeats 4000000 in
set_option maxRecDepth 100000 in
theorem w_X10_game_b22 {p : Program} {l : Launch} {e : Env} {s : State} {m : MethodId} {below : List Frame} {meth : Method} {c : Code} {D : va_G} {cs : Nat → ClassId} {av : Array Value} {w0 : va_W} (C0 : Cx p s m meth c av wsX10_game cX10_game 5 (some .int) RX10 D cs w0) (T0 : CxT l s c)  (a0 : Nat) (p0 : Nat → Nat) (i0_13 : Int32) (i0_14 : Int32) (p1 : Nat → Nat) (i1_0 : Int32) (i1_6 : Int32) (i1_8 : Int32) (i1_10 : Int32) (i1_11 : Int32) (i1_12 : Int32) (v1_1 : Nat → Int32) (v1_2 : Nat → Int32) (v1_3 : Nat → Int32) (v1_4 : Nat → Int32) (v1_5 : Nat → Int32) (v1_7 : Nat → Int32) (v1_9 : Nat → Int32) (p2 : Nat → Nat) (i2_2 : Int32) (p3 : Nat → Nat) (i3_0 : Int32) (i3_1 : Int32) (v3_2 : Nat → Int32) (v3_3 : Nat → Int32) (p4 : Nat → Nat) (i4_3 : Int32) (i4_4 : Int32) (i4_5 : Int32) (i4_6 : Int32) (i4_7 : Int32) (v4_0 : Nat → Int32) (v4_1 : Nat → Int32) (v4_2 : Nat → Int32) (res : Nat × Int32 × (Nat → Int32))  : ∀ (v0_15 : Nat → Int32) (x1 : Int32) (x2 : Int32) (x3 : Int32) (t1 : Int32), f_X10_game_b22 i1_0 v4_1 v0_15 x1 x2 x3 t1 = some res → ∀ (H : Heap) (locs : List Loc) (ls : Array Slot), va_P D vwCl (W_X10_game cs a0 p0 i0_13 i0_14 v0_15 p1 i1_0 i1_6 i1_8 i1_10 i1_11 i1_12 v1_1 v1_2 v1_3 v1_4 v1_5 v1_7 v1_9 p2 i2_2 p3 i3_0 i3_1 v3_2 v3_3 p4 i4_3 i4_4 i4_5 i4_6 i4_7 v4_0 v4_1 v4_2) H → va_D (va_A w0 s.heap.size) (W_X10_game cs a0 p0 i0_13 i0_14 v0_15 p1 i1_0 i1_6 i1_8 i1_10 i1_11 i1_12 v1_1 v1_2 v1_3 v1_4 v1_5 v1_7 v1_9 p2 i2_2 p3 i3_0 i3_1 v3_2 v3_3 p4 i4_3 i4_4 i4_5 i4_6 i4_7 v4_0 v4_1 v4_2) → va_S (va_A w0 s.heap.size) s.heap H locs → lv_has ls 5 [(0, .ref a0), (1, .int x1), (2, .int x2), (3, .int x3)] → W p l e rm_X10_game s m av below meth c H locs 1 6 (vx_MQ below (xI D cs w0 (W_X10_game cs a0 p0 i0_13 i0_14 res.2.2 p1 i1_0 i1_6 i1_8 i1_10 i1_11 i1_12 v1_1 v1_2 v1_3 v1_4 v1_5 v1_7 v1_9 p2 i2_2 p3 i3_0 i3_1 v3_2 v3_3 p4 i4_3 i4_4 i4_5 i4_6 i4_7 v4_0 v4_1 v4_2) res.1 res.2.1 s.heap.size) (xX D cs w0 (W_X10_game cs a0 p0 i0_13 i0_14 res.2.2 p1 i1_0 i1_6 i1_8 i1_10 i1_11 i1_12 v1_1 v1_2 v1_3 v1_4 v1_5 v1_7 v1_9 p2 i2_2 p3 i3_0 i3_1 v3_2 v3_3 p4 i4_3 i4_4 i4_5 i4_6 i4_7 v4_0 v4_1 v4_2) res.1 s.heap.size) av s 3 18 (va_A w0 s.heap.size)) (F0 m 22 ls [.int t1, .ref a0]) := by
  obtain ⟨hx, hb, hr, hlk, hml, hown, hts, hK, hG, hE⟩ := id C0
  intro v0_15 x1 x2 x3 t1 hf H locs ls hP hD hS hl
  rw [f_X10_game_b22] at hf
  obtain ⟨q22, hq, hf⟩ := bd_some hf
  refine ow_tVV (As := [.int t1]) (rest := []) (wr := ow_pk (W_X10_game cs a0 p0 i0_13 i0_14 v0_15 p1 i1_0 i1_6 i1_8 i1_10 i1_11 i1_12 v1_1 v1_2 v1_3 v1_4 v1_5 v1_7 v1_9 p2 i2_2 p3 i3_0 i3_1 v3_2 v3_3 p4 i4_3 i4_4 i4_5 i4_6 i4_7 v4_0 v4_1 v4_2) [2, 3, 4, 5, 6, 7, 8, 9, 10, 11, 12, 13, 14, 15, 16, 17]) (wf := (W_X10_game cs a0 p0 i0_13 i0_14 q22.2 p1 i1_0 i1_6 i1_8 i1_10 i1_11 i1_12 v1_1 v1_2 v1_3 v1_4 v1_5 v1_7 v1_9 p2 i2_2 p3 i3_0 i3_1 v3_2 v3_3 p4 i4_3 i4_4 i4_5 i4_6 i4_7 v4_0 v4_1 v4_2)) (k := q22.1) C0 T0 (c_X10_need l D cs T0.1 H.size a0 p0 i0_13 i0_14 v0_15 t1 q22 hq) (cwV 1 hts gX10_game_X10_need rfl rfl rfl (by decide +kernel) ⟨Nat.le_of_ble_eq_true rfl, Nat.le_of_ble_eq_true rfl⟩) 10 rfl rfl hP hD hS (fun q h => Or.inr h) [0, 1] [2, 3, 4, 5, 6, 7, 8, 9, 10, 11, 12, 13, 14, 15, 16, 17] [16, 17, 0, 1, 2, 3, 4, 5, 6, 7, 8, 9, 10, 11, 12, 13, 14, 15] rfl (by decide) rfl (by decide) (by decide) rfl (by decide) rfl hl.1 rfl (Nat.le_of_ble_eq_true rfl) ⟨(Nat.le_of_ble_eq_true rfl), (Nat.le_of_ble_eq_true rfl)⟩ dX10_game_22 (fun hz => ?_) (Nat.le_of_ble_eq_true rfl) (Nat.le_of_ble_eq_true rfl) (fun hz H locs hP hD hS => ?_)
  · replace hf := ow_f hz hf
    obtain rfl := Option.some.inj hf
    exact ⟨rfl, rfl⟩
  replace hf := ow_t hz hf
  refine lv_aload_n hx hb dX10_game_25 rfl (lv_at hl 0 rfl) ?_
  refine lv_iload_n hx hb dX10_game_26 rfl (lv_at hl 3 rfl) ?_
  refine lv_iconst (v := 1) hx hb dX10_game_27 (by decide) ?_
  obtain ⟨q28, hq, hf⟩ := bd_some hf
  refine ow_tVV (As := [.int x3, .int 1]) (rest := []) (wr := ow_pk (W_X10_game cs a0 p0 i0_13 i0_14 q22.2 p1 i1_0 i1_6 i1_8 i1_10 i1_11 i1_12 v1_1 v1_2 v1_3 v1_4 v1_5 v1_7 v1_9 p2 i2_2 p3 i3_0 i3_1 v3_2 v3_3 p4 i4_3 i4_4 i4_5 i4_6 i4_7 v4_0 v4_1 v4_2) [2, 3, 4, 5, 6, 7, 8, 9, 10, 11, 12, 13, 14, 15, 16, 17]) (wf := (W_X10_game cs a0 p0 i0_13 i0_14 q28.2 p1 i1_0 i1_6 i1_8 i1_10 i1_11 i1_12 v1_1 v1_2 v1_3 v1_4 v1_5 v1_7 v1_9 p2 i2_2 p3 i3_0 i3_1 v3_2 v3_3 p4 i4_3 i4_4 i4_5 i4_6 i4_7 v4_0 v4_1 v4_2)) (k := q28.1) C0 T0 (c_X10_needWhat l D cs T0.1 H.size a0 p0 i0_13 i0_14 q22.2 x3 (1) q28 hq) (cwV 2 hts gX10_game_X10_needWhat rfl rfl rfl (by decide +kernel) ⟨Nat.le_of_ble_eq_true rfl, Nat.le_of_ble_eq_true rfl⟩) 10 rfl rfl hP hD hS (fun q h => Or.inr h) [0, 1] [2, 3, 4, 5, 6, 7, 8, 9, 10, 11, 12, 13, 14, 15, 16, 17] [16, 17, 0, 1, 2, 3, 4, 5, 6, 7, 8, 9, 10, 11, 12, 13, 14, 15] rfl (by decide) rfl (by decide) (by decide) rfl (by decide) rfl hl.1 rfl (Nat.le_of_ble_eq_true rfl) ⟨(Nat.le_of_ble_eq_true rfl), (Nat.le_of_ble_eq_true rfl)⟩ dX10_game_28 (fun hz => ?_) (Nat.le_of_ble_eq_true rfl) (Nat.le_of_ble_eq_true rfl) (fun hz H locs hP hD hS => ?_)
  · replace hf := ow_f hz hf
    obtain rfl := Option.some.inj hf
    exact ⟨rfl, rfl⟩
  replace hf := ow_t hz hf
  refine lv_aload_n hx hb dX10_game_31 rfl (lv_at hl 0 rfl) ?_
  refine va_get (D := D) (ci := 10) (v := .ref (p0 7)) (C := RX10) (T := TX10) (N := 16) hx hb hts in_X10_game_X10 hown hK hP 0 rfl rfl 7 (by decide) (hts (.fieldLink RX10 49 "PaneDays" "gaze" "LPaneDays$Gaze;") (List.mem_of_getElem? (i := 1) rfl)) (fun _ h9 => h9) rfl dX10_game_32 ?_
  refine lv_aload_n hx hb dX10_game_35 rfl (lv_at hl 0 rfl) ?_
  refine va_get (D := D) (ci := 10) (v := .ref (p0 9)) (C := RX10) (T := TX10) (N := 16) hx hb hts in_X10_game_X10 hown hK hP 0 rfl rfl 9 (by decide) (hts (.fieldLink RX10 63 "PaneDays" "past" "LPaneDays$Past;") (List.mem_of_getElem? (i := 2) rfl)) (fun _ h9 => h9) rfl dX10_game_36 ?_
  refine va_get (D := D) (ci := 4) (v := .ref (p2 0)) (C := RX4) (T := TX4) (N := 3) hx hb hts in_X10_game_X4 hown hK hP 10 rfl rfl 0 (by decide) (hts (.fieldLink RX10 76 "PaneDays$Past" "now" "LPaneDays$Glass;") (List.mem_of_getElem? (i := 3) rfl)) (fun _ h9 => h9) rfl dX10_game_39 ?_
  refine lv_iload_n hx hb dX10_game_42 rfl (lv_at hl 1 rfl) ?_
  refine lv_iload_n hx hb dX10_game_43 rfl (lv_at hl 2 rfl) ?_
  obtain ⟨q44, hq, hf⟩ := bd_some hf
  refine ow_callVI (As := [.ref (p2 0), .int x1, .int x2]) (rest := []) (wr := ow_pk (W_X10_game cs a0 p0 i0_13 i0_14 q28.2 p1 i1_0 i1_6 i1_8 i1_10 i1_11 i1_12 v1_1 v1_2 v1_3 v1_4 v1_5 v1_7 v1_9 p2 i2_2 p3 i3_0 i3_1 v3_2 v3_3 p4 i4_3 i4_4 i4_5 i4_6 i4_7 v4_0 v4_1 v4_2) [0, 1, 2, 3, 4, 5, 6, 7, 8, 9, 10]) (wf := (W_X10_game cs a0 p0 i0_13 i0_14 q28.2 p1 i1_0 i1_6 i1_8 i1_10 i1_11 i1_12 v1_1 v1_2 v1_3 v1_4 v1_5 v1_7 v1_9 p2 i2_2 p3 i3_0 i3_1 v3_2 v3_3 p4 i4_3 i4_4 i4_5 i4_6 i4_7 v4_0 v4_1 v4_2)) (r := q44) C0 (c_X1_winningCells l D cs H.size (p0 7) p3 i3_0 i3_1 v3_2 v3_3 (p2 0) p4 i4_3 i4_4 i4_5 i4_6 i4_7 v4_0 v4_1 v4_2 x1 x2 q44 hq) (cwV 3 hts gX10_game_X1_winningCells rfl rfl rfl (by decide +kernel) ⟨Nat.le_of_ble_eq_true rfl, Nat.le_of_ble_eq_true rfl⟩) 1 rfl rfl hP hD hS (fun q h => Or.inr h) [11, 12, 13, 14, 15, 16, 17] [0, 1, 2, 3, 4, 5, 6, 7, 8, 9, 10] [0, 1, 2, 3, 4, 5, 6, 7, 8, 9, 10, 11, 12, 13, 14, 15, 16, 17] rfl (by decide) rfl (by decide) (by decide) rfl (by decide) rfl hl.1 rfl (Nat.le_of_ble_eq_true rfl) ⟨(Nat.le_of_ble_eq_true rfl), (Nat.le_of_ble_eq_true rfl)⟩ dX10_game_44 (fun H locs hP hD hS => ?_)
  refine lv_istore (lv' := [(4, .int q44), (0, .ref a0), (1, .int x1), (2, .int x2), (3, .int x3)]) hx hb dX10_game_47 hl (by decide) rfl (fun ls hl => ?_)
  refine lv_iload_n hx hb dX10_game_49 rfl (lv_at hl 4 rfl) ?_
  refine lv_iconst (v := 1) hx hb dX10_game_50 (by decide) ?_
  refine lv_icmp_ne (tgt := 59) hx hb dX10_game_51 (by decide) (fun hc => ?_) (fun hc => ?_)
  · replace hf := ow_f hc hf
    refine lv_iload hx hb dX10_game_59 (lv_at hl 0 rfl) ?_
    refine lv_if_ne (tgt := 68) hx hb dX10_game_61 (by decide) (fun hc => ?_) (fun hc => ?_)
    · replace hf := ow_f hc hf
      refine lv_iconst (v := 1) hx hb dX10_game_68 (by decide) ?_
      obtain rfl := Option.some.inj hf
      exact ow_tretI C0 rfl hP hD hS (Nat.le_of_ble_eq_true rfl) (Nat.le_of_ble_eq_true rfl) dX10_game_69
    · replace hf := ow_t hc hf
      refine lv_iconst (v := 0) hx hb dX10_game_64 (by decide) ?_
      refine lv_goto (tgt := 69) hx hb dX10_game_65 (by decide) ?_
      obtain rfl := Option.some.inj hf
      exact ow_tretI C0 rfl hP hD hS (Nat.le_of_ble_eq_true rfl) (Nat.le_of_ble_eq_true rfl) dX10_game_69
  · replace hf := ow_t hc hf
    refine lv_iload hx hb dX10_game_54 (lv_at hl 0 rfl) ?_
    refine lv_goto (tgt := 69) hx hb dX10_game_56 (by decide) ?_
    obtain rfl := Option.some.inj hf
    exact ow_tretI C0 rfl hP hD hS (Nat.le_of_ble_eq_true rfl) (Nat.le_of_ble_eq_true rfl) dX10_game_69
def f_X10_game_b21  (i1_0 : Int32) (v4_1 : Nat → Int32)  (v0_15 : Nat → Int32) (x1 : Int32) (x2 : Int32) (x3 : Int32) : Option (Nat × Int32 × (Nat → Int32)) := f_X10_game_b22 i1_0 v4_1 v0_15 x1 x2 x3 (0)
set_option maxHeartbeats 4000000 in
set_option maxRecDepth 100000 in
theorem w_X10_game_b21 {p : Program} {l : Launch} {e : Env} {s : State} {m : MethodId} {below : List Frame} {meth : Method} {c : Code} {D : va_G} {cs : Nat → ClassId} {av : Array Value} {w0 : va_W} (C0 : Cx p s m meth c av wsX10_game cX10_game 5 (some .int) RX10 D cs w0) (T0 : CxT l s c)  (a0 : Nat) (p0 : Nat → Nat) (i0_13 : Int32) (i0_14 : Int32) (p1 : Nat → Nat) (i1_0 : Int32) (i1_6 : Int32) (i1_8 : Int32) (i1_10 : Int32) (i1_11 : Int32) (i1_12 : Int32) (v1_1 : Nat → Int32) (v1_2 : Nat → Int32) (v1_3 : Nat → Int32) (v1_4 : Nat → Int32) (v1_5 : Nat → Int32) (v1_7 : Nat → Int32) (v1_9 : Nat → Int32) (p2 : Nat → Nat) (i2_2 : Int32) (p3 : Nat → Nat) (i3_0 : Int32) (i3_1 : Int32) (v3_2 : Nat → Int32) (v3_3 : Nat → Int32) (p4 : Nat → Nat) (i4_3 : Int32) (i4_4 : Int32) (i4_5 : Int32) (i4_6 : Int32) (i4_7 : Int32) (v4_0 : Nat → Int32) (v4_1 : Nat → Int32) (v4_2 : Nat → Int32) (res : Nat × Int32 × (Nat → Int32))  : ∀ (v0_15 : Nat → Int32) (x1 : Int32) (x2 : Int32) (x3 : Int32), f_X10_game_b21 i1_0 v4_1 v0_15 x1 x2 x3 = some res → ∀ (H : Heap) (locs : List Loc) (ls : Array Slot), va_P D vwCl (W_X10_game cs a0 p0 i0_13 i0_14 v0_15 p1 i1_0 i1_6 i1_8 i1_10 i1_11 i1_12 v1_1 v1_2 v1_3 v1_4 v1_5 v1_7 v1_9 p2 i2_2 p3 i3_0 i3_1 v3_2 v3_3 p4 i4_3 i4_4 i4_5 i4_6 i4_7 v4_0 v4_1 v4_2) H → va_D (va_A w0 s.heap.size) (W_X10_game cs a0 p0 i0_13 i0_14 v0_15 p1 i1_0 i1_6 i1_8 i1_10 i1_11 i1_12 v1_1 v1_2 v1_3 v1_4 v1_5 v1_7 v1_9 p2 i2_2 p3 i3_0 i3_1 v3_2 v3_3 p4 i4_3 i4_4 i4_5 i4_6 i4_7 v4_0 v4_1 v4_2) → va_S (va_A w0 s.heap.size) s.heap H locs → lv_has ls 5 [(0, .ref a0), (1, .int x1), (2, .int x2), (3, .int x3)] → W p l e rm_X10_game s m av below meth c H locs 1 6 (vx_MQ below (xI D cs w0 (W_X10_game cs a0 p0 i0_13 i0_14 res.2.2 p1 i1_0 i1_6 i1_8 i1_10 i1_11 i1_12 v1_1 v1_2 v1_3 v1_4 v1_5 v1_7 v1_9 p2 i2_2 p3 i3_0 i3_1 v3_2 v3_3 p4 i4_3 i4_4 i4_5 i4_6 i4_7 v4_0 v4_1 v4_2) res.1 res.2.1 s.heap.size) (xX D cs w0 (W_X10_game cs a0 p0 i0_13 i0_14 res.2.2 p1 i1_0 i1_6 i1_8 i1_10 i1_11 i1_12 v1_1 v1_2 v1_3 v1_4 v1_5 v1_7 v1_9 p2 i2_2 p3 i3_0 i3_1 v3_2 v3_3 p4 i4_3 i4_4 i4_5 i4_6 i4_7 v4_0 v4_1 v4_2) res.1 s.heap.size) av s 3 18 (va_A w0 s.heap.size)) (F0 m 21 ls [.ref a0]) := by
  obtain ⟨hx, hb, hr, hlk, hml, hown, hts, hK, hG, hE⟩ := id C0
  intro v0_15 x1 x2 x3 hf H locs ls hP hD hS hl
  rw [f_X10_game_b21] at hf
  refine lv_iconst (v := 0) hx hb dX10_game_21 (by decide) ?_
  refine W.widen (k := 1) (n := 6) (Nat.le_of_ble_eq_true rfl) (Nat.le_of_ble_eq_true rfl) ?_
  exact w_X10_game_b22 C0 T0 a0 p0 i0_13 i0_14 p1 i1_0 i1_6 i1_8 i1_10 i1_11 i1_12 v1_1 v1_2 v1_3 v1_4 v1_5 v1_7 v1_9 p2 i2_2 p3 i3_0 i3_1 v3_2 v3_3 p4 i4_3 i4_4 i4_5 i4_6 i4_7 v4_0 v4_1 v4_2 res v0_15 x1 x2 x3 (0) hf _ _ _ hP hD hS (lv_sub hl [0, 1, 2, 3] rfl)
def f_X10_game  (v0_15 : Nat → Int32) (i1_0 : Int32) (v4_1 : Nat → Int32) (x1 : Int32) (x2 : Int32) (x3 : Int32) : Option (Nat × Int32 × (Nat → Int32)) := (f_X10_needPane v0_15 i1_0 x1).bind fun q2 => if q2.1 = 0 then (if x2 < 1 then (f_X10_game_b21 i1_0 v4_1 q2.2 x1 x2 x3) else (if 30 < x2 then (f_X10_game_b21 i1_0 v4_1 q2.2 x1 x2 x3) else (f_X10_game_b22 i1_0 v4_1 q2.2 x1 x2 x3 (1)))) else (some (q2.1, 0, q2.2))
set_option maxHeartbeats 4000000 in
set_option maxRecDepth 100000 in
theorem c_X10_game (l : Launch) (D : va_G) (cs : Nat → ClassId) (hl0 : l.stackTraces = false)  (sz : Nat) (a0 : Nat) (p0 : Nat → Nat) (i0_13 : Int32) (i0_14 : Int32) (v0_15 : Nat → Int32) (p1 : Nat → Nat) (i1_0 : Int32) (i1_6 : Int32) (i1_8 : Int32) (i1_10 : Int32) (i1_11 : Int32) (i1_12 : Int32) (v1_1 : Nat → Int32) (v1_2 : Nat → Int32) (v1_3 : Nat → Int32) (v1_4 : Nat → Int32) (v1_5 : Nat → Int32) (v1_7 : Nat → Int32) (v1_9 : Nat → Int32) (p2 : Nat → Nat) (i2_2 : Int32) (p3 : Nat → Nat) (i3_0 : Int32) (i3_1 : Int32) (v3_2 : Nat → Int32) (v3_3 : Nat → Int32) (p4 : Nat → Nat) (i4_3 : Int32) (i4_4 : Int32) (i4_5 : Int32) (i4_6 : Int32) (i4_7 : Int32) (v4_0 : Nat → Int32) (v4_1 : Nat → Int32) (v4_2 : Nat → Int32) (x1 : Int32) (x2 : Int32) (x3 : Int32) (res : Nat × Int32 × (Nat → Int32)) (hf : f_X10_game  v0_15 i1_0 v4_1 x1 x2 x3 = some res) : XI l D cs yX10_game wsX10_game rm_X10_game [.ref a0, .int x1, .int x2, .int x3] sz (W_X10_game cs a0 p0 i0_13 i0_14 v0_15 p1 i1_0 i1_6 i1_8 i1_10 i1_11 i1_12 v1_1 v1_2 v1_3 v1_4 v1_5 v1_7 v1_9 p2 i2_2 p3 i3_0 i3_1 v3_2 v3_3 p4 i4_3 i4_4 i4_5 i4_6 i4_7 v4_0 v4_1 v4_2) (W_X10_game cs a0 p0 i0_13 i0_14 res.2.2 p1 i1_0 i1_6 i1_8 i1_10 i1_11 i1_12 v1_1 v1_2 v1_3 v1_4 v1_5 v1_7 v1_9 p2 i2_2 p3 i3_0 i3_1 v3_2 v3_3 p4 i4_3 i4_4 i4_5 i4_6 i4_7 v4_0 v4_1 v4_2) res.1 res.2.1 3 18 := by
  rw [f_X10_game] at hf
  refine ow_enterT (cc := cX10_game) (nL := 5) (ret := (some .int)) hl0 (by decide) rfl (Nat.le_of_ble_eq_true rfl) (fun p e s m below meth c ls H locs C0 T0 hP hD hS hA hl => ?_)
  obtain ⟨hx, hb, hr, hlk, hml, hown, hts, hK, hG, hE⟩ := id C0
  have hl : lv_has ls 5 [(0, .ref a0), (1, .int x1), (2, .int x2), (3, .int x3)] := hl
  refine lv_aload_n hx hb dX10_game_0 rfl (lv_at hl 0 rfl) ?_
  refine lv_iload_n hx hb dX10_game_1 rfl (lv_at hl 1 rfl) ?_
  obtain ⟨q2, hq, hf⟩ := bd_some hf
  refine ow_tVV (As := [.int x1]) (rest := []) (wr := ow_pk (W_X10_game cs a0 p0 i0_13 i0_14 v0_15 p1 i1_0 i1_6 i1_8 i1_10 i1_11 i1_12 v1_1 v1_2 v1_3 v1_4 v1_5 v1_7 v1_9 p2 i2_2 p3 i3_0 i3_1 v3_2 v3_3 p4 i4_3 i4_4 i4_5 i4_6 i4_7 v4_0 v4_1 v4_2) [10, 11, 12, 13, 14, 15, 16, 17]) (wf := (W_X10_game cs a0 p0 i0_13 i0_14 q2.2 p1 i1_0 i1_6 i1_8 i1_10 i1_11 i1_12 v1_1 v1_2 v1_3 v1_4 v1_5 v1_7 v1_9 p2 i2_2 p3 i3_0 i3_1 v3_2 v3_3 p4 i4_3 i4_4 i4_5 i4_6 i4_7 v4_0 v4_1 v4_2)) (k := q2.1) C0 T0 (c_X10_needPane l D cs T0.1 H.size a0 p0 i0_13 i0_14 v0_15 p1 i1_0 i1_6 i1_8 i1_10 i1_11 i1_12 v1_1 v1_2 v1_3 v1_4 v1_5 v1_7 v1_9 x1 q2 hq) (cwV 1 hts gX10_game_X10_needPane rfl rfl rfl (by decide +kernel) ⟨Nat.le_of_ble_eq_true rfl, Nat.le_of_ble_eq_true rfl⟩) 10 rfl rfl hP hD hS (fun q h => Or.inr h) [0, 1, 2, 3, 4, 5, 6, 7, 8, 9] [10, 11, 12, 13, 14, 15, 16, 17] [8, 9, 10, 11, 12, 13, 14, 15, 16, 17, 0, 1, 2, 3, 4, 5, 6, 7] rfl (by decide) rfl (by decide) (by decide) rfl (by decide) rfl hl.1 rfl (Nat.le_of_ble_eq_true rfl) ⟨(Nat.le_of_ble_eq_true rfl), (Nat.le_of_ble_eq_true rfl)⟩ dX10_game_2 (fun hz => ?_) (Nat.le_of_ble_eq_true rfl) (Nat.le_of_ble_eq_true rfl) (fun hz H locs hP hD hS => ?_)
  · replace hf := ow_f hz hf
    obtain rfl := Option.some.inj hf
    exact ⟨rfl, rfl⟩
  replace hf := ow_t hz hf
  refine lv_aload_n hx hb dX10_game_5 rfl (lv_at hl 0 rfl) ?_
  refine lv_iload_n hx hb dX10_game_6 rfl (lv_at hl 2 rfl) ?_
  refine lv_iconst (v := 1) hx hb dX10_game_7 (by decide) ?_
  refine lv_icmp_lt (tgt := 21) hx hb dX10_game_8 (by decide) (fun hc => ?_) (fun hc => ?_)
  · replace hf := ow_t hc hf
    refine W.widen (k := 1) (n := 6) (Nat.le_of_ble_eq_true rfl) (Nat.le_of_ble_eq_true rfl) ?_
    exact w_X10_game_b21 C0 T0 a0 p0 i0_13 i0_14 p1 i1_0 i1_6 i1_8 i1_10 i1_11 i1_12 v1_1 v1_2 v1_3 v1_4 v1_5 v1_7 v1_9 p2 i2_2 p3 i3_0 i3_1 v3_2 v3_3 p4 i4_3 i4_4 i4_5 i4_6 i4_7 v4_0 v4_1 v4_2 res q2.2 x1 x2 x3 hf _ _ _ hP hD hS (lv_sub hl [0, 1, 2, 3] rfl)
  · replace hf := ow_f hc hf
    refine lv_iload_n hx hb dX10_game_11 rfl (lv_at hl 2 rfl) ?_
    refine lv_bipush (v := 30) hx hb dX10_game_12 (by decide) ?_
    refine lv_icmp_gt (tgt := 21) hx hb dX10_game_14 (by decide) (fun hc => ?_) (fun hc => ?_)
    · replace hf := ow_t hc hf
      refine W.widen (k := 1) (n := 6) (Nat.le_of_ble_eq_true rfl) (Nat.le_of_ble_eq_true rfl) ?_
      exact w_X10_game_b21 C0 T0 a0 p0 i0_13 i0_14 p1 i1_0 i1_6 i1_8 i1_10 i1_11 i1_12 v1_1 v1_2 v1_3 v1_4 v1_5 v1_7 v1_9 p2 i2_2 p3 i3_0 i3_1 v3_2 v3_3 p4 i4_3 i4_4 i4_5 i4_6 i4_7 v4_0 v4_1 v4_2 res q2.2 x1 x2 x3 hf _ _ _ hP hD hS (lv_sub hl [0, 1, 2, 3] rfl)
    · replace hf := ow_f hc hf
      refine lv_iconst (v := 1) hx hb dX10_game_17 (by decide) ?_
      refine lv_goto (tgt := 22) hx hb dX10_game_18 (by decide) ?_
      refine W.widen (k := 1) (n := 6) (Nat.le_of_ble_eq_true rfl) (Nat.le_of_ble_eq_true rfl) ?_
      exact w_X10_game_b22 C0 T0 a0 p0 i0_13 i0_14 p1 i1_0 i1_6 i1_8 i1_10 i1_11 i1_12 v1_1 v1_2 v1_3 v1_4 v1_5 v1_7 v1_9 p2 i2_2 p3 i3_0 i3_1 v3_2 v3_3 p4 i4_3 i4_4 i4_5 i4_6 i4_7 v4_0 v4_1 v4_2 res q2.2 x1 x2 x3 (1) hf _ _ _ hP hD hS (lv_sub hl [0, 1, 2, 3] rfl)
theorem in_X10_cover_X10 : ∀ w ∈ u_ws RX10 TX10 16, w ∈ wsX10_cover := by decide +kernel
theorem in_X10_cover_X6 : ∀ w ∈ u_ws RX6 TX6 13, w ∈ wsX10_cover := by decide +kernel
abbrev W_X10_cover (cs : Nat → ClassId) (a0 : Nat) (p0 : Nat → Nat) (i0_13 : Int32) (i0_14 : Int32) (v0_15 : Nat → Int32) (p1 : Nat → Nat) (i1_0 : Int32) (i1_6 : Int32) (i1_8 : Int32) (i1_10 : Int32) (i1_11 : Int32) (i1_12 : Int32) (v1_1 : Nat → Int32) (v1_2 : Nat → Int32) (v1_3 : Nat → Int32) (v1_4 : Nat → Int32) (v1_5 : Nat → Int32) (v1_7 : Nat → Int32) (v1_9 : Nat → Int32) (p2 : Nat → Nat) (i2_0 : Int32) (i2_1 : Int32) (v2_2 : Nat → Int32) (v2_3 : Nat → Int32) : va_W := wX10 cs a0 p0 i0_13 i0_14 v0_15 ++ wX6 cs (p0 1) p1 i1_0 i1_6 i1_8 i1_10 i1_11 i1_12 v1_1 v1_2 v1_3 v1_4 v1_5 v1_7 v1_9 ++ wX1 cs (p0 7) p2 i2_0 i2_1 v2_2 v2_3
abbrev rm_X10_cover : Room := { frames := 11, cells := 4, slots := 24, locals := 296 }
def f_X10_cover_b63  (i1_0 : Int32) (v1_5 : Nat → Int32)  (v0_15 : Nat → Int32) (v2_3 : Nat → Int32) (t1 : Int32) (t2 : Int32) (t3 : Int32) (t4 : Int32) : Option (Nat × Int32 × (Nat → Int32) × (Nat → Int32)) := (f_X1_fewestCircles v2_3 t1 t2 t3 t4).bind fun q63 => some (0, q63.1, v0_15, q63.2)
set_option maxHeartbeats 4000000 in
set_option maxRecDepth 100000 in
theorem w_X10_cover_b63 {p : Program} {l : Launch} {e : Env} {s : State} {m : MethodId} {below : List Frame} {meth : Method} {c : Code} {D : va_G} {cs : Nat → ClassId} {av : Array Value} {w0 : va_W} (C0 : Cx p s m meth c av wsX10_cover cX10_cover 5 (some .int) RX10 D cs w0) (T0 : CxT l s c)  (a0 : Nat) (p0 : Nat → Nat) (i0_13 : Int32) (i0_14 : Int32) (p1 : Nat → Nat) (i1_0 : Int32) (i1_6 : Int32) (i1_8 : Int32) (i1_10 : Int32) (i1_11 : Int32) (i1_12 : Int32) (v1_1 : Nat → Int32) (v1_2 : Nat → Int32) (v1_3 : Nat → Int32) (v1_4 : Nat → Int32) (v1_5 : Nat → Int32) (v1_7 : Nat → Int32) (v1_9 : Nat → Int32) (p2 : Nat → Nat) (i2_0 : Int32) (i2_1 : Int32) (v2_2 : Nat → Int32) (res : Nat × Int32 × (Nat → Int32) × (Nat → Int32))  : ∀ (v0_15 : Nat → Int32) (v2_3 : Nat → Int32) (t1 : Int32) (t2 : Int32) (t3 : Int32) (t4 : Int32), f_X10_cover_b63 i1_0 v1_5 v0_15 v2_3 t1 t2 t3 t4 = some res → ∀ (H : Heap) (locs : List Loc) (ls : Array Slot), va_P D vwCl (W_X10_cover cs a0 p0 i0_13 i0_14 v0_15 p1 i1_0 i1_6 i1_8 i1_10 i1_11 i1_12 v1_1 v1_2 v1_3 v1_4 v1_5 v1_7 v1_9 p2 i2_0 i2_1 v2_2 v2_3) H → va_D (va_A w0 s.heap.size) (W_X10_cover cs a0 p0 i0_13 i0_14 v0_15 p1 i1_0 i1_6 i1_8 i1_10 i1_11 i1_12 v1_1 v1_2 v1_3 v1_4 v1_5 v1_7 v1_9 p2 i2_0 i2_1 v2_2 v2_3) → va_S (va_A w0 s.heap.size) s.heap H locs → lv_has ls 5 [] → W p l e rm_X10_cover s m av below meth c H locs 4 24 (vx_MQ below (xI D cs w0 (W_X10_cover cs a0 p0 i0_13 i0_14 res.2.2.1 p1 i1_0 i1_6 i1_8 i1_10 i1_11 i1_12 v1_1 v1_2 v1_3 v1_4 v1_5 v1_7 v1_9 p2 i2_0 i2_1 v2_2 res.2.2.2) res.1 res.2.1 s.heap.size) (xX D cs w0 (W_X10_cover cs a0 p0 i0_13 i0_14 res.2.2.1 p1 i1_0 i1_6 i1_8 i1_10 i1_11 i1_12 v1_1 v1_2 v1_3 v1_4 v1_5 v1_7 v1_9 p2 i2_0 i2_1 v2_2 res.2.2.2) res.1 s.heap.size) av s 4 24 (va_A w0 s.heap.size)) (F0 m 63 ls [.int t4, .int t3, .int t2, .int t1, .ref (p0 7)]) := by
  obtain ⟨hx, hb, hr, hlk, hml, hown, hts, hK, hG, hE⟩ := id C0
  intro v0_15 v2_3 t1 t2 t3 t4 hf H locs ls hP hD hS hl
  rw [f_X10_cover_b63] at hf
  obtain ⟨q63, hq, hf⟩ := bd_some hf
  refine ow_callVI (As := [.int t1, .int t2, .int t3, .int t4]) (rest := []) (wr := ow_pk (W_X10_cover cs a0 p0 i0_13 i0_14 v0_15 p1 i1_0 i1_6 i1_8 i1_10 i1_11 i1_12 v1_1 v1_2 v1_3 v1_4 v1_5 v1_7 v1_9 p2 i2_0 i2_1 v2_2 v2_3) [0, 1, 2, 3, 4, 5, 6, 7, 8, 9]) (wf := (W_X10_cover cs a0 p0 i0_13 i0_14 v0_15 p1 i1_0 i1_6 i1_8 i1_10 i1_11 i1_12 v1_1 v1_2 v1_3 v1_4 v1_5 v1_7 v1_9 p2 i2_0 i2_1 v2_2 q63.2)) (r := q63.1) C0 (c_X1_fewestCircles l D cs H.size (p0 7) p2 i2_0 i2_1 v2_2 v2_3 t1 t2 t3 t4 q63 hq) (cwV 4 hts gX10_cover_X1_fewestCircles rfl rfl rfl (by decide +kernel) ⟨Nat.le_of_ble_eq_true rfl, Nat.le_of_ble_eq_true rfl⟩) 1 rfl rfl hP hD hS (fun q h => Or.inr h) [10, 11, 12] [0, 1, 2, 3, 4, 5, 6, 7, 8, 9] [0, 1, 2, 3, 4, 5, 6, 7, 8, 9, 10, 11, 12] rfl (by decide) rfl (by decide) (by decide) rfl (by decide) rfl hl.1 rfl (Nat.le_of_ble_eq_true rfl) ⟨(Nat.le_of_ble_eq_true rfl), (Nat.le_of_ble_eq_true rfl)⟩ dX10_cover_63 (fun H locs hP hD hS => ?_)
  obtain rfl := Option.some.inj hf
  exact ow_tretI C0 rfl hP hD hS (Nat.le_of_ble_eq_true rfl) (Nat.le_of_ble_eq_true rfl) dX10_cover_66
def f_X10_cover_b27  (i1_0 : Int32) (v1_5 : Nat → Int32)  (v0_15 : Nat → Int32) (v2_3 : Nat → Int32) (x1 : Int32) (x2 : Int32) (x3 : Int32) (x4 : Int32) (t1 : Int32) : Option (Nat × Int32 × (Nat → Int32) × (Nat → Int32)) := (f_X10_need v0_15 t1).bind fun q27 => if q27.1 = 0 then ((f_X10_needWhat q27.2 x4 (1)).bind fun q34 => if q34.1 = 0 then (ck x1 5 (if x4 = 1 then (f_X10_cover_b63 i1_0 v1_5 q34.2 v2_3 (v1_5 (x1).toNatClampNeg) x2 x3 (1)) else (f_X10_cover_b63 i1_0 v1_5 q34.2 v2_3 (v1_5 (x1).toNatClampNeg) x2 x3 (0)))) else (some (q34.1, 0, q34.2, v2_3))) else (some (q27.1, 0, q27.2, v2_3))
set_option maxHeartbeats 4000000 in
set_option maxRecDepth 100000 in
theorem w_X10_cover_b27 {p : Program} {l : Launch} {e : Env} {s : State} {m : MethodId} {below : List Frame} {meth : Method} {c : Code} {D : va_G} {cs : Nat → ClassId} {av : Array Value} {w0 : va_W} (C0 : Cx p s m meth c av wsX10_cover cX10_cover 5 (some .int) RX10 D cs w0) (T0 : CxT l s c)  (a0 : Nat) (p0 : Nat → Nat) (i0_13 : Int32) (i0_14 : Int32) (p1 : Nat → Nat) (i1_0 : Int32) (i1_6 : Int32) (i1_8 : Int32) (i1_10 : Int32) (i1_11 : Int32) (i1_12 : Int32) (v1_1 : Nat → Int32) (v1_2 : Nat → Int32) (v1_3 : Nat → Int32) (v1_4 : Nat → Int32) (v1_5 : Nat → Int32) (v1_7 : Nat → Int32) (v1_9 : Nat → Int32) (p2 : Nat → Nat) (i2_0 : Int32) (i2_1 : Int32) (v2_2 : Nat → Int32) (res : Nat × Int32 × (Nat → Int32) × (Nat → Int32))  : ∀ (v0_15 : Nat → Int32) (v2_3 : Nat → Int32) (x1 : Int32) (x2 : Int32) (x3 : Int32) (x4 : Int32) (t1 : Int32), f_X10_cover_b27 i1_0 v1_5 v0_15 v2_3 x1 x2 x3 x4 t1 = some res → ∀ (H : Heap) (locs : List Loc) (ls : Array Slot), va_P D vwCl (W_X10_cover cs a0 p0 i0_13 i0_14 v0_15 p1 i1_0 i1_6 i1_8 i1_10 i1_11 i1_12 v1_1 v1_2 v1_3 v1_4 v1_5 v1_7 v1_9 p2 i2_0 i2_1 v2_2 v2_3) H → va_D (va_A w0 s.heap.size) (W_X10_cover cs a0 p0 i0_13 i0_14 v0_15 p1 i1_0 i1_6 i1_8 i1_10 i1_11 i1_12 v1_1 v1_2 v1_3 v1_4 v1_5 v1_7 v1_9 p2 i2_0 i2_1 v2_2 v2_3) → va_S (va_A w0 s.heap.size) s.heap H locs → lv_has ls 5 [(0, .ref a0), (1, .int x1), (2, .int x2), (3, .int x3), (4, .int x4)] → W p l e rm_X10_cover s m av below meth c H locs 2 12 (vx_MQ below (xI D cs w0 (W_X10_cover cs a0 p0 i0_13 i0_14 res.2.2.1 p1 i1_0 i1_6 i1_8 i1_10 i1_11 i1_12 v1_1 v1_2 v1_3 v1_4 v1_5 v1_7 v1_9 p2 i2_0 i2_1 v2_2 res.2.2.2) res.1 res.2.1 s.heap.size) (xX D cs w0 (W_X10_cover cs a0 p0 i0_13 i0_14 res.2.2.1 p1 i1_0 i1_6 i1_8 i1_10 i1_11 i1_12 v1_1 v1_2 v1_3 v1_4 v1_5 v1_7 v1_9 p2 i2_0 i2_1 v2_2 res.2.2.2) res.1 s.heap.size) av s 4 24 (va_A w0 s.heap.size)) (F0 m 27 ls [.int t1, .ref a0]) := by
  obtain ⟨hx, hb, hr, hlk, hml, hown, hts, hK, hG, hE⟩ := id C0
  intro v0_15 v2_3 x1 x2 x3 x4 t1 hf H locs ls hP hD hS hl
  rw [f_X10_cover_b27] at hf
  obtain ⟨q27, hq, hf⟩ := bd_some hf
  refine ow_tVV (As := [.int t1]) (rest := []) (wr := ow_pk (W_X10_cover cs a0 p0 i0_13 i0_14 v0_15 p1 i1_0 i1_6 i1_8 i1_10 i1_11 i1_12 v1_1 v1_2 v1_3 v1_4 v1_5 v1_7 v1_9 p2 i2_0 i2_1 v2_2 v2_3) [2, 3, 4, 5, 6, 7, 8, 9, 10, 11, 12]) (wf := (W_X10_cover cs a0 p0 i0_13 i0_14 q27.2 p1 i1_0 i1_6 i1_8 i1_10 i1_11 i1_12 v1_1 v1_2 v1_3 v1_4 v1_5 v1_7 v1_9 p2 i2_0 i2_1 v2_2 v2_3)) (k := q27.1) C0 T0 (c_X10_need l D cs T0.1 H.size a0 p0 i0_13 i0_14 v0_15 t1 q27 hq) (cwV 1 hts gX10_cover_X10_need rfl rfl rfl (by decide +kernel) ⟨Nat.le_of_ble_eq_true rfl, Nat.le_of_ble_eq_true rfl⟩) 10 rfl rfl hP hD hS (fun q h => Or.inr h) [0, 1] [2, 3, 4, 5, 6, 7, 8, 9, 10, 11, 12] [11, 12, 0, 1, 2, 3, 4, 5, 6, 7, 8, 9, 10] rfl (by decide) rfl (by decide) (by decide) rfl (by decide) rfl hl.1 rfl (Nat.le_of_ble_eq_true rfl) ⟨(Nat.le_of_ble_eq_true rfl), (Nat.le_of_ble_eq_true rfl)⟩ dX10_cover_27 (fun hz => ?_) (Nat.le_of_ble_eq_true rfl) (Nat.le_of_ble_eq_true rfl) (fun hz H locs hP hD hS => ?_)
  · replace hf := ow_f hz hf
    obtain rfl := Option.some.inj hf
    exact ⟨rfl, rfl⟩
  replace hf := ow_t hz hf
  refine lv_aload_n hx hb dX10_cover_30 rfl (lv_at hl 0 rfl) ?_
  refine lv_iload hx hb dX10_cover_31 (lv_at hl 4 rfl) ?_
  refine lv_iconst (v := 1) hx hb dX10_cover_33 (by decide) ?_
  obtain ⟨q34, hq, hf⟩ := bd_some hf
  refine ow_tVV (As := [.int x4, .int 1]) (rest := []) (wr := ow_pk (W_X10_cover cs a0 p0 i0_13 i0_14 q27.2 p1 i1_0 i1_6 i1_8 i1_10 i1_11 i1_12 v1_1 v1_2 v1_3 v1_4 v1_5 v1_7 v1_9 p2 i2_0 i2_1 v2_2 v2_3) [2, 3, 4, 5, 6, 7, 8, 9, 10, 11, 12]) (wf := (W_X10_cover cs a0 p0 i0_13 i0_14 q34.2 p1 i1_0 i1_6 i1_8 i1_10 i1_11 i1_12 v1_1 v1_2 v1_3 v1_4 v1_5 v1_7 v1_9 p2 i2_0 i2_1 v2_2 v2_3)) (k := q34.1) C0 T0 (c_X10_needWhat l D cs T0.1 H.size a0 p0 i0_13 i0_14 q27.2 x4 (1) q34 hq) (cwV 2 hts gX10_cover_X10_needWhat rfl rfl rfl (by decide +kernel) ⟨Nat.le_of_ble_eq_true rfl, Nat.le_of_ble_eq_true rfl⟩) 10 rfl rfl hP hD hS (fun q h => Or.inr h) [0, 1] [2, 3, 4, 5, 6, 7, 8, 9, 10, 11, 12] [11, 12, 0, 1, 2, 3, 4, 5, 6, 7, 8, 9, 10] rfl (by decide) rfl (by decide) (by decide) rfl (by decide) rfl hl.1 rfl (Nat.le_of_ble_eq_true rfl) ⟨(Nat.le_of_ble_eq_true rfl), (Nat.le_of_ble_eq_true rfl)⟩ dX10_cover_34 (fun hz => ?_) (Nat.le_of_ble_eq_true rfl) (Nat.le_of_ble_eq_true rfl) (fun hz H locs hP hD hS => ?_)
  · replace hf := ow_f hz hf
    obtain rfl := Option.some.inj hf
    exact ⟨rfl, rfl⟩
  replace hf := ow_t hz hf
  refine lv_aload_n hx hb dX10_cover_37 rfl (lv_at hl 0 rfl) ?_
  refine va_get (D := D) (ci := 10) (v := .ref (p0 7)) (C := RX10) (T := TX10) (N := 16) hx hb hts in_X10_cover_X10 hown hK hP 0 rfl rfl 7 (by decide) (hts (.fieldLink RX10 49 "PaneDays" "gaze" "LPaneDays$Gaze;") (List.mem_of_getElem? (i := 1) rfl)) (fun _ h9 => h9) rfl dX10_cover_38 ?_
  refine lv_aload_n hx hb dX10_cover_41 rfl (lv_at hl 0 rfl) ?_
  refine va_get (D := D) (ci := 10) (v := .ref (p0 1)) (C := RX10) (T := TX10) (N := 16) hx hb hts in_X10_cover_X10 hown hK hP 0 rfl rfl 1 (by decide) (hts (.fieldLink RX10 19 "PaneDays" "street" "LPaneDays$Street;") (List.mem_of_getElem? (i := 2) rfl)) (fun _ h9 => h9) rfl dX10_cover_42 ?_
  refine va_get (D := D) (ci := 6) (v := .ref (p1 5)) (C := RX6) (T := TX6) (N := 13) hx hb hts in_X10_cover_X6 hown hK hP 2 rfl rfl 5 (by decide) (hts (.fieldLink RX10 237 "PaneDays$Street" "cells" "[I") (List.mem_of_getElem? (i := 3) rfl)) (fun _ h9 => h9) rfl dX10_cover_45 ?_
  refine lv_iload_n hx hb dX10_cover_48 rfl (lv_at hl 1 rfl) ?_
  obtain ⟨hin, hf⟩ := ck_some hf
  refine va_iald (f := v1_5) hx hb hK hP 7 0 rfl rfl hin dX10_cover_49 ?_
  refine lv_iload_n hx hb dX10_cover_50 rfl (lv_at hl 2 rfl) ?_
  refine lv_iload_n hx hb dX10_cover_51 rfl (lv_at hl 3 rfl) ?_
  refine lv_iload hx hb dX10_cover_52 (lv_at hl 4 rfl) ?_
  refine lv_iconst (v := 1) hx hb dX10_cover_54 (by decide) ?_
  refine lv_icmp_ne (tgt := 62) hx hb dX10_cover_55 (by decide) (fun hc => ?_) (fun hc => ?_)
  · replace hf := ow_f hc hf
    refine lv_iconst (v := 0) hx hb dX10_cover_62 (by decide) ?_
    refine W.widen (k := 4) (n := 24) (Nat.le_of_ble_eq_true rfl) (Nat.le_of_ble_eq_true rfl) ?_
    exact w_X10_cover_b63 C0 T0 a0 p0 i0_13 i0_14 p1 i1_0 i1_6 i1_8 i1_10 i1_11 i1_12 v1_1 v1_2 v1_3 v1_4 v1_5 v1_7 v1_9 p2 i2_0 i2_1 v2_2 res q34.2 v2_3 (v1_5 (x1).toNatClampNeg) x2 x3 (0) hf _ _ _ hP hD hS (lv_sub hl [] rfl)
  · replace hf := ow_t hc hf
    refine lv_iconst (v := 1) hx hb dX10_cover_58 (by decide) ?_
    refine lv_goto (tgt := 63) hx hb dX10_cover_59 (by decide) ?_
    refine W.widen (k := 4) (n := 24) (Nat.le_of_ble_eq_true rfl) (Nat.le_of_ble_eq_true rfl) ?_
    exact w_X10_cover_b63 C0 T0 a0 p0 i0_13 i0_14 p1 i1_0 i1_6 i1_8 i1_10 i1_11 i1_12 v1_1 v1_2 v1_3 v1_4 v1_5 v1_7 v1_9 p2 i2_0 i2_1 v2_2 res q34.2 v2_3 (v1_5 (x1).toNatClampNeg) x2 x3 (1) hf _ _ _ hP hD hS (lv_sub hl [] rfl)
def f_X10_cover_b26  (i1_0 : Int32) (v1_5 : Nat → Int32)  (v0_15 : Nat → Int32) (v2_3 : Nat → Int32) (x1 : Int32) (x2 : Int32) (x3 : Int32) (x4 : Int32) : Option (Nat × Int32 × (Nat → Int32) × (Nat → Int32)) := f_X10_cover_b27 i1_0 v1_5 v0_15 v2_3 x1 x2 x3 x4 (0)
set_option maxHeartbeats 4000000 in
set_option maxRecDepth 100000 in
theorem w_X10_cover_b26 {p : Program} {l : Launch} {e : Env} {s : State} {m : MethodId} {below : List Frame} {meth : Method} {c : Code} {D : va_G} {cs : Nat → ClassId} {av : Array Value} {w0 : va_W} (C0 : Cx p s m meth c av wsX10_cover cX10_cover 5 (some .int) RX10 D cs w0) (T0 : CxT l s c)  (a0 : Nat) (p0 : Nat → Nat) (i0_13 : Int32) (i0_14 : Int32) (p1 : Nat → Nat) (i1_0 : Int32) (i1_6 : Int32) (i1_8 : Int32) (i1_10 : Int32) (i1_11 : Int32) (i1_12 : Int32) (v1_1 : Nat → Int32) (v1_2 : Nat → Int32) (v1_3 : Nat → Int32) (v1_4 : Nat → Int32) (v1_5 : Nat → Int32) (v1_7 : Nat → Int32) (v1_9 : Nat → Int32) (p2 : Nat → Nat) (i2_0 : Int32) (i2_1 : Int32) (v2_2 : Nat → Int32) (res : Nat × Int32 × (Nat → Int32) × (Nat → Int32))  : ∀ (v0_15 : Nat → Int32) (v2_3 : Nat → Int32) (x1 : Int32) (x2 : Int32) (x3 : Int32) (x4 : Int32), f_X10_cover_b26 i1_0 v1_5 v0_15 v2_3 x1 x2 x3 x4 = some res → ∀ (H : Heap) (locs : List Loc) (ls : Array Slot), va_P D vwCl (W_X10_cover cs a0 p0 i0_13 i0_14 v0_15 p1 i1_0 i1_6 i1_8 i1_10 i1_11 i1_12 v1_1 v1_2 v1_3 v1_4 v1_5 v1_7 v1_9 p2 i2_0 i2_1 v2_2 v2_3) H → va_D (va_A w0 s.heap.size) (W_X10_cover cs a0 p0 i0_13 i0_14 v0_15 p1 i1_0 i1_6 i1_8 i1_10 i1_11 i1_12 v1_1 v1_2 v1_3 v1_4 v1_5 v1_7 v1_9 p2 i2_0 i2_1 v2_2 v2_3) → va_S (va_A w0 s.heap.size) s.heap H locs → lv_has ls 5 [(0, .ref a0), (1, .int x1), (2, .int x2), (3, .int x3), (4, .int x4)] → W p l e rm_X10_cover s m av below meth c H locs 2 12 (vx_MQ below (xI D cs w0 (W_X10_cover cs a0 p0 i0_13 i0_14 res.2.2.1 p1 i1_0 i1_6 i1_8 i1_10 i1_11 i1_12 v1_1 v1_2 v1_3 v1_4 v1_5 v1_7 v1_9 p2 i2_0 i2_1 v2_2 res.2.2.2) res.1 res.2.1 s.heap.size) (xX D cs w0 (W_X10_cover cs a0 p0 i0_13 i0_14 res.2.2.1 p1 i1_0 i1_6 i1_8 i1_10 i1_11 i1_12 v1_1 v1_2 v1_3 v1_4 v1_5 v1_7 v1_9 p2 i2_0 i2_1 v2_2 res.2.2.2) res.1 s.heap.size) av s 4 24 (va_A w0 s.heap.size)) (F0 m 26 ls [.ref a0]) := by
  obtain ⟨hx, hb, hr, hlk, hml, hown, hts, hK, hG, hE⟩ := id C0
  intro v0_15 v2_3 x1 x2 x3 x4 hf H locs ls hP hD hS hl
  rw [f_X10_cover_b26] at hf
  refine lv_iconst (v := 0) hx hb dX10_cover_26 (by decide) ?_
  refine W.widen (k := 2) (n := 12) (Nat.le_of_ble_eq_true rfl) (Nat.le_of_ble_eq_true rfl) ?_
  exact w_X10_cover_b27 C0 T0 a0 p0 i0_13 i0_14 p1 i1_0 i1_6 i1_8 i1_10 i1_11 i1_12 v1_1 v1_2 v1_3 v1_4 v1_5 v1_7 v1_9 p2 i2_0 i2_1 v2_2 res v0_15 v2_3 x1 x2 x3 x4 (0) hf _ _ _ hP hD hS (lv_sub hl [0, 1, 2, 3, 4] rfl)
def f_X10_cover  (v0_15 : Nat → Int32) (i1_0 : Int32) (v1_5 : Nat → Int32) (v2_3 : Nat → Int32) (x1 : Int32) (x2 : Int32) (x3 : Int32) (x4 : Int32) : Option (Nat × Int32 × (Nat → Int32) × (Nat → Int32)) := (f_X10_needPane v0_15 i1_0 x1).bind fun q2 => if q2.1 = 0 then ((f_X10_needCells q2.2 v1_5 x1 x2).bind fun q8 => if q8.1 = 0 then (if x3 < 0 then (f_X10_cover_b26 i1_0 v1_5 q8.2 v2_3 x1 x2 x3 x4) else (if 6 < x3 then (f_X10_cover_b26 i1_0 v1_5 q8.2 v2_3 x1 x2 x3 x4) else (f_X10_cover_b27 i1_0 v1_5 q8.2 v2_3 x1 x2 x3 x4 (1)))) else (some (q8.1, 0, q8.2, v2_3))) else (some (q2.1, 0, q2.2, v2_3))
set_option maxHeartbeats 4000000 in
set_option maxRecDepth 100000 in
theorem c_X10_cover (l : Launch) (D : va_G) (cs : Nat → ClassId) (hl0 : l.stackTraces = false)  (sz : Nat) (a0 : Nat) (p0 : Nat → Nat) (i0_13 : Int32) (i0_14 : Int32) (v0_15 : Nat → Int32) (p1 : Nat → Nat) (i1_0 : Int32) (i1_6 : Int32) (i1_8 : Int32) (i1_10 : Int32) (i1_11 : Int32) (i1_12 : Int32) (v1_1 : Nat → Int32) (v1_2 : Nat → Int32) (v1_3 : Nat → Int32) (v1_4 : Nat → Int32) (v1_5 : Nat → Int32) (v1_7 : Nat → Int32) (v1_9 : Nat → Int32) (p2 : Nat → Nat) (i2_0 : Int32) (i2_1 : Int32) (v2_2 : Nat → Int32) (v2_3 : Nat → Int32) (x1 : Int32) (x2 : Int32) (x3 : Int32) (x4 : Int32) (res : Nat × Int32 × (Nat → Int32) × (Nat → Int32)) (hf : f_X10_cover  v0_15 i1_0 v1_5 v2_3 x1 x2 x3 x4 = some res) : XI l D cs yX10_cover wsX10_cover rm_X10_cover [.ref a0, .int x1, .int x2, .int x3, .int x4] sz (W_X10_cover cs a0 p0 i0_13 i0_14 v0_15 p1 i1_0 i1_6 i1_8 i1_10 i1_11 i1_12 v1_1 v1_2 v1_3 v1_4 v1_5 v1_7 v1_9 p2 i2_0 i2_1 v2_2 v2_3) (W_X10_cover cs a0 p0 i0_13 i0_14 res.2.2.1 p1 i1_0 i1_6 i1_8 i1_10 i1_11 i1_12 v1_1 v1_2 v1_3 v1_4 v1_5 v1_7 v1_9 p2 i2_0 i2_1 v2_2 res.2.2.2) res.1 res.2.1 4 24 := by
  rw [f_X10_cover] at hf
  refine ow_enterT (cc := cX10_cover) (nL := 5) (ret := (some .int)) hl0 (by decide) rfl (Nat.le_of_ble_eq_true rfl) (fun p e s m below meth c ls H locs C0 T0 hP hD hS hA hl => ?_)
  obtain ⟨hx, hb, hr, hlk, hml, hown, hts, hK, hG, hE⟩ := id C0
  have hl : lv_has ls 5 [(0, .ref a0), (1, .int x1), (2, .int x2), (3, .int x3), (4, .int x4)] := hl
  refine lv_aload_n hx hb dX10_cover_0 rfl (lv_at hl 0 rfl) ?_
  refine lv_iload_n hx hb dX10_cover_1 rfl (lv_at hl 1 rfl) ?_
  obtain ⟨q2, hq, hf⟩ := bd_some hf
  refine ow_tVV (As := [.int x1]) (rest := []) (wr := ow_pk (W_X10_cover cs a0 p0 i0_13 i0_14 v0_15 p1 i1_0 i1_6 i1_8 i1_10 i1_11 i1_12 v1_1 v1_2 v1_3 v1_4 v1_5 v1_7 v1_9 p2 i2_0 i2_1 v2_2 v2_3) [10, 11, 12]) (wf := (W_X10_cover cs a0 p0 i0_13 i0_14 q2.2 p1 i1_0 i1_6 i1_8 i1_10 i1_11 i1_12 v1_1 v1_2 v1_3 v1_4 v1_5 v1_7 v1_9 p2 i2_0 i2_1 v2_2 v2_3)) (k := q2.1) C0 T0 (c_X10_needPane l D cs T0.1 H.size a0 p0 i0_13 i0_14 v0_15 p1 i1_0 i1_6 i1_8 i1_10 i1_11 i1_12 v1_1 v1_2 v1_3 v1_4 v1_5 v1_7 v1_9 x1 q2 hq) (cwV 1 hts gX10_cover_X10_needPane rfl rfl rfl (by decide +kernel) ⟨Nat.le_of_ble_eq_true rfl, Nat.le_of_ble_eq_true rfl⟩) 10 rfl rfl hP hD hS (fun q h => Or.inr h) [0, 1, 2, 3, 4, 5, 6, 7, 8, 9] [10, 11, 12] [3, 4, 5, 6, 7, 8, 9, 10, 11, 12, 0, 1, 2] rfl (by decide) rfl (by decide) (by decide) rfl (by decide) rfl hl.1 rfl (Nat.le_of_ble_eq_true rfl) ⟨(Nat.le_of_ble_eq_true rfl), (Nat.le_of_ble_eq_true rfl)⟩ dX10_cover_2 (fun hz => ?_) (Nat.le_of_ble_eq_true rfl) (Nat.le_of_ble_eq_true rfl) (fun hz H locs hP hD hS => ?_)
  · replace hf := ow_f hz hf
    obtain rfl := Option.some.inj hf
    exact ⟨rfl, rfl⟩
  replace hf := ow_t hz hf
  refine lv_aload_n hx hb dX10_cover_5 rfl (lv_at hl 0 rfl) ?_
  refine lv_iload_n hx hb dX10_cover_6 rfl (lv_at hl 1 rfl) ?_
  refine lv_iload_n hx hb dX10_cover_7 rfl (lv_at hl 2 rfl) ?_
  obtain ⟨q8, hq, hf⟩ := bd_some hf
  refine ow_tVV (As := [.int x1, .int x2]) (rest := []) (wr := ow_pk (W_X10_cover cs a0 p0 i0_13 i0_14 q2.2 p1 i1_0 i1_6 i1_8 i1_10 i1_11 i1_12 v1_1 v1_2 v1_3 v1_4 v1_5 v1_7 v1_9 p2 i2_0 i2_1 v2_2 v2_3) [10, 11, 12]) (wf := (W_X10_cover cs a0 p0 i0_13 i0_14 q8.2 p1 i1_0 i1_6 i1_8 i1_10 i1_11 i1_12 v1_1 v1_2 v1_3 v1_4 v1_5 v1_7 v1_9 p2 i2_0 i2_1 v2_2 v2_3)) (k := q8.1) C0 T0 (c_X10_needCells l D cs T0.1 H.size a0 p0 i0_13 i0_14 q2.2 p1 i1_0 i1_6 i1_8 i1_10 i1_11 i1_12 v1_1 v1_2 v1_3 v1_4 v1_5 v1_7 v1_9 x1 x2 q8 hq) (cwV 2 hts gX10_cover_X10_needCells rfl rfl rfl (by decide +kernel) ⟨Nat.le_of_ble_eq_true rfl, Nat.le_of_ble_eq_true rfl⟩) 10 rfl rfl hP hD hS (fun q h => Or.inr h) [0, 1, 2, 3, 4, 5, 6, 7, 8, 9] [10, 11, 12] [3, 4, 5, 6, 7, 8, 9, 10, 11, 12, 0, 1, 2] rfl (by decide) rfl (by decide) (by decide) rfl (by decide) rfl hl.1 rfl (Nat.le_of_ble_eq_true rfl) ⟨(Nat.le_of_ble_eq_true rfl), (Nat.le_of_ble_eq_true rfl)⟩ dX10_cover_8 (fun hz => ?_) (Nat.le_of_ble_eq_true rfl) (Nat.le_of_ble_eq_true rfl) (fun hz H locs hP hD hS => ?_)
  · replace hf := ow_f hz hf
    obtain rfl := Option.some.inj hf
    exact ⟨rfl, rfl⟩
  replace hf := ow_t hz hf
  refine lv_aload_n hx hb dX10_cover_11 rfl (lv_at hl 0 rfl) ?_
  refine lv_iload_n hx hb dX10_cover_12 rfl (lv_at hl 3 rfl) ?_
  refine lv_if_lt (tgt := 26) hx hb dX10_cover_13 (by decide) (fun hc => ?_) (fun hc => ?_)
  · replace hf := ow_t hc hf
    refine W.widen (k := 2) (n := 12) (Nat.le_of_ble_eq_true rfl) (Nat.le_of_ble_eq_true rfl) ?_
    exact w_X10_cover_b26 C0 T0 a0 p0 i0_13 i0_14 p1 i1_0 i1_6 i1_8 i1_10 i1_11 i1_12 v1_1 v1_2 v1_3 v1_4 v1_5 v1_7 v1_9 p2 i2_0 i2_1 v2_2 res q8.2 v2_3 x1 x2 x3 x4 hf _ _ _ hP hD hS (lv_sub hl [0, 1, 2, 3, 4] rfl)
  · replace hf := ow_f hc hf
    refine lv_iload_n hx hb dX10_cover_16 rfl (lv_at hl 3 rfl) ?_
    refine lv_bipush (v := 6) hx hb dX10_cover_17 (by decide) ?_
    refine lv_icmp_gt (tgt := 26) hx hb dX10_cover_19 (by decide) (fun hc => ?_) (fun hc => ?_)
    · replace hf := ow_t hc hf
      refine W.widen (k := 2) (n := 12) (Nat.le_of_ble_eq_true rfl) (Nat.le_of_ble_eq_true rfl) ?_
      exact w_X10_cover_b26 C0 T0 a0 p0 i0_13 i0_14 p1 i1_0 i1_6 i1_8 i1_10 i1_11 i1_12 v1_1 v1_2 v1_3 v1_4 v1_5 v1_7 v1_9 p2 i2_0 i2_1 v2_2 res q8.2 v2_3 x1 x2 x3 x4 hf _ _ _ hP hD hS (lv_sub hl [0, 1, 2, 3, 4] rfl)
    · replace hf := ow_f hc hf
      refine lv_iconst (v := 1) hx hb dX10_cover_22 (by decide) ?_
      refine lv_goto (tgt := 27) hx hb dX10_cover_23 (by decide) ?_
      refine W.widen (k := 2) (n := 12) (Nat.le_of_ble_eq_true rfl) (Nat.le_of_ble_eq_true rfl) ?_
      exact w_X10_cover_b27 C0 T0 a0 p0 i0_13 i0_14 p1 i1_0 i1_6 i1_8 i1_10 i1_11 i1_12 v1_1 v1_2 v1_3 v1_4 v1_5 v1_7 v1_9 p2 i2_0 i2_1 v2_2 res q8.2 v2_3 x1 x2 x3 x4 (1) hf _ _ _ hP hD hS (lv_sub hl [0, 1, 2, 3, 4] rfl)
theorem in_X10_look_X10 : ∀ w ∈ u_ws RX10 TX10 16, w ∈ wsX10_look := by decide +kernel
theorem in_X10_look_X4 : ∀ w ∈ u_ws RX4 TX4 3, w ∈ wsX10_look := by decide +kernel
theorem in_X10_look_X6 : ∀ w ∈ u_ws RX6 TX6 13, w ∈ wsX10_look := by decide +kernel
abbrev W_X10_look (cs : Nat → ClassId) (a0 : Nat) (p0 : Nat → Nat) (i0_13 : Int32) (i0_14 : Int32) (v0_15 : Nat → Int32) (p1 : Nat → Nat) (i1_0 : Int32) (i1_6 : Int32) (i1_8 : Int32) (i1_10 : Int32) (i1_11 : Int32) (i1_12 : Int32) (v1_1 : Nat → Int32) (v1_2 : Nat → Int32) (v1_3 : Nat → Int32) (v1_4 : Nat → Int32) (v1_5 : Nat → Int32) (v1_7 : Nat → Int32) (v1_9 : Nat → Int32) (p2 : Nat → Nat) (i2_2 : Int32) (p3 : Nat → Nat) (i3_0 : Int32) (i3_1 : Int32) (v3_2 : Nat → Int32) (v3_3 : Nat → Int32) (p4 : Nat → Nat) (i4_3 : Int32) (i4_4 : Int32) (i4_5 : Int32) (i4_6 : Int32) (i4_7 : Int32) (v4_0 : Nat → Int32) (v4_1 : Nat → Int32) (v4_2 : Nat → Int32) : va_W := wX10 cs a0 p0 i0_13 i0_14 v0_15 ++ wX6 cs (p0 1) p1 i1_0 i1_6 i1_8 i1_10 i1_11 i1_12 v1_1 v1_2 v1_3 v1_4 v1_5 v1_7 v1_9 ++ wX4 cs (p0 9) p2 i2_2 ++ wX0 cs (p0 5) p3 i3_0 i3_1 v3_2 v3_3 ++ wX2 cs (p2 0) p4 i4_3 i4_4 i4_5 i4_6 i4_7 v4_0 v4_1 v4_2
abbrev rm_X10_look : Room := { frames := 8, cells := 2, slots := 12, locals := 124 }
def f_X10_look_b42  (i1_0 : Int32) (v1_5 : Nat → Int32) (i3_0 : Int32) (i3_1 : Int32) (v3_2 : Nat → Int32) (v3_3 : Nat → Int32) (v4_0 : Nat → Int32) (v4_1 : Nat → Int32)  (v0_15 : Nat → Int32) (t2 : Int32) (t3 : Int32) (t4 : Int32) : Option (Nat × Int32 × (Nat → Int32)) := (f_X0_nextLook i3_0 i3_1 v3_2 v3_3 v4_0 v4_1 t2 t3 t4).bind fun q42 => some (0, q42, v0_15)
set_option maxHeartbeats 4000000 in
set_option maxRecDepth 100000 in
theorem w_X10_look_b42 {p : Program} {l : Launch} {e : Env} {s : State} {m : MethodId} {below : List Frame} {meth : Method} {c : Code} {D : va_G} {cs : Nat → ClassId} {av : Array Value} {w0 : va_W} (C0 : Cx p s m meth c av wsX10_look cX10_look 3 (some .int) RX10 D cs w0) (T0 : CxT l s c)  (a0 : Nat) (p0 : Nat → Nat) (i0_13 : Int32) (i0_14 : Int32) (p1 : Nat → Nat) (i1_0 : Int32) (i1_6 : Int32) (i1_8 : Int32) (i1_10 : Int32) (i1_11 : Int32) (i1_12 : Int32) (v1_1 : Nat → Int32) (v1_2 : Nat → Int32) (v1_3 : Nat → Int32) (v1_4 : Nat → Int32) (v1_5 : Nat → Int32) (v1_7 : Nat → Int32) (v1_9 : Nat → Int32) (p2 : Nat → Nat) (i2_2 : Int32) (p3 : Nat → Nat) (i3_0 : Int32) (i3_1 : Int32) (v3_2 : Nat → Int32) (v3_3 : Nat → Int32) (p4 : Nat → Nat) (i4_3 : Int32) (i4_4 : Int32) (i4_5 : Int32) (i4_6 : Int32) (i4_7 : Int32) (v4_0 : Nat → Int32) (v4_1 : Nat → Int32) (v4_2 : Nat → Int32) (res : Nat × Int32 × (Nat → Int32))  : ∀ (v0_15 : Nat → Int32) (t2 : Int32) (t3 : Int32) (t4 : Int32), f_X10_look_b42 i1_0 v1_5 i3_0 i3_1 v3_2 v3_3 v4_0 v4_1 v0_15 t2 t3 t4 = some res → ∀ (H : Heap) (locs : List Loc) (ls : Array Slot), va_P D vwCl (W_X10_look cs a0 p0 i0_13 i0_14 v0_15 p1 i1_0 i1_6 i1_8 i1_10 i1_11 i1_12 v1_1 v1_2 v1_3 v1_4 v1_5 v1_7 v1_9 p2 i2_2 p3 i3_0 i3_1 v3_2 v3_3 p4 i4_3 i4_4 i4_5 i4_6 i4_7 v4_0 v4_1 v4_2) H → va_D (va_A w0 s.heap.size) (W_X10_look cs a0 p0 i0_13 i0_14 v0_15 p1 i1_0 i1_6 i1_8 i1_10 i1_11 i1_12 v1_1 v1_2 v1_3 v1_4 v1_5 v1_7 v1_9 p2 i2_2 p3 i3_0 i3_1 v3_2 v3_3 p4 i4_3 i4_4 i4_5 i4_6 i4_7 v4_0 v4_1 v4_2) → va_S (va_A w0 s.heap.size) s.heap H locs → lv_has ls 3 [] → W p l e rm_X10_look s m av below meth c H locs 2 12 (vx_MQ below (xI D cs w0 (W_X10_look cs a0 p0 i0_13 i0_14 res.2.2 p1 i1_0 i1_6 i1_8 i1_10 i1_11 i1_12 v1_1 v1_2 v1_3 v1_4 v1_5 v1_7 v1_9 p2 i2_2 p3 i3_0 i3_1 v3_2 v3_3 p4 i4_3 i4_4 i4_5 i4_6 i4_7 v4_0 v4_1 v4_2) res.1 res.2.1 s.heap.size) (xX D cs w0 (W_X10_look cs a0 p0 i0_13 i0_14 res.2.2 p1 i1_0 i1_6 i1_8 i1_10 i1_11 i1_12 v1_1 v1_2 v1_3 v1_4 v1_5 v1_7 v1_9 p2 i2_2 p3 i3_0 i3_1 v3_2 v3_3 p4 i4_3 i4_4 i4_5 i4_6 i4_7 v4_0 v4_1 v4_2) res.1 s.heap.size) av s 2 12 (va_A w0 s.heap.size)) (F0 m 42 ls [.int t4, .int t3, .int t2, .ref (p2 0), .ref (p0 5)]) := by
  obtain ⟨hx, hb, hr, hlk, hml, hown, hts, hK, hG, hE⟩ := id C0
  intro v0_15 t2 t3 t4 hf H locs ls hP hD hS hl
  rw [f_X10_look_b42] at hf
  obtain ⟨q42, hq, hf⟩ := bd_some hf
  refine ow_callVI (As := [.ref (p2 0), .int t2, .int t3, .int t4]) (rest := []) (wr := ow_pk (W_X10_look cs a0 p0 i0_13 i0_14 v0_15 p1 i1_0 i1_6 i1_8 i1_10 i1_11 i1_12 v1_1 v1_2 v1_3 v1_4 v1_5 v1_7 v1_9 p2 i2_2 p3 i3_0 i3_1 v3_2 v3_3 p4 i4_3 i4_4 i4_5 i4_6 i4_7 v4_0 v4_1 v4_2) [0, 1, 2, 3, 4, 5, 6, 7, 8, 9, 10]) (wf := (W_X10_look cs a0 p0 i0_13 i0_14 v0_15 p1 i1_0 i1_6 i1_8 i1_10 i1_11 i1_12 v1_1 v1_2 v1_3 v1_4 v1_5 v1_7 v1_9 p2 i2_2 p3 i3_0 i3_1 v3_2 v3_3 p4 i4_3 i4_4 i4_5 i4_6 i4_7 v4_0 v4_1 v4_2)) (r := q42) C0 (c_X0_nextLook l D cs H.size (p0 5) p3 i3_0 i3_1 v3_2 v3_3 (p2 0) p4 i4_3 i4_4 i4_5 i4_6 i4_7 v4_0 v4_1 v4_2 t2 t3 t4 q42 hq) (cwV 4 hts gX10_look_X0_nextLook rfl rfl rfl (by decide +kernel) ⟨Nat.le_of_ble_eq_true rfl, Nat.le_of_ble_eq_true rfl⟩) 0 rfl rfl hP hD hS (fun q h => Or.inr h) [11, 12, 13, 14, 15, 16, 17] [0, 1, 2, 3, 4, 5, 6, 7, 8, 9, 10] [0, 1, 2, 3, 4, 5, 6, 7, 8, 9, 10, 11, 12, 13, 14, 15, 16, 17] rfl (by decide) rfl (by decide) (by decide) rfl (by decide) rfl hl.1 rfl (Nat.le_of_ble_eq_true rfl) ⟨(Nat.le_of_ble_eq_true rfl), (Nat.le_of_ble_eq_true rfl)⟩ dX10_look_42 (fun H locs hP hD hS => ?_)
  obtain rfl := Option.some.inj hf
  exact ow_tretI C0 rfl hP hD hS (Nat.le_of_ble_eq_true rfl) (Nat.le_of_ble_eq_true rfl) dX10_look_45
def f_X10_look  (v0_15 : Nat → Int32) (i1_0 : Int32) (v1_5 : Nat → Int32) (i3_0 : Int32) (i3_1 : Int32) (v3_2 : Nat → Int32) (v3_3 : Nat → Int32) (v4_0 : Nat → Int32) (v4_1 : Nat → Int32) (x1 : Int32) (x2 : Int32) : Option (Nat × Int32 × (Nat → Int32)) := (f_X10_needPane v0_15 i1_0 x1).bind fun q2 => if q2.1 = 0 then ((f_X10_needWhat q2.2 x2 (1)).bind fun q8 => if q8.1 = 0 then (ck x1 5 (if x2 = 1 then (f_X10_look_b42 i1_0 v1_5 i3_0 i3_1 v3_2 v3_3 v4_0 v4_1 q8.2 x1 (v1_5 (x1).toNatClampNeg) (1)) else (f_X10_look_b42 i1_0 v1_5 i3_0 i3_1 v3_2 v3_3 v4_0 v4_1 q8.2 x1 (v1_5 (x1).toNatClampNeg) (0)))) else (some (q8.1, 0, q8.2))) else (some (q2.1, 0, q2.2))
set_option maxHeartbeats 4000000 in
set_option maxRecDepth 100000 in
theorem c_X10_look (l : Launch) (D : va_G) (cs : Nat → ClassId) (hl0 : l.stackTraces = false)  (sz : Nat) (a0 : Nat) (p0 : Nat → Nat) (i0_13 : Int32) (i0_14 : Int32) (v0_15 : Nat → Int32) (p1 : Nat → Nat) (i1_0 : Int32) (i1_6 : Int32) (i1_8 : Int32) (i1_10 : Int32) (i1_11 : Int32) (i1_12 : Int32) (v1_1 : Nat → Int32) (v1_2 : Nat → Int32) (v1_3 : Nat → Int32) (v1_4 : Nat → Int32) (v1_5 : Nat → Int32) (v1_7 : Nat → Int32) (v1_9 : Nat → Int32) (p2 : Nat → Nat) (i2_2 : Int32) (p3 : Nat → Nat) (i3_0 : Int32) (i3_1 : Int32) (v3_2 : Nat → Int32) (v3_3 : Nat → Int32) (p4 : Nat → Nat) (i4_3 : Int32) (i4_4 : Int32) (i4_5 : Int32) (i4_6 : Int32) (i4_7 : Int32) (v4_0 : Nat → Int32) (v4_1 : Nat → Int32) (v4_2 : Nat → Int32) (x1 : Int32) (x2 : Int32) (res : Nat × Int32 × (Nat → Int32)) (hf : f_X10_look  v0_15 i1_0 v1_5 i3_0 i3_1 v3_2 v3_3 v4_0 v4_1 x1 x2 = some res) : XI l D cs yX10_look wsX10_look rm_X10_look [.ref a0, .int x1, .int x2] sz (W_X10_look cs a0 p0 i0_13 i0_14 v0_15 p1 i1_0 i1_6 i1_8 i1_10 i1_11 i1_12 v1_1 v1_2 v1_3 v1_4 v1_5 v1_7 v1_9 p2 i2_2 p3 i3_0 i3_1 v3_2 v3_3 p4 i4_3 i4_4 i4_5 i4_6 i4_7 v4_0 v4_1 v4_2) (W_X10_look cs a0 p0 i0_13 i0_14 res.2.2 p1 i1_0 i1_6 i1_8 i1_10 i1_11 i1_12 v1_1 v1_2 v1_3 v1_4 v1_5 v1_7 v1_9 p2 i2_2 p3 i3_0 i3_1 v3_2 v3_3 p4 i4_3 i4_4 i4_5 i4_6 i4_7 v4_0 v4_1 v4_2) res.1 res.2.1 2 12 := by
  rw [f_X10_look] at hf
  refine ow_enterT (cc := cX10_look) (nL := 3) (ret := (some .int)) hl0 (by decide) rfl (Nat.le_of_ble_eq_true rfl) (fun p e s m below meth c ls H locs C0 T0 hP hD hS hA hl => ?_)
  obtain ⟨hx, hb, hr, hlk, hml, hown, hts, hK, hG, hE⟩ := id C0
  have hl : lv_has ls 3 [(0, .ref a0), (1, .int x1), (2, .int x2)] := hl
  refine lv_aload_n hx hb dX10_look_0 rfl (lv_at hl 0 rfl) ?_
  refine lv_iload_n hx hb dX10_look_1 rfl (lv_at hl 1 rfl) ?_
  obtain ⟨q2, hq, hf⟩ := bd_some hf
  refine ow_tVV (As := [.int x1]) (rest := []) (wr := ow_pk (W_X10_look cs a0 p0 i0_13 i0_14 v0_15 p1 i1_0 i1_6 i1_8 i1_10 i1_11 i1_12 v1_1 v1_2 v1_3 v1_4 v1_5 v1_7 v1_9 p2 i2_2 p3 i3_0 i3_1 v3_2 v3_3 p4 i4_3 i4_4 i4_5 i4_6 i4_7 v4_0 v4_1 v4_2) [10, 11, 12, 13, 14, 15, 16, 17]) (wf := (W_X10_look cs a0 p0 i0_13 i0_14 q2.2 p1 i1_0 i1_6 i1_8 i1_10 i1_11 i1_12 v1_1 v1_2 v1_3 v1_4 v1_5 v1_7 v1_9 p2 i2_2 p3 i3_0 i3_1 v3_2 v3_3 p4 i4_3 i4_4 i4_5 i4_6 i4_7 v4_0 v4_1 v4_2)) (k := q2.1) C0 T0 (c_X10_needPane l D cs T0.1 H.size a0 p0 i0_13 i0_14 v0_15 p1 i1_0 i1_6 i1_8 i1_10 i1_11 i1_12 v1_1 v1_2 v1_3 v1_4 v1_5 v1_7 v1_9 x1 q2 hq) (cwV 1 hts gX10_look_X10_needPane rfl rfl rfl (by decide +kernel) ⟨Nat.le_of_ble_eq_true rfl, Nat.le_of_ble_eq_true rfl⟩) 10 rfl rfl hP hD hS (fun q h => Or.inr h) [0, 1, 2, 3, 4, 5, 6, 7, 8, 9] [10, 11, 12, 13, 14, 15, 16, 17] [8, 9, 10, 11, 12, 13, 14, 15, 16, 17, 0, 1, 2, 3, 4, 5, 6, 7] rfl (by decide) rfl (by decide) (by decide) rfl (by decide) rfl hl.1 rfl (Nat.le_of_ble_eq_true rfl) ⟨(Nat.le_of_ble_eq_true rfl), (Nat.le_of_ble_eq_true rfl)⟩ dX10_look_2 (fun hz => ?_) (Nat.le_of_ble_eq_true rfl) (Nat.le_of_ble_eq_true rfl) (fun hz H locs hP hD hS => ?_)
  · replace hf := ow_f hz hf
    obtain rfl := Option.some.inj hf
    exact ⟨rfl, rfl⟩
  replace hf := ow_t hz hf
  refine lv_aload_n hx hb dX10_look_5 rfl (lv_at hl 0 rfl) ?_
  refine lv_iload_n hx hb dX10_look_6 rfl (lv_at hl 2 rfl) ?_
  refine lv_iconst (v := 1) hx hb dX10_look_7 (by decide) ?_
  obtain ⟨q8, hq, hf⟩ := bd_some hf
  refine ow_tVV (As := [.int x2, .int 1]) (rest := []) (wr := ow_pk (W_X10_look cs a0 p0 i0_13 i0_14 q2.2 p1 i1_0 i1_6 i1_8 i1_10 i1_11 i1_12 v1_1 v1_2 v1_3 v1_4 v1_5 v1_7 v1_9 p2 i2_2 p3 i3_0 i3_1 v3_2 v3_3 p4 i4_3 i4_4 i4_5 i4_6 i4_7 v4_0 v4_1 v4_2) [2, 3, 4, 5, 6, 7, 8, 9, 10, 11, 12, 13, 14, 15, 16, 17]) (wf := (W_X10_look cs a0 p0 i0_13 i0_14 q8.2 p1 i1_0 i1_6 i1_8 i1_10 i1_11 i1_12 v1_1 v1_2 v1_3 v1_4 v1_5 v1_7 v1_9 p2 i2_2 p3 i3_0 i3_1 v3_2 v3_3 p4 i4_3 i4_4 i4_5 i4_6 i4_7 v4_0 v4_1 v4_2)) (k := q8.1) C0 T0 (c_X10_needWhat l D cs T0.1 H.size a0 p0 i0_13 i0_14 q2.2 x2 (1) q8 hq) (cwV 2 hts gX10_look_X10_needWhat rfl rfl rfl (by decide +kernel) ⟨Nat.le_of_ble_eq_true rfl, Nat.le_of_ble_eq_true rfl⟩) 10 rfl rfl hP hD hS (fun q h => Or.inr h) [0, 1] [2, 3, 4, 5, 6, 7, 8, 9, 10, 11, 12, 13, 14, 15, 16, 17] [16, 17, 0, 1, 2, 3, 4, 5, 6, 7, 8, 9, 10, 11, 12, 13, 14, 15] rfl (by decide) rfl (by decide) (by decide) rfl (by decide) rfl hl.1 rfl (Nat.le_of_ble_eq_true rfl) ⟨(Nat.le_of_ble_eq_true rfl), (Nat.le_of_ble_eq_true rfl)⟩ dX10_look_8 (fun hz => ?_) (Nat.le_of_ble_eq_true rfl) (Nat.le_of_ble_eq_true rfl) (fun hz H locs hP hD hS => ?_)
  · replace hf := ow_f hz hf
    obtain rfl := Option.some.inj hf
    exact ⟨rfl, rfl⟩
  replace hf := ow_t hz hf
  refine lv_aload_n hx hb dX10_look_11 rfl (lv_at hl 0 rfl) ?_
  refine va_get (D := D) (ci := 10) (v := .ref (p0 5)) (C := RX10) (T := TX10) (N := 16) hx hb hts in_X10_look_X10 hown hK hP 0 rfl rfl 5 (by decide) (hts (.fieldLink RX10 39 "PaneDays" "book" "LPaneDays$Book;") (List.mem_of_getElem? (i := 1) rfl)) (fun _ h9 => h9) rfl dX10_look_12 ?_
  refine lv_aload_n hx hb dX10_look_15 rfl (lv_at hl 0 rfl) ?_
  refine va_get (D := D) (ci := 10) (v := .ref (p0 9)) (C := RX10) (T := TX10) (N := 16) hx hb hts in_X10_look_X10 hown hK hP 0 rfl rfl 9 (by decide) (hts (.fieldLink RX10 63 "PaneDays" "past" "LPaneDays$Past;") (List.mem_of_getElem? (i := 2) rfl)) (fun _ h9 => h9) rfl dX10_look_16 ?_
  refine va_get (D := D) (ci := 4) (v := .ref (p2 0)) (C := RX4) (T := TX4) (N := 3) hx hb hts in_X10_look_X4 hown hK hP 10 rfl rfl 0 (by decide) (hts (.fieldLink RX10 76 "PaneDays$Past" "now" "LPaneDays$Glass;") (List.mem_of_getElem? (i := 3) rfl)) (fun _ h9 => h9) rfl dX10_look_19 ?_
  refine lv_iload_n hx hb dX10_look_22 rfl (lv_at hl 1 rfl) ?_
  refine lv_aload_n hx hb dX10_look_23 rfl (lv_at hl 0 rfl) ?_
  refine va_get (D := D) (ci := 10) (v := .ref (p0 1)) (C := RX10) (T := TX10) (N := 16) hx hb hts in_X10_look_X10 hown hK hP 0 rfl rfl 1 (by decide) (hts (.fieldLink RX10 19 "PaneDays" "street" "LPaneDays$Street;") (List.mem_of_getElem? (i := 4) rfl)) (fun _ h9 => h9) rfl dX10_look_24 ?_
  refine va_get (D := D) (ci := 6) (v := .ref (p1 5)) (C := RX6) (T := TX6) (N := 13) hx hb hts in_X10_look_X6 hown hK hP 2 rfl rfl 5 (by decide) (hts (.fieldLink RX10 237 "PaneDays$Street" "cells" "[I") (List.mem_of_getElem? (i := 5) rfl)) (fun _ h9 => h9) rfl dX10_look_27 ?_
  refine lv_iload_n hx hb dX10_look_30 rfl (lv_at hl 1 rfl) ?_
  obtain ⟨hin, hf⟩ := ck_some hf
  refine va_iald (f := v1_5) hx hb hK hP 7 0 rfl rfl hin dX10_look_31 ?_
  refine lv_iload_n hx hb dX10_look_32 rfl (lv_at hl 2 rfl) ?_
  refine lv_iconst (v := 1) hx hb dX10_look_33 (by decide) ?_
  refine lv_icmp_ne (tgt := 41) hx hb dX10_look_34 (by decide) (fun hc => ?_) (fun hc => ?_)
  · replace hf := ow_f hc hf
    refine lv_iconst (v := 0) hx hb dX10_look_41 (by decide) ?_
    refine W.widen (k := 2) (n := 12) (Nat.le_of_ble_eq_true rfl) (Nat.le_of_ble_eq_true rfl) ?_
    exact w_X10_look_b42 C0 T0 a0 p0 i0_13 i0_14 p1 i1_0 i1_6 i1_8 i1_10 i1_11 i1_12 v1_1 v1_2 v1_3 v1_4 v1_5 v1_7 v1_9 p2 i2_2 p3 i3_0 i3_1 v3_2 v3_3 p4 i4_3 i4_4 i4_5 i4_6 i4_7 v4_0 v4_1 v4_2 res q8.2 x1 (v1_5 (x1).toNatClampNeg) (0) hf _ _ _ hP hD hS (lv_sub hl [] rfl)
  · replace hf := ow_t hc hf
    refine lv_iconst (v := 1) hx hb dX10_look_37 (by decide) ?_
    refine lv_goto (tgt := 42) hx hb dX10_look_38 (by decide) ?_
    refine W.widen (k := 2) (n := 12) (Nat.le_of_ble_eq_true rfl) (Nat.le_of_ble_eq_true rfl) ?_
    exact w_X10_look_b42 C0 T0 a0 p0 i0_13 i0_14 p1 i1_0 i1_6 i1_8 i1_10 i1_11 i1_12 v1_1 v1_2 v1_3 v1_4 v1_5 v1_7 v1_9 p2 i2_2 p3 i3_0 i3_1 v3_2 v3_3 p4 i4_3 i4_4 i4_5 i4_6 i4_7 v4_0 v4_1 v4_2 res q8.2 x1 (v1_5 (x1).toNatClampNeg) (1) hf _ _ _ hP hD hS (lv_sub hl [] rfl)

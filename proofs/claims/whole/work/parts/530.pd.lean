abbrev wX4 (cs : Nat → ClassId) (a : Nat) (p : Nat → Nat) (i2 : Int32) : va_W := [(a, .inr (4, [.ref (p 0), .ref (p 1), .int i2]))]
abbrev wX10 (cs : Nat → ClassId) (a : Nat) (p : Nat → Nat) (i13 : Int32) (i14 : Int32) (v15 : Nat → Int32) : va_W := [(a, .inr (10, [.ref (p 0), .ref (p 1), .ref (p 2), .ref (p 3), .ref (p 4), .ref (p 5), .ref (p 6), .ref (p 7), .ref (p 8), .ref (p 9), .ref (p 10), .ref (p 11), .ref (p 12), .int i13, .int i14, .ref (p 15)])), (p 15, .inl (cs 0, 3, .inl v15))]
theorem ex_b386 : ∀ w ∈ (vx_at0 RX10 386 "java/lang/IllegalArgumentException" exU).filter (fun w => !goodWord w), w ∈ exB "java/lang/IllegalArgumentException" := by decide +kernel
theorem ex_o386 : ∀ w ∈ Cond.classLink RX10 384 "java/lang/IllegalArgumentException" :: Cond.initialized "java/lang/IllegalArgumentException" :: vx_at0 RX10 386 "java/lang/IllegalArgumentException" exU, vx_ot w = true := by decide +kernel
theorem ex_b389 : ∀ w ∈ (vx_at0 RX10 389 "java/util/NoSuchElementException" exU).filter (fun w => !goodWord w), w ∈ exB "java/util/NoSuchElementException" := by decide +kernel
theorem ex_o389 : ∀ w ∈ Cond.classLink RX10 387 "java/util/NoSuchElementException" :: Cond.initialized "java/util/NoSuchElementException" :: vx_at0 RX10 389 "java/util/NoSuchElementException" exU, vx_ot w = true := by decide +kernel
theorem ex_b392 : ∀ w ∈ (vx_at0 RX10 392 "java/lang/IndexOutOfBoundsException" exU).filter (fun w => !goodWord w), w ∈ exB "java/lang/IndexOutOfBoundsException" := by decide +kernel
theorem ex_o392 : ∀ w ∈ Cond.classLink RX10 390 "java/lang/IndexOutOfBoundsException" :: Cond.initialized "java/lang/IndexOutOfBoundsException" :: vx_at0 RX10 392 "java/lang/IndexOutOfBoundsException" exU, vx_ot w = true := by decide +kernel
theorem in_X4_forget_X4 : ∀ w ∈ u_ws RX4 TX4 3, w ∈ wsX4_forget := fun w h => List.mem_cons_of_mem _ (List.mem_append_left _ (List.mem_append_right _ h))
abbrev S_X4_forget (cs : Nat → ClassId) (a0 : Nat) (p0 : Nat → Nat) (i0_2 : Int32) (p1 : Nat → Nat) (i1_3 : Int32) (i1_4 : Int32) (i1_5 : Int32) (i1_6 : Int32) (i1_7 : Int32) (v1_0 : Nat → Int32) (v1_1 : Nat → Int32) (v1_2 : Nat → Int32) : List va_W := [wX4 cs a0 p0 i0_2, wX2 cs (p0 0) p1 i1_3 i1_4 i1_5 i1_6 i1_7 v1_0 v1_1 v1_2]
abbrev W_X4_forget (cs : Nat → ClassId) (a0 : Nat) (p0 : Nat → Nat) (i0_2 : Int32) (p1 : Nat → Nat) (i1_3 : Int32) (i1_4 : Int32) (i1_5 : Int32) (i1_6 : Int32) (i1_7 : Int32) (v1_0 : Nat → Int32) (v1_1 : Nat → Int32) (v1_2 : Nat → Int32) : va_W := (S_X4_forget cs a0 p0 i0_2 p1 i1_3 i1_4 i1_5 i1_6 i1_7 v1_0 v1_1 v1_2).flatten
abbrev rm_X4_forget : Room := { frames := 2, cells := 0, slots := 0, locals := 43 }
def f_X4_forget  (i0_2 : Int32) (i1_3 : Int32) (i1_4 : Int32) (i1_5 : Int32) (i1_6 : Int32) (i1_7 : Int32) (v1_1 : Nat → Int32) (v1_2 : Nat → Int32)  : Option (Int32 × Int32 × Int32 × Int32 × Int32 × Int32 × (Nat → Int32) × (Nat → Int32)) := (f_X2_forget i1_3 i1_4 i1_5 i1_6 i1_7 v1_1 v1_2).bind fun q4 => some (0, q4.1, q4.2.1, q4.2.2.1, q4.2.2.2.1, q4.2.2.2.2.1, q4.2.2.2.2.2.1, q4.2.2.2.2.2.2)
set_option maxHeartbeats 4000000 in
set_option maxRecDepth 100000 in
theorem c_X4_forget (l : Launch) (D : va_G) (cs : Nat → ClassId)  (sz : Nat) (a0 : Nat) (p0 : Nat → Nat) (i0_2 : Int32) (p1 : Nat → Nat) (i1_3 : Int32) (i1_4 : Int32) (i1_5 : Int32) (i1_6 : Int32) (i1_7 : Int32) (v1_0 : Nat → Int32) (v1_1 : Nat → Int32) (v1_2 : Nat → Int32)  (res : Int32 × Int32 × Int32 × Int32 × Int32 × Int32 × (Nat → Int32) × (Nat → Int32)) (hf : f_X4_forget  i0_2 i1_3 i1_4 i1_5 i1_6 i1_7 v1_1 v1_2  = some res) : MV l D cs yX4_forget wsX4_forget rm_X4_forget [.ref a0] sz (W_X4_forget cs a0 p0 i0_2 p1 i1_3 i1_4 i1_5 i1_6 i1_7 v1_0 v1_1 v1_2) (W_X4_forget cs a0 p0 res.1 p1 res.2.1 res.2.2.1 res.2.2.2.1 res.2.2.2.2.1 res.2.2.2.2.2.1 v1_0 res.2.2.2.2.2.2.1 res.2.2.2.2.2.2.2) := by
  rw [f_X4_forget] at hf
  refine ow_enter (cc := cX4_forget) (nL := 1) (ret := none) (by decide) rfl (Nat.le_of_ble_eq_true rfl) (fun p e s m below meth c ls H locs C0 hP hD hS hA hl => ?_)
  obtain ⟨hx, hb, hr, hlk, hml, hown, hts, hK, hG, hE⟩ := id C0
  have hl : lv_has ls 1 [(0, .ref a0)] := hl
  refine lv_aload_n hx hb dX4_forget_0 rfl (lv_at hl 0 rfl) ?_
  refine va_get (D := D) (ci := 4) (v := .ref (p0 0)) (C := RX4) (T := TX4) (N := 3) hx hb hts in_X4_forget_X4 hown hK hP 0 rfl rfl 0 (by decide) (hts (.fieldLink RX4 12 "PaneDays$Past" "now" "LPaneDays$Glass;") (List.mem_of_getElem? (i := 1) rfl)) (fun _ h9 => h9) rfl dX4_forget_1 ?_
  obtain ⟨q4, hq, hf⟩ := bd_some hf
  refine ow_gVV (As := []) (rest := []) (sg := (S_X4_forget cs a0 p0 i0_2 p1 i1_3 i1_4 i1_5 i1_6 i1_7 v1_0 v1_1 v1_2)) (sc := [wX2 cs (p0 0) p1 i1_3 i1_4 i1_5 i1_6 i1_7 v1_0 v1_1 v1_2]) (sc' := [wX2 cs (p0 0) p1 q4.1 q4.2.1 q4.2.2.1 q4.2.2.2.1 q4.2.2.2.2.1 v1_0 q4.2.2.2.2.2.1 q4.2.2.2.2.2.2]) (sr := ow_pks (S_X4_forget cs a0 p0 i0_2 p1 i1_3 i1_4 i1_5 i1_6 i1_7 v1_0 v1_1 v1_2) [0]) (sf := (S_X4_forget cs a0 p0 i0_2 p1 q4.1 q4.2.1 q4.2.2.1 q4.2.2.2.1 q4.2.2.2.2.1 v1_0 q4.2.2.2.2.2.1 q4.2.2.2.2.2.2)) C0 (c_X2_forget l D cs H.size (p0 0) p1 i1_3 i1_4 i1_5 i1_6 i1_7 v1_0 v1_1 v1_2  q4 hq) (cwV 0 hts gX4_forget_X2_forget rfl rfl rfl (by decide +kernel) ⟨Nat.le_of_ble_eq_true rfl, Nat.le_of_ble_eq_true rfl⟩) 2 rfl rfl hP hD hS (sg_permL [1] [0] 2 rfl (by decide) rfl rfl) (sg_permG [0, 1] 2 rfl (by decide) rfl) rfl hl.1 rfl (Nat.le_of_ble_eq_true rfl) ⟨(Nat.le_of_ble_eq_true rfl), (Nat.le_of_ble_eq_true rfl)⟩ dX4_forget_4 (fun H locs (hP : va_P D vwCl (W_X4_forget cs a0 p0 i0_2 p1 q4.1 q4.2.1 q4.2.2.1 q4.2.2.2.1 q4.2.2.2.2.1 v1_0 q4.2.2.2.2.2.1 q4.2.2.2.2.2.2) H) (hD : va_D _ (W_X4_forget cs a0 p0 i0_2 p1 q4.1 q4.2.1 q4.2.2.1 q4.2.2.2.1 q4.2.2.2.2.1 v1_0 q4.2.2.2.2.2.1 q4.2.2.2.2.2.2)) hS => ?_)
  refine lv_aload_n hx hb dX4_forget_7 rfl (lv_at hl 0 rfl) ?_
  refine lv_iconst (v := 0) hx hb dX4_forget_8 (by decide) ?_
  refine va_put (D := D) (ci := 4) (v := .int 0) (ty := .int) (C := RX4) (T := TX4) (N := 3) hx hb hts in_X4_forget_X4 tyX4 tyX4_ok nmX4 hown hK hP hD hS 0 rfl rfl 2 (by decide) (hts (.fieldLink RX4 25 "PaneDays$Past" "works" "I") (List.mem_of_getElem? (i := 2) rfl)) (fun _ h9 => h9) rfl (by decide +kernel) rfl rfl (Nat.le_of_ble_eq_true rfl) dX4_forget_9 (fun H locs (hP : va_P D vwCl (W_X4_forget cs a0 p0 (0) p1 q4.1 q4.2.1 q4.2.2.1 q4.2.2.2.1 q4.2.2.2.2.1 v1_0 q4.2.2.2.2.2.1 q4.2.2.2.2.2.2) H) (hD : va_D _ (W_X4_forget cs a0 p0 (0) p1 q4.1 q4.2.1 q4.2.2.1 q4.2.2.2.1 q4.2.2.2.2.1 v1_0 q4.2.2.2.2.2.1 q4.2.2.2.2.2.2)) hS => ?_)
  obtain rfl := Option.some.inj hf
  exact ow_retV C0 hP hD hS dX4_forget_12
theorem in_X10_needPane_X10 : ∀ w ∈ u_ws RX10 TX10 16, w ∈ wsX10_needPane := fun w h => List.mem_cons_of_mem _ (List.mem_append_left _ (List.mem_append_left _ (List.mem_append_right _ h)))
theorem in_X10_needPane_X6 : ∀ w ∈ u_ws RX6 TX6 13, w ∈ wsX10_needPane := fun w h => List.mem_cons_of_mem _ (List.mem_append_left _ (List.mem_append_right _ h))
abbrev S_X10_needPane (cs : Nat → ClassId) (a0 : Nat) (p0 : Nat → Nat) (i0_13 : Int32) (i0_14 : Int32) (v0_15 : Nat → Int32) (p1 : Nat → Nat) (i1_0 : Int32) (i1_6 : Int32) (i1_8 : Int32) (i1_10 : Int32) (i1_11 : Int32) (i1_12 : Int32) (v1_1 : Nat → Int32) (v1_2 : Nat → Int32) (v1_3 : Nat → Int32) (v1_4 : Nat → Int32) (v1_5 : Nat → Int32) (v1_7 : Nat → Int32) (v1_9 : Nat → Int32) : List va_W := [wX10 cs a0 p0 i0_13 i0_14 v0_15, wX6 cs (p0 1) p1 i1_0 i1_6 i1_8 i1_10 i1_11 i1_12 v1_1 v1_2 v1_3 v1_4 v1_5 v1_7 v1_9]
abbrev W_X10_needPane (cs : Nat → ClassId) (a0 : Nat) (p0 : Nat → Nat) (i0_13 : Int32) (i0_14 : Int32) (v0_15 : Nat → Int32) (p1 : Nat → Nat) (i1_0 : Int32) (i1_6 : Int32) (i1_8 : Int32) (i1_10 : Int32) (i1_11 : Int32) (i1_12 : Int32) (v1_1 : Nat → Int32) (v1_2 : Nat → Int32) (v1_3 : Nat → Int32) (v1_4 : Nat → Int32) (v1_5 : Nat → Int32) (v1_7 : Nat → Int32) (v1_9 : Nat → Int32) : va_W := (S_X10_needPane cs a0 p0 i0_13 i0_14 v0_15 p1 i1_0 i1_6 i1_8 i1_10 i1_11 i1_12 v1_1 v1_2 v1_3 v1_4 v1_5 v1_7 v1_9).flatten
abbrev rm_X10_needPane : Room := { frames := 6, cells := 1, slots := 6, locals := 81 }
def f_X10_needPane_b15  (i1_0 : Int32)  (v0_15 : Nat → Int32)  : Option (Nat × (Nat → Int32)) := some (2, upd v0_15 (1 : Int32).toNatClampNeg ((v0_15 (1 : Int32).toNatClampNeg) + 1))
set_option maxHeartbeats 4000000 in
set_option maxRecDepth 100000 in
theorem w_X10_needPane_b15 {p : Program} {l : Launch} {e : Env} {s : State} {m : MethodId} {below : List Frame} {meth : Method} {c : Code} {D : va_G} {cs : Nat → ClassId} {av : Array Value} {w0 : va_W} (C0 : Cx p s m meth c av wsX10_needPane cX10_needPane 2 none RX10 D cs w0) (T0 : CxT l s c)  (a0 : Nat) (p0 : Nat → Nat) (i0_13 : Int32) (i0_14 : Int32) (p1 : Nat → Nat) (i1_0 : Int32) (i1_6 : Int32) (i1_8 : Int32) (i1_10 : Int32) (i1_11 : Int32) (i1_12 : Int32) (v1_1 : Nat → Int32) (v1_2 : Nat → Int32) (v1_3 : Nat → Int32) (v1_4 : Nat → Int32) (v1_5 : Nat → Int32) (v1_7 : Nat → Int32) (v1_9 : Nat → Int32) (res : Nat × (Nat → Int32))  : ∀ (v0_15 : Nat → Int32), f_X10_needPane_b15 i1_0 v0_15 = some res → ∀ (H : Heap) (locs : List Loc) (ls : Array Slot), va_P D vwCl (W_X10_needPane cs a0 p0 i0_13 i0_14 v0_15 p1 i1_0 i1_6 i1_8 i1_10 i1_11 i1_12 v1_1 v1_2 v1_3 v1_4 v1_5 v1_7 v1_9) H → va_D (va_A w0 s.heap.size) (W_X10_needPane cs a0 p0 i0_13 i0_14 v0_15 p1 i1_0 i1_6 i1_8 i1_10 i1_11 i1_12 v1_1 v1_2 v1_3 v1_4 v1_5 v1_7 v1_9) → va_S (va_A w0 s.heap.size) s.heap H locs → lv_has ls 2 [(0, .ref a0)] → W p l e rm_X10_needPane s m av below meth c H locs 0 0 (vx_MQ below (xV D cs w0 (W_X10_needPane cs a0 p0 i0_13 i0_14 res.2 p1 i1_0 i1_6 i1_8 i1_10 i1_11 i1_12 v1_1 v1_2 v1_3 v1_4 v1_5 v1_7 v1_9) res.1 s.heap.size) (xX D cs w0 (W_X10_needPane cs a0 p0 i0_13 i0_14 res.2 p1 i1_0 i1_6 i1_8 i1_10 i1_11 i1_12 v1_1 v1_2 v1_3 v1_4 v1_5 v1_7 v1_9) res.1 s.heap.size) av s 1 6 (va_A w0 s.heap.size)) (F0 m 15 ls []) := by
  obtain ⟨hx, hb, hr, hlk, hml, hown, hts, hK, hG, hE⟩ := id C0
  intro v0_15 hf H locs ls hP hD hS hl
  rw [f_X10_needPane_b15] at hf
  refine lv_aload_n hx hb dX10_needPane_15 rfl (lv_at hl 0 rfl) ?_
  refine va_get (D := D) (ci := 10) (v := .ref (p0 15)) (C := RX10) (T := TX10) (N := 16) hx hb hts in_X10_needPane_X10 hown hK hP 0 rfl rfl 15 (by decide) (hts (.fieldLink RX10 91 "PaneDays" "refusedCalls" "[I") (List.mem_of_getElem? (i := 5) rfl)) (fun _ h9 => h9) rfl dX10_needPane_16 ?_
  refine lv_iconst (v := 1) hx hb dX10_needPane_19 (by decide) ?_
  refine lv_dup2_11 hx hb dX10_needPane_20 rfl rfl ?_
  refine va_iald (f := v0_15) hx hb hK hP 1 0 rfl rfl (vp_in_nI (n := 1) (by decide) (by decide)) dX10_needPane_21 ?_
  refine lv_iconst (v := 1) hx hb dX10_needPane_22 (by decide) ?_
  refine lv_iadd hx hb dX10_needPane_23 ?_
  refine va_iast (f := v0_15) hx hb hK hP hD hS 1 0 rfl rfl (vp_in_nI (n := 1) (by decide) (by decide)) dX10_needPane_24 (fun H locs (hP : va_P D vwCl (W_X10_needPane cs a0 p0 i0_13 i0_14 (upd v0_15 (1 : Int32).toNatClampNeg ((v0_15 (1 : Int32).toNatClampNeg) + 1)) p1 i1_0 i1_6 i1_8 i1_10 i1_11 i1_12 v1_1 v1_2 v1_3 v1_4 v1_5 v1_7 v1_9) H) (hD : va_D _ (W_X10_needPane cs a0 p0 i0_13 i0_14 (upd v0_15 (1 : Int32).toNatClampNeg ((v0_15 (1 : Int32).toNatClampNeg) + 1)) p1 i1_0 i1_6 i1_8 i1_10 i1_11 i1_12 v1_1 v1_2 v1_3 v1_4 v1_5 v1_7 v1_9)) hS => ?_)
  obtain rfl := Option.some.inj hf
  exact ow_thr (cls := "java/util/NoSuchElementException") (ik := 387) (ic := 389) C0 T0 (show (2 : Nat) ≠ 0 by decide) rfl (by decide +kernel) (by decide +kernel) ((List.mem_of_getElem? (i := 1) rfl)) ((List.mem_of_getElem? (i := 2) rfl)) (fun w h => List.mem_cons_of_mem _ (List.mem_append_right _ h)) ex_b389 ex_o389 hP hD hS hl.1 dX10_needPane_25 dX10_needPane_28 dX10_needPane_29 dX10_needPane_32 (Nat.le_of_ble_eq_true rfl) (Nat.le_of_ble_eq_true rfl) (Nat.le_of_ble_eq_true rfl) (Nat.le_of_ble_eq_true rfl) (Nat.le_of_ble_eq_true rfl) (Nat.le_of_ble_eq_true rfl)
def f_X10_needPane  (v0_15 : Nat → Int32) (i1_0 : Int32) (x1 : Int32) : Option (Nat × (Nat → Int32)) := if x1 < 0 then (f_X10_needPane_b15 i1_0 v0_15) else (if x1 < i1_0 then (some (0, v0_15)) else (f_X10_needPane_b15 i1_0 v0_15))
set_option maxHeartbeats 4000000 in
set_option maxRecDepth 100000 in
theorem c_X10_needPane (l : Launch) (D : va_G) (cs : Nat → ClassId) (hl0 : l.stackTraces = false)  (sz : Nat) (a0 : Nat) (p0 : Nat → Nat) (i0_13 : Int32) (i0_14 : Int32) (v0_15 : Nat → Int32) (p1 : Nat → Nat) (i1_0 : Int32) (i1_6 : Int32) (i1_8 : Int32) (i1_10 : Int32) (i1_11 : Int32) (i1_12 : Int32) (v1_1 : Nat → Int32) (v1_2 : Nat → Int32) (v1_3 : Nat → Int32) (v1_4 : Nat → Int32) (v1_5 : Nat → Int32) (v1_7 : Nat → Int32) (v1_9 : Nat → Int32) (x1 : Int32) (res : Nat × (Nat → Int32)) (hf : f_X10_needPane  v0_15 i1_0 x1 = some res) : XV l D cs yX10_needPane wsX10_needPane rm_X10_needPane [.ref a0, .int x1] sz (W_X10_needPane cs a0 p0 i0_13 i0_14 v0_15 p1 i1_0 i1_6 i1_8 i1_10 i1_11 i1_12 v1_1 v1_2 v1_3 v1_4 v1_5 v1_7 v1_9) (W_X10_needPane cs a0 p0 i0_13 i0_14 res.2 p1 i1_0 i1_6 i1_8 i1_10 i1_11 i1_12 v1_1 v1_2 v1_3 v1_4 v1_5 v1_7 v1_9) res.1 1 6 := by
  rw [f_X10_needPane] at hf
  refine ow_enterT (cc := cX10_needPane) (nL := 2) (ret := none) hl0 (by decide) rfl (Nat.le_of_ble_eq_true rfl) (fun p e s m below meth c ls H locs C0 T0 hP hD hS hA hl => ?_)
  obtain ⟨hx, hb, hr, hlk, hml, hown, hts, hK, hG, hE⟩ := id C0
  have hl : lv_has ls 2 [(0, .ref a0), (1, .int x1)] := hl
  refine lv_iload_n hx hb dX10_needPane_0 rfl (lv_at hl 1 rfl) ?_
  refine lv_if_lt (tgt := 15) hx hb dX10_needPane_1 (by decide) (fun hc => ?_) (fun hc => ?_)
  · replace hf := ow_t hc hf
    refine W.widen (k := 0) (n := 0) (Nat.le_of_ble_eq_true rfl) (Nat.le_of_ble_eq_true rfl) ?_
    exact w_X10_needPane_b15 C0 T0 a0 p0 i0_13 i0_14 p1 i1_0 i1_6 i1_8 i1_10 i1_11 i1_12 v1_1 v1_2 v1_3 v1_4 v1_5 v1_7 v1_9 res v0_15 hf _ _ _ hP hD hS (lv_sub hl [0] rfl)
  · replace hf := ow_f hc hf
    refine lv_iload_n hx hb dX10_needPane_4 rfl (lv_at hl 1 rfl) ?_
    refine lv_aload_n hx hb dX10_needPane_5 rfl (lv_at hl 0 rfl) ?_
    refine va_get (D := D) (ci := 10) (v := .ref (p0 1)) (C := RX10) (T := TX10) (N := 16) hx hb hts in_X10_needPane_X10 hown hK hP 0 rfl rfl 1 (by decide) (hts (.fieldLink RX10 19 "PaneDays" "street" "LPaneDays$Street;") (List.mem_of_getElem? (i := 3) rfl)) (fun _ h9 => h9) rfl dX10_needPane_6 ?_
    refine va_get (D := D) (ci := 6) (v := .int i1_0) (C := RX6) (T := TX6) (N := 13) hx hb hts in_X10_needPane_X6 hown hK hP 2 rfl rfl 0 (by decide) (hts (.fieldLink RX10 129 "PaneDays$Street" "panes" "I") (List.mem_of_getElem? (i := 4) rfl)) (fun _ h9 => h9) rfl dX10_needPane_9 ?_
    refine lv_icmp_lt (tgt := 33) hx hb dX10_needPane_12 (by decide) (fun hc => ?_) (fun hc => ?_)
    · replace hf := ow_t hc hf
      obtain rfl := Option.some.inj hf
      exact ow_tretV C0 rfl hP hD hS (Nat.le_of_ble_eq_true rfl) (Nat.le_of_ble_eq_true rfl) dX10_needPane_33
    · replace hf := ow_f hc hf
      refine W.widen (k := 0) (n := 0) (Nat.le_of_ble_eq_true rfl) (Nat.le_of_ble_eq_true rfl) ?_
      exact w_X10_needPane_b15 C0 T0 a0 p0 i0_13 i0_14 p1 i1_0 i1_6 i1_8 i1_10 i1_11 i1_12 v1_1 v1_2 v1_3 v1_4 v1_5 v1_7 v1_9 res v0_15 hf _ _ _ hP hD hS (lv_sub hl [0] rfl)
theorem in_X10_needCell_X10 : ∀ w ∈ u_ws RX10 TX10 16, w ∈ wsX10_needCell := fun w h => List.mem_cons_of_mem _ (List.mem_append_left _ (List.mem_append_left _ (List.mem_append_left _ (List.mem_append_right _ h))))
theorem in_X10_needCell_X6 : ∀ w ∈ u_ws RX6 TX6 13, w ∈ wsX10_needCell := fun w h => List.mem_cons_of_mem _ (List.mem_append_left _ (List.mem_append_left _ (List.mem_append_right _ h)))
abbrev S_X10_needCell (cs : Nat → ClassId) (a0 : Nat) (p0 : Nat → Nat) (i0_13 : Int32) (i0_14 : Int32) (v0_15 : Nat → Int32) (p1 : Nat → Nat) (i1_0 : Int32) (i1_6 : Int32) (i1_8 : Int32) (i1_10 : Int32) (i1_11 : Int32) (i1_12 : Int32) (v1_1 : Nat → Int32) (v1_2 : Nat → Int32) (v1_3 : Nat → Int32) (v1_4 : Nat → Int32) (v1_5 : Nat → Int32) (v1_7 : Nat → Int32) (v1_9 : Nat → Int32) : List va_W := [wX10 cs a0 p0 i0_13 i0_14 v0_15, wX6 cs (p0 1) p1 i1_0 i1_6 i1_8 i1_10 i1_11 i1_12 v1_1 v1_2 v1_3 v1_4 v1_5 v1_7 v1_9]
abbrev W_X10_needCell (cs : Nat → ClassId) (a0 : Nat) (p0 : Nat → Nat) (i0_13 : Int32) (i0_14 : Int32) (v0_15 : Nat → Int32) (p1 : Nat → Nat) (i1_0 : Int32) (i1_6 : Int32) (i1_8 : Int32) (i1_10 : Int32) (i1_11 : Int32) (i1_12 : Int32) (v1_1 : Nat → Int32) (v1_2 : Nat → Int32) (v1_3 : Nat → Int32) (v1_4 : Nat → Int32) (v1_5 : Nat → Int32) (v1_7 : Nat → Int32) (v1_9 : Nat → Int32) : va_W := (S_X10_needCell cs a0 p0 i0_13 i0_14 v0_15 p1 i1_0 i1_6 i1_8 i1_10 i1_11 i1_12 v1_1 v1_2 v1_3 v1_4 v1_5 v1_7 v1_9).flatten
abbrev rm_X10_needCell : Room := { frames := 7, cells := 2, slots := 12, locals := 102 }
def f_X10_needCell_b39  (i1_0 : Int32) (v1_1 : Nat → Int32) (v1_2 : Nat → Int32)  (v0_15 : Nat → Int32)  : Option (Nat × Int32 × (Nat → Int32)) := some (3, 0, upd v0_15 (0 : Int32).toNatClampNeg ((v0_15 (0 : Int32).toNatClampNeg) + 1))
set_option maxHeartbeats 4000000 in
set_option maxRecDepth 100000 in
theorem w_X10_needCell_b39 {p : Program} {l : Launch} {e : Env} {s : State} {m : MethodId} {below : List Frame} {meth : Method} {c : Code} {D : va_G} {cs : Nat → ClassId} {av : Array Value} {w0 : va_W} (C0 : Cx p s m meth c av wsX10_needCell cX10_needCell 4 (some .int) RX10 D cs w0) (T0 : CxT l s c)  (a0 : Nat) (p0 : Nat → Nat) (i0_13 : Int32) (i0_14 : Int32) (p1 : Nat → Nat) (i1_0 : Int32) (i1_6 : Int32) (i1_8 : Int32) (i1_10 : Int32) (i1_11 : Int32) (i1_12 : Int32) (v1_1 : Nat → Int32) (v1_2 : Nat → Int32) (v1_3 : Nat → Int32) (v1_4 : Nat → Int32) (v1_5 : Nat → Int32) (v1_7 : Nat → Int32) (v1_9 : Nat → Int32) (res : Nat × Int32 × (Nat → Int32))  : ∀ (v0_15 : Nat → Int32), f_X10_needCell_b39 i1_0 v1_1 v1_2 v0_15 = some res → ∀ (H : Heap) (locs : List Loc) (ls : Array Slot), va_P D vwCl (W_X10_needCell cs a0 p0 i0_13 i0_14 v0_15 p1 i1_0 i1_6 i1_8 i1_10 i1_11 i1_12 v1_1 v1_2 v1_3 v1_4 v1_5 v1_7 v1_9) H → va_D (va_A w0 s.heap.size) (W_X10_needCell cs a0 p0 i0_13 i0_14 v0_15 p1 i1_0 i1_6 i1_8 i1_10 i1_11 i1_12 v1_1 v1_2 v1_3 v1_4 v1_5 v1_7 v1_9) → va_S (va_A w0 s.heap.size) s.heap H locs → lv_has ls 4 [(0, .ref a0)] → W p l e rm_X10_needCell s m av below meth c H locs 1 6 (vx_MQ below (xI D cs w0 (W_X10_needCell cs a0 p0 i0_13 i0_14 res.2.2 p1 i1_0 i1_6 i1_8 i1_10 i1_11 i1_12 v1_1 v1_2 v1_3 v1_4 v1_5 v1_7 v1_9) res.1 res.2.1 s.heap.size) (xX D cs w0 (W_X10_needCell cs a0 p0 i0_13 i0_14 res.2.2 p1 i1_0 i1_6 i1_8 i1_10 i1_11 i1_12 v1_1 v1_2 v1_3 v1_4 v1_5 v1_7 v1_9) res.1 s.heap.size) av s 2 12 (va_A w0 s.heap.size)) (F0 m 39 ls []) := by
  obtain ⟨hx, hb, hr, hlk, hml, hown, hts, hK, hG, hE⟩ := id C0
  intro v0_15 hf H locs ls hP hD hS hl
  rw [f_X10_needCell_b39] at hf
  refine lv_aload_n hx hb dX10_needCell_39 rfl (lv_at hl 0 rfl) ?_
  refine va_get (D := D) (ci := 10) (v := .ref (p0 15)) (C := RX10) (T := TX10) (N := 16) hx hb hts in_X10_needCell_X10 hown hK hP 0 rfl rfl 15 (by decide) (hts (.fieldLink RX10 91 "PaneDays" "refusedCalls" "[I") (List.mem_of_getElem? (i := 6) rfl)) (fun _ h9 => h9) rfl dX10_needCell_40 ?_
  refine lv_iconst (v := 0) hx hb dX10_needCell_43 (by decide) ?_
  refine lv_dup2_11 hx hb dX10_needCell_44 rfl rfl ?_
  refine va_iald (f := v0_15) hx hb hK hP 1 0 rfl rfl (vp_in_nI (n := 0) (by decide) (by decide)) dX10_needCell_45 ?_
  refine lv_iconst (v := 1) hx hb dX10_needCell_46 (by decide) ?_
  refine lv_iadd hx hb dX10_needCell_47 ?_
  refine va_iast (f := v0_15) hx hb hK hP hD hS 1 0 rfl rfl (vp_in_nI (n := 0) (by decide) (by decide)) dX10_needCell_48 (fun H locs (hP : va_P D vwCl (W_X10_needCell cs a0 p0 i0_13 i0_14 (upd v0_15 (0 : Int32).toNatClampNeg ((v0_15 (0 : Int32).toNatClampNeg) + 1)) p1 i1_0 i1_6 i1_8 i1_10 i1_11 i1_12 v1_1 v1_2 v1_3 v1_4 v1_5 v1_7 v1_9) H) (hD : va_D _ (W_X10_needCell cs a0 p0 i0_13 i0_14 (upd v0_15 (0 : Int32).toNatClampNeg ((v0_15 (0 : Int32).toNatClampNeg) + 1)) p1 i1_0 i1_6 i1_8 i1_10 i1_11 i1_12 v1_1 v1_2 v1_3 v1_4 v1_5 v1_7 v1_9)) hS => ?_)
  obtain rfl := Option.some.inj hf
  exact ow_thr (cls := "java/lang/IndexOutOfBoundsException") (ik := 390) (ic := 392) C0 T0 (show (3 : Nat) ≠ 0 by decide) rfl (by decide +kernel) (by decide +kernel) ((List.mem_of_getElem? (i := 1) rfl)) ((List.mem_of_getElem? (i := 2) rfl)) (fun w h => List.mem_cons_of_mem _ (List.mem_append_left _ (List.mem_append_right _ h))) ex_b392 ex_o392 hP hD hS hl.1 dX10_needCell_49 dX10_needCell_52 dX10_needCell_53 dX10_needCell_56 (Nat.le_of_ble_eq_true rfl) (Nat.le_of_ble_eq_true rfl) (Nat.le_of_ble_eq_true rfl) (Nat.le_of_ble_eq_true rfl) (Nat.le_of_ble_eq_true rfl) (Nat.le_of_ble_eq_true rfl)
def f_X10_needCell  (v0_15 : Nat → Int32) (i1_0 : Int32) (v1_1 : Nat → Int32) (v1_2 : Nat → Int32) (x1 : Int32) (x2 : Int32) (x3 : Int32) : Option (Nat × Int32 × (Nat → Int32)) := (f_X10_needPane v0_15 i1_0 x1).bind fun q2 => if q2.1 = 0 then (if x2 < 0 then (f_X10_needCell_b39 i1_0 v1_1 v1_2 q2.2) else (ck x1 5 (if (v1_1 (x1).toNatClampNeg) ≤ x2 then (f_X10_needCell_b39 i1_0 v1_1 v1_2 q2.2) else (if x3 < 0 then (f_X10_needCell_b39 i1_0 v1_1 v1_2 q2.2) else (ck x1 5 (if x3 < (v1_2 (x1).toNatClampNeg) then ((f_X10_cellAt x1 x2 x3).bind fun q60 => some (0, q60, q2.2)) else (f_X10_needCell_b39 i1_0 v1_1 v1_2 q2.2))))))) else (some (q2.1, 0, q2.2))
set_option maxHeartbeats 4000000 in
set_option maxRecDepth 100000 in
theorem c_X10_needCell (l : Launch) (D : va_G) (cs : Nat → ClassId) (hl0 : l.stackTraces = false)  (sz : Nat) (a0 : Nat) (p0 : Nat → Nat) (i0_13 : Int32) (i0_14 : Int32) (v0_15 : Nat → Int32) (p1 : Nat → Nat) (i1_0 : Int32) (i1_6 : Int32) (i1_8 : Int32) (i1_10 : Int32) (i1_11 : Int32) (i1_12 : Int32) (v1_1 : Nat → Int32) (v1_2 : Nat → Int32) (v1_3 : Nat → Int32) (v1_4 : Nat → Int32) (v1_5 : Nat → Int32) (v1_7 : Nat → Int32) (v1_9 : Nat → Int32) (x1 : Int32) (x2 : Int32) (x3 : Int32) (res : Nat × Int32 × (Nat → Int32)) (hf : f_X10_needCell  v0_15 i1_0 v1_1 v1_2 x1 x2 x3 = some res) : XI l D cs yX10_needCell wsX10_needCell rm_X10_needCell [.ref a0, .int x1, .int x2, .int x3] sz (W_X10_needCell cs a0 p0 i0_13 i0_14 v0_15 p1 i1_0 i1_6 i1_8 i1_10 i1_11 i1_12 v1_1 v1_2 v1_3 v1_4 v1_5 v1_7 v1_9) (W_X10_needCell cs a0 p0 i0_13 i0_14 res.2.2 p1 i1_0 i1_6 i1_8 i1_10 i1_11 i1_12 v1_1 v1_2 v1_3 v1_4 v1_5 v1_7 v1_9) res.1 res.2.1 2 12 := by
  rw [f_X10_needCell] at hf
  refine ow_enterT (cc := cX10_needCell) (nL := 4) (ret := (some .int)) hl0 (by decide) rfl (Nat.le_of_ble_eq_true rfl) (fun p e s m below meth c ls H locs C0 T0 hP hD hS hA hl => ?_)
  obtain ⟨hx, hb, hr, hlk, hml, hown, hts, hK, hG, hE⟩ := id C0
  have hl : lv_has ls 4 [(0, .ref a0), (1, .int x1), (2, .int x2), (3, .int x3)] := hl
  refine lv_aload_n hx hb dX10_needCell_0 rfl (lv_at hl 0 rfl) ?_
  refine lv_iload_n hx hb dX10_needCell_1 rfl (lv_at hl 1 rfl) ?_
  obtain ⟨q2, hq, hf⟩ := bd_some hf
  refine ow_gtVV (As := [.int x1]) (rest := []) (sg := (S_X10_needCell cs a0 p0 i0_13 i0_14 v0_15 p1 i1_0 i1_6 i1_8 i1_10 i1_11 i1_12 v1_1 v1_2 v1_3 v1_4 v1_5 v1_7 v1_9)) (sc := [wX10 cs a0 p0 i0_13 i0_14 v0_15, wX6 cs (p0 1) p1 i1_0 i1_6 i1_8 i1_10 i1_11 i1_12 v1_1 v1_2 v1_3 v1_4 v1_5 v1_7 v1_9]) (sc' := [wX10 cs a0 p0 i0_13 i0_14 q2.2, wX6 cs (p0 1) p1 i1_0 i1_6 i1_8 i1_10 i1_11 i1_12 v1_1 v1_2 v1_3 v1_4 v1_5 v1_7 v1_9]) (sr := ow_pks (S_X10_needCell cs a0 p0 i0_13 i0_14 v0_15 p1 i1_0 i1_6 i1_8 i1_10 i1_11 i1_12 v1_1 v1_2 v1_3 v1_4 v1_5 v1_7 v1_9) []) (sf := (S_X10_needCell cs a0 p0 i0_13 i0_14 q2.2 p1 i1_0 i1_6 i1_8 i1_10 i1_11 i1_12 v1_1 v1_2 v1_3 v1_4 v1_5 v1_7 v1_9)) (k := q2.1) C0 T0 (c_X10_needPane l D cs T0.1 H.size a0 p0 i0_13 i0_14 v0_15 p1 i1_0 i1_6 i1_8 i1_10 i1_11 i1_12 v1_1 v1_2 v1_3 v1_4 v1_5 v1_7 v1_9 x1 q2 hq) (cwV 1 hts gX10_needCell_X10_needPane rfl rfl rfl (by decide +kernel) ⟨Nat.le_of_ble_eq_true rfl, Nat.le_of_ble_eq_true rfl⟩) 10 rfl rfl hP hD hS (sg_permL [0, 1] [] 2 rfl (by decide) rfl rfl) (sg_permG [0, 1] 2 rfl (by decide) rfl) rfl hl.1 rfl (Nat.le_of_ble_eq_true rfl) ⟨(Nat.le_of_ble_eq_true rfl), (Nat.le_of_ble_eq_true rfl)⟩ dX10_needCell_2 (fun hz => ?_) (Nat.le_of_ble_eq_true rfl) (Nat.le_of_ble_eq_true rfl) (fun hz H locs (hP : va_P D vwCl (W_X10_needCell cs a0 p0 i0_13 i0_14 q2.2 p1 i1_0 i1_6 i1_8 i1_10 i1_11 i1_12 v1_1 v1_2 v1_3 v1_4 v1_5 v1_7 v1_9) H) (hD : va_D _ (W_X10_needCell cs a0 p0 i0_13 i0_14 q2.2 p1 i1_0 i1_6 i1_8 i1_10 i1_11 i1_12 v1_1 v1_2 v1_3 v1_4 v1_5 v1_7 v1_9)) hS => ?_)
  · replace hf := ow_f hz hf
    obtain rfl := Option.some.inj hf
    exact ⟨rfl, rfl⟩
  replace hf := ow_t hz hf
  refine lv_iload_n hx hb dX10_needCell_5 rfl (lv_at hl 2 rfl) ?_
  refine lv_if_lt (tgt := 39) hx hb dX10_needCell_6 (by decide) (fun hc => ?_) (fun hc => ?_)
  · replace hf := ow_t hc hf
    refine W.widen (k := 1) (n := 6) (Nat.le_of_ble_eq_true rfl) (Nat.le_of_ble_eq_true rfl) ?_
    exact w_X10_needCell_b39 C0 T0 a0 p0 i0_13 i0_14 p1 i1_0 i1_6 i1_8 i1_10 i1_11 i1_12 v1_1 v1_2 v1_3 v1_4 v1_5 v1_7 v1_9 res q2.2 hf _ _ _ hP hD hS (lv_sub hl [0] rfl)
  · replace hf := ow_f hc hf
    refine lv_iload_n hx hb dX10_needCell_9 rfl (lv_at hl 2 rfl) ?_
    refine lv_aload_n hx hb dX10_needCell_10 rfl (lv_at hl 0 rfl) ?_
    refine va_get (D := D) (ci := 10) (v := .ref (p0 1)) (C := RX10) (T := TX10) (N := 16) hx hb hts in_X10_needCell_X10 hown hK hP 0 rfl rfl 1 (by decide) (hts (.fieldLink RX10 19 "PaneDays" "street" "LPaneDays$Street;") (List.mem_of_getElem? (i := 3) rfl)) (fun _ h9 => h9) rfl dX10_needCell_11 ?_
    refine va_get (D := D) (ci := 6) (v := .ref (p1 1)) (C := RX6) (T := TX6) (N := 13) hx hb hts in_X10_needCell_X6 hown hK hP 2 rfl rfl 1 (by decide) (hts (.fieldLink RX10 189 "PaneDays$Street" "wide" "[I") (List.mem_of_getElem? (i := 4) rfl)) (fun _ h9 => h9) rfl dX10_needCell_14 ?_
    refine lv_iload_n hx hb dX10_needCell_17 rfl (lv_at hl 1 rfl) ?_
    obtain ⟨hin, hf⟩ := ck_some hf
    refine va_iald (f := v1_1) hx hb hK hP 3 0 rfl rfl hin dX10_needCell_18 ?_
    refine lv_icmp_ge (tgt := 39) hx hb dX10_needCell_19 (by decide) (fun hc => ?_) (fun hc => ?_)
    · replace hf := ow_t hc hf
      refine W.widen (k := 1) (n := 6) (Nat.le_of_ble_eq_true rfl) (Nat.le_of_ble_eq_true rfl) ?_
      exact w_X10_needCell_b39 C0 T0 a0 p0 i0_13 i0_14 p1 i1_0 i1_6 i1_8 i1_10 i1_11 i1_12 v1_1 v1_2 v1_3 v1_4 v1_5 v1_7 v1_9 res q2.2 hf _ _ _ hP hD hS (lv_sub hl [0] rfl)
    · replace hf := ow_f hc hf
      refine lv_iload_n hx hb dX10_needCell_22 rfl (lv_at hl 3 rfl) ?_
      refine lv_if_lt (tgt := 39) hx hb dX10_needCell_23 (by decide) (fun hc => ?_) (fun hc => ?_)
      · replace hf := ow_t hc hf
        refine W.widen (k := 1) (n := 6) (Nat.le_of_ble_eq_true rfl) (Nat.le_of_ble_eq_true rfl) ?_
        exact w_X10_needCell_b39 C0 T0 a0 p0 i0_13 i0_14 p1 i1_0 i1_6 i1_8 i1_10 i1_11 i1_12 v1_1 v1_2 v1_3 v1_4 v1_5 v1_7 v1_9 res q2.2 hf _ _ _ hP hD hS (lv_sub hl [0] rfl)
      · replace hf := ow_f hc hf
        refine lv_iload_n hx hb dX10_needCell_26 rfl (lv_at hl 3 rfl) ?_
        refine lv_aload_n hx hb dX10_needCell_27 rfl (lv_at hl 0 rfl) ?_
        refine va_get (D := D) (ci := 10) (v := .ref (p0 1)) (C := RX10) (T := TX10) (N := 16) hx hb hts in_X10_needCell_X10 hown hK hP 0 rfl rfl 1 (by decide) (hts (.fieldLink RX10 19 "PaneDays" "street" "LPaneDays$Street;") (List.mem_of_getElem? (i := 3) rfl)) (fun _ h9 => h9) rfl dX10_needCell_28 ?_
        refine va_get (D := D) (ci := 6) (v := .ref (p1 2)) (C := RX6) (T := TX6) (N := 13) hx hb hts in_X10_needCell_X6 hown hK hP 2 rfl rfl 2 (by decide) (hts (.fieldLink RX10 192 "PaneDays$Street" "high" "[I") (List.mem_of_getElem? (i := 5) rfl)) (fun _ h9 => h9) rfl dX10_needCell_31 ?_
        refine lv_iload_n hx hb dX10_needCell_34 rfl (lv_at hl 1 rfl) ?_
        obtain ⟨hin, hf⟩ := ck_some hf
        refine va_iald (f := v1_2) hx hb hK hP 4 0 rfl rfl hin dX10_needCell_35 ?_
        refine lv_icmp_lt (tgt := 57) hx hb dX10_needCell_36 (by decide) (fun hc => ?_) (fun hc => ?_)
        · replace hf := ow_t hc hf
          refine lv_iload_n hx hb dX10_needCell_57 rfl (lv_at hl 1 rfl) ?_
          refine lv_iload_n hx hb dX10_needCell_58 rfl (lv_at hl 2 rfl) ?_
          refine lv_iload_n hx hb dX10_needCell_59 rfl (lv_at hl 3 rfl) ?_
          obtain ⟨q60, hq, hf⟩ := bd_some hf
          refine ow_gSI (As := [.int x1, .int x2, .int x3]) (rest := []) (sg := (S_X10_needCell cs a0 p0 i0_13 i0_14 q2.2 p1 i1_0 i1_6 i1_8 i1_10 i1_11 i1_12 v1_1 v1_2 v1_3 v1_4 v1_5 v1_7 v1_9)) (sc := ([] : List va_W)) (sc' := ([] : List va_W)) (sr := ow_pks (S_X10_needCell cs a0 p0 i0_13 i0_14 q2.2 p1 i1_0 i1_6 i1_8 i1_10 i1_11 i1_12 v1_1 v1_2 v1_3 v1_4 v1_5 v1_7 v1_9) [0, 1]) (sf := (S_X10_needCell cs a0 p0 i0_13 i0_14 q2.2 p1 i1_0 i1_6 i1_8 i1_10 i1_11 i1_12 v1_1 v1_2 v1_3 v1_4 v1_5 v1_7 v1_9)) (r := q60) C0 (c_X10_cellAt l D cs H.size  x1 x2 x3 q60 hq) (va_cwS 3 hts gX10_needCell_X10_cellAt rfl rfl rfl (by decide +kernel) ⟨Nat.le_of_ble_eq_true rfl, Nat.le_of_ble_eq_true rfl⟩) hP hD hS (sg_permL [] [0, 1] 2 rfl (by decide) rfl rfl) (sg_permG [0, 1] 2 rfl (by decide) rfl) rfl hl.1 rfl (Nat.le_of_ble_eq_true rfl) ⟨(Nat.le_of_ble_eq_true rfl), (Nat.le_of_ble_eq_true rfl)⟩ dX10_needCell_60 (fun H locs (hP : va_P D vwCl (W_X10_needCell cs a0 p0 i0_13 i0_14 q2.2 p1 i1_0 i1_6 i1_8 i1_10 i1_11 i1_12 v1_1 v1_2 v1_3 v1_4 v1_5 v1_7 v1_9) H) (hD : va_D _ (W_X10_needCell cs a0 p0 i0_13 i0_14 q2.2 p1 i1_0 i1_6 i1_8 i1_10 i1_11 i1_12 v1_1 v1_2 v1_3 v1_4 v1_5 v1_7 v1_9)) hS => ?_)
          obtain rfl := Option.some.inj hf
          exact ow_tretI C0 rfl hP hD hS (Nat.le_of_ble_eq_true rfl) (Nat.le_of_ble_eq_true rfl) dX10_needCell_63
        · replace hf := ow_f hc hf
          refine W.widen (k := 1) (n := 6) (Nat.le_of_ble_eq_true rfl) (Nat.le_of_ble_eq_true rfl) ?_
          exact w_X10_needCell_b39 C0 T0 a0 p0 i0_13 i0_14 p1 i1_0 i1_6 i1_8 i1_10 i1_11 i1_12 v1_1 v1_2 v1_3 v1_4 v1_5 v1_7 v1_9 res q2.2 hf _ _ _ hP hD hS (lv_sub hl [0] rfl)
theorem in_X10_needOrder_X10 : ∀ w ∈ u_ws RX10 TX10 16, w ∈ wsX10_needOrder := fun w h => List.mem_cons_of_mem _ (List.mem_append_left _ (List.mem_append_left _ (List.mem_append_right _ h)))
theorem in_X10_needOrder_X6 : ∀ w ∈ u_ws RX6 TX6 13, w ∈ wsX10_needOrder := fun w h => List.mem_cons_of_mem _ (List.mem_append_left _ (List.mem_append_right _ h))
abbrev S_X10_needOrder (cs : Nat → ClassId) (a0 : Nat) (p0 : Nat → Nat) (i0_13 : Int32) (i0_14 : Int32) (v0_15 : Nat → Int32) (p1 : Nat → Nat) (i1_0 : Int32) (i1_6 : Int32) (i1_8 : Int32) (i1_10 : Int32) (i1_11 : Int32) (i1_12 : Int32) (v1_1 : Nat → Int32) (v1_2 : Nat → Int32) (v1_3 : Nat → Int32) (v1_4 : Nat → Int32) (v1_5 : Nat → Int32) (v1_7 : Nat → Int32) (v1_9 : Nat → Int32) : List va_W := [wX10 cs a0 p0 i0_13 i0_14 v0_15, wX6 cs (p0 1) p1 i1_0 i1_6 i1_8 i1_10 i1_11 i1_12 v1_1 v1_2 v1_3 v1_4 v1_5 v1_7 v1_9]
abbrev W_X10_needOrder (cs : Nat → ClassId) (a0 : Nat) (p0 : Nat → Nat) (i0_13 : Int32) (i0_14 : Int32) (v0_15 : Nat → Int32) (p1 : Nat → Nat) (i1_0 : Int32) (i1_6 : Int32) (i1_8 : Int32) (i1_10 : Int32) (i1_11 : Int32) (i1_12 : Int32) (v1_1 : Nat → Int32) (v1_2 : Nat → Int32) (v1_3 : Nat → Int32) (v1_4 : Nat → Int32) (v1_5 : Nat → Int32) (v1_7 : Nat → Int32) (v1_9 : Nat → Int32) : va_W := (S_X10_needOrder cs a0 p0 i0_13 i0_14 v0_15 p1 i1_0 i1_6 i1_8 i1_10 i1_11 i1_12 v1_1 v1_2 v1_3 v1_4 v1_5 v1_7 v1_9).flatten
abbrev rm_X10_needOrder : Room := { frames := 6, cells := 1, slots := 6, locals := 81 }
def f_X10_needOrder_b15  (i1_8 : Int32)  (v0_15 : Nat → Int32)  : Option (Nat × (Nat → Int32)) := some (2, upd v0_15 (1 : Int32).toNatClampNeg ((v0_15 (1 : Int32).toNatClampNeg) + 1))
set_option maxHeartbeats 4000000 in
set_option maxRecDepth 100000 in
theorem w_X10_needOrder_b15 {p : Program} {l : Launch} {e : Env} {s : State} {m : MethodId} {below : List Frame} {meth : Method} {c : Code} {D : va_G} {cs : Nat → ClassId} {av : Array Value} {w0 : va_W} (C0 : Cx p s m meth c av wsX10_needOrder cX10_needOrder 2 none RX10 D cs w0) (T0 : CxT l s c)  (a0 : Nat) (p0 : Nat → Nat) (i0_13 : Int32) (i0_14 : Int32) (p1 : Nat → Nat) (i1_0 : Int32) (i1_6 : Int32) (i1_8 : Int32) (i1_10 : Int32) (i1_11 : Int32) (i1_12 : Int32) (v1_1 : Nat → Int32) (v1_2 : Nat → Int32) (v1_3 : Nat → Int32) (v1_4 : Nat → Int32) (v1_5 : Nat → Int32) (v1_7 : Nat → Int32) (v1_9 : Nat → Int32) (res : Nat × (Nat → Int32))  : ∀ (v0_15 : Nat → Int32), f_X10_needOrder_b15 i1_8 v0_15 = some res → ∀ (H : Heap) (locs : List Loc) (ls : Array Slot), va_P D vwCl (W_X10_needOrder cs a0 p0 i0_13 i0_14 v0_15 p1 i1_0 i1_6 i1_8 i1_10 i1_11 i1_12 v1_1 v1_2 v1_3 v1_4 v1_5 v1_7 v1_9) H → va_D (va_A w0 s.heap.size) (W_X10_needOrder cs a0 p0 i0_13 i0_14 v0_15 p1 i1_0 i1_6 i1_8 i1_10 i1_11 i1_12 v1_1 v1_2 v1_3 v1_4 v1_5 v1_7 v1_9) → va_S (va_A w0 s.heap.size) s.heap H locs → lv_has ls 2 [(0, .ref a0)] → W p l e rm_X10_needOrder s m av below meth c H locs 0 0 (vx_MQ below (xV D cs w0 (W_X10_needOrder cs a0 p0 i0_13 i0_14 res.2 p1 i1_0 i1_6 i1_8 i1_10 i1_11 i1_12 v1_1 v1_2 v1_3 v1_4 v1_5 v1_7 v1_9) res.1 s.heap.size) (xX D cs w0 (W_X10_needOrder cs a0 p0 i0_13 i0_14 res.2 p1 i1_0 i1_6 i1_8 i1_10 i1_11 i1_12 v1_1 v1_2 v1_3 v1_4 v1_5 v1_7 v1_9) res.1 s.heap.size) av s 1 6 (va_A w0 s.heap.size)) (F0 m 15 ls []) := by
  obtain ⟨hx, hb, hr, hlk, hml, hown, hts, hK, hG, hE⟩ := id C0
  intro v0_15 hf H locs ls hP hD hS hl
  rw [f_X10_needOrder_b15] at hf
  refine lv_aload_n hx hb dX10_needOrder_15 rfl (lv_at hl 0 rfl) ?_
  refine va_get (D := D) (ci := 10) (v := .ref (p0 15)) (C := RX10) (T := TX10) (N := 16) hx hb hts in_X10_needOrder_X10 hown hK hP 0 rfl rfl 15 (by decide) (hts (.fieldLink RX10 91 "PaneDays" "refusedCalls" "[I") (List.mem_of_getElem? (i := 5) rfl)) (fun _ h9 => h9) rfl dX10_needOrder_16 ?_
  refine lv_iconst (v := 1) hx hb dX10_needOrder_19 (by decide) ?_
  refine lv_dup2_11 hx hb dX10_needOrder_20 rfl rfl ?_
  refine va_iald (f := v0_15) hx hb hK hP 1 0 rfl rfl (vp_in_nI (n := 1) (by decide) (by decide)) dX10_needOrder_21 ?_
  refine lv_iconst (v := 1) hx hb dX10_needOrder_22 (by decide) ?_
  refine lv_iadd hx hb dX10_needOrder_23 ?_
  refine va_iast (f := v0_15) hx hb hK hP hD hS 1 0 rfl rfl (vp_in_nI (n := 1) (by decide) (by decide)) dX10_needOrder_24 (fun H locs (hP : va_P D vwCl (W_X10_needOrder cs a0 p0 i0_13 i0_14 (upd v0_15 (1 : Int32).toNatClampNeg ((v0_15 (1 : Int32).toNatClampNeg) + 1)) p1 i1_0 i1_6 i1_8 i1_10 i1_11 i1_12 v1_1 v1_2 v1_3 v1_4 v1_5 v1_7 v1_9) H) (hD : va_D _ (W_X10_needOrder cs a0 p0 i0_13 i0_14 (upd v0_15 (1 : Int32).toNatClampNeg ((v0_15 (1 : Int32).toNatClampNeg) + 1)) p1 i1_0 i1_6 i1_8 i1_10 i1_11 i1_12 v1_1 v1_2 v1_3 v1_4 v1_5 v1_7 v1_9)) hS => ?_)
  obtain rfl := Option.some.inj hf
  exact ow_thr (cls := "java/util/NoSuchElementException") (ik := 387) (ic := 389) C0 T0 (show (2 : Nat) ≠ 0 by decide) rfl (by decide +kernel) (by decide +kernel) ((List.mem_of_getElem? (i := 1) rfl)) ((List.mem_of_getElem? (i := 2) rfl)) (fun w h => List.mem_cons_of_mem _ (List.mem_append_right _ h)) ex_b389 ex_o389 hP hD hS hl.1 dX10_needOrder_25 dX10_needOrder_28 dX10_needOrder_29 dX10_needOrder_32 (Nat.le_of_ble_eq_true rfl) (Nat.le_of_ble_eq_true rfl) (Nat.le_of_ble_eq_true rfl) (Nat.le_of_ble_eq_true rfl) (Nat.le_of_ble_eq_true rfl) (Nat.le_of_ble_eq_true rfl)
def f_X10_needOrder  (v0_15 : Nat → Int32) (i1_8 : Int32) (x1 : Int32) : Option (Nat × (Nat → Int32)) := if x1 < 0 then (f_X10_needOrder_b15 i1_8 v0_15) else (if x1 < i1_8 then (some (0, v0_15)) else (f_X10_needOrder_b15 i1_8 v0_15))
set_option maxHeartbeats 4000000 in
set_option maxRecDepth 100000 in
theorem c_X10_needOrder (l : Launch) (D : va_G) (cs : Nat → ClassId) (hl0 : l.stackTraces = false)  (sz : Nat) (a0 : Nat) (p0 : Nat → Nat) (i0_13 : Int32) (i0_14 : Int32) (v0_15 : Nat → Int32) (p1 : Nat → Nat) (i1_0 : Int32) (i1_6 : Int32) (i1_8 : Int32) (i1_10 : Int32) (i1_11 : Int32) (i1_12 : Int32) (v1_1 : Nat → Int32) (v1_2 : Nat → Int32) (v1_3 : Nat → Int32) (v1_4 : Nat → Int32) (v1_5 : Nat → Int32) (v1_7 : Nat → Int32) (v1_9 : Nat → Int32) (x1 : Int32) (res : Nat × (Nat → Int32)) (hf : f_X10_needOrder  v0_15 i1_8 x1 = some res) : XV l D cs yX10_needOrder wsX10_needOrder rm_X10_needOrder [.ref a0, .int x1] sz (W_X10_needOrder cs a0 p0 i0_13 i0_14 v0_15 p1 i1_0 i1_6 i1_8 i1_10 i1_11 i1_12 v1_1 v1_2 v1_3 v1_4 v1_5 v1_7 v1_9) (W_X10_needOrder cs a0 p0 i0_13 i0_14 res.2 p1 i1_0 i1_6 i1_8 i1_10 i1_11 i1_12 v1_1 v1_2 v1_3 v1_4 v1_5 v1_7 v1_9) res.1 1 6 := by
  rw [f_X10_needOrder] at hf
  refine ow_enterT (cc := cX10_needOrder) (nL := 2) (ret := none) hl0 (by decide) rfl (Nat.le_of_ble_eq_true rfl) (fun p e s m below meth c ls H locs C0 T0 hP hD hS hA hl => ?_)
  obtain ⟨hx, hb, hr, hlk, hml, hown, hts, hK, hG, hE⟩ := id C0
  have hl : lv_has ls 2 [(0, .ref a0), (1, .int x1)] := hl
  refine lv_iload_n hx hb dX10_needOrder_0 rfl (lv_at hl 1 rfl) ?_
  refine lv_if_lt (tgt := 15) hx hb dX10_needOrder_1 (by decide) (fun hc => ?_) (fun hc => ?_)
  · replace hf := ow_t hc hf
    refine W.widen (k := 0) (n := 0) (Nat.le_of_ble_eq_true rfl) (Nat.le_of_ble_eq_true rfl) ?_
    exact w_X10_needOrder_b15 C0 T0 a0 p0 i0_13 i0_14 p1 i1_0 i1_6 i1_8 i1_10 i1_11 i1_12 v1_1 v1_2 v1_3 v1_4 v1_5 v1_7 v1_9 res v0_15 hf _ _ _ hP hD hS (lv_sub hl [0] rfl)
  · replace hf := ow_f hc hf
    refine lv_iload_n hx hb dX10_needOrder_4 rfl (lv_at hl 1 rfl) ?_
    refine lv_aload_n hx hb dX10_needOrder_5 rfl (lv_at hl 0 rfl) ?_
    refine va_get (D := D) (ci := 10) (v := .ref (p0 1)) (C := RX10) (T := TX10) (N := 16) hx hb hts in_X10_needOrder_X10 hown hK hP 0 rfl rfl 1 (by decide) (hts (.fieldLink RX10 19 "PaneDays" "street" "LPaneDays$Street;") (List.mem_of_getElem? (i := 3) rfl)) (fun _ h9 => h9) rfl dX10_needOrder_6 ?_
    refine va_get (D := D) (ci := 6) (v := .int i1_8) (C := RX6) (T := TX6) (N := 13) hx hb hts in_X10_needOrder_X6 hown hK hP 2 rfl rfl 8 (by decide) (hts (.fieldLink RX10 165 "PaneDays$Street" "orders" "I") (List.mem_of_getElem? (i := 4) rfl)) (fun _ h9 => h9) rfl dX10_needOrder_9 ?_
    refine lv_icmp_lt (tgt := 33) hx hb dX10_needOrder_12 (by decide) (fun hc => ?_) (fun hc => ?_)
    · replace hf := ow_t hc hf
      obtain rfl := Option.some.inj hf
      exact ow_tretV C0 rfl hP hD hS (Nat.le_of_ble_eq_true rfl) (Nat.le_of_ble_eq_true rfl) dX10_needOrder_33
    · replace hf := ow_f hc hf
      refine W.widen (k := 0) (n := 0) (Nat.le_of_ble_eq_true rfl) (Nat.le_of_ble_eq_true rfl) ?_
      exact w_X10_needOrder_b15 C0 T0 a0 p0 i0_13 i0_14 p1 i1_0 i1_6 i1_8 i1_10 i1_11 i1_12 v1_1 v1_2 v1_3 v1_4 v1_5 v1_7 v1_9 res v0_15 hf _ _ _ hP hD hS (lv_sub hl [0] rfl)
theorem in_X10_need_X10 : ∀ w ∈ u_ws RX10 TX10 16, w ∈ wsX10_need := fun w h => List.mem_cons_of_mem _ (List.mem_append_left _ (List.mem_append_right _ h))
abbrev S_X10_need (cs : Nat → ClassId) (a0 : Nat) (p0 : Nat → Nat) (i0_13 : Int32) (i0_14 : Int32) (v0_15 : Nat → Int32) : List va_W := [wX10 cs a0 p0 i0_13 i0_14 v0_15]
abbrev W_X10_need (cs : Nat → ClassId) (a0 : Nat) (p0 : Nat → Nat) (i0_13 : Int32) (i0_14 : Int32) (v0_15 : Nat → Int32) : va_W := (S_X10_need cs a0 p0 i0_13 i0_14 v0_15).flatten
abbrev rm_X10_need : Room := { frames := 6, cells := 1, slots := 6, locals := 81 }
def f_X10_need  (v0_15 : Nat → Int32) (x1 : Int32) : Option (Nat × (Nat → Int32)) := if x1 = 0 then (some (1, upd v0_15 (2 : Int32).toNatClampNeg ((v0_15 (2 : Int32).toNatClampNeg) + 1))) else (some (0, v0_15))
set_option maxHeartbeats 4000000 in
set_option maxRecDepth 100000 in
theorem c_X10_need (l : Launch) (D : va_G) (cs : Nat → ClassId) (hl0 : l.stackTraces = false)  (sz : Nat) (a0 : Nat) (p0 : Nat → Nat) (i0_13 : Int32) (i0_14 : Int32) (v0_15 : Nat → Int32) (x1 : Int32) (res : Nat × (Nat → Int32)) (hf : f_X10_need  v0_15 x1 = some res) : XV l D cs yX10_need wsX10_need rm_X10_need [.ref a0, .int x1] sz (W_X10_need cs a0 p0 i0_13 i0_14 v0_15) (W_X10_need cs a0 p0 i0_13 i0_14 res.2) res.1 1 6 := by
  rw [f_X10_need] at hf
  refine ow_enterT (cc := cX10_need) (nL := 2) (ret := none) hl0 (by decide) rfl (Nat.le_of_ble_eq_true rfl) (fun p e s m below meth c ls H locs C0 T0 hP hD hS hA hl => ?_)
  obtain ⟨hx, hb, hr, hlk, hml, hown, hts, hK, hG, hE⟩ := id C0
  have hl : lv_has ls 2 [(0, .ref a0), (1, .int x1)] := hl
  refine lv_iload_n hx hb dX10_need_0 rfl (lv_at hl 1 rfl) ?_
  refine lv_if_ne (tgt := 22) hx hb dX10_need_1 (by decide) (fun hc => ?_) (fun hc => ?_)
  · replace hf := ow_f hc hf
    obtain rfl := Option.some.inj hf
    exact ow_tretV C0 rfl hP hD hS (Nat.le_of_ble_eq_true rfl) (Nat.le_of_ble_eq_true rfl) dX10_need_22
  · replace hf := ow_t hc hf
    refine lv_aload_n hx hb dX10_need_4 rfl (lv_at hl 0 rfl) ?_
    refine va_get (D := D) (ci := 10) (v := .ref (p0 15)) (C := RX10) (T := TX10) (N := 16) hx hb hts in_X10_need_X10 hown hK hP 0 rfl rfl 15 (by decide) (hts (.fieldLink RX10 91 "PaneDays" "refusedCalls" "[I") (List.mem_of_getElem? (i := 3) rfl)) (fun _ h9 => h9) rfl dX10_need_5 ?_
    refine lv_iconst (v := 2) hx hb dX10_need_8 (by decide) ?_
    refine lv_dup2_11 hx hb dX10_need_9 rfl rfl ?_
    refine va_iald (f := v0_15) hx hb hK hP 1 0 rfl rfl (vp_in_nI (n := 2) (by decide) (by decide)) dX10_need_10 ?_
    refine lv_iconst (v := 1) hx hb dX10_need_11 (by decide) ?_
    refine lv_iadd hx hb dX10_need_12 ?_
    refine va_iast (f := v0_15) hx hb hK hP hD hS 1 0 rfl rfl (vp_in_nI (n := 2) (by decide) (by decide)) dX10_need_13 (fun H locs (hP : va_P D vwCl (W_X10_need cs a0 p0 i0_13 i0_14 (upd v0_15 (2 : Int32).toNatClampNeg ((v0_15 (2 : Int32).toNatClampNeg) + 1))) H) (hD : va_D _ (W_X10_need cs a0 p0 i0_13 i0_14 (upd v0_15 (2 : Int32).toNatClampNeg ((v0_15 (2 : Int32).toNatClampNeg) + 1)))) hS => ?_)
    obtain rfl := Option.some.inj hf
    exact ow_thr (cls := "java/lang/IllegalArgumentException") (ik := 384) (ic := 386) C0 T0 (show (1 : Nat) ≠ 0 by decide) rfl (by decide +kernel) (by decide +kernel) ((List.mem_of_getElem? (i := 1) rfl)) ((List.mem_of_getElem? (i := 2) rfl)) (fun w h => List.mem_cons_of_mem _ (List.mem_append_right _ h)) ex_b386 ex_o386 hP hD hS hl.1 dX10_need_14 dX10_need_17 dX10_need_18 dX10_need_21 (Nat.le_of_ble_eq_true rfl) (Nat.le_of_ble_eq_true rfl) (Nat.le_of_ble_eq_true rfl) (Nat.le_of_ble_eq_true rfl) (Nat.le_of_ble_eq_true rfl) (Nat.le_of_ble_eq_true rfl)
abbrev S_X10_needDecade (cs : Nat → ClassId) (a0 : Nat) (p0 : Nat → Nat) (i0_13 : Int32) (i0_14 : Int32) (v0_15 : Nat → Int32) : List va_W := [wX10 cs a0 p0 i0_13 i0_14 v0_15]
abbrev W_X10_needDecade (cs : Nat → ClassId) (a0 : Nat) (p0 : Nat → Nat) (i0_13 : Int32) (i0_14 : Int32) (v0_15 : Nat → Int32) : va_W := (S_X10_needDecade cs a0 p0 i0_13 i0_14 v0_15).flatten
abbrev rm_X10_needDecade : Room := { frames := 7, cells := 1, slots := 6, locals := 102 }
def f_X10_needDecade_b27    (v0_15 : Nat → Int32) (t1 : Int32) : Option (Nat × (Nat → Int32)) := (f_X10_need v0_15 t1).bind fun q27 => if q27.1 = 0 then (some (0, q27.2)) else (some (q27.1, q27.2))
set_option maxHeartbeats 4000000 in
set_option maxRecDepth 100000 in
theorem w_X10_needDecade_b27 {p : Program} {l : Launch} {e : Env} {s : State} {m : MethodId} {below : List Frame} {meth : Method} {c : Code} {D : va_G} {cs : Nat → ClassId} {av : Array Value} {w0 : va_W} (C0 : Cx p s m meth c av wsX10_needDecade cX10_needDecade 3 none RX10 D cs w0) (T0 : CxT l s c)  (a0 : Nat) (p0 : Nat → Nat) (i0_13 : Int32) (i0_14 : Int32) (res : Nat × (Nat → Int32))  : ∀ (v0_15 : Nat → Int32) (t1 : Int32), f_X10_needDecade_b27 v0_15 t1 = some res → ∀ (H : Heap) (locs : List Loc) (ls : Array Slot), va_P D vwCl (W_X10_needDecade cs a0 p0 i0_13 i0_14 v0_15) H → va_D (va_A w0 s.heap.size) (W_X10_needDecade cs a0 p0 i0_13 i0_14 v0_15) → va_S (va_A w0 s.heap.size) s.heap H locs → lv_has ls 3 [] → W p l e rm_X10_needDecade s m av below meth c H locs 0 0 (vx_MQ below (xV D cs w0 (W_X10_needDecade cs a0 p0 i0_13 i0_14 res.2) res.1 s.heap.size) (xX D cs w0 (W_X10_needDecade cs a0 p0 i0_13 i0_14 res.2) res.1 s.heap.size) av s 1 6 (va_A w0 s.heap.size)) (F0 m 27 ls [.int t1, .ref a0]) := by
  obtain ⟨hx, hb, hr, hlk, hml, hown, hts, hK, hG, hE⟩ := id C0
  intro v0_15 t1 hf H locs ls hP hD hS hl
  rw [f_X10_needDecade_b27] at hf
  obtain ⟨q27, hq, hf⟩ := bd_some hf
  refine ow_gtVV (As := [.int t1]) (rest := []) (sg := (S_X10_needDecade cs a0 p0 i0_13 i0_14 v0_15)) (sc := [wX10 cs a0 p0 i0_13 i0_14 v0_15]) (sc' := [wX10 cs a0 p0 i0_13 i0_14 q27.2]) (sr := ow_pks (S_X10_needDecade cs a0 p0 i0_13 i0_14 v0_15) []) (sf := (S_X10_needDecade cs a0 p0 i0_13 i0_14 q27.2)) (k := q27.1) C0 T0 (c_X10_need l D cs T0.1 H.size a0 p0 i0_13 i0_14 v0_15 t1 q27 hq) (cwV 1 hts gX10_needDecade_X10_need rfl rfl rfl (by decide +kernel) ⟨Nat.le_of_ble_eq_true rfl, Nat.le_of_ble_eq_true rfl⟩) 10 rfl rfl hP hD hS (sg_permL [0] [] 1 rfl (by decide) rfl rfl) (sg_permG [0] 1 rfl (by decide) rfl) rfl hl.1 rfl (Nat.le_of_ble_eq_true rfl) ⟨(Nat.le_of_ble_eq_true rfl), (Nat.le_of_ble_eq_true rfl)⟩ dX10_needDecade_27 (fun hz => ?_) (Nat.le_of_ble_eq_true rfl) (Nat.le_of_ble_eq_true rfl) (fun hz H locs (hP : va_P D vwCl (W_X10_needDecade cs a0 p0 i0_13 i0_14 q27.2) H) (hD : va_D _ (W_X10_needDecade cs a0 p0 i0_13 i0_14 q27.2)) hS => ?_)
  · replace hf := ow_f hz hf
    obtain rfl := Option.some.inj hf
    exact ⟨rfl, rfl⟩
  replace hf := ow_t hz hf
  obtain rfl := Option.some.inj hf
  exact ow_tretV C0 rfl hP hD hS (Nat.le_of_ble_eq_true rfl) (Nat.le_of_ble_eq_true rfl) dX10_needDecade_30
def f_X10_needDecade_b26    (v0_15 : Nat → Int32)  : Option (Nat × (Nat → Int32)) := f_X10_needDecade_b27 v0_15 (0)
set_option maxHeartbeats 4000000 in
set_option maxRecDepth 100000 in
theorem w_X10_needDecade_b26 {p : Program} {l : Launch} {e : Env} {s : State} {m : MethodId} {below : List Frame} {meth : Method} {c : Code} {D : va_G} {cs : Nat → ClassId} {av : Array Value} {w0 : va_W} (C0 : Cx p s m meth c av wsX10_needDecade cX10_needDecade 3 none RX10 D cs w0) (T0 : CxT l s c)  (a0 : Nat) (p0 : Nat → Nat) (i0_13 : Int32) (i0_14 : Int32) (res : Nat × (Nat → Int32))  : ∀ (v0_15 : Nat → Int32), f_X10_needDecade_b26 v0_15 = some res → ∀ (H : Heap) (locs : List Loc) (ls : Array Slot), va_P D vwCl (W_X10_needDecade cs a0 p0 i0_13 i0_14 v0_15) H → va_D (va_A w0 s.heap.size) (W_X10_needDecade cs a0 p0 i0_13 i0_14 v0_15) → va_S (va_A w0 s.heap.size) s.heap H locs → lv_has ls 3 [] → W p l e rm_X10_needDecade s m av below meth c H locs 0 0 (vx_MQ below (xV D cs w0 (W_X10_needDecade cs a0 p0 i0_13 i0_14 res.2) res.1 s.heap.size) (xX D cs w0 (W_X10_needDecade cs a0 p0 i0_13 i0_14 res.2) res.1 s.heap.size) av s 1 6 (va_A w0 s.heap.size)) (F0 m 26 ls [.ref a0]) := by
  obtain ⟨hx, hb, hr, hlk, hml, hown, hts, hK, hG, hE⟩ := id C0
  intro v0_15 hf H locs ls hP hD hS hl
  rw [f_X10_needDecade_b26] at hf
  refine lv_iconst (v := 0) hx hb dX10_needDecade_26 (by decide) ?_
  refine W.widen (k := 0) (n := 0) (Nat.le_of_ble_eq_true rfl) (Nat.le_of_ble_eq_true rfl) ?_
  exact w_X10_needDecade_b27 C0 T0 a0 p0 i0_13 i0_14 res v0_15 (0) hf _ _ _ hP hD hS (lv_sub hl [] rfl)
def f_X10_needDecade  (v0_15 : Nat → Int32) (x1 : Int32) (x2 : Int32) : Option (Nat × (Nat → Int32)) := if x1 < 0 then (f_X10_needDecade_b26 v0_15) else (if 16 < x1 then (f_X10_needDecade_b26 v0_15) else (if x2 < 1 then (f_X10_needDecade_b26 v0_15) else (if 60 < x2 then (f_X10_needDecade_b26 v0_15) else (f_X10_needDecade_b27 v0_15 (1)))))
set_option maxHeartbeats 4000000 in
set_option maxRecDepth 100000 in
theorem c_X10_needDecade (l : Launch) (D : va_G) (cs : Nat → ClassId) (hl0 : l.stackTraces = false)  (sz : Nat) (a0 : Nat) (p0 : Nat → Nat) (i0_13 : Int32) (i0_14 : Int32) (v0_15 : Nat → Int32) (x1 : Int32) (x2 : Int32) (res : Nat × (Nat → Int32)) (hf : f_X10_needDecade  v0_15 x1 x2 = some res) : XV l D cs yX10_needDecade wsX10_needDecade rm_X10_needDecade [.ref a0, .int x1, .int x2] sz (W_X10_needDecade cs a0 p0 i0_13 i0_14 v0_15) (W_X10_needDecade cs a0 p0 i0_13 i0_14 res.2) res.1 1 6 := by
  rw [f_X10_needDecade] at hf
  refine ow_enterT (cc := cX10_needDecade) (nL := 3) (ret := none) hl0 (by decide) rfl (Nat.le_of_ble_eq_true rfl) (fun p e s m below meth c ls H locs C0 T0 hP hD hS hA hl => ?_)
  obtain ⟨hx, hb, hr, hlk, hml, hown, hts, hK, hG, hE⟩ := id C0
  have hl : lv_has ls 3 [(0, .ref a0), (1, .int x1), (2, .int x2)] := hl
  refine lv_aload_n hx hb dX10_needDecade_0 rfl (lv_at hl 0 rfl) ?_
  refine lv_iload_n hx hb dX10_needDecade_1 rfl (lv_at hl 1 rfl) ?_
  refine lv_if_lt (tgt := 26) hx hb dX10_needDecade_2 (by decide) (fun hc => ?_) (fun hc => ?_)
  · replace hf := ow_t hc hf
    refine W.widen (k := 0) (n := 0) (Nat.le_of_ble_eq_true rfl) (Nat.le_of_ble_eq_true rfl) ?_
    exact w_X10_needDecade_b26 C0 T0 a0 p0 i0_13 i0_14 res v0_15 hf _ _ _ hP hD hS (lv_sub hl [] rfl)
  · replace hf := ow_f hc hf
    refine lv_iload_n hx hb dX10_needDecade_5 rfl (lv_at hl 1 rfl) ?_
    refine lv_bipush (v := 16) hx hb dX10_needDecade_6 (by decide) ?_
    refine lv_icmp_gt (tgt := 26) hx hb dX10_needDecade_8 (by decide) (fun hc => ?_) (fun hc => ?_)
    · replace hf := ow_t hc hf
      refine W.widen (k := 0) (n := 0) (Nat.le_of_ble_eq_true rfl) (Nat.le_of_ble_eq_true rfl) ?_
      exact w_X10_needDecade_b26 C0 T0 a0 p0 i0_13 i0_14 res v0_15 hf _ _ _ hP hD hS (lv_sub hl [] rfl)
    · replace hf := ow_f hc hf
      refine lv_iload_n hx hb dX10_needDecade_11 rfl (lv_at hl 2 rfl) ?_
      refine lv_iconst (v := 1) hx hb dX10_needDecade_12 (by decide) ?_
      refine lv_icmp_lt (tgt := 26) hx hb dX10_needDecade_13 (by decide) (fun hc => ?_) (fun hc => ?_)
      · replace hf := ow_t hc hf
        refine W.widen (k := 0) (n := 0) (Nat.le_of_ble_eq_true rfl) (Nat.le_of_ble_eq_true rfl) ?_
        exact w_X10_needDecade_b26 C0 T0 a0 p0 i0_13 i0_14 res v0_15 hf _ _ _ hP hD hS (lv_sub hl [] rfl)
      · replace hf := ow_f hc hf
        refine lv_iload_n hx hb dX10_needDecade_16 rfl (lv_at hl 2 rfl) ?_
        refine lv_bipush (v := 60) hx hb dX10_needDecade_17 (by decide) ?_
        refine lv_icmp_gt (tgt := 26) hx hb dX10_needDecade_19 (by decide) (fun hc => ?_) (fun hc => ?_)
        · replace hf := ow_t hc hf
          refine W.widen (k := 0) (n := 0) (Nat.le_of_ble_eq_true rfl) (Nat.le_of_ble_eq_true rfl) ?_
          exact w_X10_needDecade_b26 C0 T0 a0 p0 i0_13 i0_14 res v0_15 hf _ _ _ hP hD hS (lv_sub hl [] rfl)
        · replace hf := ow_f hc hf
          refine lv_iconst (v := 1) hx hb dX10_needDecade_22 (by decide) ?_
          refine lv_goto (tgt := 27) hx hb dX10_needDecade_23 (by decide) ?_
          refine W.widen (k := 0) (n := 0) (Nat.le_of_ble_eq_true rfl) (Nat.le_of_ble_eq_true rfl) ?_
          exact w_X10_needDecade_b27 C0 T0 a0 p0 i0_13 i0_14 res v0_15 (1) hf _ _ _ hP hD hS (lv_sub hl [] rfl)
theorem in_X10_needOrders_X10 : ∀ w ∈ u_ws RX10 TX10 16, w ∈ wsX10_needOrders := fun w h => List.mem_cons_of_mem _ (List.mem_append_left _ (List.mem_append_left _ (List.mem_append_right _ h)))
theorem in_X10_needOrders_X6 : ∀ w ∈ u_ws RX6 TX6 13, w ∈ wsX10_needOrders := fun w h => List.mem_cons_of_mem _ (List.mem_append_left _ (List.mem_append_right _ h))
abbrev S_X10_needOrders (cs : Nat → ClassId) (a0 : Nat) (p0 : Nat → Nat) (i0_13 : Int32) (i0_14 : Int32) (v0_15 : Nat → Int32) (p1 : Nat → Nat) (i1_0 : Int32) (i1_6 : Int32) (i1_8 : Int32) (i1_10 : Int32) (i1_11 : Int32) (i1_12 : Int32) (v1_1 : Nat → Int32) (v1_2 : Nat → Int32) (v1_3 : Nat → Int32) (v1_4 : Nat → Int32) (v1_5 : Nat → Int32) (v1_7 : Nat → Int32) (v1_9 : Nat → Int32) : List va_W := [wX10 cs a0 p0 i0_13 i0_14 v0_15, wX6 cs (p0 1) p1 i1_0 i1_6 i1_8 i1_10 i1_11 i1_12 v1_1 v1_2 v1_3 v1_4 v1_5 v1_7 v1_9]
abbrev W_X10_needOrders (cs : Nat → ClassId) (a0 : Nat) (p0 : Nat → Nat) (i0_13 : Int32) (i0_14 : Int32) (v0_15 : Nat → Int32) (p1 : Nat → Nat) (i1_0 : Int32) (i1_6 : Int32) (i1_8 : Int32) (i1_10 : Int32) (i1_11 : Int32) (i1_12 : Int32) (v1_1 : Nat → Int32) (v1_2 : Nat → Int32) (v1_3 : Nat → Int32) (v1_4 : Nat → Int32) (v1_5 : Nat → Int32) (v1_7 : Nat → Int32) (v1_9 : Nat → Int32) : va_W := (S_X10_needOrders cs a0 p0 i0_13 i0_14 v0_15 p1 i1_0 i1_6 i1_8 i1_10 i1_11 i1_12 v1_1 v1_2 v1_3 v1_4 v1_5 v1_7 v1_9).flatten
abbrev rm_X10_needOrders : Room := { frames := 7, cells := 1, slots := 6, locals := 102 }
def f_X10_needOrders_b21  (i1_8 : Int32)  (v0_15 : Nat → Int32) (t1 : Int32) : Option (Nat × (Nat → Int32)) := (f_X10_need v0_15 t1).bind fun q21 => if q21.1 = 0 then (some (0, q21.2)) else (some (q21.1, q21.2))
set_option maxHeartbeats 4000000 in
set_option maxRecDepth 100000 in
theorem w_X10_needOrders_b21 {p : Program} {l : Launch} {e : Env} {s : State} {m : MethodId} {below : List Frame} {meth : Method} {c : Code} {D : va_G} {cs : Nat → ClassId} {av : Array Value} {w0 : va_W} (C0 : Cx p s m meth c av wsX10_needOrders cX10_needOrders 2 none RX10 D cs w0) (T0 : CxT l s c)  (a0 : Nat) (p0 : Nat → Nat) (i0_13 : Int32) (i0_14 : Int32) (p1 : Nat → Nat) (i1_0 : Int32) (i1_6 : Int32) (i1_8 : Int32) (i1_10 : Int32) (i1_11 : Int32) (i1_12 : Int32) (v1_1 : Nat → Int32) (v1_2 : Nat → Int32) (v1_3 : Nat → Int32) (v1_4 : Nat → Int32) (v1_5 : Nat → Int32) (v1_7 : Nat → Int32) (v1_9 : Nat → Int32) (res : Nat × (Nat → Int32))  : ∀ (v0_15 : Nat → Int32) (t1 : Int32), f_X10_needOrders_b21 i1_8 v0_15 t1 = some res → ∀ (H : Heap) (locs : List Loc) (ls : Array Slot), va_P D vwCl (W_X10_needOrders cs a0 p0 i0_13 i0_14 v0_15 p1 i1_0 i1_6 i1_8 i1_10 i1_11 i1_12 v1_1 v1_2 v1_3 v1_4 v1_5 v1_7 v1_9) H → va_D (va_A w0 s.heap.size) (W_X10_needOrders cs a0 p0 i0_13 i0_14 v0_15 p1 i1_0 i1_6 i1_8 i1_10 i1_11 i1_12 v1_1 v1_2 v1_3 v1_4 v1_5 v1_7 v1_9) → va_S (va_A w0 s.heap.size) s.heap H locs → lv_has ls 2 [] → W p l e rm_X10_needOrders s m av below meth c H locs 0 0 (vx_MQ below (xV D cs w0 (W_X10_needOrders cs a0 p0 i0_13 i0_14 res.2 p1 i1_0 i1_6 i1_8 i1_10 i1_11 i1_12 v1_1 v1_2 v1_3 v1_4 v1_5 v1_7 v1_9) res.1 s.heap.size) (xX D cs w0 (W_X10_needOrders cs a0 p0 i0_13 i0_14 res.2 p1 i1_0 i1_6 i1_8 i1_10 i1_11 i1_12 v1_1 v1_2 v1_3 v1_4 v1_5 v1_7 v1_9) res.1 s.heap.size) av s 1 6 (va_A w0 s.heap.size)) (F0 m 21 ls [.int t1, .ref a0]) := by
  obtain ⟨hx, hb, hr, hlk, hml, hown, hts, hK, hG, hE⟩ := id C0
  intro v0_15 t1 hf H locs ls hP hD hS hl
  rw [f_X10_needOrders_b21] at hf
  obtain ⟨q21, hq, hf⟩ := bd_some hf
  refine ow_gtVV (As := [.int t1]) (rest := []) (sg := (S_X10_needOrders cs a0 p0 i0_13 i0_14 v0_15 p1 i1_0 i1_6 i1_8 i1_10 i1_11 i1_12 v1_1 v1_2 v1_3 v1_4 v1_5 v1_7 v1_9)) (sc := [wX10 cs a0 p0 i0_13 i0_14 v0_15]) (sc' := [wX10 cs a0 p0 i0_13 i0_14 q21.2]) (sr := ow_pks (S_X10_needOrders cs a0 p0 i0_13 i0_14 v0_15 p1 i1_0 i1_6 i1_8 i1_10 i1_11 i1_12 v1_1 v1_2 v1_3 v1_4 v1_5 v1_7 v1_9) [1]) (sf := (S_X10_needOrders cs a0 p0 i0_13 i0_14 q21.2 p1 i1_0 i1_6 i1_8 i1_10 i1_11 i1_12 v1_1 v1_2 v1_3 v1_4 v1_5 v1_7 v1_9)) (k := q21.1) C0 T0 (c_X10_need l D cs T0.1 H.size a0 p0 i0_13 i0_14 v0_15 t1 q21 hq) (cwV 1 hts gX10_needOrders_X10_need rfl rfl rfl (by decide +kernel) ⟨Nat.le_of_ble_eq_true rfl, Nat.le_of_ble_eq_true rfl⟩) 10 rfl rfl hP hD hS (sg_permL [0] [1] 2 rfl (by decide) rfl rfl) (sg_permG [1, 0] 2 rfl (by decide) rfl) rfl hl.1 rfl (Nat.le_of_ble_eq_true rfl) ⟨(Nat.le_of_ble_eq_true rfl), (Nat.le_of_ble_eq_true rfl)⟩ dX10_needOrders_21 (fun hz => ?_) (Nat.le_of_ble_eq_true rfl) (Nat.le_of_ble_eq_true rfl) (fun hz H locs (hP : va_P D vwCl (W_X10_needOrders cs a0 p0 i0_13 i0_14 q21.2 p1 i1_0 i1_6 i1_8 i1_10 i1_11 i1_12 v1_1 v1_2 v1_3 v1_4 v1_5 v1_7 v1_9) H) (hD : va_D _ (W_X10_needOrders cs a0 p0 i0_13 i0_14 q21.2 p1 i1_0 i1_6 i1_8 i1_10 i1_11 i1_12 v1_1 v1_2 v1_3 v1_4 v1_5 v1_7 v1_9)) hS => ?_)
  · replace hf := ow_f hz hf
    obtain rfl := Option.some.inj hf
    exact ⟨rfl, rfl⟩
  replace hf := ow_t hz hf
  obtain rfl := Option.some.inj hf
  exact ow_tretV C0 rfl hP hD hS (Nat.le_of_ble_eq_true rfl) (Nat.le_of_ble_eq_true rfl) dX10_needOrders_24
def f_X10_needOrders  (v0_15 : Nat → Int32) (i1_8 : Int32) (x1 : Int32) : Option (Nat × (Nat → Int32)) := if (x1 &&& (-(((1 : Int32)) <<< (i1_8 &&& 31)))) = 0 then (f_X10_needOrders_b21 i1_8 v0_15 (1)) else (f_X10_needOrders_b21 i1_8 v0_15 (0))
set_option maxHeartbeats 4000000 in
set_option maxRecDepth 100000 in
theorem c_X10_needOrders (l : Launch) (D : va_G) (cs : Nat → ClassId) (hl0 : l.stackTraces = false)  (sz : Nat) (a0 : Nat) (p0 : Nat → Nat) (i0_13 : Int32) (i0_14 : Int32) (v0_15 : Nat → Int32) (p1 : Nat → Nat) (i1_0 : Int32) (i1_6 : Int32) (i1_8 : Int32) (i1_10 : Int32) (i1_11 : Int32) (i1_12 : Int32) (v1_1 : Nat → Int32) (v1_2 : Nat → Int32) (v1_3 : Nat → Int32) (v1_4 : Nat → Int32) (v1_5 : Nat → Int32) (v1_7 : Nat → Int32) (v1_9 : Nat → Int32) (x1 : Int32) (res : Nat × (Nat → Int32)) (hf : f_X10_needOrders  v0_15 i1_8 x1 = some res) : XV l D cs yX10_needOrders wsX10_needOrders rm_X10_needOrders [.ref a0, .int x1] sz (W_X10_needOrders cs a0 p0 i0_13 i0_14 v0_15 p1 i1_0 i1_6 i1_8 i1_10 i1_11 i1_12 v1_1 v1_2 v1_3 v1_4 v1_5 v1_7 v1_9) (W_X10_needOrders cs a0 p0 i0_13 i0_14 res.2 p1 i1_0 i1_6 i1_8 i1_10 i1_11 i1_12 v1_1 v1_2 v1_3 v1_4 v1_5 v1_7 v1_9) res.1 1 6 := by
  rw [f_X10_needOrders] at hf
  refine ow_enterT (cc := cX10_needOrders) (nL := 2) (ret := none) hl0 (by decide) rfl (Nat.le_of_ble_eq_true rfl) (fun p e s m below meth c ls H locs C0 T0 hP hD hS hA hl => ?_)
  obtain ⟨hx, hb, hr, hlk, hml, hown, hts, hK, hG, hE⟩ := id C0
  have hl : lv_has ls 2 [(0, .ref a0), (1, .int x1)] := hl
  refine lv_aload_n hx hb dX10_needOrders_0 rfl (lv_at hl 0 rfl) ?_
  refine lv_iload_n hx hb dX10_needOrders_1 rfl (lv_at hl 1 rfl) ?_
  refine lv_iconst (v := 1) hx hb dX10_needOrders_2 (by decide) ?_
  refine lv_aload_n hx hb dX10_needOrders_3 rfl (lv_at hl 0 rfl) ?_
  refine va_get (D := D) (ci := 10) (v := .ref (p0 1)) (C := RX10) (T := TX10) (N := 16) hx hb hts in_X10_needOrders_X10 hown hK hP 0 rfl rfl 1 (by decide) (hts (.fieldLink RX10 19 "PaneDays" "street" "LPaneDays$Street;") (List.mem_of_getElem? (i := 1) rfl)) (fun _ h9 => h9) rfl dX10_needOrders_4 ?_
  refine va_get (D := D) (ci := 6) (v := .int i1_8) (C := RX6) (T := TX6) (N := 13) hx hb hts in_X10_needOrders_X6 hown hK hP 2 rfl rfl 8 (by decide) (hts (.fieldLink RX10 165 "PaneDays$Street" "orders" "I") (List.mem_of_getElem? (i := 2) rfl)) (fun _ h9 => h9) rfl dX10_needOrders_7 ?_
  refine lv_ishl hx hb dX10_needOrders_10 ?_
  refine lv_ineg hx hb dX10_needOrders_11 ?_
  refine lv_iand hx hb dX10_needOrders_12 ?_
  refine lv_if_ne (tgt := 20) hx hb dX10_needOrders_13 (by decide) (fun hc => ?_) (fun hc => ?_)
  · replace hf := ow_f hc hf
    refine lv_iconst (v := 0) hx hb dX10_needOrders_20 (by decide) ?_
    refine W.widen (k := 0) (n := 0) (Nat.le_of_ble_eq_true rfl) (Nat.le_of_ble_eq_true rfl) ?_
    exact w_X10_needOrders_b21 C0 T0 a0 p0 i0_13 i0_14 p1 i1_0 i1_6 i1_8 i1_10 i1_11 i1_12 v1_1 v1_2 v1_3 v1_4 v1_5 v1_7 v1_9 res v0_15 (0) hf _ _ _ hP hD hS (lv_sub hl [] rfl)
  · replace hf := ow_t hc hf
    refine lv_iconst (v := 1) hx hb dX10_needOrders_16 (by decide) ?_
    refine lv_goto (tgt := 21) hx hb dX10_needOrders_17 (by decide) ?_
    refine W.widen (k := 0) (n := 0) (Nat.le_of_ble_eq_true rfl) (Nat.le_of_ble_eq_true rfl) ?_
    exact w_X10_needOrders_b21 C0 T0 a0 p0 i0_13 i0_14 p1 i1_0 i1_6 i1_8 i1_10 i1_11 i1_12 v1_1 v1_2 v1_3 v1_4 v1_5 v1_7 v1_9 res v0_15 (1) hf _ _ _ hP hD hS (lv_sub hl [] rfl)
theorem in_X10_needCells_X10 : ∀ w ∈ u_ws RX10 TX10 16, w ∈ wsX10_needCells := fun w h => List.mem_cons_of_mem _ (List.mem_append_left _ (List.mem_append_left _ (List.mem_append_right _ h)))
theorem in_X10_needCells_X6 : ∀ w ∈ u_ws RX6 TX6 13, w ∈ wsX10_needCells := fun w h => List.mem_cons_of_mem _ (List.mem_append_left _ (List.mem_append_right _ h))
abbrev S_X10_needCells (cs : Nat → ClassId) (a0 : Nat) (p0 : Nat → Nat) (i0_13 : Int32) (i0_14 : Int32) (v0_15 : Nat → Int32) (p1 : Nat → Nat) (i1_0 : Int32) (i1_6 : Int32) (i1_8 : Int32) (i1_10 : Int32) (i1_11 : Int32) (i1_12 : Int32) (v1_1 : Nat → Int32) (v1_2 : Nat → Int32) (v1_3 : Nat → Int32) (v1_4 : Nat → Int32) (v1_5 : Nat → Int32) (v1_7 : Nat → Int32) (v1_9 : Nat → Int32) : List va_W := [wX10 cs a0 p0 i0_13 i0_14 v0_15, wX6 cs (p0 1) p1 i1_0 i1_6 i1_8 i1_10 i1_11 i1_12 v1_1 v1_2 v1_3 v1_4 v1_5 v1_7 v1_9]
abbrev W_X10_needCells (cs : Nat → ClassId) (a0 : Nat) (p0 : Nat → Nat) (i0_13 : Int32) (i0_14 : Int32) (v0_15 : Nat → Int32) (p1 : Nat → Nat) (i1_0 : Int32) (i1_6 : Int32) (i1_8 : Int32) (i1_10 : Int32) (i1_11 : Int32) (i1_12 : Int32) (v1_1 : Nat → Int32) (v1_2 : Nat → Int32) (v1_3 : Nat → Int32) (v1_4 : Nat → Int32) (v1_5 : Nat → Int32) (v1_7 : Nat → Int32) (v1_9 : Nat → Int32) : va_W := (S_X10_needCells cs a0 p0 i0_13 i0_14 v0_15 p1 i1_0 i1_6 i1_8 i1_10 i1_11 i1_12 v1_1 v1_2 v1_3 v1_4 v1_5 v1_7 v1_9).flatten
abbrev rm_X10_needCells : Room := { frames := 7, cells := 1, slots := 6, locals := 102 }
def f_X10_needCells_b22  (v1_5 : Nat → Int32)  (v0_15 : Nat → Int32) (t1 : Int32) : Option (Nat × (Nat → Int32)) := (f_X10_need v0_15 t1).bind fun q22 => if q22.1 = 0 then (some (0, q22.2)) else (some (q22.1, q22.2))
set_option maxHeartbeats 4000000 in
set_option maxRecDepth 100000 in
theorem w_X10_needCells_b22 {p : Program} {l : Launch} {e : Env} {s : State} {m : MethodId} {below : List Frame} {meth : Method} {c : Code} {D : va_G} {cs : Nat → ClassId} {av : Array Value} {w0 : va_W} (C0 : Cx p s m meth c av wsX10_needCells cX10_needCells 3 none RX10 D cs w0) (T0 : CxT l s c)  (a0 : Nat) (p0 : Nat → Nat) (i0_13 : Int32) (i0_14 : Int32) (p1 : Nat → Nat) (i1_0 : Int32) (i1_6 : Int32) (i1_8 : Int32) (i1_10 : Int32) (i1_11 : Int32) (i1_12 : Int32) (v1_1 : Nat → Int32) (v1_2 : Nat → Int32) (v1_3 : Nat → Int32) (v1_4 : Nat → Int32) (v1_5 : Nat → Int32) (v1_7 : Nat → Int32) (v1_9 : Nat → Int32) (res : Nat × (Nat → Int32))  : ∀ (v0_15 : Nat → Int32) (t1 : Int32), f_X10_needCells_b22 v1_5 v0_15 t1 = some res → ∀ (H : Heap) (locs : List Loc) (ls : Array Slot), va_P D vwCl (W_X10_needCells cs a0 p0 i0_13 i0_14 v0_15 p1 i1_0 i1_6 i1_8 i1_10 i1_11 i1_12 v1_1 v1_2 v1_3 v1_4 v1_5 v1_7 v1_9) H → va_D (va_A w0 s.heap.size) (W_X10_needCells cs a0 p0 i0_13 i0_14 v0_15 p1 i1_0 i1_6 i1_8 i1_10 i1_11 i1_12 v1_1 v1_2 v1_3 v1_4 v1_5 v1_7 v1_9) → va_S (va_A w0 s.heap.size) s.heap H locs → lv_has ls 3 [] → W p l e rm_X10_needCells s m av below meth c H locs 0 0 (vx_MQ below (xV D cs w0 (W_X10_needCells cs a0 p0 i0_13 i0_14 res.2 p1 i1_0 i1_6 i1_8 i1_10 i1_11 i1_12 v1_1 v1_2 v1_3 v1_4 v1_5 v1_7 v1_9) res.1 s.heap.size) (xX D cs w0 (W_X10_needCells cs a0 p0 i0_13 i0_14 res.2 p1 i1_0 i1_6 i1_8 i1_10 i1_11 i1_12 v1_1 v1_2 v1_3 v1_4 v1_5 v1_7 v1_9) res.1 s.heap.size) av s 1 6 (va_A w0 s.heap.size)) (F0 m 22 ls [.int t1, .ref a0]) := by
  obtain ⟨hx, hb, hr, hlk, hml, hown, hts, hK, hG, hE⟩ := id C0
  intro v0_15 t1 hf H locs ls hP hD hS hl
  rw [f_X10_needCells_b22] at hf
  obtain ⟨q22, hq, hf⟩ := bd_some hf
  refine ow_gtVV (As := [.int t1]) (rest := []) (sg := (S_X10_needCells cs a0 p0 i0_13 i0_14 v0_15 p1 i1_0 i1_6 i1_8 i1_10 i1_11 i1_12 v1_1 v1_2 v1_3 v1_4 v1_5 v1_7 v1_9)) (sc := [wX10 cs a0 p0 i0_13 i0_14 v0_15]) (sc' := [wX10 cs a0 p0 i0_13 i0_14 q22.2]) (sr := ow_pks (S_X10_needCells cs a0 p0 i0_13 i0_14 v0_15 p1 i1_0 i1_6 i1_8 i1_10 i1_11 i1_12 v1_1 v1_2 v1_3 v1_4 v1_5 v1_7 v1_9) [1]) (sf := (S_X10_needCells cs a0 p0 i0_13 i0_14 q22.2 p1 i1_0 i1_6 i1_8 i1_10 i1_11 i1_12 v1_1 v1_2 v1_3 v1_4 v1_5 v1_7 v1_9)) (k := q22.1) C0 T0 (c_X10_need l D cs T0.1 H.size a0 p0 i0_13 i0_14 v0_15 t1 q22 hq) (cwV 1 hts gX10_needCells_X10_need rfl rfl rfl (by decide +kernel) ⟨Nat.le_of_ble_eq_true rfl, Nat.le_of_ble_eq_true rfl⟩) 10 rfl rfl hP hD hS (sg_permL [0] [1] 2 rfl (by decide) rfl rfl) (sg_permG [1, 0] 2 rfl (by decide) rfl) rfl hl.1 rfl (Nat.le_of_ble_eq_true rfl) ⟨(Nat.le_of_ble_eq_true rfl), (Nat.le_of_ble_eq_true rfl)⟩ dX10_needCells_22 (fun hz => ?_) (Nat.le_of_ble_eq_true rfl) (Nat.le_of_ble_eq_true rfl) (fun hz H locs (hP : va_P D vwCl (W_X10_needCells cs a0 p0 i0_13 i0_14 q22.2 p1 i1_0 i1_6 i1_8 i1_10 i1_11 i1_12 v1_1 v1_2 v1_3 v1_4 v1_5 v1_7 v1_9) H) (hD : va_D _ (W_X10_needCells cs a0 p0 i0_13 i0_14 q22.2 p1 i1_0 i1_6 i1_8 i1_10 i1_11 i1_12 v1_1 v1_2 v1_3 v1_4 v1_5 v1_7 v1_9)) hS => ?_)
  · replace hf := ow_f hz hf
    obtain rfl := Option.some.inj hf
    exact ⟨rfl, rfl⟩
  replace hf := ow_t hz hf
  obtain rfl := Option.some.inj hf
  exact ow_tretV C0 rfl hP hD hS (Nat.le_of_ble_eq_true rfl) (Nat.le_of_ble_eq_true rfl) dX10_needCells_25
def f_X10_needCells  (v0_15 : Nat → Int32) (v1_5 : Nat → Int32) (x1 : Int32) (x2 : Int32) : Option (Nat × (Nat → Int32)) := ck x1 5 (if (x2 &&& ((v1_5 (x1).toNatClampNeg) ^^^ ((-1)))) = 0 then (f_X10_needCells_b22 v1_5 v0_15 (1)) else (f_X10_needCells_b22 v1_5 v0_15 (0)))
set_option maxHeartbeats 4000000 in
set_option maxRecDepth 100000 in
theorem c_X10_needCells (l : Launch) (D : va_G) (cs : Nat → ClassId) (hl0 : l.stackTraces = false)  (sz : Nat) (a0 : Nat) (p0 : Nat → Nat) (i0_13 : Int32) (i0_14 : Int32) (v0_15 : Nat → Int32) (p1 : Nat → Nat) (i1_0 : Int32) (i1_6 : Int32) (i1_8 : Int32) (i1_10 : Int32) (i1_11 : Int32) (i1_12 : Int32) (v1_1 : Nat → Int32) (v1_2 : Nat → Int32) (v1_3 : Nat → Int32) (v1_4 : Nat → Int32) (v1_5 : Nat → Int32) (v1_7 : Nat → Int32) (v1_9 : Nat → Int32) (x1 : Int32) (x2 : Int32) (res : Nat × (Nat → Int32)) (hf : f_X10_needCells  v0_15 v1_5 x1 x2 = some res) : XV l D cs yX10_needCells wsX10_needCells rm_X10_needCells [.ref a0, .int x1, .int x2] sz (W_X10_needCells cs a0 p0 i0_13 i0_14 v0_15 p1 i1_0 i1_6 i1_8 i1_10 i1_11 i1_12 v1_1 v1_2 v1_3 v1_4 v1_5 v1_7 v1_9) (W_X10_needCells cs a0 p0 i0_13 i0_14 res.2 p1 i1_0 i1_6 i1_8 i1_10 i1_11 i1_12 v1_1 v1_2 v1_3 v1_4 v1_5 v1_7 v1_9) res.1 1 6 := by
  rw [f_X10_needCells] at hf
  refine ow_enterT (cc := cX10_needCells) (nL := 3) (ret := none) hl0 (by decide) rfl (Nat.le_of_ble_eq_true rfl) (fun p e s m below meth c ls H locs C0 T0 hP hD hS hA hl => ?_)
  obtain ⟨hx, hb, hr, hlk, hml, hown, hts, hK, hG, hE⟩ := id C0
  have hl : lv_has ls 3 [(0, .ref a0), (1, .int x1), (2, .int x2)] := hl
  refine lv_aload_n hx hb dX10_needCells_0 rfl (lv_at hl 0 rfl) ?_
  refine lv_iload_n hx hb dX10_needCells_1 rfl (lv_at hl 2 rfl) ?_
  refine lv_aload_n hx hb dX10_needCells_2 rfl (lv_at hl 0 rfl) ?_
  refine va_get (D := D) (ci := 10) (v := .ref (p0 1)) (C := RX10) (T := TX10) (N := 16) hx hb hts in_X10_needCells_X10 hown hK hP 0 rfl rfl 1 (by decide) (hts (.fieldLink RX10 19 "PaneDays" "street" "LPaneDays$Street;") (List.mem_of_getElem? (i := 1) rfl)) (fun _ h9 => h9) rfl dX10_needCells_3 ?_
  refine va_get (D := D) (ci := 6) (v := .ref (p1 5)) (C := RX6) (T := TX6) (N := 13) hx hb hts in_X10_needCells_X6 hown hK hP 2 rfl rfl 5 (by decide) (hts (.fieldLink RX10 237 "PaneDays$Street" "cells" "[I") (List.mem_of_getElem? (i := 2) rfl)) (fun _ h9 => h9) rfl dX10_needCells_6 ?_
  refine lv_iload_n hx hb dX10_needCells_9 rfl (lv_at hl 1 rfl) ?_
  obtain ⟨hin, hf⟩ := ck_some hf
  refine va_iald (f := v1_5) hx hb hK hP 7 0 rfl rfl hin dX10_needCells_10 ?_
  refine lv_iconst (v := (-1)) hx hb dX10_needCells_11 (by decide) ?_
  refine lv_ixor hx hb dX10_needCells_12 ?_
  refine lv_iand hx hb dX10_needCells_13 ?_
  refine lv_if_ne (tgt := 21) hx hb dX10_needCells_14 (by decide) (fun hc => ?_) (fun hc => ?_)
  · replace hf := ow_f hc hf
    refine lv_iconst (v := 0) hx hb dX10_needCells_21 (by decide) ?_
    refine W.widen (k := 0) (n := 0) (Nat.le_of_ble_eq_true rfl) (Nat.le_of_ble_eq_true rfl) ?_
    exact w_X10_needCells_b22 C0 T0 a0 p0 i0_13 i0_14 p1 i1_0 i1_6 i1_8 i1_10 i1_11 i1_12 v1_1 v1_2 v1_3 v1_4 v1_5 v1_7 v1_9 res v0_15 (0) hf _ _ _ hP hD hS (lv_sub hl [] rfl)
  · replace hf := ow_t hc hf
    refine lv_iconst (v := 1) hx hb dX10_needCells_17 (by decide) ?_
    refine lv_goto (tgt := 22) hx hb dX10_needCells_18 (by decide) ?_
    refine W.widen (k := 0) (n := 0) (Nat.le_of_ble_eq_true rfl) (Nat.le_of_ble_eq_true rfl) ?_
    exact w_X10_needCells_b22 C0 T0 a0 p0 i0_13 i0_14 p1 i1_0 i1_6 i1_8 i1_10 i1_11 i1_12 v1_1 v1_2 v1_3 v1_4 v1_5 v1_7 v1_9 res v0_15 (1) hf _ _ _ hP hD hS (lv_sub hl [] rfl)
abbrev S_X10_needWhat (cs : Nat → ClassId) (a0 : Nat) (p0 : Nat → Nat) (i0_13 : Int32) (i0_14 : Int32) (v0_15 : Nat → Int32) : List va_W := [wX10 cs a0 p0 i0_13 i0_14 v0_15]
abbrev W_X10_needWhat (cs : Nat → ClassId) (a0 : Nat) (p0 : Nat → Nat) (i0_13 : Int32) (i0_14 : Int32) (v0_15 : Nat → Int32) : va_W := (S_X10_needWhat cs a0 p0 i0_13 i0_14 v0_15).flatten
abbrev rm_X10_needWhat : Room := { frames := 7, cells := 1, slots := 6, locals := 102 }
def f_X10_needWhat_b15    (v0_15 : Nat → Int32) (t1 : Int32) : Option (Nat × (Nat → Int32)) := (f_X10_need v0_15 t1).bind fun q15 => if q15.1 = 0 then (some (0, q15.2)) else (some (q15.1, q15.2))
set_option maxHeartbeats 4000000 in
set_option maxRecDepth 100000 in
theorem w_X10_needWhat_b15 {p : Program} {l : Launch} {e : Env} {s : State} {m : MethodId} {below : List Frame} {meth : Method} {c : Code} {D : va_G} {cs : Nat → ClassId} {av : Array Value} {w0 : va_W} (C0 : Cx p s m meth c av wsX10_needWhat cX10_needWhat 3 none RX10 D cs w0) (T0 : CxT l s c)  (a0 : Nat) (p0 : Nat → Nat) (i0_13 : Int32) (i0_14 : Int32) (res : Nat × (Nat → Int32))  : ∀ (v0_15 : Nat → Int32) (t1 : Int32), f_X10_needWhat_b15 v0_15 t1 = some res → ∀ (H : Heap) (locs : List Loc) (ls : Array Slot), va_P D vwCl (W_X10_needWhat cs a0 p0 i0_13 i0_14 v0_15) H → va_D (va_A w0 s.heap.size) (W_X10_needWhat cs a0 p0 i0_13 i0_14 v0_15) → va_S (va_A w0 s.heap.size) s.heap H locs → lv_has ls 3 [] → W p l e rm_X10_needWhat s m av below meth c H locs 0 0 (vx_MQ below (xV D cs w0 (W_X10_needWhat cs a0 p0 i0_13 i0_14 res.2) res.1 s.heap.size) (xX D cs w0 (W_X10_needWhat cs a0 p0 i0_13 i0_14 res.2) res.1 s.heap.size) av s 1 6 (va_A w0 s.heap.size)) (F0 m 15 ls [.int t1, .ref a0]) := by
  obtain ⟨hx, hb, hr, hlk, hml, hown, hts, hK, hG, hE⟩ := id C0
  intro v0_15 t1 hf H locs ls hP hD hS hl
  rw [f_X10_needWhat_b15] at hf
  obtain ⟨q15, hq, hf⟩ := bd_some hf
  refine ow_gtVV (As := [.int t1]) (rest := []) (sg := (S_X10_needWhat cs a0 p0 i0_13 i0_14 v0_15)) (sc := [wX10 cs a0 p0 i0_13 i0_14 v0_15]) (sc' := [wX10 cs a0 p0 i0_13 i0_14 q15.2]) (sr := ow_pks (S_X10_needWhat cs a0 p0 i0_13 i0_14 v0_15) []) (sf := (S_X10_needWhat cs a0 p0 i0_13 i0_14 q15.2)) (k := q15.1) C0 T0 (c_X10_need l D cs T0.1 H.size a0 p0 i0_13 i0_14 v0_15 t1 q15 hq) (cwV 1 hts gX10_needWhat_X10_need rfl rfl rfl (by decide +kernel) ⟨Nat.le_of_ble_eq_true rfl, Nat.le_of_ble_eq_true rfl⟩) 10 rfl rfl hP hD hS (sg_permL [0] [] 1 rfl (by decide) rfl rfl) (sg_permG [0] 1 rfl (by decide) rfl) rfl hl.1 rfl (Nat.le_of_ble_eq_true rfl) ⟨(Nat.le_of_ble_eq_true rfl), (Nat.le_of_ble_eq_true rfl)⟩ dX10_needWhat_15 (fun hz => ?_) (Nat.le_of_ble_eq_true rfl) (Nat.le_of_ble_eq_true rfl) (fun hz H locs (hP : va_P D vwCl (W_X10_needWhat cs a0 p0 i0_13 i0_14 q15.2) H) (hD : va_D _ (W_X10_needWhat cs a0 p0 i0_13 i0_14 q15.2)) hS => ?_)
  · replace hf := ow_f hz hf
    obtain rfl := Option.some.inj hf
    exact ⟨rfl, rfl⟩
  replace hf := ow_t hz hf
  obtain rfl := Option.some.inj hf
  exact ow_tretV C0 rfl hP hD hS (Nat.le_of_ble_eq_true rfl) (Nat.le_of_ble_eq_true rfl) dX10_needWhat_18
def f_X10_needWhat_b14    (v0_15 : Nat → Int32)  : Option (Nat × (Nat → Int32)) := f_X10_needWhat_b15 v0_15 (0)
set_option maxHeartbeats 4000000 in
set_option maxRecDepth 100000 in
theorem w_X10_needWhat_b14 {p : Program} {l : Launch} {e : Env} {s : State} {m : MethodId} {below : List Frame} {meth : Method} {c : Code} {D : va_G} {cs : Nat → ClassId} {av : Array Value} {w0 : va_W} (C0 : Cx p s m meth c av wsX10_needWhat cX10_needWhat 3 none RX10 D cs w0) (T0 : CxT l s c)  (a0 : Nat) (p0 : Nat → Nat) (i0_13 : Int32) (i0_14 : Int32) (res : Nat × (Nat → Int32))  : ∀ (v0_15 : Nat → Int32), f_X10_needWhat_b14 v0_15 = some res → ∀ (H : Heap) (locs : List Loc) (ls : Array Slot), va_P D vwCl (W_X10_needWhat cs a0 p0 i0_13 i0_14 v0_15) H → va_D (va_A w0 s.heap.size) (W_X10_needWhat cs a0 p0 i0_13 i0_14 v0_15) → va_S (va_A w0 s.heap.size) s.heap H locs → lv_has ls 3 [] → W p l e rm_X10_needWhat s m av below meth c H locs 0 0 (vx_MQ below (xV D cs w0 (W_X10_needWhat cs a0 p0 i0_13 i0_14 res.2) res.1 s.heap.size) (xX D cs w0 (W_X10_needWhat cs a0 p0 i0_13 i0_14 res.2) res.1 s.heap.size) av s 1 6 (va_A w0 s.heap.size)) (F0 m 14 ls [.ref a0]) := by
  obtain ⟨hx, hb, hr, hlk, hml, hown, hts, hK, hG, hE⟩ := id C0
  intro v0_15 hf H locs ls hP hD hS hl
  rw [f_X10_needWhat_b14] at hf
  refine lv_iconst (v := 0) hx hb dX10_needWhat_14 (by decide) ?_
  refine W.widen (k := 0) (n := 0) (Nat.le_of_ble_eq_true rfl) (Nat.le_of_ble_eq_true rfl) ?_
  exact w_X10_needWhat_b15 C0 T0 a0 p0 i0_13 i0_14 res v0_15 (0) hf _ _ _ hP hD hS (lv_sub hl [] rfl)
def f_X10_needWhat  (v0_15 : Nat → Int32) (x1 : Int32) (x2 : Int32) : Option (Nat × (Nat → Int32)) := if x1 < 0 then (f_X10_needWhat_b14 v0_15) else (if x2 < x1 then (f_X10_needWhat_b14 v0_15) else (f_X10_needWhat_b15 v0_15 (1)))
set_option maxHeartbeats 4000000 in
set_option maxRecDepth 100000 in
theorem c_X10_needWhat (l : Launch) (D : va_G) (cs : Nat → ClassId) (hl0 : l.stackTraces = false)  (sz : Nat) (a0 : Nat) (p0 : Nat → Nat) (i0_13 : Int32) (i0_14 : Int32) (v0_15 : Nat → Int32) (x1 : Int32) (x2 : Int32) (res : Nat × (Nat → Int32)) (hf : f_X10_needWhat  v0_15 x1 x2 = some res) : XV l D cs yX10_needWhat wsX10_needWhat rm_X10_needWhat [.ref a0, .int x1, .int x2] sz (W_X10_needWhat cs a0 p0 i0_13 i0_14 v0_15) (W_X10_needWhat cs a0 p0 i0_13 i0_14 res.2) res.1 1 6 := by
  rw [f_X10_needWhat] at hf
  refine ow_enterT (cc := cX10_needWhat) (nL := 3) (ret := none) hl0 (by decide) rfl (Nat.le_of_ble_eq_true rfl) (fun p e s m below meth c ls H locs C0 T0 hP hD hS hA hl => ?_)
  obtain ⟨hx, hb, hr, hlk, hml, hown, hts, hK, hG, hE⟩ := id C0
  have hl : lv_has ls 3 [(0, .ref a0), (1, .int x1), (2, .int x2)] := hl
  refine lv_aload_n hx hb dX10_needWhat_0 rfl (lv_at hl 0 rfl) ?_
  refine lv_iload_n hx hb dX10_needWhat_1 rfl (lv_at hl 1 rfl) ?_
  refine lv_if_lt (tgt := 14) hx hb dX10_needWhat_2 (by decide) (fun hc => ?_) (fun hc => ?_)
  · replace hf := ow_t hc hf
    refine W.widen (k := 0) (n := 0) (Nat.le_of_ble_eq_true rfl) (Nat.le_of_ble_eq_true rfl) ?_
    exact w_X10_needWhat_b14 C0 T0 a0 p0 i0_13 i0_14 res v0_15 hf _ _ _ hP hD hS (lv_sub hl [] rfl)
  · replace hf := ow_f hc hf
    refine lv_iload_n hx hb dX10_needWhat_5 rfl (lv_at hl 1 rfl) ?_
    refine lv_iload_n hx hb dX10_needWhat_6 rfl (lv_at hl 2 rfl) ?_
    refine lv_icmp_gt (tgt := 14) hx hb dX10_needWhat_7 (by decide) (fun hc => ?_) (fun hc => ?_)
    · replace hf := ow_t hc hf
      refine W.widen (k := 0) (n := 0) (Nat.le_of_ble_eq_true rfl) (Nat.le_of_ble_eq_true rfl) ?_
      exact w_X10_needWhat_b14 C0 T0 a0 p0 i0_13 i0_14 res v0_15 hf _ _ _ hP hD hS (lv_sub hl [] rfl)
    · replace hf := ow_f hc hf
      refine lv_iconst (v := 1) hx hb dX10_needWhat_10 (by decide) ?_
      refine lv_goto (tgt := 15) hx hb dX10_needWhat_11 (by decide) ?_
      refine W.widen (k := 0) (n := 0) (Nat.le_of_ble_eq_true rfl) (Nat.le_of_ble_eq_true rfl) ?_
      exact w_X10_needWhat_b15 C0 T0 a0 p0 i0_13 i0_14 res v0_15 (1) hf _ _ _ hP hD hS (lv_sub hl [] rfl)
theorem in_X10_orderState_X10 : ∀ w ∈ u_ws RX10 TX10 16, w ∈ wsX10_orderState := fun w h => List.mem_cons_of_mem _ (List.mem_append_left _ (List.mem_append_left _ (List.mem_append_left _ (List.mem_append_right _ h))))
theorem in_X10_orderState_X2 : ∀ w ∈ u_ws RX2 TX2 8, w ∈ wsX10_orderState := fun w h => List.mem_cons_of_mem _ (List.mem_append_left _ (List.mem_append_right _ h))
theorem in_X10_orderState_X4 : ∀ w ∈ u_ws RX4 TX4 3, w ∈ wsX10_orderState := fun w h => List.mem_cons_of_mem _ (List.mem_append_left _ (List.mem_append_left _ (List.mem_append_right _ h)))
abbrev S_X10_orderState (cs : Nat → ClassId) (a0 : Nat) (p0 : Nat → Nat) (i0_13 : Int32) (i0_14 : Int32) (v0_15 : Nat → Int32) (p1 : Nat → Nat) (i1_2 : Int32) (p2 : Nat → Nat) (i2_0 : Int32) (i2_6 : Int32) (i2_8 : Int32) (i2_10 : Int32) (i2_11 : Int32) (i2_12 : Int32) (v2_1 : Nat → Int32) (v2_2 : Nat → Int32) (v2_3 : Nat → Int32) (v2_4 : Nat → Int32) (v2_5 : Nat → Int32) (v2_7 : Nat → Int32) (v2_9 : Nat → Int32) (p3 : Nat → Nat) (i3_3 : Int32) (i3_4 : Int32) (i3_5 : Int32) (i3_6 : Int32) (i3_7 : Int32) (v3_0 : Nat → Int32) (v3_1 : Nat → Int32) (v3_2 : Nat → Int32) : List va_W := [wX10 cs a0 p0 i0_13 i0_14 v0_15, wX4 cs (p0 9) p1 i1_2, wX6 cs (p0 1) p2 i2_0 i2_6 i2_8 i2_10 i2_11 i2_12 v2_1 v2_2 v2_3 v2_4 v2_5 v2_7 v2_9, wX2 cs (p1 0) p3 i3_3 i3_4 i3_5 i3_6 i3_7 v3_0 v3_1 v3_2]
abbrev W_X10_orderState (cs : Nat → ClassId) (a0 : Nat) (p0 : Nat → Nat) (i0_13 : Int32) (i0_14 : Int32) (v0_15 : Nat → Int32) (p1 : Nat → Nat) (i1_2 : Int32) (p2 : Nat → Nat) (i2_0 : Int32) (i2_6 : Int32) (i2_8 : Int32) (i2_10 : Int32) (i2_11 : Int32) (i2_12 : Int32) (v2_1 : Nat → Int32) (v2_2 : Nat → Int32) (v2_3 : Nat → Int32) (v2_4 : Nat → Int32) (v2_5 : Nat → Int32) (v2_7 : Nat → Int32) (v2_9 : Nat → Int32) (p3 : Nat → Nat) (i3_3 : Int32) (i3_4 : Int32) (i3_5 : Int32) (i3_6 : Int32) (i3_7 : Int32) (v3_0 : Nat → Int32) (v3_1 : Nat → Int32) (v3_2 : Nat → Int32) : va_W := (S_X10_orderState cs a0 p0 i0_13 i0_14 v0_15 p1 i1_2 p2 i2_0 i2_6 i2_8 i2_10 i2_11 i2_12 v2_1 v2_2 v2_3 v2_4 v2_5 v2_7 v2_9 p3 i3_3 i3_4 i3_5 i3_6 i3_7 v3_0 v3_1 v3_2).flatten
abbrev rm_X10_orderState : Room := { frames := 2, cells := 0, slots := 0, locals := 45 }
def f_X10_orderState_b87  (v2_9 : Nat → Int32) (i3_4 : Int32) (i3_7 : Int32) (v3_0 : Nat → Int32) (v3_1 : Nat → Int32)   (x3 : Int32) (x4 : Int32) : Option (Int32) := if i3_4 < x4 then (some (0)) else ((f_X2_outsideOf v3_0 v3_1 x3 x4).bind fun q100 => if q100 = ((-1)) then (some (3)) else (some (0)))
set_option maxHeartbeats 4000000 in
set_option maxRecDepth 100000 in
theorem w_X10_orderState_b87 {p : Program} {l : Launch} {e : Env} {s : State} {m : MethodId} {below : List Frame} {meth : Method} {c : Code} {D : va_G} {cs : Nat → ClassId} {av : Array Value} {w0 : va_W} (C0 : Cx p s m meth c av wsX10_orderState cX10_orderState 6 (some .int) RX10 D cs w0)  (a0 : Nat) (p0 : Nat → Nat) (i0_13 : Int32) (i0_14 : Int32) (v0_15 : Nat → Int32) (p1 : Nat → Nat) (i1_2 : Int32) (p2 : Nat → Nat) (i2_0 : Int32) (i2_6 : Int32) (i2_8 : Int32) (i2_10 : Int32) (i2_11 : Int32) (i2_12 : Int32) (v2_1 : Nat → Int32) (v2_2 : Nat → Int32) (v2_3 : Nat → Int32) (v2_4 : Nat → Int32) (v2_5 : Nat → Int32) (v2_7 : Nat → Int32) (v2_9 : Nat → Int32) (p3 : Nat → Nat) (i3_3 : Int32) (i3_4 : Int32) (i3_5 : Int32) (i3_6 : Int32) (i3_7 : Int32) (v3_0 : Nat → Int32) (v3_1 : Nat → Int32) (v3_2 : Nat → Int32) (res : Int32)  : ∀ (x3 : Int32) (x4 : Int32), f_X10_orderState_b87 v2_9 i3_4 i3_7 v3_0 v3_1 x3 x4 = some res → ∀ (H : Heap) (locs : List Loc) (ls : Array Slot), va_P D vwCl (W_X10_orderState cs a0 p0 i0_13 i0_14 v0_15 p1 i1_2 p2 i2_0 i2_6 i2_8 i2_10 i2_11 i2_12 v2_1 v2_2 v2_3 v2_4 v2_5 v2_7 v2_9 p3 i3_3 i3_4 i3_5 i3_6 i3_7 v3_0 v3_1 v3_2) H → va_D (va_A w0 s.heap.size) (W_X10_orderState cs a0 p0 i0_13 i0_14 v0_15 p1 i1_2 p2 i2_0 i2_6 i2_8 i2_10 i2_11 i2_12 v2_1 v2_2 v2_3 v2_4 v2_5 v2_7 v2_9 p3 i3_3 i3_4 i3_5 i3_6 i3_7 v3_0 v3_1 v3_2) → va_S (va_A w0 s.heap.size) s.heap H locs → lv_has ls 6 [(2, .ref (p1 0)), (3, .int x3), (4, .int x4)] → W p l e rm_X10_orderState s m av below meth c H locs 0 0 (MQ below (oI D cs w0 (W_X10_orderState cs a0 p0 i0_13 i0_14 v0_15 p1 i1_2 p2 i2_0 i2_6 i2_8 i2_10 i2_11 i2_12 v2_1 v2_2 v2_3 v2_4 v2_5 v2_7 v2_9 p3 i3_3 i3_4 i3_5 i3_6 i3_7 v3_0 v3_1 v3_2) res s.heap.size) av s 0 0 (va_A w0 s.heap.size)) (F0 m 87 ls []) := by
  obtain ⟨hx, hb, hr, hlk, hml, hown, hts, hK, hG, hE⟩ := id C0
  intro x3 x4 hf H locs ls hP hD hS hl
  rw [f_X10_orderState_b87] at hf
  refine lv_aload_n hx hb dX10_orderState_87 rfl (lv_at hl 0 rfl) ?_
  refine va_get (D := D) (ci := 2) (v := .int i3_4) (C := RX2) (T := TX2) (N := 8) hx hb hts in_X10_orderState_X2 hown hK hP 11 rfl rfl 4 (by decide) (hts (.fieldLink RX10 171 "PaneDays$Glass" "day" "I") (List.mem_of_getElem? (i := 4) rfl)) (fun _ h9 => h9) rfl dX10_orderState_88 ?_
  refine lv_iload hx hb dX10_orderState_91 (lv_at hl 2 rfl) ?_
  refine lv_icmp_lt (tgt := 111) hx hb dX10_orderState_93 (by decide) (fun hc => ?_) (fun hc => ?_)
  · replace hf := ow_t hc hf
    refine lv_iconst (v := 0) hx hb dX10_orderState_111 (by decide) ?_
    obtain rfl := Option.some.inj hf
    exact ow_retI C0 hP hD hS dX10_orderState_112
  · replace hf := ow_f hc hf
    refine lv_aload_n hx hb dX10_orderState_96 rfl (lv_at hl 0 rfl) ?_
    refine lv_iload_n hx hb dX10_orderState_97 rfl (lv_at hl 1 rfl) ?_
    refine lv_iload hx hb dX10_orderState_98 (lv_at hl 2 rfl) ?_
    obtain ⟨q100, hq, hf⟩ := bd_some hf
    refine ow_gVI (As := [.int x3, .int x4]) (rest := []) (sg := (S_X10_orderState cs a0 p0 i0_13 i0_14 v0_15 p1 i1_2 p2 i2_0 i2_6 i2_8 i2_10 i2_11 i2_12 v2_1 v2_2 v2_3 v2_4 v2_5 v2_7 v2_9 p3 i3_3 i3_4 i3_5 i3_6 i3_7 v3_0 v3_1 v3_2)) (sc := [wX2 cs (p1 0) p3 i3_3 i3_4 i3_5 i3_6 i3_7 v3_0 v3_1 v3_2]) (sc' := [wX2 cs (p1 0) p3 i3_3 i3_4 i3_5 i3_6 i3_7 v3_0 v3_1 v3_2]) (sr := ow_pks (S_X10_orderState cs a0 p0 i0_13 i0_14 v0_15 p1 i1_2 p2 i2_0 i2_6 i2_8 i2_10 i2_11 i2_12 v2_1 v2_2 v2_3 v2_4 v2_5 v2_7 v2_9 p3 i3_3 i3_4 i3_5 i3_6 i3_7 v3_0 v3_1 v3_2) [0, 1, 2]) (sf := (S_X10_orderState cs a0 p0 i0_13 i0_14 v0_15 p1 i1_2 p2 i2_0 i2_6 i2_8 i2_10 i2_11 i2_12 v2_1 v2_2 v2_3 v2_4 v2_5 v2_7 v2_9 p3 i3_3 i3_4 i3_5 i3_6 i3_7 v3_0 v3_1 v3_2)) (r := q100) C0 (c_X2_outsideOf l D cs H.size (p1 0) p3 i3_3 i3_4 i3_5 i3_6 i3_7 v3_0 v3_1 v3_2 x3 x4 q100 hq) (cwV 2 hts gX10_orderState_X2_outsideOf rfl rfl rfl (by decide +kernel) ⟨Nat.le_of_ble_eq_true rfl, Nat.le_of_ble_eq_true rfl⟩) 2 rfl rfl hP hD hS (sg_permL [3] [0, 1, 2] 4 rfl (by decide) rfl rfl) (sg_permG [0, 1, 2, 3] 4 rfl (by decide) rfl) rfl hl.1 rfl (Nat.le_of_ble_eq_true rfl) ⟨(Nat.le_of_ble_eq_true rfl), (Nat.le_of_ble_eq_true rfl)⟩ dX10_orderState_100 (fun H locs (hP : va_P D vwCl (W_X10_orderState cs a0 p0 i0_13 i0_14 v0_15 p1 i1_2 p2 i2_0 i2_6 i2_8 i2_10 i2_11 i2_12 v2_1 v2_2 v2_3 v2_4 v2_5 v2_7 v2_9 p3 i3_3 i3_4 i3_5 i3_6 i3_7 v3_0 v3_1 v3_2) H) (hD : va_D _ (W_X10_orderState cs a0 p0 i0_13 i0_14 v0_15 p1 i1_2 p2 i2_0 i2_6 i2_8 i2_10 i2_11 i2_12 v2_1 v2_2 v2_3 v2_4 v2_5 v2_7 v2_9 p3 i3_3 i3_4 i3_5 i3_6 i3_7 v3_0 v3_1 v3_2)) hS => ?_)
    refine lv_iconst (v := (-1)) hx hb dX10_orderState_103 (by decide) ?_
    refine lv_icmp_ne (tgt := 111) hx hb dX10_orderState_104 (by decide) (fun hc => ?_) (fun hc => ?_)
    · replace hf := ow_f hc hf
      refine lv_iconst (v := 0) hx hb dX10_orderState_111 (by decide) ?_
      obtain rfl := Option.some.inj hf
      exact ow_retI C0 hP hD hS dX10_orderState_112
    · replace hf := ow_t hc hf
      refine lv_iconst (v := 3) hx hb dX10_orderState_107 (by decide) ?_
      refine lv_goto (tgt := 112) hx hb dX10_orderState_108 (by decide) ?_
      obtain rfl := Option.some.inj hf
      exact ow_retI C0 hP hD hS dX10_orderState_112
def f_X10_orderState  (v2_9 : Nat → Int32) (i3_4 : Int32) (i3_7 : Int32) (v3_0 : Nat → Int32) (v3_1 : Nat → Int32) (x1 : Int32) : Option (Int32) := (f_X6_cellOf v2_9 x1).bind fun q13 => (f_X6_part v2_9 x1 (3)).bind fun q23 => (f_X6_part v2_9 x1 (4)).bind fun q34 => if i3_4 ≤ q34 then (if i3_4 = q34 then ((f_X2_shown v3_0 v3_1 q13).bind fun q77 => if q77 = q23 then (some (1)) else (f_X10_orderState_b87 v2_9 i3_4 i3_7 v3_0 v3_1 q13 q23)) else (f_X10_orderState_b87 v2_9 i3_4 i3_7 v3_0 v3_1 q13 q23)) else (if ((i3_7 >>> (x1 &&& 31)) &&& 1) = 1 then (some (1)) else (some (2)))
set_option maxHeartbeats 4000000 in
set_option maxRecDepth 100000 in
theorem c_X10_orderState (l : Launch) (D : va_G) (cs : Nat → ClassId)  (sz : Nat) (a0 : Nat) (p0 : Nat → Nat) (i0_13 : Int32) (i0_14 : Int32) (v0_15 : Nat → Int32) (p1 : Nat → Nat) (i1_2 : Int32) (p2 : Nat → Nat) (i2_0 : Int32) (i2_6 : Int32) (i2_8 : Int32) (i2_10 : Int32) (i2_11 : Int32) (i2_12 : Int32) (v2_1 : Nat → Int32) (v2_2 : Nat → Int32) (v2_3 : Nat → Int32) (v2_4 : Nat → Int32) (v2_5 : Nat → Int32) (v2_7 : Nat → Int32) (v2_9 : Nat → Int32) (p3 : Nat → Nat) (i3_3 : Int32) (i3_4 : Int32) (i3_5 : Int32) (i3_6 : Int32) (i3_7 : Int32) (v3_0 : Nat → Int32) (v3_1 : Nat → Int32) (v3_2 : Nat → Int32) (x1 : Int32) (res : Int32) (hf : f_X10_orderState  v2_9 i3_4 i3_7 v3_0 v3_1 x1 = some res) : MI l D cs yX10_orderState wsX10_orderState rm_X10_orderState [.ref a0, .int x1] sz (W_X10_orderState cs a0 p0 i0_13 i0_14 v0_15 p1 i1_2 p2 i2_0 i2_6 i2_8 i2_10 i2_11 i2_12 v2_1 v2_2 v2_3 v2_4 v2_5 v2_7 v2_9 p3 i3_3 i3_4 i3_5 i3_6 i3_7 v3_0 v3_1 v3_2) (W_X10_orderState cs a0 p0 i0_13 i0_14 v0_15 p1 i1_2 p2 i2_0 i2_6 i2_8 i2_10 i2_11 i2_12 v2_1 v2_2 v2_3 v2_4 v2_5 v2_7 v2_9 p3 i3_3 i3_4 i3_5 i3_6 i3_7 v3_0 v3_1 v3_2) res := by
  rw [f_X10_orderState] at hf
  refine ow_enter (cc := cX10_orderState) (nL := 6) (ret := (some .int)) (by decide) rfl (Nat.le_of_ble_eq_true rfl) (fun p e s m below meth c ls H locs C0 hP hD hS hA hl => ?_)
  obtain ⟨hx, hb, hr, hlk, hml, hown, hts, hK, hG, hE⟩ := id C0
  have hl : lv_has ls 6 [(0, .ref a0), (1, .int x1)] := hl
  refine lv_aload_n hx hb dX10_orderState_0 rfl (lv_at hl 0 rfl) ?_
  refine va_get (D := D) (ci := 10) (v := .ref (p0 9)) (C := RX10) (T := TX10) (N := 16) hx hb hts in_X10_orderState_X10 hown hK hP 0 rfl rfl 9 (by decide) (hts (.fieldLink RX10 63 "PaneDays" "past" "LPaneDays$Past;") (List.mem_of_getElem? (i := 1) rfl)) (fun _ h9 => h9) rfl dX10_orderState_1 ?_
  refine va_get (D := D) (ci := 4) (v := .ref (p1 0)) (C := RX4) (T := TX4) (N := 3) hx hb hts in_X10_orderState_X4 hown hK hP 2 rfl rfl 0 (by decide) (hts (.fieldLink RX10 76 "PaneDays$Past" "now" "LPaneDays$Glass;") (List.mem_of_getElem? (i := 2) rfl)) (fun _ h9 => h9) rfl dX10_orderState_4 ?_
  refine lv_astore_n (lv' := [(2, .ref (p1 0)), (0, .ref a0), (1, .int x1)]) hx hb dX10_orderState_7 rfl hl (by decide) rfl (fun ls hl => ?_)
  refine lv_aload_n hx hb dX10_orderState_8 rfl (lv_at hl 1 rfl) ?_
  refine va_get (D := D) (ci := 10) (v := .ref (p0 1)) (C := RX10) (T := TX10) (N := 16) hx hb hts in_X10_orderState_X10 hown hK hP 0 rfl rfl 1 (by decide) (hts (.fieldLink RX10 19 "PaneDays" "street" "LPaneDays$Street;") (List.mem_of_getElem? (i := 3) rfl)) (fun _ h9 => h9) rfl dX10_orderState_9 ?_
  refine lv_iload_n hx hb dX10_orderState_12 rfl (lv_at hl 2 rfl) ?_
  obtain ⟨q13, hq, hf⟩ := bd_some hf
  refine ow_gVI (As := [.int x1]) (rest := []) (sg := (S_X10_orderState cs a0 p0 i0_13 i0_14 v0_15 p1 i1_2 p2 i2_0 i2_6 i2_8 i2_10 i2_11 i2_12 v2_1 v2_2 v2_3 v2_4 v2_5 v2_7 v2_9 p3 i3_3 i3_4 i3_5 i3_6 i3_7 v3_0 v3_1 v3_2)) (sc := [wX6 cs (p0 1) p2 i2_0 i2_6 i2_8 i2_10 i2_11 i2_12 v2_1 v2_2 v2_3 v2_4 v2_5 v2_7 v2_9]) (sc' := [wX6 cs (p0 1) p2 i2_0 i2_6 i2_8 i2_10 i2_11 i2_12 v2_1 v2_2 v2_3 v2_4 v2_5 v2_7 v2_9]) (sr := ow_pks (S_X10_orderState cs a0 p0 i0_13 i0_14 v0_15 p1 i1_2 p2 i2_0 i2_6 i2_8 i2_10 i2_11 i2_12 v2_1 v2_2 v2_3 v2_4 v2_5 v2_7 v2_9 p3 i3_3 i3_4 i3_5 i3_6 i3_7 v3_0 v3_1 v3_2) [0, 1, 3]) (sf := (S_X10_orderState cs a0 p0 i0_13 i0_14 v0_15 p1 i1_2 p2 i2_0 i2_6 i2_8 i2_10 i2_11 i2_12 v2_1 v2_2 v2_3 v2_4 v2_5 v2_7 v2_9 p3 i3_3 i3_4 i3_5 i3_6 i3_7 v3_0 v3_1 v3_2)) (r := q13) C0 (c_X6_cellOf l D cs H.size (p0 1) p2 i2_0 i2_6 i2_8 i2_10 i2_11 i2_12 v2_1 v2_2 v2_3 v2_4 v2_5 v2_7 v2_9 x1 q13 hq) (cwV 1 hts gX10_orderState_X6_cellOf rfl rfl rfl (by decide +kernel) ⟨Nat.le_of_ble_eq_true rfl, Nat.le_of_ble_eq_true rfl⟩) 6 rfl rfl hP hD hS (sg_permL [2] [0, 1, 3] 4 rfl (by decide) rfl rfl) (sg_permG [0, 1, 3, 2] 4 rfl (by decide) rfl) rfl hl.1 rfl (Nat.le_of_ble_eq_true rfl) ⟨(Nat.le_of_ble_eq_true rfl), (Nat.le_of_ble_eq_true rfl)⟩ dX10_orderState_13 (fun H locs (hP : va_P D vwCl (W_X10_orderState cs a0 p0 i0_13 i0_14 v0_15 p1 i1_2 p2 i2_0 i2_6 i2_8 i2_10 i2_11 i2_12 v2_1 v2_2 v2_3 v2_4 v2_5 v2_7 v2_9 p3 i3_3 i3_4 i3_5 i3_6 i3_7 v3_0 v3_1 v3_2) H) (hD : va_D _ (W_X10_orderState cs a0 p0 i0_13 i0_14 v0_15 p1 i1_2 p2 i2_0 i2_6 i2_8 i2_10 i2_11 i2_12 v2_1 v2_2 v2_3 v2_4 v2_5 v2_7 v2_9 p3 i3_3 i3_4 i3_5 i3_6 i3_7 v3_0 v3_1 v3_2)) hS => ?_)
  refine lv_istore_n (lv' := [(3, .int q13), (2, .ref (p1 0)), (0, .ref a0), (1, .int x1)]) hx hb dX10_orderState_16 rfl hl (by decide) rfl (fun ls hl => ?_)
  refine lv_aload_n hx hb dX10_orderState_17 rfl (lv_at hl 2 rfl) ?_
  refine va_get (D := D) (ci := 10) (v := .ref (p0 1)) (C := RX10) (T := TX10) (N := 16) hx hb hts in_X10_orderState_X10 hown hK hP 0 rfl rfl 1 (by decide) (hts (.fieldLink RX10 19 "PaneDays" "street" "LPaneDays$Street;") (List.mem_of_getElem? (i := 3) rfl)) (fun _ h9 => h9) rfl dX10_orderState_18 ?_
  refine lv_iload_n hx hb dX10_orderState_21 rfl (lv_at hl 3 rfl) ?_
  refine lv_iconst (v := 3) hx hb dX10_orderState_22 (by decide) ?_
  obtain ⟨q23, hq, hf⟩ := bd_some hf
  refine ow_gVI (As := [.int x1, .int 3]) (rest := []) (sg := (S_X10_orderState cs a0 p0 i0_13 i0_14 v0_15 p1 i1_2 p2 i2_0 i2_6 i2_8 i2_10 i2_11 i2_12 v2_1 v2_2 v2_3 v2_4 v2_5 v2_7 v2_9 p3 i3_3 i3_4 i3_5 i3_6 i3_7 v3_0 v3_1 v3_2)) (sc := [wX6 cs (p0 1) p2 i2_0 i2_6 i2_8 i2_10 i2_11 i2_12 v2_1 v2_2 v2_3 v2_4 v2_5 v2_7 v2_9]) (sc' := [wX6 cs (p0 1) p2 i2_0 i2_6 i2_8 i2_10 i2_11 i2_12 v2_1 v2_2 v2_3 v2_4 v2_5 v2_7 v2_9]) (sr := ow_pks (S_X10_orderState cs a0 p0 i0_13 i0_14 v0_15 p1 i1_2 p2 i2_0 i2_6 i2_8 i2_10 i2_11 i2_12 v2_1 v2_2 v2_3 v2_4 v2_5 v2_7 v2_9 p3 i3_3 i3_4 i3_5 i3_6 i3_7 v3_0 v3_1 v3_2) [0, 1, 3]) (sf := (S_X10_orderState cs a0 p0 i0_13 i0_14 v0_15 p1 i1_2 p2 i2_0 i2_6 i2_8 i2_10 i2_11 i2_12 v2_1 v2_2 v2_3 v2_4 v2_5 v2_7 v2_9 p3 i3_3 i3_4 i3_5 i3_6 i3_7 v3_0 v3_1 v3_2)) (r := q23) C0 (c_X6_part l D cs H.size (p0 1) p2 i2_0 i2_6 i2_8 i2_10 i2_11 i2_12 v2_1 v2_2 v2_3 v2_4 v2_5 v2_7 v2_9 x1 (3) q23 hq) (cwV 2 hts gX10_orderState_X6_part rfl rfl rfl (by decide +kernel) ⟨Nat.le_of_ble_eq_true rfl, Nat.le_of_ble_eq_true rfl⟩) 6 rfl rfl hP hD hS (sg_permL [2] [0, 1, 3] 4 rfl (by decide) rfl rfl) (sg_permG [0, 1, 3, 2] 4 rfl (by decide) rfl) rfl hl.1 rfl (Nat.le_of_ble_eq_true rfl) ⟨(Nat.le_of_ble_eq_true rfl), (Nat.le_of_ble_eq_true rfl)⟩ dX10_orderState_23 (fun H locs (hP : va_P D vwCl (W_X10_orderState cs a0 p0 i0_13 i0_14 v0_15 p1 i1_2 p2 i2_0 i2_6 i2_8 i2_10 i2_11 i2_12 v2_1 v2_2 v2_3 v2_4 v2_5 v2_7 v2_9 p3 i3_3 i3_4 i3_5 i3_6 i3_7 v3_0 v3_1 v3_2) H) (hD : va_D _ (W_X10_orderState cs a0 p0 i0_13 i0_14 v0_15 p1 i1_2 p2 i2_0 i2_6 i2_8 i2_10 i2_11 i2_12 v2_1 v2_2 v2_3 v2_4 v2_5 v2_7 v2_9 p3 i3_3 i3_4 i3_5 i3_6 i3_7 v3_0 v3_1 v3_2)) hS => ?_)
  refine lv_istore (lv' := [(4, .int q23), (3, .int q13), (2, .ref (p1 0)), (0, .ref a0), (1, .int x1)]) hx hb dX10_orderState_26 hl (by decide) rfl (fun ls hl => ?_)
  refine lv_aload_n hx hb dX10_orderState_28 rfl (lv_at hl 3 rfl) ?_
  refine va_get (D := D) (ci := 10) (v := .ref (p0 1)) (C := RX10) (T := TX10) (N := 16) hx hb hts in_X10_orderState_X10 hown hK hP 0 rfl rfl 1 (by decide) (hts (.fieldLink RX10 19 "PaneDays" "street" "LPaneDays$Street;") (List.mem_of_getElem? (i := 3) rfl)) (fun _ h9 => h9) rfl dX10_orderState_29 ?_
  refine lv_iload_n hx hb dX10_orderState_32 rfl (lv_at hl 4 rfl) ?_
  refine lv_iconst (v := 4) hx hb dX10_orderState_33 (by decide) ?_
  obtain ⟨q34, hq, hf⟩ := bd_some hf
  refine ow_gVI (As := [.int x1, .int 4]) (rest := []) (sg := (S_X10_orderState cs a0 p0 i0_13 i0_14 v0_15 p1 i1_2 p2 i2_0 i2_6 i2_8 i2_10 i2_11 i2_12 v2_1 v2_2 v2_3 v2_4 v2_5 v2_7 v2_9 p3 i3_3 i3_4 i3_5 i3_6 i3_7 v3_0 v3_1 v3_2)) (sc := [wX6 cs (p0 1) p2 i2_0 i2_6 i2_8 i2_10 i2_11 i2_12 v2_1 v2_2 v2_3 v2_4 v2_5 v2_7 v2_9]) (sc' := [wX6 cs (p0 1) p2 i2_0 i2_6 i2_8 i2_10 i2_11 i2_12 v2_1 v2_2 v2_3 v2_4 v2_5 v2_7 v2_9]) (sr := ow_pks (S_X10_orderState cs a0 p0 i0_13 i0_14 v0_15 p1 i1_2 p2 i2_0 i2_6 i2_8 i2_10 i2_11 i2_12 v2_1 v2_2 v2_3 v2_4 v2_5 v2_7 v2_9 p3 i3_3 i3_4 i3_5 i3_6 i3_7 v3_0 v3_1 v3_2) [0, 1, 3]) (sf := (S_X10_orderState cs a0 p0 i0_13 i0_14 v0_15 p1 i1_2 p2 i2_0 i2_6 i2_8 i2_10 i2_11 i2_12 v2_1 v2_2 v2_3 v2_4 v2_5 v2_7 v2_9 p3 i3_3 i3_4 i3_5 i3_6 i3_7 v3_0 v3_1 v3_2)) (r := q34) C0 (c_X6_part l D cs H.size (p0 1) p2 i2_0 i2_6 i2_8 i2_10 i2_11 i2_12 v2_1 v2_2 v2_3 v2_4 v2_5 v2_7 v2_9 x1 (4) q34 hq) (cwV 2 hts gX10_orderState_X6_part rfl rfl rfl (by decide +kernel) ⟨Nat.le_of_ble_eq_true rfl, Nat.le_of_ble_eq_true rfl⟩) 6 rfl rfl hP hD hS (sg_permL [2] [0, 1, 3] 4 rfl (by decide) rfl rfl) (sg_permG [0, 1, 3, 2] 4 rfl (by decide) rfl) rfl hl.1 rfl (Nat.le_of_ble_eq_true rfl) ⟨(Nat.le_of_ble_eq_true rfl), (Nat.le_of_ble_eq_true rfl)⟩ dX10_orderState_34 (fun H locs (hP : va_P D vwCl (W_X10_orderState cs a0 p0 i0_13 i0_14 v0_15 p1 i1_2 p2 i2_0 i2_6 i2_8 i2_10 i2_11 i2_12 v2_1 v2_2 v2_3 v2_4 v2_5 v2_7 v2_9 p3 i3_3 i3_4 i3_5 i3_6 i3_7 v3_0 v3_1 v3_2) H) (hD : va_D _ (W_X10_orderState cs a0 p0 i0_13 i0_14 v0_15 p1 i1_2 p2 i2_0 i2_6 i2_8 i2_10 i2_11 i2_12 v2_1 v2_2 v2_3 v2_4 v2_5 v2_7 v2_9 p3 i3_3 i3_4 i3_5 i3_6 i3_7 v3_0 v3_1 v3_2)) hS => ?_)
  refine lv_istore (lv' := [(5, .int q34), (4, .int q23), (3, .int q13), (2, .ref (p1 0)), (0, .ref a0), (1, .int x1)]) hx hb dX10_orderState_37 hl (by decide) rfl (fun ls hl => ?_)
  refine lv_aload_n hx hb dX10_orderState_39 rfl (lv_at hl 3 rfl) ?_
  refine va_get (D := D) (ci := 2) (v := .int i3_4) (C := RX2) (T := TX2) (N := 8) hx hb hts in_X10_orderState_X2 hown hK hP 11 rfl rfl 4 (by decide) (hts (.fieldLink RX10 171 "PaneDays$Glass" "day" "I") (List.mem_of_getElem? (i := 4) rfl)) (fun _ h9 => h9) rfl dX10_orderState_40 ?_
  refine lv_iload hx hb dX10_orderState_43 (lv_at hl 0 rfl) ?_
  refine lv_icmp_le (tgt := 66) hx hb dX10_orderState_45 (by decide) (fun hc => ?_) (fun hc => ?_)
  · replace hf := ow_t hc hf
    refine lv_aload_n hx hb dX10_orderState_66 rfl (lv_at hl 3 rfl) ?_
    refine va_get (D := D) (ci := 2) (v := .int i3_4) (C := RX2) (T := TX2) (N := 8) hx hb hts in_X10_orderState_X2 hown hK hP 11 rfl rfl 4 (by decide) (hts (.fieldLink RX10 171 "PaneDays$Glass" "day" "I") (List.mem_of_getElem? (i := 4) rfl)) (fun _ h9 => h9) rfl dX10_orderState_67 ?_
    refine lv_iload hx hb dX10_orderState_70 (lv_at hl 0 rfl) ?_
    refine lv_icmp_ne (tgt := 87) hx hb dX10_orderState_72 (by decide) (fun hc => ?_) (fun hc => ?_)
    · replace hf := ow_f hc hf
      exact w_X10_orderState_b87 C0 a0 p0 i0_13 i0_14 v0_15 p1 i1_2 p2 i2_0 i2_6 i2_8 i2_10 i2_11 i2_12 v2_1 v2_2 v2_3 v2_4 v2_5 v2_7 v2_9 p3 i3_3 i3_4 i3_5 i3_6 i3_7 v3_0 v3_1 v3_2 res q13 q23 hf _ _ _ hP hD hS (lv_sub hl [3, 2, 1] rfl)
    · replace hf := ow_t hc hf
      refine lv_aload_n hx hb dX10_orderState_75 rfl (lv_at hl 3 rfl) ?_
      refine lv_iload_n hx hb dX10_orderState_76 rfl (lv_at hl 2 rfl) ?_
      obtain ⟨q77, hq, hf⟩ := bd_some hf
      refine ow_gVI (As := [.int q13]) (rest := []) (sg := (S_X10_orderState cs a0 p0 i0_13 i0_14 v0_15 p1 i1_2 p2 i2_0 i2_6 i2_8 i2_10 i2_11 i2_12 v2_1 v2_2 v2_3 v2_4 v2_5 v2_7 v2_9 p3 i3_3 i3_4 i3_5 i3_6 i3_7 v3_0 v3_1 v3_2)) (sc := [wX2 cs (p1 0) p3 i3_3 i3_4 i3_5 i3_6 i3_7 v3_0 v3_1 v3_2]) (sc' := [wX2 cs (p1 0) p3 i3_3 i3_4 i3_5 i3_6 i3_7 v3_0 v3_1 v3_2]) (sr := ow_pks (S_X10_orderState cs a0 p0 i0_13 i0_14 v0_15 p1 i1_2 p2 i2_0 i2_6 i2_8 i2_10 i2_11 i2_12 v2_1 v2_2 v2_3 v2_4 v2_5 v2_7 v2_9 p3 i3_3 i3_4 i3_5 i3_6 i3_7 v3_0 v3_1 v3_2) [0, 1, 2]) (sf := (S_X10_orderState cs a0 p0 i0_13 i0_14 v0_15 p1 i1_2 p2 i2_0 i2_6 i2_8 i2_10 i2_11 i2_12 v2_1 v2_2 v2_3 v2_4 v2_5 v2_7 v2_9 p3 i3_3 i3_4 i3_5 i3_6 i3_7 v3_0 v3_1 v3_2)) (r := q77) C0 (c_X2_shown l D cs H.size (p1 0) p3 i3_3 i3_4 i3_5 i3_6 i3_7 v3_0 v3_1 v3_2 q13 q77 hq) (cwV 1 hts gX10_orderState_X2_shown rfl rfl rfl (by decide +kernel) ⟨Nat.le_of_ble_eq_true rfl, Nat.le_of_ble_eq_true rfl⟩) 2 rfl rfl hP hD hS (sg_permL [3] [0, 1, 2] 4 rfl (by decide) rfl rfl) (sg_permG [0, 1, 2, 3] 4 rfl (by decide) rfl) rfl hl.1 rfl (Nat.le_of_ble_eq_true rfl) ⟨(Nat.le_of_ble_eq_true rfl), (Nat.le_of_ble_eq_true rfl)⟩ dX10_orderState_77 (fun H locs (hP : va_P D vwCl (W_X10_orderState cs a0 p0 i0_13 i0_14 v0_15 p1 i1_2 p2 i2_0 i2_6 i2_8 i2_10 i2_11 i2_12 v2_1 v2_2 v2_3 v2_4 v2_5 v2_7 v2_9 p3 i3_3 i3_4 i3_5 i3_6 i3_7 v3_0 v3_1 v3_2) H) (hD : va_D _ (W_X10_orderState cs a0 p0 i0_13 i0_14 v0_15 p1 i1_2 p2 i2_0 i2_6 i2_8 i2_10 i2_11 i2_12 v2_1 v2_2 v2_3 v2_4 v2_5 v2_7 v2_9 p3 i3_3 i3_4 i3_5 i3_6 i3_7 v3_0 v3_1 v3_2)) hS => ?_)
      refine lv_iload hx hb dX10_orderState_80 (lv_at hl 1 rfl) ?_
      refine lv_icmp_ne (tgt := 87) hx hb dX10_orderState_82 (by decide) (fun hc => ?_) (fun hc => ?_)
      · replace hf := ow_f hc hf
        exact w_X10_orderState_b87 C0 a0 p0 i0_13 i0_14 v0_15 p1 i1_2 p2 i2_0 i2_6 i2_8 i2_10 i2_11 i2_12 v2_1 v2_2 v2_3 v2_4 v2_5 v2_7 v2_9 p3 i3_3 i3_4 i3_5 i3_6 i3_7 v3_0 v3_1 v3_2 res q13 q23 hf _ _ _ hP hD hS (lv_sub hl [3, 2, 1] rfl)
      · replace hf := ow_t hc hf
        refine lv_iconst (v := 1) hx hb dX10_orderState_85 (by decide) ?_
        obtain rfl := Option.some.inj hf
        exact ow_retI C0 hP hD hS dX10_orderState_86
  · replace hf := ow_f hc hf
    refine lv_aload_n hx hb dX10_orderState_48 rfl (lv_at hl 3 rfl) ?_
    refine va_get (D := D) (ci := 2) (v := .int i3_7) (C := RX2) (T := TX2) (N := 8) hx hb hts in_X10_orderState_X2 hown hK hP 11 rfl rfl 7 (by decide) (hts (.fieldLink RX10 381 "PaneDays$Glass" "met" "I") (List.mem_of_getElem? (i := 5) rfl)) (fun _ h9 => h9) rfl dX10_orderState_49 ?_
    refine lv_iload_n hx hb dX10_orderState_52 rfl (lv_at hl 5 rfl) ?_
    refine lv_ishr hx hb dX10_orderState_53 ?_
    refine lv_iconst (v := 1) hx hb dX10_orderState_54 (by decide) ?_
    refine lv_iand hx hb dX10_orderState_55 ?_
    refine lv_iconst (v := 1) hx hb dX10_orderState_56 (by decide) ?_
    refine lv_icmp_ne (tgt := 64) hx hb dX10_orderState_57 (by decide) (fun hc => ?_) (fun hc => ?_)
    · replace hf := ow_f hc hf
      refine lv_iconst (v := 2) hx hb dX10_orderState_64 (by decide) ?_
      obtain rfl := Option.some.inj hf
      exact ow_retI C0 hP hD hS dX10_orderState_65
    · replace hf := ow_t hc hf
      refine lv_iconst (v := 1) hx hb dX10_orderState_60 (by decide) ?_
      refine lv_goto (tgt := 65) hx hb dX10_orderState_61 (by decide) ?_
      obtain rfl := Option.some.inj hf
      exact ow_retI C0 hP hD hS dX10_orderState_65
theorem in_X10_beginText_X10 : ∀ w ∈ u_ws RX10 TX10 16, w ∈ wsX10_beginText := fun w h => List.mem_cons_of_mem _ (List.mem_append_left _ (List.mem_append_left _ (List.mem_append_right _ h)))
theorem in_X10_beginText_X7 : ∀ w ∈ u_ws RX7 TX7 9, w ∈ wsX10_beginText := fun w h => List.mem_cons_of_mem _ (List.mem_append_left _ (List.mem_append_right _ h))
abbrev S_X10_beginText (cs : Nat → ClassId) (a0 : Nat) (p0 : Nat → Nat) (i0_13 : Int32) (i0_14 : Int32) (v0_15 : Nat → Int32) (p1 : Nat → Nat) (i1_1 : Int32) (i1_2 : Int32) (i1_3 : Int32) (i1_4 : Int32) (i1_5 : Int32) (i1_6 : Int32) (i1_7 : Int32) (i1_8 : Int32) (v1_0 : Nat → Int32) : List va_W := [wX10 cs a0 p0 i0_13 i0_14 v0_15, wX7 cs (p0 0) p1 i1_1 i1_2 i1_3 i1_4 i1_5 i1_6 i1_7 i1_8 v1_0]
abbrev W_X10_beginText (cs : Nat → ClassId) (a0 : Nat) (p0 : Nat → Nat) (i0_13 : Int32) (i0_14 : Int32) (v0_15 : Nat → Int32) (p1 : Nat → Nat) (i1_1 : Int32) (i1_2 : Int32) (i1_3 : Int32) (i1_4 : Int32) (i1_5 : Int32) (i1_6 : Int32) (i1_7 : Int32) (i1_8 : Int32) (v1_0 : Nat → Int32) : va_W := (S_X10_beginText cs a0 p0 i0_13 i0_14 v0_15 p1 i1_1 i1_2 i1_3 i1_4 i1_5 i1_6 i1_7 i1_8 v1_0).flatten
abbrev rm_X10_beginText : Room := { frames := 7, cells := 1, slots := 6, locals := 102 }
def f_X10_beginText_b26  (i1_1 : Int32) (v1_0 : Nat → Int32)  (v0_15 : Nat → Int32) (i1_2 : Int32) (i1_3 : Int32) (i1_4 : Int32) (i1_5 : Int32) (i1_6 : Int32) (i1_7 : Int32) (i1_8 : Int32) (x1 : Int32) (t1 : Int32) : Option (Nat × (Nat → Int32) × Int32 × Int32 × Int32 × Int32 × Int32 × Int32 × Int32) := (f_X10_need v0_15 t1).bind fun q26 => if q26.1 = 0 then ((f_X7_begin i1_2 i1_3 i1_4 i1_5 i1_6 i1_7 i1_8 v1_0 x1).bind fun q34 => some (0, q26.2, q34.1, q34.2.1, q34.2.2.1, q34.2.2.2.1, q34.2.2.2.2.1, q34.2.2.2.2.2.1, q34.2.2.2.2.2.2)) else (some (q26.1, q26.2, i1_2, i1_3, i1_4, i1_5, i1_6, i1_7, i1_8))
set_option maxHeartbeats 4000000 in
set_option maxRecDepth 100000 in
theorem w_X10_beginText_b26 {p : Program} {l : Launch} {e : Env} {s : State} {m : MethodId} {below : List Frame} {meth : Method} {c : Code} {D : va_G} {cs : Nat → ClassId} {av : Array Value} {w0 : va_W} (C0 : Cx p s m meth c av wsX10_beginText cX10_beginText 3 none RX10 D cs w0) (T0 : CxT l s c)  (a0 : Nat) (p0 : Nat → Nat) (i0_13 : Int32) (i0_14 : Int32) (p1 : Nat → Nat) (i1_1 : Int32) (v1_0 : Nat → Int32) (res : Nat × (Nat → Int32) × Int32 × Int32 × Int32 × Int32 × Int32 × Int32 × Int32)  : ∀ (v0_15 : Nat → Int32) (i1_2 : Int32) (i1_3 : Int32) (i1_4 : Int32) (i1_5 : Int32) (i1_6 : Int32) (i1_7 : Int32) (i1_8 : Int32) (x1 : Int32) (t1 : Int32), f_X10_beginText_b26 i1_1 v1_0 v0_15 i1_2 i1_3 i1_4 i1_5 i1_6 i1_7 i1_8 x1 t1 = some res → ∀ (H : Heap) (locs : List Loc) (ls : Array Slot), va_P D vwCl (W_X10_beginText cs a0 p0 i0_13 i0_14 v0_15 p1 i1_1 i1_2 i1_3 i1_4 i1_5 i1_6 i1_7 i1_8 v1_0) H → va_D (va_A w0 s.heap.size) (W_X10_beginText cs a0 p0 i0_13 i0_14 v0_15 p1 i1_1 i1_2 i1_3 i1_4 i1_5 i1_6 i1_7 i1_8 v1_0) → va_S (va_A w0 s.heap.size) s.heap H locs → lv_has ls 3 [(0, .ref a0), (1, .int x1)] → W p l e rm_X10_beginText s m av below meth c H locs 0 0 (vx_MQ below (xV D cs w0 (W_X10_beginText cs a0 p0 i0_13 i0_14 res.2.1 p1 i1_1 res.2.2.1 res.2.2.2.1 res.2.2.2.2.1 res.2.2.2.2.2.1 res.2.2.2.2.2.2.1 res.2.2.2.2.2.2.2.1 res.2.2.2.2.2.2.2.2 v1_0) res.1 s.heap.size) (xX D cs w0 (W_X10_beginText cs a0 p0 i0_13 i0_14 res.2.1 p1 i1_1 res.2.2.1 res.2.2.2.1 res.2.2.2.2.1 res.2.2.2.2.2.1 res.2.2.2.2.2.2.1 res.2.2.2.2.2.2.2.1 res.2.2.2.2.2.2.2.2 v1_0) res.1 s.heap.size) av s 1 6 (va_A w0 s.heap.size)) (F0 m 26 ls [.int t1, .ref a0]) := by
  obtain ⟨hx, hb, hr, hlk, hml, hown, hts, hK, hG, hE⟩ := id C0
  intro v0_15 i1_2 i1_3 i1_4 i1_5 i1_6 i1_7 i1_8 x1 t1 hf H locs ls hP hD hS hl
  rw [f_X10_beginText_b26] at hf
  obtain ⟨q26, hq, hf⟩ := bd_some hf
  refine ow_gtVV (As := [.int t1]) (rest := []) (sg := (S_X10_beginText cs a0 p0 i0_13 i0_14 v0_15 p1 i1_1 i1_2 i1_3 i1_4 i1_5 i1_6 i1_7 i1_8 v1_0)) (sc := [wX10 cs a0 p0 i0_13 i0_14 v0_15]) (sc' := [wX10 cs a0 p0 i0_13 i0_14 q26.2]) (sr := ow_pks (S_X10_beginText cs a0 p0 i0_13 i0_14 v0_15 p1 i1_1 i1_2 i1_3 i1_4 i1_5 i1_6 i1_7 i1_8 v1_0) [1]) (sf := (S_X10_beginText cs a0 p0 i0_13 i0_14 q26.2 p1 i1_1 i1_2 i1_3 i1_4 i1_5 i1_6 i1_7 i1_8 v1_0)) (k := q26.1) C0 T0 (c_X10_need l D cs T0.1 H.size a0 p0 i0_13 i0_14 v0_15 t1 q26 hq) (cwV 1 hts gX10_beginText_X10_need rfl rfl rfl (by decide +kernel) ⟨Nat.le_of_ble_eq_true rfl, Nat.le_of_ble_eq_true rfl⟩) 10 rfl rfl hP hD hS (sg_permL [0] [1] 2 rfl (by decide) rfl rfl) (sg_permG [1, 0] 2 rfl (by decide) rfl) rfl hl.1 rfl (Nat.le_of_ble_eq_true rfl) ⟨(Nat.le_of_ble_eq_true rfl), (Nat.le_of_ble_eq_true rfl)⟩ dX10_beginText_26 (fun hz => ?_) (Nat.le_of_ble_eq_true rfl) (Nat.le_of_ble_eq_true rfl) (fun hz H locs (hP : va_P D vwCl (W_X10_beginText cs a0 p0 i0_13 i0_14 q26.2 p1 i1_1 i1_2 i1_3 i1_4 i1_5 i1_6 i1_7 i1_8 v1_0) H) (hD : va_D _ (W_X10_beginText cs a0 p0 i0_13 i0_14 q26.2 p1 i1_1 i1_2 i1_3 i1_4 i1_5 i1_6 i1_7 i1_8 v1_0)) hS => ?_)
  · replace hf := ow_f hz hf
    obtain rfl := Option.some.inj hf
    exact ⟨rfl, rfl⟩
  replace hf := ow_t hz hf
  refine lv_aload_n hx hb dX10_beginText_29 rfl (lv_at hl 0 rfl) ?_
  refine va_get (D := D) (ci := 10) (v := .ref (p0 0)) (C := RX10) (T := TX10) (N := 16) hx hb hts in_X10_beginText_X10 hown hK hP 0 rfl rfl 0 (by decide) (hts (.fieldLink RX10 10 "PaneDays" "tape" "LPaneDays$Tape;") (List.mem_of_getElem? (i := 1) rfl)) (fun _ h9 => h9) rfl dX10_beginText_30 ?_
  refine lv_iload_n hx hb dX10_beginText_33 rfl (lv_at hl 1 rfl) ?_
  obtain ⟨q34, hq, hf⟩ := bd_some hf
  refine ow_gVV (As := [.int x1]) (rest := []) (sg := (S_X10_beginText cs a0 p0 i0_13 i0_14 q26.2 p1 i1_1 i1_2 i1_3 i1_4 i1_5 i1_6 i1_7 i1_8 v1_0)) (sc := [wX7 cs (p0 0) p1 i1_1 i1_2 i1_3 i1_4 i1_5 i1_6 i1_7 i1_8 v1_0]) (sc' := [wX7 cs (p0 0) p1 i1_1 q34.1 q34.2.1 q34.2.2.1 q34.2.2.2.1 q34.2.2.2.2.1 q34.2.2.2.2.2.1 q34.2.2.2.2.2.2 v1_0]) (sr := ow_pks (S_X10_beginText cs a0 p0 i0_13 i0_14 q26.2 p1 i1_1 i1_2 i1_3 i1_4 i1_5 i1_6 i1_7 i1_8 v1_0) [0]) (sf := (S_X10_beginText cs a0 p0 i0_13 i0_14 q26.2 p1 i1_1 q34.1 q34.2.1 q34.2.2.1 q34.2.2.2.1 q34.2.2.2.2.1 q34.2.2.2.2.2.1 q34.2.2.2.2.2.2 v1_0)) C0 (c_X7_begin l D cs H.size (p0 0) p1 i1_1 i1_2 i1_3 i1_4 i1_5 i1_6 i1_7 i1_8 v1_0 x1 q34 hq) (cwV 1 hts gX10_beginText_X7_begin rfl rfl rfl (by decide +kernel) ⟨Nat.le_of_ble_eq_true rfl, Nat.le_of_ble_eq_true rfl⟩) 7 rfl rfl hP hD hS (sg_permL [1] [0] 2 rfl (by decide) rfl rfl) (sg_permG [0, 1] 2 rfl (by decide) rfl) rfl hl.1 rfl (Nat.le_of_ble_eq_true rfl) ⟨(Nat.le_of_ble_eq_true rfl), (Nat.le_of_ble_eq_true rfl)⟩ dX10_beginText_34 (fun H locs (hP : va_P D vwCl (W_X10_beginText cs a0 p0 i0_13 i0_14 q26.2 p1 i1_1 q34.1 q34.2.1 q34.2.2.1 q34.2.2.2.1 q34.2.2.2.2.1 q34.2.2.2.2.2.1 q34.2.2.2.2.2.2 v1_0) H) (hD : va_D _ (W_X10_beginText cs a0 p0 i0_13 i0_14 q26.2 p1 i1_1 q34.1 q34.2.1 q34.2.2.1 q34.2.2.2.1 q34.2.2.2.2.1 q34.2.2.2.2.2.1 q34.2.2.2.2.2.2 v1_0)) hS => ?_)
  obtain rfl := Option.some.inj hf
  exact ow_tretV C0 rfl hP hD hS (Nat.le_of_ble_eq_true rfl) (Nat.le_of_ble_eq_true rfl) dX10_beginText_37
def f_X10_beginText_b25  (i1_1 : Int32) (v1_0 : Nat → Int32)  (v0_15 : Nat → Int32) (i1_2 : Int32) (i1_3 : Int32) (i1_4 : Int32) (i1_5 : Int32) (i1_6 : Int32) (i1_7 : Int32) (i1_8 : Int32) (x1 : Int32) : Option (Nat × (Nat → Int32) × Int32 × Int32 × Int32 × Int32 × Int32 × Int32 × Int32) := f_X10_beginText_b26 i1_1 v1_0 v0_15 i1_2 i1_3 i1_4 i1_5 i1_6 i1_7 i1_8 x1 (0)
set_option maxHeartbeats 4000000 in
set_option maxRecDepth 100000 in
theorem w_X10_beginText_b25 {p : Program} {l : Launch} {e : Env} {s : State} {m : MethodId} {below : List Frame} {meth : Method} {c : Code} {D : va_G} {cs : Nat → ClassId} {av : Array Value} {w0 : va_W} (C0 : Cx p s m meth c av wsX10_beginText cX10_beginText 3 none RX10 D cs w0) (T0 : CxT l s c)  (a0 : Nat) (p0 : Nat → Nat) (i0_13 : Int32) (i0_14 : Int32) (p1 : Nat → Nat) (i1_1 : Int32) (v1_0 : Nat → Int32) (res : Nat × (Nat → Int32) × Int32 × Int32 × Int32 × Int32 × Int32 × Int32 × Int32)  : ∀ (v0_15 : Nat → Int32) (i1_2 : Int32) (i1_3 : Int32) (i1_4 : Int32) (i1_5 : Int32) (i1_6 : Int32) (i1_7 : Int32) (i1_8 : Int32) (x1 : Int32), f_X10_beginText_b25 i1_1 v1_0 v0_15 i1_2 i1_3 i1_4 i1_5 i1_6 i1_7 i1_8 x1 = some res → ∀ (H : Heap) (locs : List Loc) (ls : Array Slot), va_P D vwCl (W_X10_beginText cs a0 p0 i0_13 i0_14 v0_15 p1 i1_1 i1_2 i1_3 i1_4 i1_5 i1_6 i1_7 i1_8 v1_0) H → va_D (va_A w0 s.heap.size) (W_X10_beginText cs a0 p0 i0_13 i0_14 v0_15 p1 i1_1 i1_2 i1_3 i1_4 i1_5 i1_6 i1_7 i1_8 v1_0) → va_S (va_A w0 s.heap.size) s.heap H locs → lv_has ls 3 [(0, .ref a0), (1, .int x1)] → W p l e rm_X10_beginText s m av below meth c H locs 0 0 (vx_MQ below (xV D cs w0 (W_X10_beginText cs a0 p0 i0_13 i0_14 res.2.1 p1 i1_1 res.2.2.1 res.2.2.2.1 res.2.2.2.2.1 res.2.2.2.2.2.1 res.2.2.2.2.2.2.1 res.2.2.2.2.2.2.2.1 res.2.2.2.2.2.2.2.2 v1_0) res.1 s.heap.size) (xX D cs w0 (W_X10_beginText cs a0 p0 i0_13 i0_14 res.2.1 p1 i1_1 res.2.2.1 res.2.2.2.1 res.2.2.2.2.1 res.2.2.2.2.2.1 res.2.2.2.2.2.2.1 res.2.2.2.2.2.2.2.1 res.2.2.2.2.2.2.2.2 v1_0) res.1 s.heap.size) av s 1 6 (va_A w0 s.heap.size)) (F0 m 25 ls [.ref a0]) := by
  obtain ⟨hx, hb, hr, hlk, hml, hown, hts, hK, hG, hE⟩ := id C0
  intro v0_15 i1_2 i1_3 i1_4 i1_5 i1_6 i1_7 i1_8 x1 hf H locs ls hP hD hS hl
  rw [f_X10_beginText_b25] at hf
  refine lv_iconst (v := 0) hx hb dX10_beginText_25 (by decide) ?_
  refine W.widen (k := 0) (n := 0) (Nat.le_of_ble_eq_true rfl) (Nat.le_of_ble_eq_true rfl) ?_
  exact w_X10_beginText_b26 C0 T0 a0 p0 i0_13 i0_14 p1 i1_1 v1_0 res v0_15 i1_2 i1_3 i1_4 i1_5 i1_6 i1_7 i1_8 x1 (0) hf _ _ _ hP hD hS (lv_sub hl [0, 1] rfl)
def f_X10_beginText  (v0_15 : Nat → Int32) (i1_1 : Int32) (i1_2 : Int32) (i1_3 : Int32) (i1_4 : Int32) (i1_5 : Int32) (i1_6 : Int32) (i1_7 : Int32) (i1_8 : Int32) (v1_0 : Nat → Int32) (x1 : Int32) (x2 : Int32) : Option (Nat × (Nat → Int32) × Int32 × Int32 × Int32 × Int32 × Int32 × Int32 × Int32) := if x1 < 0 then (f_X10_beginText_b25 i1_1 v1_0 v0_15 i1_2 i1_3 i1_4 i1_5 i1_6 i1_7 i1_8 x1) else (if i1_1 < x1 then (f_X10_beginText_b25 i1_1 v1_0 v0_15 i1_2 i1_3 i1_4 i1_5 i1_6 i1_7 i1_8 x1) else (if x2 < x1 then (f_X10_beginText_b25 i1_1 v1_0 v0_15 i1_2 i1_3 i1_4 i1_5 i1_6 i1_7 i1_8 x1) else (f_X10_beginText_b26 i1_1 v1_0 v0_15 i1_2 i1_3 i1_4 i1_5 i1_6 i1_7 i1_8 x1 (1))))
set_option maxHeartbeats 4000000 in
set_option maxRecDepth 100000 in
theorem c_X10_beginText (l : Launch) (D : va_G) (cs : Nat → ClassId) (hl0 : l.stackTraces = false)  (sz : Nat) (a0 : Nat) (p0 : Nat → Nat) (i0_13 : Int32) (i0_14 : Int32) (v0_15 : Nat → Int32) (p1 : Nat → Nat) (i1_1 : Int32) (i1_2 : Int32) (i1_3 : Int32) (i1_4 : Int32) (i1_5 : Int32) (i1_6 : Int32) (i1_7 : Int32) (i1_8 : Int32) (v1_0 : Nat → Int32) (x1 : Int32) (x2 : Int32) (res : Nat × (Nat → Int32) × Int32 × Int32 × Int32 × Int32 × Int32 × Int32 × Int32) (hf : f_X10_beginText  v0_15 i1_1 i1_2 i1_3 i1_4 i1_5 i1_6 i1_7 i1_8 v1_0 x1 x2 = some res) : XV l D cs yX10_beginText wsX10_beginText rm_X10_beginText [.ref a0, .int x1, .int x2] sz (W_X10_beginText cs a0 p0 i0_13 i0_14 v0_15 p1 i1_1 i1_2 i1_3 i1_4 i1_5 i1_6 i1_7 i1_8 v1_0) (W_X10_beginText cs a0 p0 i0_13 i0_14 res.2.1 p1 i1_1 res.2.2.1 res.2.2.2.1 res.2.2.2.2.1 res.2.2.2.2.2.1 res.2.2.2.2.2.2.1 res.2.2.2.2.2.2.2.1 res.2.2.2.2.2.2.2.2 v1_0) res.1 1 6 := by
  rw [f_X10_beginText] at hf
  refine ow_enterT (cc := cX10_beginText) (nL := 3) (ret := none) hl0 (by decide) rfl (Nat.le_of_ble_eq_true rfl) (fun p e s m below meth c ls H locs C0 T0 hP hD hS hA hl => ?_)
  obtain ⟨hx, hb, hr, hlk, hml, hown, hts, hK, hG, hE⟩ := id C0
  have hl : lv_has ls 3 [(0, .ref a0), (1, .int x1), (2, .int x2)] := hl
  refine lv_aload_n hx hb dX10_beginText_0 rfl (lv_at hl 0 rfl) ?_
  refine lv_iload_n hx hb dX10_beginText_1 rfl (lv_at hl 1 rfl) ?_
  refine lv_if_lt (tgt := 25) hx hb dX10_beginText_2 (by decide) (fun hc => ?_) (fun hc => ?_)
  · replace hf := ow_t hc hf
    refine W.widen (k := 0) (n := 0) (Nat.le_of_ble_eq_true rfl) (Nat.le_of_ble_eq_true rfl) ?_
    exact w_X10_beginText_b25 C0 T0 a0 p0 i0_13 i0_14 p1 i1_1 v1_0 res v0_15 i1_2 i1_3 i1_4 i1_5 i1_6 i1_7 i1_8 x1 hf _ _ _ hP hD hS (lv_sub hl [0, 1] rfl)
  · replace hf := ow_f hc hf
    refine lv_iload_n hx hb dX10_beginText_5 rfl (lv_at hl 1 rfl) ?_
    refine lv_aload_n hx hb dX10_beginText_6 rfl (lv_at hl 0 rfl) ?_
    refine va_get (D := D) (ci := 10) (v := .ref (p0 0)) (C := RX10) (T := TX10) (N := 16) hx hb hts in_X10_beginText_X10 hown hK hP 0 rfl rfl 0 (by decide) (hts (.fieldLink RX10 10 "PaneDays" "tape" "LPaneDays$Tape;") (List.mem_of_getElem? (i := 1) rfl)) (fun _ h9 => h9) rfl dX10_beginText_7 ?_
    refine va_get (D := D) (ci := 7) (v := .int i1_1) (C := RX7) (T := TX7) (N := 9) hx hb hts in_X10_beginText_X7 hown hK hP 2 rfl rfl 1 (by decide) (hts (.fieldLink RX10 103 "PaneDays$Tape" "count" "I") (List.mem_of_getElem? (i := 2) rfl)) (fun _ h9 => h9) rfl dX10_beginText_10 ?_
    refine lv_icmp_gt (tgt := 25) hx hb dX10_beginText_13 (by decide) (fun hc => ?_) (fun hc => ?_)
    · replace hf := ow_t hc hf
      refine W.widen (k := 0) (n := 0) (Nat.le_of_ble_eq_true rfl) (Nat.le_of_ble_eq_true rfl) ?_
      exact w_X10_beginText_b25 C0 T0 a0 p0 i0_13 i0_14 p1 i1_1 v1_0 res v0_15 i1_2 i1_3 i1_4 i1_5 i1_6 i1_7 i1_8 x1 hf _ _ _ hP hD hS (lv_sub hl [0, 1] rfl)
    · replace hf := ow_f hc hf
      refine lv_iload_n hx hb dX10_beginText_16 rfl (lv_at hl 1 rfl) ?_
      refine lv_iload_n hx hb dX10_beginText_17 rfl (lv_at hl 2 rfl) ?_
      refine lv_icmp_gt (tgt := 25) hx hb dX10_beginText_18 (by decide) (fun hc => ?_) (fun hc => ?_)
      · replace hf := ow_t hc hf
        refine W.widen (k := 0) (n := 0) (Nat.le_of_ble_eq_true rfl) (Nat.le_of_ble_eq_true rfl) ?_
        exact w_X10_beginText_b25 C0 T0 a0 p0 i0_13 i0_14 p1 i1_1 v1_0 res v0_15 i1_2 i1_3 i1_4 i1_5 i1_6 i1_7 i1_8 x1 hf _ _ _ hP hD hS (lv_sub hl [0, 1] rfl)
      · replace hf := ow_f hc hf
        refine lv_iconst (v := 1) hx hb dX10_beginText_21 (by decide) ?_
        refine lv_goto (tgt := 26) hx hb dX10_beginText_22 (by decide) ?_
        refine W.widen (k := 0) (n := 0) (Nat.le_of_ble_eq_true rfl) (Nat.le_of_ble_eq_true rfl) ?_
        exact w_X10_beginText_b26 C0 T0 a0 p0 i0_13 i0_14 p1 i1_1 v1_0 res v0_15 i1_2 i1_3 i1_4 i1_5 i1_6 i1_7 i1_8 x1 (1) hf _ _ _ hP hD hS (lv_sub hl [0, 1] rfl)

abbrev rm_X10_cellAt : Room := { frames := 0, cells := 0, slots := 0, locals := 0 }
def f_X10_cellAt   (x0 : Int32) (x1 : Int32) (x2 : Int32) : Option (Int32) := some (((16 * x0) + (4 * x2)) + x1)
set_option maxHeartbeats 4000000 in
set_option maxRecDepth 100000 in
theorem c_X10_cellAt (l : Launch) (D : va_G) (cs : Nat → ClassId)  (sz : Nat)  (x0 : Int32) (x1 : Int32) (x2 : Int32) (res : Int32) (hf : f_X10_cellAt   x0 x1 x2 = some res) : MI l D cs yX10_cellAt wsX10_cellAt rm_X10_cellAt [.int x0, .int x1, .int x2] sz ([] : va_W) ([] : va_W) res := by
  rw [f_X10_cellAt] at hf
  refine ow_enter (cc := cX10_cellAt) (nL := 3) (ret := (some .int)) (by decide) rfl (Nat.le_of_ble_eq_true rfl) (fun p e s m below meth c ls H locs C0 hP hD hS hA hl => ?_)
  obtain ⟨hx, hb, hr, hlk, hml, hown, hts, hK, hG, hE⟩ := id C0
  have hl : lv_has ls 3 [(0, .int x0), (1, .int x1), (2, .int x2)] := hl
  refine lv_bipush (v := 16) hx hb dX10_cellAt_0 (by decide) ?_
  refine lv_iload_n hx hb dX10_cellAt_2 rfl (lv_at hl 0 rfl) ?_
  refine lv_imul hx hb dX10_cellAt_3 ?_
  refine lv_iconst (v := 4) hx hb dX10_cellAt_4 (by decide) ?_
  refine lv_iload_n hx hb dX10_cellAt_5 rfl (lv_at hl 2 rfl) ?_
  refine lv_imul hx hb dX10_cellAt_6 ?_
  refine lv_iadd hx hb dX10_cellAt_7 ?_
  refine lv_iload_n hx hb dX10_cellAt_8 rfl (lv_at hl 1 rfl) ?_
  refine lv_iadd hx hb dX10_cellAt_9 ?_
  obtain rfl := Option.some.inj hf
  exact ow_retI C0 hP hD hS dX10_cellAt_10
theorem in_X6_cellOf_X6 : ∀ w ∈ u_ws RX6 TX6 13, w ∈ wsX6_cellOf := fun w h => List.mem_cons_of_mem _ (List.mem_append_right _ h)
abbrev W_X6_cellOf (cs : Nat → ClassId) (a0 : Nat) (p0 : Nat → Nat) (i0_0 : Int32) (i0_6 : Int32) (i0_8 : Int32) (i0_10 : Int32) (i0_11 : Int32) (i0_12 : Int32) (v0_1 : Nat → Int32) (v0_2 : Nat → Int32) (v0_3 : Nat → Int32) (v0_4 : Nat → Int32) (v0_5 : Nat → Int32) (v0_7 : Nat → Int32) (v0_9 : Nat → Int32) : va_W := wX6 cs a0 p0 i0_0 i0_6 i0_8 i0_10 i0_11 i0_12 v0_1 v0_2 v0_3 v0_4 v0_5 v0_7 v0_9
abbrev rm_X6_cellOf : Room := { frames := 1, cells := 0, slots := 0, locals := 22 }
def f_X6_cellOf  (v0_9 : Nat → Int32) (x1 : Int32) : Option (Int32) := ck ((5 * x1) + 0) 60 (ck ((5 * x1) + 1) 60 (ck ((5 * x1) + 2) 60 ((f_X10_cellAt (v0_9 ((5 * x1) + 0).toNatClampNeg) (v0_9 ((5 * x1) + 1).toNatClampNeg) (v0_9 ((5 * x1) + 2).toNatClampNeg)).bind fun q28 => some (q28))))
set_option maxHeartbeats 4000000 in
set_option maxRecDepth 100000 in
theorem c_X6_cellOf (l : Launch) (D : va_G) (cs : Nat → ClassId)  (sz : Nat) (a0 : Nat) (p0 : Nat → Nat) (i0_0 : Int32) (i0_6 : Int32) (i0_8 : Int32) (i0_10 : Int32) (i0_11 : Int32) (i0_12 : Int32) (v0_1 : Nat → Int32) (v0_2 : Nat → Int32) (v0_3 : Nat → Int32) (v0_4 : Nat → Int32) (v0_5 : Nat → Int32) (v0_7 : Nat → Int32) (v0_9 : Nat → Int32) (x1 : Int32) (res : Int32) (hf : f_X6_cellOf  v0_9 x1 = some res) : MI l D cs yX6_cellOf wsX6_cellOf rm_X6_cellOf [.ref a0, .int x1] sz (W_X6_cellOf cs a0 p0 i0_0 i0_6 i0_8 i0_10 i0_11 i0_12 v0_1 v0_2 v0_3 v0_4 v0_5 v0_7 v0_9) (W_X6_cellOf cs a0 p0 i0_0 i0_6 i0_8 i0_10 i0_11 i0_12 v0_1 v0_2 v0_3 v0_4 v0_5 v0_7 v0_9) res := by
  rw [f_X6_cellOf] at hf
  refine ow_enter (cc := cX6_cellOf) (nL := 3) (ret := (some .int)) (by decide) rfl (Nat.le_of_ble_eq_true rfl) (fun p e s m below meth c ls H locs C0 hP hD hS hA hl => ?_)
  obtain ⟨hx, hb, hr, hlk, hml, hown, hts, hK, hG, hE⟩ := id C0
  have hl : lv_has ls 3 [(0, .ref a0), (1, .int x1)] := hl
  refine lv_iconst (v := 5) hx hb dX6_cellOf_0 (by decide) ?_
  refine lv_iload_n hx hb dX6_cellOf_1 rfl (lv_at hl 1 rfl) ?_
  refine lv_imul hx hb dX6_cellOf_2 ?_
  refine lv_istore_n (lv' := [(2, .int (5 * x1)), (0, .ref a0), (1, .int x1)]) hx hb dX6_cellOf_3 rfl hl (by decide) rfl (fun ls hl => ?_)
  refine lv_aload_n hx hb dX6_cellOf_4 rfl (lv_at hl 1 rfl) ?_
  refine va_get (D := D) (ci := 6) (v := .ref (p0 9)) (C := RX6) (T := TX6) (N := 13) hx hb hts in_X6_cellOf_X6 hown hK hP 0 rfl rfl 9 (by decide) (hts (.fieldLink RX6 30 "PaneDays$Street" "order" "[I") (List.mem_of_getElem? (i := 1) rfl)) (fun _ h9 => h9) rfl dX6_cellOf_5 ?_
  refine lv_iload_n hx hb dX6_cellOf_8 rfl (lv_at hl 0 rfl) ?_
  refine lv_iconst (v := 0) hx hb dX6_cellOf_9 (by decide) ?_
  refine lv_iadd hx hb dX6_cellOf_10 ?_
  obtain ⟨hin, hf⟩ := ck_some hf
  refine va_iald (f := v0_9) hx hb hK hP 7 0 rfl rfl hin dX6_cellOf_11 ?_
  refine lv_aload_n hx hb dX6_cellOf_12 rfl (lv_at hl 1 rfl) ?_
  refine va_get (D := D) (ci := 6) (v := .ref (p0 9)) (C := RX6) (T := TX6) (N := 13) hx hb hts in_X6_cellOf_X6 hown hK hP 0 rfl rfl 9 (by decide) (hts (.fieldLink RX6 30 "PaneDays$Street" "order" "[I") (List.mem_of_getElem? (i := 1) rfl)) (fun _ h9 => h9) rfl dX6_cellOf_13 ?_
  refine lv_iload_n hx hb dX6_cellOf_16 rfl (lv_at hl 0 rfl) ?_
  refine lv_iconst (v := 1) hx hb dX6_cellOf_17 (by decide) ?_
  refine lv_iadd hx hb dX6_cellOf_18 ?_
  obtain ⟨hin, hf⟩ := ck_some hf
  refine va_iald (f := v0_9) hx hb hK hP 7 0 rfl rfl hin dX6_cellOf_19 ?_
  refine lv_aload_n hx hb dX6_cellOf_20 rfl (lv_at hl 1 rfl) ?_
  refine va_get (D := D) (ci := 6) (v := .ref (p0 9)) (C := RX6) (T := TX6) (N := 13) hx hb hts in_X6_cellOf_X6 hown hK hP 0 rfl rfl 9 (by decide) (hts (.fieldLink RX6 30 "PaneDays$Street" "order" "[I") (List.mem_of_getElem? (i := 1) rfl)) (fun _ h9 => h9) rfl dX6_cellOf_21 ?_
  refine lv_iload_n hx hb dX6_cellOf_24 rfl (lv_at hl 0 rfl) ?_
  refine lv_iconst (v := 2) hx hb dX6_cellOf_25 (by decide) ?_
  refine lv_iadd hx hb dX6_cellOf_26 ?_
  obtain ⟨hin, hf⟩ := ck_some hf
  refine va_iald (f := v0_9) hx hb hK hP 7 0 rfl rfl hin dX6_cellOf_27 ?_
  obtain ⟨q28, hq, hf⟩ := bd_some hf
  refine ow_callSIN (As := [.int (v0_9 ((5 * x1) + 0).toNatClampNeg), .int (v0_9 ((5 * x1) + 1).toNatClampNeg), .int (v0_9 ((5 * x1) + 2).toNatClampNeg)]) (rest := []) (wr := ow_pk (W_X6_cellOf cs a0 p0 i0_0 i0_6 i0_8 i0_10 i0_11 i0_12 v0_1 v0_2 v0_3 v0_4 v0_5 v0_7 v0_9) [0, 1, 2, 3, 4, 5, 6, 7]) (wf := (W_X6_cellOf cs a0 p0 i0_0 i0_6 i0_8 i0_10 i0_11 i0_12 v0_1 v0_2 v0_3 v0_4 v0_5 v0_7 v0_9)) (r := q28) C0 (c_X10_cellAt l D cs H.size  (v0_9 ((5 * x1) + 0).toNatClampNeg) (v0_9 ((5 * x1) + 1).toNatClampNeg) (v0_9 ((5 * x1) + 2).toNatClampNeg) q28 hq) ⟨va_cnB (host := RX10) 3 hts gX6_cellOf_X10_cellAt_n36 rfl rfl rfl (hG.2.1 (RX6, 36, yX10_cellAt, RX10) (List.mem_of_getElem? (i := 0) rfl)) (hts (.initialized RX10) (by decide +kernel)) (by decide +kernel) ⟨Nat.le_of_ble_eq_true rfl, Nat.le_of_ble_eq_true rfl⟩, hts (.static yX10_cellAt) (by decide +kernel), trivial⟩ hP hD hS (fun q h => Or.inr h) [] [0, 1, 2, 3, 4, 5, 6, 7] [0, 1, 2, 3, 4, 5, 6, 7] rfl (by decide) rfl (by decide) (by decide) rfl (by decide) rfl hl.1 rfl (Nat.le_of_ble_eq_true rfl) ⟨Nat.zero_le _, Nat.zero_le _⟩ dX6_cellOf_28 (fun H locs hP hD hS => ?_)
  obtain rfl := Option.some.inj hf
  exact ow_retI C0 hP hD hS dX6_cellOf_31

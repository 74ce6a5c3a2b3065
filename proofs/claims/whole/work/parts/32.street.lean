abbrev W_X6_readOrder (cs : Nat → ClassId) (a0 : Nat) (p0 : Nat → Nat) (i0_0 : Int32) (i0_6 : Int32) (i0_8 : Int32) (i0_10 : Int32) (i0_11 : Int32) (i0_12 : Int32) (v0_1 : Nat → Int32) (v0_2 : Nat → Int32) (v0_3 : Nat → Int32) (v0_4 : Nat → Int32) (v0_5 : Nat → Int32) (v0_7 : Nat → Int32) (v0_9 : Nat → Int32) (a1 : Nat) (p1 : Nat → Nat) (i1_1 : Int32) (i1_2 : Int32) (i1_3 : Int32) (i1_4 : Int32) (i1_5 : Int32) (i1_6 : Int32) (i1_7 : Int32) (i1_8 : Int32) (v1_0 : Nat → Int32) : va_W := wX6 cs a0 p0 i0_0 i0_6 i0_8 i0_10 i0_11 i0_12 v0_1 v0_2 v0_3 v0_4 v0_5 v0_7 v0_9 ++ wX7 cs a1 p1 i1_1 i1_2 i1_3 i1_4 i1_5 i1_6 i1_7 i1_8 v1_0
abbrev rm_X6_readOrder : Room := { frames := 3, cells := 0, slots := 0, locals := 64 }
def f_X6_readOrder  (i0_0 : Int32) (i0_8 : Int32) (v0_1 : Nat → Int32) (v0_2 : Nat → Int32) (v0_9 : Nat → Int32) (i1_2 : Int32) (i1_3 : Int32) (i1_4 : Int32) (i1_5 : Int32) (i1_6 : Int32) (i1_7 : Int32) (i1_8 : Int32) (v1_0 : Nat → Int32)  : Option (Int32 × (Nat → Int32) × Int32 × Int32 × Int32 × Int32 × Int32 × Int32) := (f_X7_takeNumber i1_2 i1_3 i1_4 i1_5 i1_6 i1_7 i1_8 v1_0 (0) (i0_0 - 1)).bind fun q15 => ck ((5 * i0_8) + 0) 60 (ck q15.1 5 ((f_X7_takeNumber i1_2 q15.2.1 q15.2.2.1 q15.2.2.2.1 q15.2.2.2.2.1 q15.2.2.2.2.2.1 q15.2.2.2.2.2.2 v1_0 (0) ((v0_1 (q15.1).toNatClampNeg) - 1)).bind fun q45 => ck ((5 * i0_8) + 1) 60 (ck q15.1 5 ((f_X7_takeNumber i1_2 q45.2.1 q45.2.2.1 q45.2.2.2.1 q45.2.2.2.2.1 q45.2.2.2.2.2.1 q45.2.2.2.2.2.2 v1_0 (0) ((v0_2 (q15.1).toNatClampNeg) - 1)).bind fun q66 => ck ((5 * i0_8) + 2) 60 ((f_X7_takeNumber i1_2 q66.2.1 q66.2.2.1 q66.2.2.2.1 q66.2.2.2.2.1 q66.2.2.2.2.2.1 q66.2.2.2.2.2.2 v1_0 (1) (200)).bind fun q75 => ck ((5 * i0_8) + 3) 60 ((f_X7_takeNumber i1_2 q75.2.1 q75.2.2.1 q75.2.2.2.1 q75.2.2.2.2.1 q75.2.2.2.2.2.1 q75.2.2.2.2.2.2 v1_0 q75.1 (200)).bind fun q103 => ck ((5 * i0_8) + 4) 60 (some (i0_8 + 1, upd (upd (upd (upd (upd v0_9 ((5 * i0_8) + 0).toNatClampNeg q15.1) ((5 * i0_8) + 1).toNatClampNeg q45.1) ((5 * i0_8) + 2).toNatClampNeg q66.1) ((5 * i0_8) + 3).toNatClampNeg q75.1) ((5 * i0_8) + 4).toNatClampNeg q103.1, q103.2.1, q103.2.2.1, q103.2.2.2.1, q103.2.2.2.2.1, q103.2.2.2.2.2.1, q103.2.2.2.2.2.2))))))))
set_option maxHeartbeats 4000000 in
set_option maxRecDepth 100000 in
theorem c_X6_readOrder (l : Launch) (D : va_G) (cs : Nat → ClassId)  (sz : Nat) (a0 : Nat) (p0 : Nat → Nat) (i0_0 : Int32) (i0_6 : Int32) (i0_8 : Int32) (i0_10 : Int32) (i0_11 : Int32) (i0_12 : Int32) (v0_1 : Nat → Int32) (v0_2 : Nat → Int32) (v0_3 : Nat → Int32) (v0_4 : Nat → Int32) (v0_5 : Nat → Int32) (v0_7 : Nat → Int32) (v0_9 : Nat → Int32) (a1 : Nat) (p1 : Nat → Nat) (i1_1 : Int32) (i1_2 : Int32) (i1_3 : Int32) (i1_4 : Int32) (i1_5 : Int32) (i1_6 : Int32) (i1_7 : Int32) (i1_8 : Int32) (v1_0 : Nat → Int32)  (res : Int32 × (Nat → Int32) × Int32 × Int32 × Int32 × Int32 × Int32 × Int32) (hf : f_X6_readOrder  i0_0 i0_8 v0_1 v0_2 v0_9 i1_2 i1_3 i1_4 i1_5 i1_6 i1_7 i1_8 v1_0  = some res) : MV l D cs yX6_readOrder wsX6_readOrder rm_X6_readOrder [.ref a0, .ref a1] sz (W_X6_readOrder cs a0 p0 i0_0 i0_6 i0_8 i0_10 i0_11 i0_12 v0_1 v0_2 v0_3 v0_4 v0_5 v0_7 v0_9 a1 p1 i1_1 i1_2 i1_3 i1_4 i1_5 i1_6 i1_7 i1_8 v1_0) (W_X6_readOrder cs a0 p0 i0_0 i0_6 res.1 i0_10 i0_11 i0_12 v0_1 v0_2 v0_3 v0_4 v0_5 v0_7 res.2.1 a1 p1 i1_1 i1_2 res.2.2.1 res.2.2.2.1 res.2.2.2.2.1 res.2.2.2.2.2.1 res.2.2.2.2.2.2.1 res.2.2.2.2.2.2.2 v1_0) := by
  rw [f_X6_readOrder] at hf
  refine ow_enter (cc := cX6_readOrder) (nL := 5) (ret := none) (by decide) rfl (Nat.le_of_ble_eq_true rfl) (fun p e s m below meth c ls H locs C0 hP hD hS hA hl => ?_)
  obtain ⟨hx, hb, hr, hlk, hml, hown, hts, hK, hG, hE⟩ := id C0
  have in_X6 : ∀ w ∈ u_ws RX6 TX6 13, w ∈ wsX6_readOrder := by decide +kernel
  have hl : lv_has ls 5 [(0, .ref a0), (1, .ref a1)] := hl
  refine lv_iconst (v := 5) hx hb dX6_readOrder_0 (by decide) ?_
  refine lv_aload_n hx hb dX6_readOrder_1 rfl (lv_at hl 0 rfl) ?_
  refine va_get (D := D) (ci := 6) (v := .int i0_8) (C := RX6) (T := TX6) (N := 13) hx hb hts in_X6 hown hK hP 0 rfl rfl 8 (by decide) (hts (.fieldLink RX6 63 "PaneDays$Street" "orders" "I") (by decide +kernel)) (fun _ h9 => h9) rfl dX6_readOrder_2 ?_
  refine lv_imul hx hb dX6_readOrder_5 ?_
  refine lv_istore_n (lv' := [(2, .int (5 * i0_8)), (0, .ref a0), (1, .ref a1)]) hx hb dX6_readOrder_6 rfl hl (by decide) rfl (fun ls hl => ?_)
  refine lv_aload_n hx hb dX6_readOrder_7 rfl (lv_at hl 2 rfl) ?_
  refine lv_iconst (v := 0) hx hb dX6_readOrder_8 (by decide) ?_
  refine lv_aload_n hx hb dX6_readOrder_9 rfl (lv_at hl 1 rfl) ?_
  refine va_get (D := D) (ci := 6) (v := .int i0_0) (C := RX6) (T := TX6) (N := 13) hx hb hts in_X6 hown hK hP 0 rfl rfl 0 (by decide) (hts (.fieldLink RX6 57 "PaneDays$Street" "panes" "I") (by decide +kernel)) (fun _ h9 => h9) rfl dX6_readOrder_10 ?_
  refine lv_iconst (v := 1) hx hb dX6_readOrder_13 (by decide) ?_
  refine lv_isub hx hb dX6_readOrder_14 ?_
  obtain ⟨q15, hq, hf⟩ := bd_some hf
  refine ow_callVI (As := [.int 0, .int (i0_0 - 1)]) (rest := []) (wr := ow_pk (W_X6_readOrder cs a0 p0 i0_0 i0_6 i0_8 i0_10 i0_11 i0_12 v0_1 v0_2 v0_3 v0_4 v0_5 v0_7 v0_9 a1 p1 i1_1 i1_2 i1_3 i1_4 i1_5 i1_6 i1_7 i1_8 v1_0) [0, 1, 2, 3, 4, 5, 6, 7]) (wf := (W_X6_readOrder cs a0 p0 i0_0 i0_6 i0_8 i0_10 i0_11 i0_12 v0_1 v0_2 v0_3 v0_4 v0_5 v0_7 v0_9 a1 p1 i1_1 i1_2 q15.2.1 q15.2.2.1 q15.2.2.2.1 q15.2.2.2.2.1 q15.2.2.2.2.2.1 q15.2.2.2.2.2.2 v1_0)) (r := q15.1) C0 (c_X7_takeNumber l D cs H.size a1 p1 i1_1 i1_2 i1_3 i1_4 i1_5 i1_6 i1_7 i1_8 v1_0 (0) (i0_0 - 1) q15 hq) (cwV 2 hts gX6_readOrder_X7_takeNumber rfl rfl rfl (by decide +kernel) ⟨Nat.le_of_ble_eq_true rfl, Nat.le_of_ble_eq_true rfl⟩) 7 rfl rfl hP hD hS (fun q h => Or.inr h) [8, 9] [0, 1, 2, 3, 4, 5, 6, 7] [0, 1, 2, 3, 4, 5, 6, 7, 8, 9] rfl (by decide) rfl (by decide) (by decide) rfl (by decide) rfl hl.1 rfl (Nat.le_of_ble_eq_true rfl) ⟨Nat.zero_le _, Nat.zero_le _⟩ dX6_readOrder_15 (fun H locs hP hD hS => ?_)
  refine lv_istore_n (lv' := [(3, .int q15.1), (2, .int (5 * i0_8)), (0, .ref a0), (1, .ref a1)]) hx hb dX6_readOrder_18 rfl hl (by decide) rfl (fun ls hl => ?_)
  refine lv_aload_n hx hb dX6_readOrder_19 rfl (lv_at hl 2 rfl) ?_
  refine va_get (D := D) (ci := 6) (v := .ref (p0 9)) (C := RX6) (T := TX6) (N := 13) hx hb hts in_X6 hown hK hP 0 rfl rfl 9 (by decide) (hts (.fieldLink RX6 30 "PaneDays$Street" "order" "[I") (by decide +kernel)) (fun _ h9 => h9) rfl dX6_readOrder_20 ?_
  refine lv_iload_n hx hb dX6_readOrder_23 rfl (lv_at hl 1 rfl) ?_
  refine lv_iconst (v := 0) hx hb dX6_readOrder_24 (by decide) ?_
  refine lv_iadd hx hb dX6_readOrder_25 ?_
  refine lv_iload_n hx hb dX6_readOrder_26 rfl (lv_at hl 0 rfl) ?_
  obtain ⟨hin, hf⟩ := ck_some hf
  refine va_iast (f := v0_9) hx hb hK hP hD hS 7 0 rfl rfl hin dX6_readOrder_27 (fun H locs (hP : va_P D vwCl (W_X6_readOrder cs a0 p0 i0_0 i0_6 i0_8 i0_10 i0_11 i0_12 v0_1 v0_2 v0_3 v0_4 v0_5 v0_7 (upd v0_9 ((5 * i0_8) + 0).toNatClampNeg q15.1) a1 p1 i1_1 i1_2 q15.2.1 q15.2.2.1 q15.2.2.2.1 q15.2.2.2.2.1 q15.2.2.2.2.2.1 q15.2.2.2.2.2.2 v1_0) H) (hD : va_D _ (W_X6_readOrder cs a0 p0 i0_0 i0_6 i0_8 i0_10 i0_11 i0_12 v0_1 v0_2 v0_3 v0_4 v0_5 v0_7 (upd v0_9 ((5 * i0_8) + 0).toNatClampNeg q15.1) a1 p1 i1_1 i1_2 q15.2.1 q15.2.2.1 q15.2.2.2.1 q15.2.2.2.2.1 q15.2.2.2.2.2.1 q15.2.2.2.2.2.2 v1_0)) hS => ?_)
  refine lv_aload_n hx hb dX6_readOrder_28 rfl (lv_at hl 2 rfl) ?_
  refine va_get (D := D) (ci := 6) (v := .ref (p0 9)) (C := RX6) (T := TX6) (N := 13) hx hb hts in_X6 hown hK hP 0 rfl rfl 9 (by decide) (hts (.fieldLink RX6 30 "PaneDays$Street" "order" "[I") (by decide +kernel)) (fun _ h9 => h9) rfl dX6_readOrder_29 ?_
  refine lv_iload_n hx hb dX6_readOrder_32 rfl (lv_at hl 1 rfl) ?_
  refine lv_iconst (v := 1) hx hb dX6_readOrder_33 (by decide) ?_
  refine lv_iadd hx hb dX6_readOrder_34 ?_
  refine lv_aload_n hx hb dX6_readOrder_35 rfl (lv_at hl 3 rfl) ?_
  refine lv_iconst (v := 0) hx hb dX6_readOrder_36 (by decide) ?_
  refine lv_aload_n hx hb dX6_readOrder_37 rfl (lv_at hl 2 rfl) ?_
  refine va_get (D := D) (ci := 6) (v := .ref (p0 1)) (C := RX6) (T := TX6) (N := 13) hx hb hts in_X6 hown hK hP 0 rfl rfl 1 (by decide) (hts (.fieldLink RX6 9 "PaneDays$Street" "wide" "[I") (by decide +kernel)) (fun _ h9 => h9) rfl dX6_readOrder_38 ?_
  refine lv_iload_n hx hb dX6_readOrder_41 rfl (lv_at hl 0 rfl) ?_
  obtain ⟨hin, hf⟩ := ck_some hf
  refine va_iald (f := v0_1) hx hb hK hP 1 0 rfl rfl hin dX6_readOrder_42 ?_
  refine lv_iconst (v := 1) hx hb dX6_readOrder_43 (by decide) ?_
  refine lv_isub hx hb dX6_readOrder_44 ?_
  obtain ⟨q45, hq, hf⟩ := bd_some hf
  refine ow_callVI (As := [.int 0, .int ((v0_1 (q15.1).toNatClampNeg) - 1)]) (rest := [.int ((5 * i0_8) + 1), .ref (p0 9)]) (wr := ow_pk (W_X6_readOrder cs a0 p0 i0_0 i0_6 i0_8 i0_10 i0_11 i0_12 v0_1 v0_2 v0_3 v0_4 v0_5 v0_7 (upd v0_9 ((5 * i0_8) + 0).toNatClampNeg q15.1) a1 p1 i1_1 i1_2 q15.2.1 q15.2.2.1 q15.2.2.2.1 q15.2.2.2.2.1 q15.2.2.2.2.2.1 q15.2.2.2.2.2.2 v1_0) [0, 1, 2, 3, 4, 5, 6, 7]) (wf := (W_X6_readOrder cs a0 p0 i0_0 i0_6 i0_8 i0_10 i0_11 i0_12 v0_1 v0_2 v0_3 v0_4 v0_5 v0_7 (upd v0_9 ((5 * i0_8) + 0).toNatClampNeg q15.1) a1 p1 i1_1 i1_2 q45.2.1 q45.2.2.1 q45.2.2.2.1 q45.2.2.2.2.1 q45.2.2.2.2.2.1 q45.2.2.2.2.2.2 v1_0)) (r := q45.1) C0 (c_X7_takeNumber l D cs H.size a1 p1 i1_1 i1_2 q15.2.1 q15.2.2.1 q15.2.2.2.1 q15.2.2.2.2.1 q15.2.2.2.2.2.1 q15.2.2.2.2.2.2 v1_0 (0) ((v0_1 (q15.1).toNatClampNeg) - 1) q45 hq) (cwV 2 hts gX6_readOrder_X7_takeNumber rfl rfl rfl (by decide +kernel) ⟨Nat.le_of_ble_eq_true rfl, Nat.le_of_ble_eq_true rfl⟩) 7 rfl rfl hP hD hS (fun q h => Or.inr h) [8, 9] [0, 1, 2, 3, 4, 5, 6, 7] [0, 1, 2, 3, 4, 5, 6, 7, 8, 9] rfl (by decide) rfl (by decide) (by decide) rfl (by decide) rfl hl.1 rfl (Nat.le_of_ble_eq_true rfl) ⟨Nat.zero_le _, Nat.zero_le _⟩ dX6_readOrder_45 (fun H locs hP hD hS => ?_)
  obtain ⟨hin, hf⟩ := ck_some hf
  refine va_iast (f := upd v0_9 ((5 * i0_8) + 0).toNatClampNeg q15.1) hx hb hK hP hD hS 7 0 rfl rfl hin dX6_readOrder_48 (fun H locs (hP : va_P D vwCl (W_X6_readOrder cs a0 p0 i0_0 i0_6 i0_8 i0_10 i0_11 i0_12 v0_1 v0_2 v0_3 v0_4 v0_5 v0_7 (upd (upd v0_9 ((5 * i0_8) + 0).toNatClampNeg q15.1) ((5 * i0_8) + 1).toNatClampNeg q45.1) a1 p1 i1_1 i1_2 q45.2.1 q45.2.2.1 q45.2.2.2.1 q45.2.2.2.2.1 q45.2.2.2.2.2.1 q45.2.2.2.2.2.2 v1_0) H) (hD : va_D _ (W_X6_readOrder cs a0 p0 i0_0 i0_6 i0_8 i0_10 i0_11 i0_12 v0_1 v0_2 v0_3 v0_4 v0_5 v0_7 (upd (upd v0_9 ((5 * i0_8) + 0).toNatClampNeg q15.1) ((5 * i0_8) + 1).toNatClampNeg q45.1) a1 p1 i1_1 i1_2 q45.2.1 q45.2.2.1 q45.2.2.2.1 q45.2.2.2.2.1 q45.2.2.2.2.2.1 q45.2.2.2.2.2.2 v1_0)) hS => ?_)
  refine lv_aload_n hx hb dX6_readOrder_49 rfl (lv_at hl 2 rfl) ?_
  refine va_get (D := D) (ci := 6) (v := .ref (p0 9)) (C := RX6) (T := TX6) (N := 13) hx hb hts in_X6 hown hK hP 0 rfl rfl 9 (by decide) (hts (.fieldLink RX6 30 "PaneDays$Street" "order" "[I") (by decide +kernel)) (fun _ h9 => h9) rfl dX6_readOrder_50 ?_
  refine lv_iload_n hx hb dX6_readOrder_53 rfl (lv_at hl 1 rfl) ?_
  refine lv_iconst (v := 2) hx hb dX6_readOrder_54 (by decide) ?_
  refine lv_iadd hx hb dX6_readOrder_55 ?_
  refine lv_aload_n hx hb dX6_readOrder_56 rfl (lv_at hl 3 rfl) ?_
  refine lv_iconst (v := 0) hx hb dX6_readOrder_57 (by decide) ?_
  refine lv_aload_n hx hb dX6_readOrder_58 rfl (lv_at hl 2 rfl) ?_
  refine va_get (D := D) (ci := 6) (v := .ref (p0 2)) (C := RX6) (T := TX6) (N := 13) hx hb hts in_X6 hown hK hP 0 rfl rfl 2 (by decide) (hts (.fieldLink RX6 15 "PaneDays$Street" "high" "[I") (by decide +kernel)) (fun _ h9 => h9) rfl dX6_readOrder_59 ?_
  refine lv_iload_n hx hb dX6_readOrder_62 rfl (lv_at hl 0 rfl) ?_
  obtain ⟨hin, hf⟩ := ck_some hf
  refine va_iald (f := v0_2) hx hb hK hP 2 0 rfl rfl hin dX6_readOrder_63 ?_
  refine lv_iconst (v := 1) hx hb dX6_readOrder_64 (by decide) ?_
  refine lv_isub hx hb dX6_readOrder_65 ?_
  obtain ⟨q66, hq, hf⟩ := bd_some hf
  refine ow_callVI (As := [.int 0, .int ((v0_2 (q15.1).toNatClampNeg) - 1)]) (rest := [.int ((5 * i0_8) + 2), .ref (p0 9)]) (wr := ow_pk (W_X6_readOrder cs a0 p0 i0_0 i0_6 i0_8 i0_10 i0_11 i0_12 v0_1 v0_2 v0_3 v0_4 v0_5 v0_7 (upd (upd v0_9 ((5 * i0_8) + 0).toNatClampNeg q15.1) ((5 * i0_8) + 1).toNatClampNeg q45.1) a1 p1 i1_1 i1_2 q45.2.1 q45.2.2.1 q45.2.2.2.1 q45.2.2.2.2.1 q45.2.2.2.2.2.1 q45.2.2.2.2.2.2 v1_0) [0, 1, 2, 3, 4, 5, 6, 7]) (wf := (W_X6_readOrder cs a0 p0 i0_0 i0_6 i0_8 i0_10 i0_11 i0_12 v0_1 v0_2 v0_3 v0_4 v0_5 v0_7 (upd (upd v0_9 ((5 * i0_8) + 0).toNatClampNeg q15.1) ((5 * i0_8) + 1).toNatClampNeg q45.1) a1 p1 i1_1 i1_2 q66.2.1 q66.2.2.1 q66.2.2.2.1 q66.2.2.2.2.1 q66.2.2.2.2.2.1 q66.2.2.2.2.2.2 v1_0)) (r := q66.1) C0 (c_X7_takeNumber l D cs H.size a1 p1 i1_1 i1_2 q45.2.1 q45.2.2.1 q45.2.2.2.1 q45.2.2.2.2.1 q45.2.2.2.2.2.1 q45.2.2.2.2.2.2 v1_0 (0) ((v0_2 (q15.1).toNatClampNeg) - 1) q66 hq) (cwV 2 hts gX6_readOrder_X7_takeNumber rfl rfl rfl (by decide +kernel) ⟨Nat.le_of_ble_eq_true rfl, Nat.le_of_ble_eq_true rfl⟩) 7 rfl rfl hP hD hS (fun q h => Or.inr h) [8, 9] [0, 1, 2, 3, 4, 5, 6, 7] [0, 1, 2, 3, 4, 5, 6, 7, 8, 9] rfl (by decide) rfl (by decide) (by decide) rfl (by decide) rfl hl.1 rfl (Nat.le_of_ble_eq_true rfl) ⟨Nat.zero_le _, Nat.zero_le _⟩ dX6_readOrder_66 (fun H locs hP hD hS => ?_)
  obtain ⟨hin, hf⟩ := ck_some hf
  refine va_iast (f := upd (upd v0_9 ((5 * i0_8) + 0).toNatClampNeg q15.1) ((5 * i0_8) + 1).toNatClampNeg q45.1) hx hb hK hP hD hS 7 0 rfl rfl hin dX6_readOrder_69 (fun H locs (hP : va_P D vwCl (W_X6_readOrder cs a0 p0 i0_0 i0_6 i0_8 i0_10 i0_11 i0_12 v0_1 v0_2 v0_3 v0_4 v0_5 v0_7 (upd (upd (upd v0_9 ((5 * i0_8) + 0).toNatClampNeg q15.1) ((5 * i0_8) + 1).toNatClampNeg q45.1) ((5 * i0_8) + 2).toNatClampNeg q66.1) a1 p1 i1_1 i1_2 q66.2.1 q66.2.2.1 q66.2.2.2.1 q66.2.2.2.2.1 q66.2.2.2.2.2.1 q66.2.2.2.2.2.2 v1_0) H) (hD : va_D _ (W_X6_readOrder cs a0 p0 i0_0 i0_6 i0_8 i0_10 i0_11 i0_12 v0_1 v0_2 v0_3 v0_4 v0_5 v0_7 (upd (upd (upd v0_9 ((5 * i0_8) + 0).toNatClampNeg q15.1) ((5 * i0_8) + 1).toNatClampNeg q45.1) ((5 * i0_8) + 2).toNatClampNeg q66.1) a1 p1 i1_1 i1_2 q66.2.1 q66.2.2.1 q66.2.2.2.1 q66.2.2.2.2.1 q66.2.2.2.2.2.1 q66.2.2.2.2.2.2 v1_0)) hS => ?_)
  refine lv_aload_n hx hb dX6_readOrder_70 rfl (lv_at hl 3 rfl) ?_
  refine lv_iconst (v := 1) hx hb dX6_readOrder_71 (by decide) ?_
  refine lv_sipush (v := 200) hx hb dX6_readOrder_72 (by decide) ?_
  obtain ⟨q75, hq, hf⟩ := bd_some hf
  refine ow_callVI (As := [.int 1, .int 200]) (rest := []) (wr := ow_pk (W_X6_readOrder cs a0 p0 i0_0 i0_6 i0_8 i0_10 i0_11 i0_12 v0_1 v0_2 v0_3 v0_4 v0_5 v0_7 (upd (upd (upd v0_9 ((5 * i0_8) + 0).toNatClampNeg q15.1) ((5 * i0_8) + 1).toNatClampNeg q45.1) ((5 * i0_8) + 2).toNatClampNeg q66.1) a1 p1 i1_1 i1_2 q66.2.1 q66.2.2.1 q66.2.2.2.1 q66.2.2.2.2.1 q66.2.2.2.2.2.1 q66.2.2.2.2.2.2 v1_0) [0, 1, 2, 3, 4, 5, 6, 7]) (wf := (W_X6_readOrder cs a0 p0 i0_0 i0_6 i0_8 i0_10 i0_11 i0_12 v0_1 v0_2 v0_3 v0_4 v0_5 v0_7 (upd (upd (upd v0_9 ((5 * i0_8) + 0).toNatClampNeg q15.1) ((5 * i0_8) + 1).toNatClampNeg q45.1) ((5 * i0_8) + 2).toNatClampNeg q66.1) a1 p1 i1_1 i1_2 q75.2.1 q75.2.2.1 q75.2.2.2.1 q75.2.2.2.2.1 q75.2.2.2.2.2.1 q75.2.2.2.2.2.2 v1_0)) (r := q75.1) C0 (c_X7_takeNumber l D cs H.size a1 p1 i1_1 i1_2 q66.2.1 q66.2.2.1 q66.2.2.2.1 q66.2.2.2.2.1 q66.2.2.2.2.2.1 q66.2.2.2.2.2.2 v1_0 (1) (200) q75 hq) (cwV 2 hts gX6_readOrder_X7_takeNumber rfl rfl rfl (by decide +kernel) ⟨Nat.le_of_ble_eq_true rfl, Nat.le_of_ble_eq_true rfl⟩) 7 rfl rfl hP hD hS (fun q h => Or.inr h) [8, 9] [0, 1, 2, 3, 4, 5, 6, 7] [0, 1, 2, 3, 4, 5, 6, 7, 8, 9] rfl (by decide) rfl (by decide) (by decide) rfl (by decide) rfl hl.1 rfl (Nat.le_of_ble_eq_true rfl) ⟨Nat.zero_le _, Nat.zero_le _⟩ dX6_readOrder_75 (fun H locs hP hD hS => ?_)
  refine lv_istore (lv' := [(4, .int q75.1), (3, .int q15.1), (2, .int (5 * i0_8)), (0, .ref a0), (1, .ref a1)]) hx hb dX6_readOrder_78 hl (by decide) rfl (fun ls hl => ?_)
  refine lv_aload_n hx hb dX6_readOrder_80 rfl (lv_at hl 3 rfl) ?_
  refine va_get (D := D) (ci := 6) (v := .ref (p0 9)) (C := RX6) (T := TX6) (N := 13) hx hb hts in_X6 hown hK hP 0 rfl rfl 9 (by decide) (hts (.fieldLink RX6 30 "PaneDays$Street" "order" "[I") (by decide +kernel)) (fun _ h9 => h9) rfl dX6_readOrder_81 ?_
  refine lv_iload_n hx hb dX6_readOrder_84 rfl (lv_at hl 2 rfl) ?_
  refine lv_iconst (v := 3) hx hb dX6_readOrder_85 (by decide) ?_
  refine lv_iadd hx hb dX6_readOrder_86 ?_
  refine lv_iload hx hb dX6_readOrder_87 (lv_at hl 0 rfl) ?_
  obtain ⟨hin, hf⟩ := ck_some hf
  refine va_iast (f := upd (upd (upd v0_9 ((5 * i0_8) + 0).toNatClampNeg q15.1) ((5 * i0_8) + 1).toNatClampNeg q45.1) ((5 * i0_8) + 2).toNatClampNeg q66.1) hx hb hK hP hD hS 7 0 rfl rfl hin dX6_readOrder_89 (fun H locs (hP : va_P D vwCl (W_X6_readOrder cs a0 p0 i0_0 i0_6 i0_8 i0_10 i0_11 i0_12 v0_1 v0_2 v0_3 v0_4 v0_5 v0_7 (upd (upd (upd (upd v0_9 ((5 * i0_8) + 0).toNatClampNeg q15.1) ((5 * i0_8) + 1).toNatClampNeg q45.1) ((5 * i0_8) + 2).toNatClampNeg q66.1) ((5 * i0_8) + 3).toNatClampNeg q75.1) a1 p1 i1_1 i1_2 q75.2.1 q75.2.2.1 q75.2.2.2.1 q75.2.2.2.2.1 q75.2.2.2.2.2.1 q75.2.2.2.2.2.2 v1_0) H) (hD : va_D _ (W_X6_readOrder cs a0 p0 i0_0 i0_6 i0_8 i0_10 i0_11 i0_12 v0_1 v0_2 v0_3 v0_4 v0_5 v0_7 (upd (upd (upd (upd v0_9 ((5 * i0_8) + 0).toNatClampNeg q15.1) ((5 * i0_8) + 1).toNatClampNeg q45.1) ((5 * i0_8) + 2).toNatClampNeg q66.1) ((5 * i0_8) + 3).toNatClampNeg q75.1) a1 p1 i1_1 i1_2 q75.2.1 q75.2.2.1 q75.2.2.2.1 q75.2.2.2.2.1 q75.2.2.2.2.2.1 q75.2.2.2.2.2.2 v1_0)) hS => ?_)
  refine lv_aload_n hx hb dX6_readOrder_90 rfl (lv_at hl 3 rfl) ?_
  refine va_get (D := D) (ci := 6) (v := .ref (p0 9)) (C := RX6) (T := TX6) (N := 13) hx hb hts in_X6 hown hK hP 0 rfl rfl 9 (by decide) (hts (.fieldLink RX6 30 "PaneDays$Street" "order" "[I") (by decide +kernel)) (fun _ h9 => h9) rfl dX6_readOrder_91 ?_
  refine lv_iload_n hx hb dX6_readOrder_94 rfl (lv_at hl 2 rfl) ?_
  refine lv_iconst (v := 4) hx hb dX6_readOrder_95 (by decide) ?_
  refine lv_iadd hx hb dX6_readOrder_96 ?_
  refine lv_aload_n hx hb dX6_readOrder_97 rfl (lv_at hl 4 rfl) ?_
  refine lv_iload hx hb dX6_readOrder_98 (lv_at hl 0 rfl) ?_
  refine lv_sipush (v := 200) hx hb dX6_readOrder_100 (by decide) ?_
  obtain ⟨q103, hq, hf⟩ := bd_some hf
  refine ow_callVI (As := [.int q75.1, .int 200]) (rest := [.int ((5 * i0_8) + 4), .ref (p0 9)]) (wr := ow_pk (W_X6_readOrder cs a0 p0 i0_0 i0_6 i0_8 i0_10 i0_11 i0_12 v0_1 v0_2 v0_3 v0_4 v0_5 v0_7 (upd (upd (upd (upd v0_9 ((5 * i0_8) + 0).toNatClampNeg q15.1) ((5 * i0_8) + 1).toNatClampNeg q45.1) ((5 * i0_8) + 2).toNatClampNeg q66.1) ((5 * i0_8) + 3).toNatClampNeg q75.1) a1 p1 i1_1 i1_2 q75.2.1 q75.2.2.1 q75.2.2.2.1 q75.2.2.2.2.1 q75.2.2.2.2.2.1 q75.2.2.2.2.2.2 v1_0) [0, 1, 2, 3, 4, 5, 6, 7]) (wf := (W_X6_readOrder cs a0 p0 i0_0 i0_6 i0_8 i0_10 i0_11 i0_12 v0_1 v0_2 v0_3 v0_4 v0_5 v0_7 (upd (upd (upd (upd v0_9 ((5 * i0_8) + 0).toNatClampNeg q15.1) ((5 * i0_8) + 1).toNatClampNeg q45.1) ((5 * i0_8) + 2).toNatClampNeg q66.1) ((5 * i0_8) + 3).toNatClampNeg q75.1) a1 p1 i1_1 i1_2 q103.2.1 q103.2.2.1 q103.2.2.2.1 q103.2.2.2.2.1 q103.2.2.2.2.2.1 q103.2.2.2.2.2.2 v1_0)) (r := q103.1) C0 (c_X7_takeNumber l D cs H.size a1 p1 i1_1 i1_2 q75.2.1 q75.2.2.1 q75.2.2.2.1 q75.2.2.2.2.1 q75.2.2.2.2.2.1 q75.2.2.2.2.2.2 v1_0 q75.1 (200) q103 hq) (cwV 2 hts gX6_readOrder_X7_takeNumber rfl rfl rfl (by decide +kernel) ⟨Nat.le_of_ble_eq_true rfl, Nat.le_of_ble_eq_true rfl⟩) 7 rfl rfl hP hD hS (fun q h => Or.inr h) [8, 9] [0, 1, 2, 3, 4, 5, 6, 7] [0, 1, 2, 3, 4, 5, 6, 7, 8, 9] rfl (by decide) rfl (by decide) (by decide) rfl (by decide) rfl hl.1 rfl (Nat.le_of_ble_eq_true rfl) ⟨Nat.zero_le _, Nat.zero_le _⟩ dX6_readOrder_103 (fun H locs hP hD hS => ?_)
  obtain ⟨hin, hf⟩ := ck_some hf
  refine va_iast (f := upd (upd (upd (upd v0_9 ((5 * i0_8) + 0).toNatClampNeg q15.1) ((5 * i0_8) + 1).toNatClampNeg q45.1) ((5 * i0_8) + 2).toNatClampNeg q66.1) ((5 * i0_8) + 3).toNatClampNeg q75.1) hx hb hK hP hD hS 7 0 rfl rfl hin dX6_readOrder_106 (fun H locs (hP : va_P D vwCl (W_X6_readOrder cs a0 p0 i0_0 i0_6 i0_8 i0_10 i0_11 i0_12 v0_1 v0_2 v0_3 v0_4 v0_5 v0_7 (upd (upd (upd (upd (upd v0_9 ((5 * i0_8) + 0).toNatClampNeg q15.1) ((5 * i0_8) + 1).toNatClampNeg q45.1) ((5 * i0_8) + 2).toNatClampNeg q66.1) ((5 * i0_8) + 3).toNatClampNeg q75.1) ((5 * i0_8) + 4).toNatClampNeg q103.1) a1 p1 i1_1 i1_2 q103.2.1 q103.2.2.1 q103.2.2.2.1 q103.2.2.2.2.1 q103.2.2.2.2.2.1 q103.2.2.2.2.2.2 v1_0) H) (hD : va_D _ (W_X6_readOrder cs a0 p0 i0_0 i0_6 i0_8 i0_10 i0_11 i0_12 v0_1 v0_2 v0_3 v0_4 v0_5 v0_7 (upd (upd (upd (upd (upd v0_9 ((5 * i0_8) + 0).toNatClampNeg q15.1) ((5 * i0_8) + 1).toNatClampNeg q45.1) ((5 * i0_8) + 2).toNatClampNeg q66.1) ((5 * i0_8) + 3).toNatClampNeg q75.1) ((5 * i0_8) + 4).toNatClampNeg q103.1) a1 p1 i1_1 i1_2 q103.2.1 q103.2.2.1 q103.2.2.2.1 q103.2.2.2.2.1 q103.2.2.2.2.2.1 q103.2.2.2.2.2.2 v1_0)) hS => ?_)
  refine lv_aload_n hx hb dX6_readOrder_107 rfl (lv_at hl 3 rfl) ?_
  refine lv_dup hx hb dX6_readOrder_108 rfl ?_
  refine va_get (D := D) (ci := 6) (v := .int i0_8) (C := RX6) (T := TX6) (N := 13) hx hb hts in_X6 hown hK hP 0 rfl rfl 8 (by decide) (hts (.fieldLink RX6 63 "PaneDays$Street" "orders" "I") (by decide +kernel)) (fun _ h9 => h9) rfl dX6_readOrder_109 ?_
  refine lv_iconst (v := 1) hx hb dX6_readOrder_112 (by decide) ?_
  refine lv_iadd hx hb dX6_readOrder_113 ?_
  refine va_put (D := D) (ci := 6) (v := .int (i0_8 + 1)) (ty := .int) (C := RX6) (T := TX6) (N := 13) hx hb hts in_X6 tyX6 tyX6_ok nmX6 hown hK hP hD hS 0 rfl rfl 8 (by decide) (hts (.fieldLink RX6 63 "PaneDays$Street" "orders" "I") (by decide +kernel)) (fun _ h9 => h9) rfl (by decide +kernel) rfl rfl (Nat.le_of_ble_eq_true rfl) dX6_readOrder_114 (fun H locs (hP : va_P D vwCl (W_X6_readOrder cs a0 p0 i0_0 i0_6 (i0_8 + 1) i0_10 i0_11 i0_12 v0_1 v0_2 v0_3 v0_4 v0_5 v0_7 (upd (upd (upd (upd (upd v0_9 ((5 * i0_8) + 0).toNatClampNeg q15.1) ((5 * i0_8) + 1).toNatClampNeg q45.1) ((5 * i0_8) + 2).toNatClampNeg q66.1) ((5 * i0_8) + 3).toNatClampNeg q75.1) ((5 * i0_8) + 4).toNatClampNeg q103.1) a1 p1 i1_1 i1_2 q103.2.1 q103.2.2.1 q103.2.2.2.1 q103.2.2.2.2.1 q103.2.2.2.2.2.1 q103.2.2.2.2.2.2 v1_0) H) (hD : va_D _ (W_X6_readOrder cs a0 p0 i0_0 i0_6 (i0_8 + 1) i0_10 i0_11 i0_12 v0_1 v0_2 v0_3 v0_4 v0_5 v0_7 (upd (upd (upd (upd (upd v0_9 ((5 * i0_8) + 0).toNatClampNeg q15.1) ((5 * i0_8) + 1).toNatClampNeg q45.1) ((5 * i0_8) + 2).toNatClampNeg q66.1) ((5 * i0_8) + 3).toNatClampNeg q75.1) ((5 * i0_8) + 4).toNatClampNeg q103.1) a1 p1 i1_1 i1_2 q103.2.1 q103.2.2.1 q103.2.2.2.1 q103.2.2.2.2.1 q103.2.2.2.2.2.1 q103.2.2.2.2.2.2 v1_0)) hS => ?_)
  obtain rfl := Option.some.inj hf
  exact ow_retV C0 hP hD hS dX6_readOrder_117
abbrev W_X6_readPane (cs : Nat → ClassId) (a0 : Nat) (p0 : Nat → Nat) (i0_0 : Int32) (i0_6 : Int32) (i0_8 : Int32) (i0_10 : Int32) (i0_11 : Int32) (i0_12 : Int32) (v0_1 : Nat → Int32) (v0_2 : Nat → Int32) (v0_3 : Nat → Int32) (v0_4 : Nat → Int32) (v0_5 : Nat → Int32) (v0_7 : Nat → Int32) (v0_9 : Nat → Int32) (a1 : Nat) (p1 : Nat → Nat) (i1_1 : Int32) (i1_2 : Int32) (i1_3 : Int32) (i1_4 : Int32) (i1_5 : Int32) (i1_6 : Int32) (i1_7 : Int32) (i1_8 : Int32) (v1_0 : Nat → Int32) : va_W := wX6 cs a0 p0 i0_0 i0_6 i0_8 i0_10 i0_11 i0_12 v0_1 v0_2 v0_3 v0_4 v0_5 v0_7 v0_9 ++ wX7 cs a1 p1 i1_1 i1_2 i1_3 i1_4 i1_5 i1_6 i1_7 i1_8 v1_0
abbrev rm_X6_readPane : Room := { frames := 3, cells := 0, slots := 0, locals := 64 }
def f_X6_readPane_b72  (i1_2 : Int32) (v1_0 : Nat → Int32)  : Nat → (Int32) → (Nat → Int32) → (Nat → Int32) → (Nat → Int32) → (Nat → Int32) → (Nat → Int32) → (Int32) → (Int32) → (Int32) → (Int32) → (Int32) → (Int32) → Int32 → Int32 → Int32 → Int32 → Option (Int32 × (Nat → Int32) × (Nat → Int32) × (Nat → Int32) × (Nat → Int32) × (Nat → Int32) × Int32 × Int32 × Int32 × Int32 × Int32 × Int32)
  | 0, _, _, _, _, _, _, _, _, _, _, _, _, _, _, _, _ => none
  | n + 1, i0_0, v0_1, v0_2, v0_3, v0_4, v0_5, i1_3, i1_4, i1_5, i1_6, i1_7, i1_8, x2, x3, x4, x5 => if x3 ≤ x5 then (ck i0_0 5 (some (i0_0 + 1, v0_1, v0_2, v0_3, v0_4, upd v0_5 (i0_0).toNatClampNeg x4, i1_3, i1_4, i1_5, i1_6, i1_7, i1_8))) else (f_X6_readPane_b72 i1_2 v1_0 n i0_0 v0_1 v0_2 v0_3 v0_4 v0_5 i1_3 i1_4 i1_5 i1_6 i1_7 i1_8 x2 x3 (x4 ||| (((((1 : Int32)) <<< (x2 &&& 31)) - 1) <<< ((4 * x5) &&& 31))) (x5 + 1))
set_option maxHeartbeats 4000000 in
set_option maxRecDepth 100000 in
theorem w_X6_readPane_b72 {p : Program} {l : Launch} {e : Env} {s : State} {m : MethodId} {below : List Frame} {meth : Method} {c : Code} {D : va_G} {cs : Nat → ClassId} {av : Array Value} {w0 : va_W} (C0 : Cx p s m meth c av wsX6_readPane cX6_readPane 6 none RX6 D cs w0)  (a0 : Nat) (p0 : Nat → Nat) (i0_6 : Int32) (i0_8 : Int32) (i0_10 : Int32) (i0_11 : Int32) (i0_12 : Int32) (v0_7 : Nat → Int32) (v0_9 : Nat → Int32) (a1 : Nat) (p1 : Nat → Nat) (i1_1 : Int32) (i1_2 : Int32) (v1_0 : Nat → Int32) (res : Int32 × (Nat → Int32) × (Nat → Int32) × (Nat → Int32) × (Nat → Int32) × (Nat → Int32) × Int32 × Int32 × Int32 × Int32 × Int32 × Int32)  : ∀ (n : Nat) (i0_0 : Int32) (v0_1 : Nat → Int32) (v0_2 : Nat → Int32) (v0_3 : Nat → Int32) (v0_4 : Nat → Int32) (v0_5 : Nat → Int32) (i1_3 : Int32) (i1_4 : Int32) (i1_5 : Int32) (i1_6 : Int32) (i1_7 : Int32) (i1_8 : Int32) (x2 : Int32) (x3 : Int32) (x4 : Int32) (x5 : Int32), f_X6_readPane_b72 i1_2 v1_0 n i0_0 v0_1 v0_2 v0_3 v0_4 v0_5 i1_3 i1_4 i1_5 i1_6 i1_7 i1_8 x2 x3 x4 x5 = some res → ∀ (H : Heap) (locs : List Loc) (ls : Array Slot), va_P D vwCl (W_X6_readPane cs a0 p0 i0_0 i0_6 i0_8 i0_10 i0_11 i0_12 v0_1 v0_2 v0_3 v0_4 v0_5 v0_7 v0_9 a1 p1 i1_1 i1_2 i1_3 i1_4 i1_5 i1_6 i1_7 i1_8 v1_0) H → va_D (va_A w0 s.heap.size) (W_X6_readPane cs a0 p0 i0_0 i0_6 i0_8 i0_10 i0_11 i0_12 v0_1 v0_2 v0_3 v0_4 v0_5 v0_7 v0_9 a1 p1 i1_1 i1_2 i1_3 i1_4 i1_5 i1_6 i1_7 i1_8 v1_0) → va_S (va_A w0 s.heap.size) s.heap H locs → lv_has ls 6 [(0, .ref a0), (2, .int x2), (3, .int x3), (4, .int x4), (5, .int x5)] → W p l e rm_X6_readPane s m av below meth c H locs 0 0 (MQ below (oV D cs w0 (W_X6_readPane cs a0 p0 res.1 i0_6 i0_8 i0_10 i0_11 i0_12 res.2.1 res.2.2.1 res.2.2.2.1 res.2.2.2.2.1 res.2.2.2.2.2.1 v0_7 v0_9 a1 p1 i1_1 i1_2 res.2.2.2.2.2.2.1 res.2.2.2.2.2.2.2.1 res.2.2.2.2.2.2.2.2.1 res.2.2.2.2.2.2.2.2.2.1 res.2.2.2.2.2.2.2.2.2.2.1 res.2.2.2.2.2.2.2.2.2.2.2 v1_0) s.heap.size) av s 0 0 (va_A w0 s.heap.size)) (F0 m 72 ls []) := by
  obtain ⟨hx, hb, hr, hlk, hml, hown, hts, hK, hG, hE⟩ := id C0
  have in_X6 : ∀ w ∈ u_ws RX6 TX6 13, w ∈ wsX6_readPane := by decide +kernel
  intro n
  induction n with
  | zero =>
    intro i0_0 v0_1 v0_2 v0_3 v0_4 v0_5 i1_3 i1_4 i1_5 i1_6 i1_7 i1_8 x2 x3 x4 x5 hf
    rw [f_X6_readPane_b72] at hf
    cases hf
  | succ n ih =>
    intro i0_0 v0_1 v0_2 v0_3 v0_4 v0_5 i1_3 i1_4 i1_5 i1_6 i1_7 i1_8 x2 x3 x4 x5 hf H locs ls hP hD hS hl
    rw [f_X6_readPane_b72] at hf
    refine lv_iload hx hb dX6_readPane_72 (lv_at hl 4 rfl) ?_
    refine lv_iload_n hx hb dX6_readPane_74 rfl (lv_at hl 2 rfl) ?_
    refine lv_icmp_ge (tgt := 99) hx hb dX6_readPane_75 (by decide) (fun hc => ?_) (fun hc => ?_)
    · replace hf := ow_t hc hf
      refine lv_aload_n hx hb dX6_readPane_99 rfl (lv_at hl 0 rfl) ?_
      refine va_get (D := D) (ci := 6) (v := .ref (p0 5)) (C := RX6) (T := TX6) (N := 13) hx hb hts in_X6 hown hK hP 0 rfl rfl 5 (by decide) (hts (.fieldLink RX6 24 "PaneDays$Street" "cells" "[I") (by decide +kernel)) (fun _ h9 => h9) rfl dX6_readPane_100 ?_
      refine lv_aload_n hx hb dX6_readPane_103 rfl (lv_at hl 0 rfl) ?_
      refine va_get (D := D) (ci := 6) (v := .int i0_0) (C := RX6) (T := TX6) (N := 13) hx hb hts in_X6 hown hK hP 0 rfl rfl 0 (by decide) (hts (.fieldLink RX6 57 "PaneDays$Street" "panes" "I") (by decide +kernel)) (fun _ h9 => h9) rfl dX6_readPane_104 ?_
      refine lv_iload hx hb dX6_readPane_107 (lv_at hl 3 rfl) ?_
      obtain ⟨hin, hf⟩ := ck_some hf
      refine va_iast (f := v0_5) hx hb hK hP hD hS 5 0 rfl rfl hin dX6_readPane_109 (fun H locs (hP : va_P D vwCl (W_X6_readPane cs a0 p0 i0_0 i0_6 i0_8 i0_10 i0_11 i0_12 v0_1 v0_2 v0_3 v0_4 (upd v0_5 (i0_0).toNatClampNeg x4) v0_7 v0_9 a1 p1 i1_1 i1_2 i1_3 i1_4 i1_5 i1_6 i1_7 i1_8 v1_0) H) (hD : va_D _ (W_X6_readPane cs a0 p0 i0_0 i0_6 i0_8 i0_10 i0_11 i0_12 v0_1 v0_2 v0_3 v0_4 (upd v0_5 (i0_0).toNatClampNeg x4) v0_7 v0_9 a1 p1 i1_1 i1_2 i1_3 i1_4 i1_5 i1_6 i1_7 i1_8 v1_0)) hS => ?_)
      refine lv_aload_n hx hb dX6_readPane_110 rfl (lv_at hl 0 rfl) ?_
      refine lv_dup hx hb dX6_readPane_111 rfl ?_
      refine va_get (D := D) (ci := 6) (v := .int i0_0) (C := RX6) (T := TX6) (N := 13) hx hb hts in_X6 hown hK hP 0 rfl rfl 0 (by decide) (hts (.fieldLink RX6 57 "PaneDays$Street" "panes" "I") (by decide +kernel)) (fun _ h9 => h9) rfl dX6_readPane_112 ?_
      refine lv_iconst (v := 1) hx hb dX6_readPane_115 (by decide) ?_
      refine lv_iadd hx hb dX6_readPane_116 ?_
      refine va_put (D := D) (ci := 6) (v := .int (i0_0 + 1)) (ty := .int) (C := RX6) (T := TX6) (N := 13) hx hb hts in_X6 tyX6 tyX6_ok nmX6 hown hK hP hD hS 0 rfl rfl 0 (by decide) (hts (.fieldLink RX6 57 "PaneDays$Street" "panes" "I") (by decide +kernel)) (fun _ h9 => h9) rfl (by decide +kernel) rfl rfl (Nat.le_of_ble_eq_true rfl) dX6_readPane_117 (fun H locs (hP : va_P D vwCl (W_X6_readPane cs a0 p0 (i0_0 + 1) i0_6 i0_8 i0_10 i0_11 i0_12 v0_1 v0_2 v0_3 v0_4 (upd v0_5 (i0_0).toNatClampNeg x4) v0_7 v0_9 a1 p1 i1_1 i1_2 i1_3 i1_4 i1_5 i1_6 i1_7 i1_8 v1_0) H) (hD : va_D _ (W_X6_readPane cs a0 p0 (i0_0 + 1) i0_6 i0_8 i0_10 i0_11 i0_12 v0_1 v0_2 v0_3 v0_4 (upd v0_5 (i0_0).toNatClampNeg x4) v0_7 v0_9 a1 p1 i1_1 i1_2 i1_3 i1_4 i1_5 i1_6 i1_7 i1_8 v1_0)) hS => ?_)
      obtain rfl := Option.some.inj hf
      exact ow_retV C0 hP hD hS dX6_readPane_120
    · replace hf := ow_f hc hf
      refine lv_iload hx hb dX6_readPane_78 (lv_at hl 3 rfl) ?_
      refine lv_iconst (v := 1) hx hb dX6_readPane_80 (by decide) ?_
      refine lv_iload_n hx hb dX6_readPane_81 rfl (lv_at hl 1 rfl) ?_
      refine lv_ishl hx hb dX6_readPane_82 ?_
      refine lv_iconst (v := 1) hx hb dX6_readPane_83 (by decide) ?_
      refine lv_isub hx hb dX6_readPane_84 ?_
      refine lv_iconst (v := 4) hx hb dX6_readPane_85 (by decide) ?_
      refine lv_iload hx hb dX6_readPane_86 (lv_at hl 4 rfl) ?_
      refine lv_imul hx hb dX6_readPane_88 ?_
      refine lv_ishl hx hb dX6_readPane_89 ?_
      refine lv_ior hx hb dX6_readPane_90 ?_
      refine lv_istore (lv' := [(4, .int (x4 ||| (((((1 : Int32)) <<< (x2 &&& 31)) - 1) <<< ((4 * x5) &&& 31)))), (0, .ref a0), (2, .int x2), (3, .int x3), (5, .int x5)]) hx hb dX6_readPane_91 hl (by decide) rfl (fun ls hl => ?_)
      refine lv_iinc (v := x5 + 1) (lv' := [(5, .int (x5 + 1)), (4, .int (x4 ||| (((((1 : Int32)) <<< (x2 &&& 31)) - 1) <<< ((4 * x5) &&& 31)))), (0, .ref a0), (2, .int x2), (3, .int x3)]) hx hb dX6_readPane_93 hl (k := 4) rfl (ow_inc (by decide)) (by decide) rfl (fun ls hl => ?_)
      refine lv_goto (tgt := 72) hx hb dX6_readPane_96 (by decide) ?_
      exact ih i0_0 v0_1 v0_2 v0_3 v0_4 v0_5 i1_3 i1_4 i1_5 i1_6 i1_7 i1_8 x2 x3 (x4 ||| (((((1 : Int32)) <<< (x2 &&& 31)) - 1) <<< ((4 * x5) &&& 31))) (x5 + 1) hf _ _ _ hP hD hS (lv_sub hl [2, 3, 4, 1, 0] rfl)
def f_X6_readPane  (i0_0 : Int32) (v0_1 : Nat → Int32) (v0_2 : Nat → Int32) (v0_3 : Nat → Int32) (v0_4 : Nat → Int32) (v0_5 : Nat → Int32) (i1_2 : Int32) (i1_3 : Int32) (i1_4 : Int32) (i1_5 : Int32) (i1_6 : Int32) (i1_7 : Int32) (i1_8 : Int32) (v1_0 : Nat → Int32)  : Option (Int32 × (Nat → Int32) × (Nat → Int32) × (Nat → Int32) × (Nat → Int32) × (Nat → Int32) × Int32 × Int32 × Int32 × Int32 × Int32 × Int32) := (f_X7_takeNumber i1_2 i1_3 i1_4 i1_5 i1_6 i1_7 i1_8 v1_0 (1) (4)).bind fun q3 => (f_X7_takeNumber i1_2 q3.2.1 q3.2.2.1 q3.2.2.2.1 q3.2.2.2.2.1 q3.2.2.2.2.2.1 q3.2.2.2.2.2.2 v1_0 (1) (4)).bind fun q10 => ck i0_0 5 (ck i0_0 5 ((f_X7_takeNumber i1_2 q10.2.1 q10.2.2.1 q10.2.2.2.1 q10.2.2.2.2.1 q10.2.2.2.2.2.1 q10.2.2.2.2.2.2 v1_0 (0) (60)).bind fun q46 => ck i0_0 5 ((f_X7_takeNumber i1_2 q46.2.1 q46.2.2.1 q46.2.2.2.1 q46.2.2.2.2.1 q46.2.2.2.2.2.1 q46.2.2.2.2.2.2 v1_0 (0) (9)).bind fun q62 => ck i0_0 5 (f_X6_readPane_b72 i1_2 v1_0 4000 i0_0 (upd v0_1 (i0_0).toNatClampNeg q3.1) (upd v0_2 (i0_0).toNatClampNeg q10.1) (upd v0_3 (i0_0).toNatClampNeg q46.1) (upd v0_4 (i0_0).toNatClampNeg q62.1) v0_5 q62.2.1 q62.2.2.1 q62.2.2.2.1 q62.2.2.2.2.1 q62.2.2.2.2.2.1 q62.2.2.2.2.2.2 q3.1 q10.1 (0) (0)))))
set_option maxHeartbeats 4000000 in
set_option maxRecDepth 100000 in
theorem c_X6_readPane (l : Launch) (D : va_G) (cs : Nat → ClassId)  (sz : Nat) (a0 : Nat) (p0 : Nat → Nat) (i0_0 : Int32) (i0_6 : Int32) (i0_8 : Int32) (i0_10 : Int32) (i0_11 : Int32) (i0_12 : Int32) (v0_1 : Nat → Int32) (v0_2 : Nat → Int32) (v0_3 : Nat → Int32) (v0_4 : Nat → Int32) (v0_5 : Nat → Int32) (v0_7 : Nat → Int32) (v0_9 : Nat → Int32) (a1 : Nat) (p1 : Nat → Nat) (i1_1 : Int32) (i1_2 : Int32) (i1_3 : Int32) (i1_4 : Int32) (i1_5 : Int32) (i1_6 : Int32) (i1_7 : Int32) (i1_8 : Int32) (v1_0 : Nat → Int32)  (res : Int32 × (Nat → Int32) × (Nat → Int32) × (Nat → Int32) × (Nat → Int32) × (Nat → Int32) × Int32 × Int32 × Int32 × Int32 × Int32 × Int32) (hf : f_X6_readPane  i0_0 v0_1 v0_2 v0_3 v0_4 v0_5 i1_2 i1_3 i1_4 i1_5 i1_6 i1_7 i1_8 v1_0  = some res) : MV l D cs yX6_readPane wsX6_readPane rm_X6_readPane [.ref a0, .ref a1] sz (W_X6_readPane cs a0 p0 i0_0 i0_6 i0_8 i0_10 i0_11 i0_12 v0_1 v0_2 v0_3 v0_4 v0_5 v0_7 v0_9 a1 p1 i1_1 i1_2 i1_3 i1_4 i1_5 i1_6 i1_7 i1_8 v1_0) (W_X6_readPane cs a0 p0 res.1 i0_6 i0_8 i0_10 i0_11 i0_12 res.2.1 res.2.2.1 res.2.2.2.1 res.2.2.2.2.1 res.2.2.2.2.2.1 v0_7 v0_9 a1 p1 i1_1 i1_2 res.2.2.2.2.2.2.1 res.2.2.2.2.2.2.2.1 res.2.2.2.2.2.2.2.2.1 res.2.2.2.2.2.2.2.2.2.1 res.2.2.2.2.2.2.2.2.2.2.1 res.2.2.2.2.2.2.2.2.2.2.2 v1_0) := by
  rw [f_X6_readPane] at hf
  refine ow_enter (cc := cX6_readPane) (nL := 6) (ret := none) (by decide) rfl (Nat.le_of_ble_eq_true rfl) (fun p e s m below meth c ls H locs C0 hP hD hS hA hl => ?_)
  obtain ⟨hx, hb, hr, hlk, hml, hown, hts, hK, hG, hE⟩ := id C0
  have in_X6 : ∀ w ∈ u_ws RX6 TX6 13, w ∈ wsX6_readPane := by decide +kernel
  have hl : lv_has ls 6 [(0, .ref a0), (1, .ref a1)] := hl
  refine lv_aload_n hx hb dX6_readPane_0 rfl (lv_at hl 1 rfl) ?_
  refine lv_iconst (v := 1) hx hb dX6_readPane_1 (by decide) ?_
  refine lv_iconst (v := 4) hx hb dX6_readPane_2 (by decide) ?_
  obtain ⟨q3, hq, hf⟩ := bd_some hf
  refine ow_callVI (As := [.int 1, .int 4]) (rest := []) (wr := ow_pk (W_X6_readPane cs a0 p0 i0_0 i0_6 i0_8 i0_10 i0_11 i0_12 v0_1 v0_2 v0_3 v0_4 v0_5 v0_7 v0_9 a1 p1 i1_1 i1_2 i1_3 i1_4 i1_5 i1_6 i1_7 i1_8 v1_0) [0, 1, 2, 3, 4, 5, 6, 7]) (wf := (W_X6_readPane cs a0 p0 i0_0 i0_6 i0_8 i0_10 i0_11 i0_12 v0_1 v0_2 v0_3 v0_4 v0_5 v0_7 v0_9 a1 p1 i1_1 i1_2 q3.2.1 q3.2.2.1 q3.2.2.2.1 q3.2.2.2.2.1 q3.2.2.2.2.2.1 q3.2.2.2.2.2.2 v1_0)) (r := q3.1) C0 (c_X7_takeNumber l D cs H.size a1 p1 i1_1 i1_2 i1_3 i1_4 i1_5 i1_6 i1_7 i1_8 v1_0 (1) (4) q3 hq) (cwV 2 hts gX6_readPane_X7_takeNumber rfl rfl rfl (by decide +kernel) ⟨Nat.le_of_ble_eq_true rfl, Nat.le_of_ble_eq_true rfl⟩) 7 rfl rfl hP hD hS (fun q h => Or.inr h) [8, 9] [0, 1, 2, 3, 4, 5, 6, 7] [0, 1, 2, 3, 4, 5, 6, 7, 8, 9] rfl (by decide) rfl (by decide) (by decide) rfl (by decide) rfl hl.1 rfl (Nat.le_of_ble_eq_true rfl) ⟨Nat.zero_le _, Nat.zero_le _⟩ dX6_readPane_3 (fun H locs hP hD hS => ?_)
  refine lv_istore_n (lv' := [(2, .int q3.1), (0, .ref a0), (1, .ref a1)]) hx hb dX6_readPane_6 rfl hl (by decide) rfl (fun ls hl => ?_)
  refine lv_aload_n hx hb dX6_readPane_7 rfl (lv_at hl 2 rfl) ?_
  refine lv_iconst (v := 1) hx hb dX6_readPane_8 (by decide) ?_
  refine lv_iconst (v := 4) hx hb dX6_readPane_9 (by decide) ?_
  obtain ⟨q10, hq, hf⟩ := bd_some hf
  refine ow_callVI (As := [.int 1, .int 4]) (rest := []) (wr := ow_pk (W_X6_readPane cs a0 p0 i0_0 i0_6 i0_8 i0_10 i0_11 i0_12 v0_1 v0_2 v0_3 v0_4 v0_5 v0_7 v0_9 a1 p1 i1_1 i1_2 q3.2.1 q3.2.2.1 q3.2.2.2.1 q3.2.2.2.2.1 q3.2.2.2.2.2.1 q3.2.2.2.2.2.2 v1_0) [0, 1, 2, 3, 4, 5, 6, 7]) (wf := (W_X6_readPane cs a0 p0 i0_0 i0_6 i0_8 i0_10 i0_11 i0_12 v0_1 v0_2 v0_3 v0_4 v0_5 v0_7 v0_9 a1 p1 i1_1 i1_2 q10.2.1 q10.2.2.1 q10.2.2.2.1 q10.2.2.2.2.1 q10.2.2.2.2.2.1 q10.2.2.2.2.2.2 v1_0)) (r := q10.1) C0 (c_X7_takeNumber l D cs H.size a1 p1 i1_1 i1_2 q3.2.1 q3.2.2.1 q3.2.2.2.1 q3.2.2.2.2.1 q3.2.2.2.2.2.1 q3.2.2.2.2.2.2 v1_0 (1) (4) q10 hq) (cwV 2 hts gX6_readPane_X7_takeNumber rfl rfl rfl (by decide +kernel) ⟨Nat.le_of_ble_eq_true rfl, Nat.le_of_ble_eq_true rfl⟩) 7 rfl rfl hP hD hS (fun q h => Or.inr h) [8, 9] [0, 1, 2, 3, 4, 5, 6, 7] [0, 1, 2, 3, 4, 5, 6, 7, 8, 9] rfl (by decide) rfl (by decide) (by decide) rfl (by decide) rfl hl.1 rfl (Nat.le_of_ble_eq_true rfl) ⟨Nat.zero_le _, Nat.zero_le _⟩ dX6_readPane_10 (fun H locs hP hD hS => ?_)
  refine lv_istore_n (lv' := [(3, .int q10.1), (2, .int q3.1), (0, .ref a0), (1, .ref a1)]) hx hb dX6_readPane_13 rfl hl (by decide) rfl (fun ls hl => ?_)
  refine lv_aload_n hx hb dX6_readPane_14 rfl (lv_at hl 2 rfl) ?_
  refine va_get (D := D) (ci := 6) (v := .ref (p0 1)) (C := RX6) (T := TX6) (N := 13) hx hb hts in_X6 hown hK hP 0 rfl rfl 1 (by decide) (hts (.fieldLink RX6 9 "PaneDays$Street" "wide" "[I") (by decide +kernel)) (fun _ h9 => h9) rfl dX6_readPane_15 ?_
  refine lv_aload_n hx hb dX6_readPane_18 rfl (lv_at hl 2 rfl) ?_
  refine va_get (D := D) (ci := 6) (v := .int i0_0) (C := RX6) (T := TX6) (N := 13) hx hb hts in_X6 hown hK hP 0 rfl rfl 0 (by decide) (hts (.fieldLink RX6 57 "PaneDays$Street" "panes" "I") (by decide +kernel)) (fun _ h9 => h9) rfl dX6_readPane_19 ?_
  refine lv_iload_n hx hb dX6_readPane_22 rfl (lv_at hl 1 rfl) ?_
  obtain ⟨hin, hf⟩ := ck_some hf
  refine va_iast (f := v0_1) hx hb hK hP hD hS 1 0 rfl rfl hin dX6_readPane_23 (fun H locs (hP : va_P D vwCl (W_X6_readPane cs a0 p0 i0_0 i0_6 i0_8 i0_10 i0_11 i0_12 (upd v0_1 (i0_0).toNatClampNeg q3.1) v0_2 v0_3 v0_4 v0_5 v0_7 v0_9 a1 p1 i1_1 i1_2 q10.2.1 q10.2.2.1 q10.2.2.2.1 q10.2.2.2.2.1 q10.2.2.2.2.2.1 q10.2.2.2.2.2.2 v1_0) H) (hD : va_D _ (W_X6_readPane cs a0 p0 i0_0 i0_6 i0_8 i0_10 i0_11 i0_12 (upd v0_1 (i0_0).toNatClampNeg q3.1) v0_2 v0_3 v0_4 v0_5 v0_7 v0_9 a1 p1 i1_1 i1_2 q10.2.1 q10.2.2.1 q10.2.2.2.1 q10.2.2.2.2.1 q10.2.2.2.2.2.1 q10.2.2.2.2.2.2 v1_0)) hS => ?_)
  refine lv_aload_n hx hb dX6_readPane_24 rfl (lv_at hl 2 rfl) ?_
  refine va_get (D := D) (ci := 6) (v := .ref (p0 2)) (C := RX6) (T := TX6) (N := 13) hx hb hts in_X6 hown hK hP 0 rfl rfl 2 (by decide) (hts (.fieldLink RX6 15 "PaneDays$Street" "high" "[I") (by decide +kernel)) (fun _ h9 => h9) rfl dX6_readPane_25 ?_
  refine lv_aload_n hx hb dX6_readPane_28 rfl (lv_at hl 2 rfl) ?_
  refine va_get (D := D) (ci := 6) (v := .int i0_0) (C := RX6) (T := TX6) (N := 13) hx hb hts in_X6 hown hK hP 0 rfl rfl 0 (by decide) (hts (.fieldLink RX6 57 "PaneDays$Street" "panes" "I") (by decide +kernel)) (fun _ h9 => h9) rfl dX6_readPane_29 ?_
  refine lv_iload_n hx hb dX6_readPane_32 rfl (lv_at hl 0 rfl) ?_
  obtain ⟨hin, hf⟩ := ck_some hf
  refine va_iast (f := v0_2) hx hb hK hP hD hS 2 0 rfl rfl hin dX6_readPane_33 (fun H locs (hP : va_P D vwCl (W_X6_readPane cs a0 p0 i0_0 i0_6 i0_8 i0_10 i0_11 i0_12 (upd v0_1 (i0_0).toNatClampNeg q3.1) (upd v0_2 (i0_0).toNatClampNeg q10.1) v0_3 v0_4 v0_5 v0_7 v0_9 a1 p1 i1_1 i1_2 q10.2.1 q10.2.2.1 q10.2.2.2.1 q10.2.2.2.2.1 q10.2.2.2.2.2.1 q10.2.2.2.2.2.2 v1_0) H) (hD : va_D _ (W_X6_readPane cs a0 p0 i0_0 i0_6 i0_8 i0_10 i0_11 i0_12 (upd v0_1 (i0_0).toNatClampNeg q3.1) (upd v0_2 (i0_0).toNatClampNeg q10.1) v0_3 v0_4 v0_5 v0_7 v0_9 a1 p1 i1_1 i1_2 q10.2.1 q10.2.2.1 q10.2.2.2.1 q10.2.2.2.2.1 q10.2.2.2.2.2.1 q10.2.2.2.2.2.2 v1_0)) hS => ?_)
  refine lv_aload_n hx hb dX6_readPane_34 rfl (lv_at hl 2 rfl) ?_
  refine va_get (D := D) (ci := 6) (v := .ref (p0 3)) (C := RX6) (T := TX6) (N := 13) hx hb hts in_X6 hown hK hP 0 rfl rfl 3 (by decide) (hts (.fieldLink RX6 18 "PaneDays$Street" "along" "[I") (by decide +kernel)) (fun _ h9 => h9) rfl dX6_readPane_35 ?_
  refine lv_aload_n hx hb dX6_readPane_38 rfl (lv_at hl 2 rfl) ?_
  refine va_get (D := D) (ci := 6) (v := .int i0_0) (C := RX6) (T := TX6) (N := 13) hx hb hts in_X6 hown hK hP 0 rfl rfl 0 (by decide) (hts (.fieldLink RX6 57 "PaneDays$Street" "panes" "I") (by decide +kernel)) (fun _ h9 => h9) rfl dX6_readPane_39 ?_
  refine lv_aload_n hx hb dX6_readPane_42 rfl (lv_at hl 3 rfl) ?_
  refine lv_iconst (v := 0) hx hb dX6_readPane_43 (by decide) ?_
  refine lv_bipush (v := 60) hx hb dX6_readPane_44 (by decide) ?_
  obtain ⟨q46, hq, hf⟩ := bd_some hf
  refine ow_callVI (As := [.int 0, .int 60]) (rest := [.int i0_0, .ref (p0 3)]) (wr := ow_pk (W_X6_readPane cs a0 p0 i0_0 i0_6 i0_8 i0_10 i0_11 i0_12 (upd v0_1 (i0_0).toNatClampNeg q3.1) (upd v0_2 (i0_0).toNatClampNeg q10.1) v0_3 v0_4 v0_5 v0_7 v0_9 a1 p1 i1_1 i1_2 q10.2.1 q10.2.2.1 q10.2.2.2.1 q10.2.2.2.2.1 q10.2.2.2.2.2.1 q10.2.2.2.2.2.2 v1_0) [0, 1, 2, 3, 4, 5, 6, 7]) (wf := (W_X6_readPane cs a0 p0 i0_0 i0_6 i0_8 i0_10 i0_11 i0_12 (upd v0_1 (i0_0).toNatClampNeg q3.1) (upd v0_2 (i0_0).toNatClampNeg q10.1) v0_3 v0_4 v0_5 v0_7 v0_9 a1 p1 i1_1 i1_2 q46.2.1 q46.2.2.1 q46.2.2.2.1 q46.2.2.2.2.1 q46.2.2.2.2.2.1 q46.2.2.2.2.2.2 v1_0)) (r := q46.1) C0 (c_X7_takeNumber l D cs H.size a1 p1 i1_1 i1_2 q10.2.1 q10.2.2.1 q10.2.2.2.1 q10.2.2.2.2.1 q10.2.2.2.2.2.1 q10.2.2.2.2.2.2 v1_0 (0) (60) q46 hq) (cwV 2 hts gX6_readPane_X7_takeNumber rfl rfl rfl (by decide +kernel) ⟨Nat.le_of_ble_eq_true rfl, Nat.le_of_ble_eq_true rfl⟩) 7 rfl rfl hP hD hS (fun q h => Or.inr h) [8, 9] [0, 1, 2, 3, 4, 5, 6, 7] [0, 1, 2, 3, 4, 5, 6, 7, 8, 9] rfl (by decide) rfl (by decide) (by decide) rfl (by decide) rfl hl.1 rfl (Nat.le_of_ble_eq_true rfl) ⟨Nat.zero_le _, Nat.zero_le _⟩ dX6_readPane_46 (fun H locs hP hD hS => ?_)
  obtain ⟨hin, hf⟩ := ck_some hf
  refine va_iast (f := v0_3) hx hb hK hP hD hS 3 0 rfl rfl hin dX6_readPane_49 (fun H locs (hP : va_P D vwCl (W_X6_readPane cs a0 p0 i0_0 i0_6 i0_8 i0_10 i0_11 i0_12 (upd v0_1 (i0_0).toNatClampNeg q3.1) (upd v0_2 (i0_0).toNatClampNeg q10.1) (upd v0_3 (i0_0).toNatClampNeg q46.1) v0_4 v0_5 v0_7 v0_9 a1 p1 i1_1 i1_2 q46.2.1 q46.2.2.1 q46.2.2.2.1 q46.2.2.2.2.1 q46.2.2.2.2.2.1 q46.2.2.2.2.2.2 v1_0) H) (hD : va_D _ (W_X6_readPane cs a0 p0 i0_0 i0_6 i0_8 i0_10 i0_11 i0_12 (upd v0_1 (i0_0).toNatClampNeg q3.1) (upd v0_2 (i0_0).toNatClampNeg q10.1) (upd v0_3 (i0_0).toNatClampNeg q46.1) v0_4 v0_5 v0_7 v0_9 a1 p1 i1_1 i1_2 q46.2.1 q46.2.2.1 q46.2.2.2.1 q46.2.2.2.2.1 q46.2.2.2.2.2.1 q46.2.2.2.2.2.2 v1_0)) hS => ?_)
  refine lv_aload_n hx hb dX6_readPane_50 rfl (lv_at hl 2 rfl) ?_
  refine va_get (D := D) (ci := 6) (v := .ref (p0 4)) (C := RX6) (T := TX6) (N := 13) hx hb hts in_X6 hown hK hP 0 rfl rfl 4 (by decide) (hts (.fieldLink RX6 21 "PaneDays$Street" "floor" "[I") (by decide +kernel)) (fun _ h9 => h9) rfl dX6_readPane_51 ?_
  refine lv_aload_n hx hb dX6_readPane_54 rfl (lv_at hl 2 rfl) ?_
  refine va_get (D := D) (ci := 6) (v := .int i0_0) (C := RX6) (T := TX6) (N := 13) hx hb hts in_X6 hown hK hP 0 rfl rfl 0 (by decide) (hts (.fieldLink RX6 57 "PaneDays$Street" "panes" "I") (by decide +kernel)) (fun _ h9 => h9) rfl dX6_readPane_55 ?_
  refine lv_aload_n hx hb dX6_readPane_58 rfl (lv_at hl 3 rfl) ?_
  refine lv_iconst (v := 0) hx hb dX6_readPane_59 (by decide) ?_
  refine lv_bipush (v := 9) hx hb dX6_readPane_60 (by decide) ?_
  obtain ⟨q62, hq, hf⟩ := bd_some hf
  refine ow_callVI (As := [.int 0, .int 9]) (rest := [.int i0_0, .ref (p0 4)]) (wr := ow_pk (W_X6_readPane cs a0 p0 i0_0 i0_6 i0_8 i0_10 i0_11 i0_12 (upd v0_1 (i0_0).toNatClampNeg q3.1) (upd v0_2 (i0_0).toNatClampNeg q10.1) (upd v0_3 (i0_0).toNatClampNeg q46.1) v0_4 v0_5 v0_7 v0_9 a1 p1 i1_1 i1_2 q46.2.1 q46.2.2.1 q46.2.2.2.1 q46.2.2.2.2.1 q46.2.2.2.2.2.1 q46.2.2.2.2.2.2 v1_0) [0, 1, 2, 3, 4, 5, 6, 7]) (wf := (W_X6_readPane cs a0 p0 i0_0 i0_6 i0_8 i0_10 i0_11 i0_12 (upd v0_1 (i0_0).toNatClampNeg q3.1) (upd v0_2 (i0_0).toNatClampNeg q10.1) (upd v0_3 (i0_0).toNatClampNeg q46.1) v0_4 v0_5 v0_7 v0_9 a1 p1 i1_1 i1_2 q62.2.1 q62.2.2.1 q62.2.2.2.1 q62.2.2.2.2.1 q62.2.2.2.2.2.1 q62.2.2.2.2.2.2 v1_0)) (r := q62.1) C0 (c_X7_takeNumber l D cs H.size a1 p1 i1_1 i1_2 q46.2.1 q46.2.2.1 q46.2.2.2.1 q46.2.2.2.2.1 q46.2.2.2.2.2.1 q46.2.2.2.2.2.2 v1_0 (0) (9) q62 hq) (cwV 2 hts gX6_readPane_X7_takeNumber rfl rfl rfl (by decide +kernel) ⟨Nat.le_of_ble_eq_true rfl, Nat.le_of_ble_eq_true rfl⟩) 7 rfl rfl hP hD hS (fun q h => Or.inr h) [8, 9] [0, 1, 2, 3, 4, 5, 6, 7] [0, 1, 2, 3, 4, 5, 6, 7, 8, 9] rfl (by decide) rfl (by decide) (by decide) rfl (by decide) rfl hl.1 rfl (Nat.le_of_ble_eq_true rfl) ⟨Nat.zero_le _, Nat.zero_le _⟩ dX6_readPane_62 (fun H locs hP hD hS => ?_)
  obtain ⟨hin, hf⟩ := ck_some hf
  refine va_iast (f := v0_4) hx hb hK hP hD hS 4 0 rfl rfl hin dX6_readPane_65 (fun H locs (hP : va_P D vwCl (W_X6_readPane cs a0 p0 i0_0 i0_6 i0_8 i0_10 i0_11 i0_12 (upd v0_1 (i0_0).toNatClampNeg q3.1) (upd v0_2 (i0_0).toNatClampNeg q10.1) (upd v0_3 (i0_0).toNatClampNeg q46.1) (upd v0_4 (i0_0).toNatClampNeg q62.1) v0_5 v0_7 v0_9 a1 p1 i1_1 i1_2 q62.2.1 q62.2.2.1 q62.2.2.2.1 q62.2.2.2.2.1 q62.2.2.2.2.2.1 q62.2.2.2.2.2.2 v1_0) H) (hD : va_D _ (W_X6_readPane cs a0 p0 i0_0 i0_6 i0_8 i0_10 i0_11 i0_12 (upd v0_1 (i0_0).toNatClampNeg q3.1) (upd v0_2 (i0_0).toNatClampNeg q10.1) (upd v0_3 (i0_0).toNatClampNeg q46.1) (upd v0_4 (i0_0).toNatClampNeg q62.1) v0_5 v0_7 v0_9 a1 p1 i1_1 i1_2 q62.2.1 q62.2.2.1 q62.2.2.2.1 q62.2.2.2.2.1 q62.2.2.2.2.2.1 q62.2.2.2.2.2.2 v1_0)) hS => ?_)
  refine lv_iconst (v := 0) hx hb dX6_readPane_66 (by decide) ?_
  refine lv_istore (lv' := [(4, .int 0), (3, .int q10.1), (2, .int q3.1), (0, .ref a0), (1, .ref a1)]) hx hb dX6_readPane_67 hl (by decide) rfl (fun ls hl => ?_)
  refine lv_iconst (v := 0) hx hb dX6_readPane_69 (by decide) ?_
  refine lv_istore (lv' := [(5, .int 0), (4, .int 0), (3, .int q10.1), (2, .int q3.1), (0, .ref a0), (1, .ref a1)]) hx hb dX6_readPane_70 hl (by decide) rfl (fun ls hl => ?_)
  exact w_X6_readPane_b72 C0 a0 p0 i0_6 i0_8 i0_10 i0_11 i0_12 v0_7 v0_9 a1 p1 i1_1 i1_2 v1_0 res 4000 i0_0 (upd v0_1 (i0_0).toNatClampNeg q3.1) (upd v0_2 (i0_0).toNatClampNeg q10.1) (upd v0_3 (i0_0).toNatClampNeg q46.1) (upd v0_4 (i0_0).toNatClampNeg q62.1) v0_5 q62.2.1 q62.2.2.1 q62.2.2.2.1 q62.2.2.2.2.1 q62.2.2.2.2.2.1 q62.2.2.2.2.2.2 q3.1 q10.1 (0) (0) hf _ _ _ hP hD hS (lv_sub hl [4, 3, 2, 1, 0] rfl)
abbrev W_X6_readNumbers (cs : Nat → ClassId) (a0 : Nat) (p0 : Nat → Nat) (i0_0 : Int32) (i0_6 : Int32) (i0_8 : Int32) (i0_10 : Int32) (i0_11 : Int32) (i0_12 : Int32) (v0_1 : Nat → Int32) (v0_2 : Nat → Int32) (v0_3 : Nat → Int32) (v0_4 : Nat → Int32) (v0_5 : Nat → Int32) (v0_7 : Nat → Int32) (v0_9 : Nat → Int32) (a1 : Nat) (p1 : Nat → Nat) (i1_1 : Int32) (i1_2 : Int32) (i1_3 : Int32) (i1_4 : Int32) (i1_5 : Int32) (i1_6 : Int32) (i1_7 : Int32) (i1_8 : Int32) (v1_0 : Nat → Int32) : va_W := wX6 cs a0 p0 i0_0 i0_6 i0_8 i0_10 i0_11 i0_12 v0_1 v0_2 v0_3 v0_4 v0_5 v0_7 v0_9 ++ wX7 cs a1 p1 i1_1 i1_2 i1_3 i1_4 i1_5 i1_6 i1_7 i1_8 v1_0
abbrev rm_X6_readNumbers : Room := { frames := 4, cells := 0, slots := 0, locals := 89 }
def f_X6_readNumbers  (i0_0 : Int32) (i0_6 : Int32) (i0_8 : Int32) (i0_10 : Int32) (i0_11 : Int32) (i0_12 : Int32) (v0_1 : Nat → Int32) (v0_2 : Nat → Int32) (v0_3 : Nat → Int32) (v0_4 : Nat → Int32) (v0_5 : Nat → Int32) (v0_7 : Nat → Int32) (v0_9 : Nat → Int32) (i1_2 : Int32) (i1_3 : Int32) (i1_4 : Int32) (i1_5 : Int32) (i1_6 : Int32) (i1_7 : Int32) (i1_8 : Int32) (v1_0 : Nat → Int32) (x2 : Int32) : Option (Int32 × Int32 × Int32 × Int32 × Int32 × Int32 × (Nat → Int32) × (Nat → Int32) × (Nat → Int32) × (Nat → Int32) × (Nat → Int32) × (Nat → Int32) × (Nat → Int32) × Int32 × Int32 × Int32 × Int32 × Int32 × Int32) := if x2 = 0 then ((f_X6_readPane i0_0 v0_1 v0_2 v0_3 v0_4 v0_5 i1_2 i1_3 i1_4 i1_5 i1_6 i1_7 i1_8 v1_0).bind fun q34 => some (q34.1, i0_6, i0_8, i0_10, i0_11, i0_12, q34.2.1, q34.2.2.1, q34.2.2.2.1, q34.2.2.2.2.1, q34.2.2.2.2.2.1, v0_7, v0_9, q34.2.2.2.2.2.2.1, q34.2.2.2.2.2.2.2.1, q34.2.2.2.2.2.2.2.2.1, q34.2.2.2.2.2.2.2.2.2.1, q34.2.2.2.2.2.2.2.2.2.2.1, q34.2.2.2.2.2.2.2.2.2.2.2)) else (if x2 = 1 then ((f_X7_takeNumber i1_2 i1_3 i1_4 i1_5 i1_6 i1_7 i1_8 v1_0 (1) (200)).bind fun q45 => ck q45.1 201 ((f_X7_takeNumber i1_2 q45.2.1 q45.2.2.1 q45.2.2.2.1 q45.2.2.2.2.1 q45.2.2.2.2.2.1 q45.2.2.2.2.2.2 v1_0 (1) (9)).bind fun q60 => ck q45.1 201 (some (i0_0, i0_6 + 1, i0_8, i0_10, i0_11, i0_12, v0_1, v0_2, v0_3, v0_4, v0_5, upd v0_7 (q45.1).toNatClampNeg ((v0_7 (q45.1).toNatClampNeg) + q60.1), v0_9, q60.2.1, q60.2.2.1, q60.2.2.2.1, q60.2.2.2.2.1, q60.2.2.2.2.2.1, q60.2.2.2.2.2.2)))) else (if x2 = 2 then ((f_X6_readOrder i0_0 i0_8 v0_1 v0_2 v0_9 i1_2 i1_3 i1_4 i1_5 i1_6 i1_7 i1_8 v1_0).bind fun q80 => some (i0_0, i0_6, q80.1, i0_10, i0_11, i0_12, v0_1, v0_2, v0_3, v0_4, v0_5, v0_7, q80.2.1, q80.2.2.1, q80.2.2.2.1, q80.2.2.2.2.1, q80.2.2.2.2.2.1, q80.2.2.2.2.2.2.1, q80.2.2.2.2.2.2.2)) else (if x2 = 3 then ((f_X7_takeNumber i1_2 i1_3 i1_4 i1_5 i1_6 i1_7 i1_8 v1_0 (1) (9)).bind fun q91 => (f_X7_takeNumber i1_2 q91.2.1 q91.2.2.1 q91.2.2.2.1 q91.2.2.2.2.1 q91.2.2.2.2.2.1 q91.2.2.2.2.2.2 v1_0 (1) (9)).bind fun q102 => some (i0_0, i0_6, i0_8, q91.1, q102.1, i0_12, v0_1, v0_2, v0_3, v0_4, v0_5, v0_7, v0_9, q102.2.1, q102.2.2.1, q102.2.2.2.1, q102.2.2.2.2.1, q102.2.2.2.2.2.1, q102.2.2.2.2.2.2)) else ((f_X7_takeNumber i1_2 i1_3 i1_4 i1_5 i1_6 i1_7 i1_8 v1_0 (1) (30)).bind fun q116 => some (i0_0, i0_6, i0_8, i0_10, i0_11, q116.1, v0_1, v0_2, v0_3, v0_4, v0_5, v0_7, v0_9, q116.2.1, q116.2.2.1, q116.2.2.2.1, q116.2.2.2.2.1, q116.2.2.2.2.2.1, q116.2.2.2.2.2.2)))))
set_option maxHeartbeats 4000000 in
set_option maxRecDepth 100000 in
theorem c_X6_readNumbers (l : Launch) (D : va_G) (cs : Nat → ClassId)  (sz : Nat) (a0 : Nat) (p0 : Nat → Nat) (i0_0 : Int32) (i0_6 : Int32) (i0_8 : Int32) (i0_10 : Int32) (i0_11 : Int32) (i0_12 : Int32) (v0_1 : Nat → Int32) (v0_2 : Nat → Int32) (v0_3 : Nat → Int32) (v0_4 : Nat → Int32) (v0_5 : Nat → Int32) (v0_7 : Nat → Int32) (v0_9 : Nat → Int32) (a1 : Nat) (p1 : Nat → Nat) (i1_1 : Int32) (i1_2 : Int32) (i1_3 : Int32) (i1_4 : Int32) (i1_5 : Int32) (i1_6 : Int32) (i1_7 : Int32) (i1_8 : Int32) (v1_0 : Nat → Int32) (x2 : Int32) (res : Int32 × Int32 × Int32 × Int32 × Int32 × Int32 × (Nat → Int32) × (Nat → Int32) × (Nat → Int32) × (Nat → Int32) × (Nat → Int32) × (Nat → Int32) × (Nat → Int32) × Int32 × Int32 × Int32 × Int32 × Int32 × Int32) (hf : f_X6_readNumbers  i0_0 i0_6 i0_8 i0_10 i0_11 i0_12 v0_1 v0_2 v0_3 v0_4 v0_5 v0_7 v0_9 i1_2 i1_3 i1_4 i1_5 i1_6 i1_7 i1_8 v1_0 x2 = some res) : MV l D cs yX6_readNumbers wsX6_readNumbers rm_X6_readNumbers [.ref a0, .ref a1, .int x2] sz (W_X6_readNumbers cs a0 p0 i0_0 i0_6 i0_8 i0_10 i0_11 i0_12 v0_1 v0_2 v0_3 v0_4 v0_5 v0_7 v0_9 a1 p1 i1_1 i1_2 i1_3 i1_4 i1_5 i1_6 i1_7 i1_8 v1_0) (W_X6_readNumbers cs a0 p0 res.1 res.2.1 res.2.2.1 res.2.2.2.1 res.2.2.2.2.1 res.2.2.2.2.2.1 res.2.2.2.2.2.2.1 res.2.2.2.2.2.2.2.1 res.2.2.2.2.2.2.2.2.1 res.2.2.2.2.2.2.2.2.2.1 res.2.2.2.2.2.2.2.2.2.2.1 res.2.2.2.2.2.2.2.2.2.2.2.1 res.2.2.2.2.2.2.2.2.2.2.2.2.1 a1 p1 i1_1 i1_2 res.2.2.2.2.2.2.2.2.2.2.2.2.2.1 res.2.2.2.2.2.2.2.2.2.2.2.2.2.2.1 res.2.2.2.2.2.2.2.2.2.2.2.2.2.2.2.1 res.2.2.2.2.2.2.2.2.2.2.2.2.2.2.2.2.1 res.2.2.2.2.2.2.2.2.2.2.2.2.2.2.2.2.2.1 res.2.2.2.2.2.2.2.2.2.2.2.2.2.2.2.2.2.2 v1_0) := by
  rw [f_X6_readNumbers] at hf
  refine ow_enter (cc := cX6_readNumbers) (nL := 4) (ret := none) (by decide) rfl (Nat.le_of_ble_eq_true rfl) (fun p e s m below meth c ls H locs C0 hP hD hS hA hl => ?_)
  obtain ⟨hx, hb, hr, hlk, hml, hown, hts, hK, hG, hE⟩ := id C0
  have in_X6 : ∀ w ∈ u_ws RX6 TX6 13, w ∈ wsX6_readNumbers := by decide +kernel
  have hl : lv_has ls 4 [(0, .ref a0), (1, .ref a1), (2, .int x2)] := hl
  refine lv_iload_n hx hb dX6_readNumbers_0 rfl (lv_at hl 2 rfl) ?_
  rcases Decidable.em (x2 = 0) with hc | hc
  · replace hf := ow_t hc hf
    refine lv_tableIn (tgt := 32) hx hb dX6_readNumbers_1 (by rw [hc]; decide) (by rw [hc]; decide) (by rw [hc]; rfl) (by decide) ?_
    refine lv_aload_n hx hb dX6_readNumbers_32 rfl (lv_at hl 0 rfl) ?_
    refine lv_aload_n hx hb dX6_readNumbers_33 rfl (lv_at hl 1 rfl) ?_
    obtain ⟨q34, hq, hf⟩ := bd_some hf
    refine ow_callVV (As := [.ref a1]) (rest := []) (wr := ow_pk (W_X6_readNumbers cs a0 p0 i0_0 i0_6 i0_8 i0_10 i0_11 i0_12 v0_1 v0_2 v0_3 v0_4 v0_5 v0_7 v0_9 a1 p1 i1_1 i1_2 i1_3 i1_4 i1_5 i1_6 i1_7 i1_8 v1_0) []) (wf := (W_X6_readNumbers cs a0 p0 q34.1 i0_6 i0_8 i0_10 i0_11 i0_12 q34.2.1 q34.2.2.1 q34.2.2.2.1 q34.2.2.2.2.1 q34.2.2.2.2.2.1 v0_7 v0_9 a1 p1 i1_1 i1_2 q34.2.2.2.2.2.2.1 q34.2.2.2.2.2.2.2.1 q34.2.2.2.2.2.2.2.2.1 q34.2.2.2.2.2.2.2.2.2.1 q34.2.2.2.2.2.2.2.2.2.2.1 q34.2.2.2.2.2.2.2.2.2.2.2 v1_0)) C0 (c_X6_readPane l D cs H.size a0 p0 i0_0 i0_6 i0_8 i0_10 i0_11 i0_12 v0_1 v0_2 v0_3 v0_4 v0_5 v0_7 v0_9 a1 p1 i1_1 i1_2 i1_3 i1_4 i1_5 i1_6 i1_7 i1_8 v1_0  q34 hq) (cwV 1 hts gX6_readNumbers_X6_readPane rfl rfl rfl (by decide +kernel) ⟨Nat.le_of_ble_eq_true rfl, Nat.le_of_ble_eq_true rfl⟩) 6 rfl rfl hP hD hS (fun q h => Or.inr h) [0, 1, 2, 3, 4, 5, 6, 7, 8, 9] [] [0, 1, 2, 3, 4, 5, 6, 7, 8, 9] rfl (by decide) rfl (by decide) (by decide) rfl (by decide) rfl hl.1 rfl (Nat.le_of_ble_eq_true rfl) ⟨Nat.zero_le _, Nat.zero_le _⟩ dX6_readNumbers_34 (fun H locs hP hD hS => ?_)
    refine lv_goto (tgt := 122) hx hb dX6_readNumbers_37 (by decide) ?_
    obtain rfl := Option.some.inj hf
    exact ow_retV C0 hP hD hS dX6_readNumbers_122
  replace hf := ow_f hc hf
  have hn0 := hc
  rcases Decidable.em (x2 = 1) with hc | hc
  · replace hf := ow_t hc hf
    refine lv_tableIn (tgt := 40) hx hb dX6_readNumbers_1 (by rw [hc]; decide) (by rw [hc]; decide) (by rw [hc]; rfl) (by decide) ?_
    refine lv_aload_n hx hb dX6_readNumbers_40 rfl (lv_at hl 1 rfl) ?_
    refine lv_iconst (v := 1) hx hb dX6_readNumbers_41 (by decide) ?_
    refine lv_sipush (v := 200) hx hb dX6_readNumbers_42 (by decide) ?_
    obtain ⟨q45, hq, hf⟩ := bd_some hf
    refine ow_callVI (As := [.int 1, .int 200]) (rest := []) (wr := ow_pk (W_X6_readNumbers cs a0 p0 i0_0 i0_6 i0_8 i0_10 i0_11 i0_12 v0_1 v0_2 v0_3 v0_4 v0_5 v0_7 v0_9 a1 p1 i1_1 i1_2 i1_3 i1_4 i1_5 i1_6 i1_7 i1_8 v1_0) [0, 1, 2, 3, 4, 5, 6, 7]) (wf := (W_X6_readNumbers cs a0 p0 i0_0 i0_6 i0_8 i0_10 i0_11 i0_12 v0_1 v0_2 v0_3 v0_4 v0_5 v0_7 v0_9 a1 p1 i1_1 i1_2 q45.2.1 q45.2.2.1 q45.2.2.2.1 q45.2.2.2.2.1 q45.2.2.2.2.2.1 q45.2.2.2.2.2.2 v1_0)) (r := q45.1) C0 (c_X7_takeNumber l D cs H.size a1 p1 i1_1 i1_2 i1_3 i1_4 i1_5 i1_6 i1_7 i1_8 v1_0 (1) (200) q45 hq) (cwV 2 hts gX6_readNumbers_X7_takeNumber rfl rfl rfl (by decide +kernel) ⟨Nat.le_of_ble_eq_true rfl, Nat.le_of_ble_eq_true rfl⟩) 7 rfl rfl hP hD hS (fun q h => Or.inr h) [8, 9] [0, 1, 2, 3, 4, 5, 6, 7] [0, 1, 2, 3, 4, 5, 6, 7, 8, 9] rfl (by decide) rfl (by decide) (by decide) rfl (by decide) rfl hl.1 rfl (Nat.le_of_ble_eq_true rfl) ⟨Nat.zero_le _, Nat.zero_le _⟩ dX6_readNumbers_45 (fun H locs hP hD hS => ?_)
    refine lv_istore_n (lv' := [(3, .int q45.1), (0, .ref a0), (1, .ref a1), (2, .int x2)]) hx hb dX6_readNumbers_48 rfl hl (by decide) rfl (fun ls hl => ?_)
    refine lv_aload_n hx hb dX6_readNumbers_49 rfl (lv_at hl 1 rfl) ?_
    refine va_get (D := D) (ci := 6) (v := .ref (p0 7)) (C := RX6) (T := TX6) (N := 13) hx hb hts in_X6 hown hK hP 0 rfl rfl 7 (by decide) (hts (.fieldLink RX6 27 "PaneDays$Street" "rainOn" "[I") (by decide +kernel)) (fun _ h9 => h9) rfl dX6_readNumbers_50 ?_
    refine lv_iload_n hx hb dX6_readNumbers_53 rfl (lv_at hl 0 rfl) ?_
    refine lv_dup2_11 hx hb dX6_readNumbers_54 rfl rfl ?_
    obtain ⟨hin, hf⟩ := ck_some hf
    refine va_iald (f := v0_7) hx hb hK hP 6 0 rfl rfl hin dX6_readNumbers_55 ?_
    refine lv_aload_n hx hb dX6_readNumbers_56 rfl (lv_at hl 2 rfl) ?_
    refine lv_iconst (v := 1) hx hb dX6_readNumbers_57 (by decide) ?_
    refine lv_bipush (v := 9) hx hb dX6_readNumbers_58 (by decide) ?_
    obtain ⟨q60, hq, hf⟩ := bd_some hf
    refine ow_callVI (As := [.int 1, .int 9]) (rest := [.int (v0_7 (q45.1).toNatClampNeg), .int q45.1, .ref (p0 7)]) (wr := ow_pk (W_X6_readNumbers cs a0 p0 i0_0 i0_6 i0_8 i0_10 i0_11 i0_12 v0_1 v0_2 v0_3 v0_4 v0_5 v0_7 v0_9 a1 p1 i1_1 i1_2 q45.2.1 q45.2.2.1 q45.2.2.2.1 q45.2.2.2.2.1 q45.2.2.2.2.2.1 q45.2.2.2.2.2.2 v1_0) [0, 1, 2, 3, 4, 5, 6, 7]) (wf := (W_X6_readNumbers cs a0 p0 i0_0 i0_6 i0_8 i0_10 i0_11 i0_12 v0_1 v0_2 v0_3 v0_4 v0_5 v0_7 v0_9 a1 p1 i1_1 i1_2 q60.2.1 q60.2.2.1 q60.2.2.2.1 q60.2.2.2.2.1 q60.2.2.2.2.2.1 q60.2.2.2.2.2.2 v1_0)) (r := q60.1) C0 (c_X7_takeNumber l D cs H.size a1 p1 i1_1 i1_2 q45.2.1 q45.2.2.1 q45.2.2.2.1 q45.2.2.2.2.1 q45.2.2.2.2.2.1 q45.2.2.2.2.2.2 v1_0 (1) (9) q60 hq) (cwV 2 hts gX6_readNumbers_X7_takeNumber rfl rfl rfl (by decide +kernel) ⟨Nat.le_of_ble_eq_true rfl, Nat.le_of_ble_eq_true rfl⟩) 7 rfl rfl hP hD hS (fun q h => Or.inr h) [8, 9] [0, 1, 2, 3, 4, 5, 6, 7] [0, 1, 2, 3, 4, 5, 6, 7, 8, 9] rfl (by decide) rfl (by decide) (by decide) rfl (by decide) rfl hl.1 rfl (Nat.le_of_ble_eq_true rfl) ⟨Nat.zero_le _, Nat.zero_le _⟩ dX6_readNumbers_60 (fun H locs hP hD hS => ?_)
    refine lv_iadd hx hb dX6_readNumbers_63 ?_
    obtain ⟨hin, hf⟩ := ck_some hf
    refine va_iast (f := v0_7) hx hb hK hP hD hS 6 0 rfl rfl hin dX6_readNumbers_64 (fun H locs (hP : va_P D vwCl (W_X6_readNumbers cs a0 p0 i0_0 i0_6 i0_8 i0_10 i0_11 i0_12 v0_1 v0_2 v0_3 v0_4 v0_5 (upd v0_7 (q45.1).toNatClampNeg ((v0_7 (q45.1).toNatClampNeg) + q60.1)) v0_9 a1 p1 i1_1 i1_2 q60.2.1 q60.2.2.1 q60.2.2.2.1 q60.2.2.2.2.1 q60.2.2.2.2.2.1 q60.2.2.2.2.2.2 v1_0) H) (hD : va_D _ (W_X6_readNumbers cs a0 p0 i0_0 i0_6 i0_8 i0_10 i0_11 i0_12 v0_1 v0_2 v0_3 v0_4 v0_5 (upd v0_7 (q45.1).toNatClampNeg ((v0_7 (q45.1).toNatClampNeg) + q60.1)) v0_9 a1 p1 i1_1 i1_2 q60.2.1 q60.2.2.1 q60.2.2.2.1 q60.2.2.2.2.1 q60.2.2.2.2.2.1 q60.2.2.2.2.2.2 v1_0)) hS => ?_)
    refine lv_aload_n hx hb dX6_readNumbers_65 rfl (lv_at hl 1 rfl) ?_
    refine lv_dup hx hb dX6_readNumbers_66 rfl ?_
    refine va_get (D := D) (ci := 6) (v := .int i0_6) (C := RX6) (T := TX6) (N := 13) hx hb hts in_X6 hown hK hP 0 rfl rfl 6 (by decide) (hts (.fieldLink RX6 60 "PaneDays$Street" "rains" "I") (by decide +kernel)) (fun _ h9 => h9) rfl dX6_readNumbers_67 ?_
    refine lv_iconst (v := 1) hx hb dX6_readNumbers_70 (by decide) ?_
    refine lv_iadd hx hb dX6_readNumbers_71 ?_
    refine va_put (D := D) (ci := 6) (v := .int (i0_6 + 1)) (ty := .int) (C := RX6) (T := TX6) (N := 13) hx hb hts in_X6 tyX6 tyX6_ok nmX6 hown hK hP hD hS 0 rfl rfl 6 (by decide) (hts (.fieldLink RX6 60 "PaneDays$Street" "rains" "I") (by decide +kernel)) (fun _ h9 => h9) rfl (by decide +kernel) rfl rfl (Nat.le_of_ble_eq_true rfl) dX6_readNumbers_72 (fun H locs (hP : va_P D vwCl (W_X6_readNumbers cs a0 p0 i0_0 (i0_6 + 1) i0_8 i0_10 i0_11 i0_12 v0_1 v0_2 v0_3 v0_4 v0_5 (upd v0_7 (q45.1).toNatClampNeg ((v0_7 (q45.1).toNatClampNeg) + q60.1)) v0_9 a1 p1 i1_1 i1_2 q60.2.1 q60.2.2.1 q60.2.2.2.1 q60.2.2.2.2.1 q60.2.2.2.2.2.1 q60.2.2.2.2.2.2 v1_0) H) (hD : va_D _ (W_X6_readNumbers cs a0 p0 i0_0 (i0_6 + 1) i0_8 i0_10 i0_11 i0_12 v0_1 v0_2 v0_3 v0_4 v0_5 (upd v0_7 (q45.1).toNatClampNeg ((v0_7 (q45.1).toNatClampNeg) + q60.1)) v0_9 a1 p1 i1_1 i1_2 q60.2.1 q60.2.2.1 q60.2.2.2.1 q60.2.2.2.2.1 q60.2.2.2.2.2.1 q60.2.2.2.2.2.2 v1_0)) hS => ?_)
    refine lv_goto (tgt := 122) hx hb dX6_readNumbers_75 (by decide) ?_
    obtain rfl := Option.some.inj hf
    exact ow_retV C0 hP hD hS dX6_readNumbers_122
  replace hf := ow_f hc hf
  have hn1 := hc
  rcases Decidable.em (x2 = 2) with hc | hc
  · replace hf := ow_t hc hf
    refine lv_tableIn (tgt := 78) hx hb dX6_readNumbers_1 (by rw [hc]; decide) (by rw [hc]; decide) (by rw [hc]; rfl) (by decide) ?_
    refine lv_aload_n hx hb dX6_readNumbers_78 rfl (lv_at hl 0 rfl) ?_
    refine lv_aload_n hx hb dX6_readNumbers_79 rfl (lv_at hl 1 rfl) ?_
    obtain ⟨q80, hq, hf⟩ := bd_some hf
    refine ow_callVV (As := [.ref a1]) (rest := []) (wr := ow_pk (W_X6_readNumbers cs a0 p0 i0_0 i0_6 i0_8 i0_10 i0_11 i0_12 v0_1 v0_2 v0_3 v0_4 v0_5 v0_7 v0_9 a1 p1 i1_1 i1_2 i1_3 i1_4 i1_5 i1_6 i1_7 i1_8 v1_0) []) (wf := (W_X6_readNumbers cs a0 p0 i0_0 i0_6 q80.1 i0_10 i0_11 i0_12 v0_1 v0_2 v0_3 v0_4 v0_5 v0_7 q80.2.1 a1 p1 i1_1 i1_2 q80.2.2.1 q80.2.2.2.1 q80.2.2.2.2.1 q80.2.2.2.2.2.1 q80.2.2.2.2.2.2.1 q80.2.2.2.2.2.2.2 v1_0)) C0 (c_X6_readOrder l D cs H.size a0 p0 i0_0 i0_6 i0_8 i0_10 i0_11 i0_12 v0_1 v0_2 v0_3 v0_4 v0_5 v0_7 v0_9 a1 p1 i1_1 i1_2 i1_3 i1_4 i1_5 i1_6 i1_7 i1_8 v1_0  q80 hq) (cwV 1 hts gX6_readNumbers_X6_readOrder rfl rfl rfl (by decide +kernel) ⟨Nat.le_of_ble_eq_true rfl, Nat.le_of_ble_eq_true rfl⟩) 6 rfl rfl hP hD hS (fun q h => Or.inr h) [0, 1, 2, 3, 4, 5, 6, 7, 8, 9] [] [0, 1, 2, 3, 4, 5, 6, 7, 8, 9] rfl (by decide) rfl (by decide) (by decide) rfl (by decide) rfl hl.1 rfl (Nat.le_of_ble_eq_true rfl) ⟨Nat.zero_le _, Nat.zero_le _⟩ dX6_readNumbers_80 (fun H locs hP hD hS => ?_)
    refine lv_goto (tgt := 122) hx hb dX6_readNumbers_83 (by decide) ?_
    obtain rfl := Option.some.inj hf
    exact ow_retV C0 hP hD hS dX6_readNumbers_122
  replace hf := ow_f hc hf
  have hn2 := hc
  rcases Decidable.em (x2 = 3) with hc | hc
  · replace hf := ow_t hc hf
    refine lv_tableIn (tgt := 86) hx hb dX6_readNumbers_1 (by rw [hc]; decide) (by rw [hc]; decide) (by rw [hc]; rfl) (by decide) ?_
    refine lv_aload_n hx hb dX6_readNumbers_86 rfl (lv_at hl 0 rfl) ?_
    refine lv_aload_n hx hb dX6_readNumbers_87 rfl (lv_at hl 1 rfl) ?_
    refine lv_iconst (v := 1) hx hb dX6_readNumbers_88 (by decide) ?_
    refine lv_bipush (v := 9) hx hb dX6_readNumbers_89 (by decide) ?_
    obtain ⟨q91, hq, hf⟩ := bd_some hf
    refine ow_callVI (As := [.int 1, .int 9]) (rest := [.ref a0]) (wr := ow_pk (W_X6_readNumbers cs a0 p0 i0_0 i0_6 i0_8 i0_10 i0_11 i0_12 v0_1 v0_2 v0_3 v0_4 v0_5 v0_7 v0_9 a1 p1 i1_1 i1_2 i1_3 i1_4 i1_5 i1_6 i1_7 i1_8 v1_0) [0, 1, 2, 3, 4, 5, 6, 7]) (wf := (W_X6_readNumbers cs a0 p0 i0_0 i0_6 i0_8 i0_10 i0_11 i0_12 v0_1 v0_2 v0_3 v0_4 v0_5 v0_7 v0_9 a1 p1 i1_1 i1_2 q91.2.1 q91.2.2.1 q91.2.2.2.1 q91.2.2.2.2.1 q91.2.2.2.2.2.1 q91.2.2.2.2.2.2 v1_0)) (r := q91.1) C0 (c_X7_takeNumber l D cs H.size a1 p1 i1_1 i1_2 i1_3 i1_4 i1_5 i1_6 i1_7 i1_8 v1_0 (1) (9) q91 hq) (cwV 2 hts gX6_readNumbers_X7_takeNumber rfl rfl rfl (by decide +kernel) ⟨Nat.le_of_ble_eq_true rfl, Nat.le_of_ble_eq_true rfl⟩) 7 rfl rfl hP hD hS (fun q h => Or.inr h) [8, 9] [0, 1, 2, 3, 4, 5, 6, 7] [0, 1, 2, 3, 4, 5, 6, 7, 8, 9] rfl (by decide) rfl (by decide) (by decide) rfl (by decide) rfl hl.1 rfl (Nat.le_of_ble_eq_true rfl) ⟨Nat.zero_le _, Nat.zero_le _⟩ dX6_readNumbers_91 (fun H locs hP hD hS => ?_)
    refine va_put (D := D) (ci := 6) (v := .int q91.1) (ty := .int) (C := RX6) (T := TX6) (N := 13) hx hb hts in_X6 tyX6 tyX6_ok nmX6 hown hK hP hD hS 0 rfl rfl 10 (by decide) (hts (.fieldLink RX6 66 "PaneDays$Street" "stepMinutes" "I") (by decide +kernel)) (fun _ h9 => h9) rfl (by decide +kernel) rfl rfl (Nat.le_of_ble_eq_true rfl) dX6_readNumbers_94 (fun H locs (hP : va_P D vwCl (W_X6_readNumbers cs a0 p0 i0_0 i0_6 i0_8 q91.1 i0_11 i0_12 v0_1 v0_2 v0_3 v0_4 v0_5 v0_7 v0_9 a1 p1 i1_1 i1_2 q91.2.1 q91.2.2.1 q91.2.2.2.1 q91.2.2.2.2.1 q91.2.2.2.2.2.1 q91.2.2.2.2.2.2 v1_0) H) (hD : va_D _ (W_X6_readNumbers cs a0 p0 i0_0 i0_6 i0_8 q91.1 i0_11 i0_12 v0_1 v0_2 v0_3 v0_4 v0_5 v0_7 v0_9 a1 p1 i1_1 i1_2 q91.2.1 q91.2.2.1 q91.2.2.2.1 q91.2.2.2.2.1 q91.2.2.2.2.2.1 q91.2.2.2.2.2.2 v1_0)) hS => ?_)
    refine lv_aload_n hx hb dX6_readNumbers_97 rfl (lv_at hl 0 rfl) ?_
    refine lv_aload_n hx hb dX6_readNumbers_98 rfl (lv_at hl 1 rfl) ?_
    refine lv_iconst (v := 1) hx hb dX6_readNumbers_99 (by decide) ?_
    refine lv_bipush (v := 9) hx hb dX6_readNumbers_100 (by decide) ?_
    obtain ⟨q102, hq, hf⟩ := bd_some hf
    refine ow_callVI (As := [.int 1, .int 9]) (rest := [.ref a0]) (wr := ow_pk (W_X6_readNumbers cs a0 p0 i0_0 i0_6 i0_8 q91.1 i0_11 i0_12 v0_1 v0_2 v0_3 v0_4 v0_5 v0_7 v0_9 a1 p1 i1_1 i1_2 q91.2.1 q91.2.2.1 q91.2.2.2.1 q91.2.2.2.2.1 q91.2.2.2.2.2.1 q91.2.2.2.2.2.2 v1_0) [0, 1, 2, 3, 4, 5, 6, 7]) (wf := (W_X6_readNumbers cs a0 p0 i0_0 i0_6 i0_8 q91.1 i0_11 i0_12 v0_1 v0_2 v0_3 v0_4 v0_5 v0_7 v0_9 a1 p1 i1_1 i1_2 q102.2.1 q102.2.2.1 q102.2.2.2.1 q102.2.2.2.2.1 q102.2.2.2.2.2.1 q102.2.2.2.2.2.2 v1_0)) (r := q102.1) C0 (c_X7_takeNumber l D cs H.size a1 p1 i1_1 i1_2 q91.2.1 q91.2.2.1 q91.2.2.2.1 q91.2.2.2.2.1 q91.2.2.2.2.2.1 q91.2.2.2.2.2.2 v1_0 (1) (9) q102 hq) (cwV 2 hts gX6_readNumbers_X7_takeNumber rfl rfl rfl (by decide +kernel) ⟨Nat.le_of_ble_eq_true rfl, Nat.le_of_ble_eq_true rfl⟩) 7 rfl rfl hP hD hS (fun q h => Or.inr h) [8, 9] [0, 1, 2, 3, 4, 5, 6, 7] [0, 1, 2, 3, 4, 5, 6, 7, 8, 9] rfl (by decide) rfl (by decide) (by decide) rfl (by decide) rfl hl.1 rfl (Nat.le_of_ble_eq_true rfl) ⟨Nat.zero_le _, Nat.zero_le _⟩ dX6_readNumbers_102 (fun H locs hP hD hS => ?_)
    refine va_put (D := D) (ci := 6) (v := .int q102.1) (ty := .int) (C := RX6) (T := TX6) (N := 13) hx hb hts in_X6 tyX6 tyX6_ok nmX6 hown hK hP hD hS 0 rfl rfl 11 (by decide) (hts (.fieldLink RX6 69 "PaneDays$Street" "floorMinutes" "I") (by decide +kernel)) (fun _ h9 => h9) rfl (by decide +kernel) rfl rfl (Nat.le_of_ble_eq_true rfl) dX6_readNumbers_105 (fun H locs (hP : va_P D vwCl (W_X6_readNumbers cs a0 p0 i0_0 i0_6 i0_8 q91.1 q102.1 i0_12 v0_1 v0_2 v0_3 v0_4 v0_5 v0_7 v0_9 a1 p1 i1_1 i1_2 q102.2.1 q102.2.2.1 q102.2.2.2.1 q102.2.2.2.2.1 q102.2.2.2.2.2.1 q102.2.2.2.2.2.2 v1_0) H) (hD : va_D _ (W_X6_readNumbers cs a0 p0 i0_0 i0_6 i0_8 q91.1 q102.1 i0_12 v0_1 v0_2 v0_3 v0_4 v0_5 v0_7 v0_9 a1 p1 i1_1 i1_2 q102.2.1 q102.2.2.1 q102.2.2.2.1 q102.2.2.2.2.1 q102.2.2.2.2.2.1 q102.2.2.2.2.2.2 v1_0)) hS => ?_)
    refine lv_goto (tgt := 122) hx hb dX6_readNumbers_108 (by decide) ?_
    obtain rfl := Option.some.inj hf
    exact ow_retV C0 hP hD hS dX6_readNumbers_122
  replace hf := ow_f hc hf
  have hn3 := hc
  refine lv_tableOut (x := x2) (tgt := 111) hx hb dX6_readNumbers_1 (ow_out (fun z h1 h2 => by rcases (show z = 0 ∨ z = 1 ∨ z = 2 ∨ z = 3 by omega) with rfl | rfl | rfl | rfl <;> first | exact lv_neT hn0 (by decide) | exact lv_neT hn1 (by decide) | exact lv_neT hn2 (by decide) | exact lv_neT hn3 (by decide))) (by decide) ?_
  refine lv_aload_n hx hb dX6_readNumbers_111 rfl (lv_at hl 0 rfl) ?_
  refine lv_aload_n hx hb dX6_readNumbers_112 rfl (lv_at hl 1 rfl) ?_
  refine lv_iconst (v := 1) hx hb dX6_readNumbers_113 (by decide) ?_
  refine lv_bipush (v := 30) hx hb dX6_readNumbers_114 (by decide) ?_
  obtain ⟨q116, hq, hf⟩ := bd_some hf
  refine ow_callVI (As := [.int 1, .int 30]) (rest := [.ref a0]) (wr := ow_pk (W_X6_readNumbers cs a0 p0 i0_0 i0_6 i0_8 i0_10 i0_11 i0_12 v0_1 v0_2 v0_3 v0_4 v0_5 v0_7 v0_9 a1 p1 i1_1 i1_2 i1_3 i1_4 i1_5 i1_6 i1_7 i1_8 v1_0) [0, 1, 2, 3, 4, 5, 6, 7]) (wf := (W_X6_readNumbers cs a0 p0 i0_0 i0_6 i0_8 i0_10 i0_11 i0_12 v0_1 v0_2 v0_3 v0_4 v0_5 v0_7 v0_9 a1 p1 i1_1 i1_2 q116.2.1 q116.2.2.1 q116.2.2.2.1 q116.2.2.2.2.1 q116.2.2.2.2.2.1 q116.2.2.2.2.2.2 v1_0)) (r := q116.1) C0 (c_X7_takeNumber l D cs H.size a1 p1 i1_1 i1_2 i1_3 i1_4 i1_5 i1_6 i1_7 i1_8 v1_0 (1) (30) q116 hq) (cwV 2 hts gX6_readNumbers_X7_takeNumber rfl rfl rfl (by decide +kernel) ⟨Nat.le_of_ble_eq_true rfl, Nat.le_of_ble_eq_true rfl⟩) 7 rfl rfl hP hD hS (fun q h => Or.inr h) [8, 9] [0, 1, 2, 3, 4, 5, 6, 7] [0, 1, 2, 3, 4, 5, 6, 7, 8, 9] rfl (by decide) rfl (by decide) (by decide) rfl (by decide) rfl hl.1 rfl (Nat.le_of_ble_eq_true rfl) ⟨Nat.zero_le _, Nat.zero_le _⟩ dX6_readNumbers_116 (fun H locs hP hD hS => ?_)
  refine va_put (D := D) (ci := 6) (v := .int q116.1) (ty := .int) (C := RX6) (T := TX6) (N := 13) hx hb hts in_X6 tyX6 tyX6_ok nmX6 hown hK hP hD hS 0 rfl rfl 12 (by decide) (hts (.fieldLink RX6 72 "PaneDays$Street" "hold" "I") (by decide +kernel)) (fun _ h9 => h9) rfl (by decide +kernel) rfl rfl (Nat.le_of_ble_eq_true rfl) dX6_readNumbers_119 (fun H locs (hP : va_P D vwCl (W_X6_readNumbers cs a0 p0 i0_0 i0_6 i0_8 i0_10 i0_11 q116.1 v0_1 v0_2 v0_3 v0_4 v0_5 v0_7 v0_9 a1 p1 i1_1 i1_2 q116.2.1 q116.2.2.1 q116.2.2.2.1 q116.2.2.2.2.1 q116.2.2.2.2.2.1 q116.2.2.2.2.2.2 v1_0) H) (hD : va_D _ (W_X6_readNumbers cs a0 p0 i0_0 i0_6 i0_8 i0_10 i0_11 q116.1 v0_1 v0_2 v0_3 v0_4 v0_5 v0_7 v0_9 a1 p1 i1_1 i1_2 q116.2.1 q116.2.2.1 q116.2.2.2.1 q116.2.2.2.2.1 q116.2.2.2.2.2.1 q116.2.2.2.2.2.2 v1_0)) hS => ?_)
  obtain rfl := Option.some.inj hf
  exact ow_retV C0 hP hD hS dX6_readNumbers_122
abbrev W_X6_isFull (cs : Nat → ClassId) (a0 : Nat) (p0 : Nat → Nat) (i0_0 : Int32) (i0_6 : Int32) (i0_8 : Int32) (i0_10 : Int32) (i0_11 : Int32) (i0_12 : Int32) (v0_1 : Nat → Int32) (v0_2 : Nat → Int32) (v0_3 : Nat → Int32) (v0_4 : Nat → Int32) (v0_5 : Nat → Int32) (v0_7 : Nat → Int32) (v0_9 : Nat → Int32) : va_W := wX6 cs a0 p0 i0_0 i0_6 i0_8 i0_10 i0_11 i0_12 v0_1 v0_2 v0_3 v0_4 v0_5 v0_7 v0_9
abbrev rm_X6_isFull : Room := { frames := 0, cells := 0, slots := 0, locals := 0 }
def f_X6_isFull_b26  (i0_0 : Int32) (i0_6 : Int32) (i0_8 : Int32)   (x1 : Int32) : Option (Int32) := if x1 = 2 then (if i0_8 < 12 then (some (0)) else (some (1))) else (some (0))
set_option maxHeartbeats 4000000 in
set_option maxRecDepth 100000 in
theorem w_X6_isFull_b26 {p : Program} {l : Launch} {e : Env} {s : State} {m : MethodId} {below : List Frame} {meth : Method} {c : Code} {D : va_G} {cs : Nat → ClassId} {av : Array Value} {w0 : va_W} (C0 : Cx p s m meth c av wsX6_isFull cX6_isFull 2 (some .boolean) RX6 D cs w0)  (a0 : Nat) (p0 : Nat → Nat) (i0_0 : Int32) (i0_6 : Int32) (i0_8 : Int32) (i0_10 : Int32) (i0_11 : Int32) (i0_12 : Int32) (v0_1 : Nat → Int32) (v0_2 : Nat → Int32) (v0_3 : Nat → Int32) (v0_4 : Nat → Int32) (v0_5 : Nat → Int32) (v0_7 : Nat → Int32) (v0_9 : Nat → Int32) (res : Int32)  : ∀ (x1 : Int32), f_X6_isFull_b26 i0_0 i0_6 i0_8 x1 = some res → ∀ (H : Heap) (locs : List Loc) (ls : Array Slot), va_P D vwCl (W_X6_isFull cs a0 p0 i0_0 i0_6 i0_8 i0_10 i0_11 i0_12 v0_1 v0_2 v0_3 v0_4 v0_5 v0_7 v0_9) H → va_D (va_A w0 s.heap.size) (W_X6_isFull cs a0 p0 i0_0 i0_6 i0_8 i0_10 i0_11 i0_12 v0_1 v0_2 v0_3 v0_4 v0_5 v0_7 v0_9) → va_S (va_A w0 s.heap.size) s.heap H locs → lv_has ls 2 [(0, .ref a0), (1, .int x1)] → W p l e rm_X6_isFull s m av below meth c H locs 0 0 (MQ below (oI D cs w0 (W_X6_isFull cs a0 p0 i0_0 i0_6 i0_8 i0_10 i0_11 i0_12 v0_1 v0_2 v0_3 v0_4 v0_5 v0_7 v0_9) res s.heap.size) av s 0 0 (va_A w0 s.heap.size)) (F0 m 26 ls []) := by
  obtain ⟨hx, hb, hr, hlk, hml, hown, hts, hK, hG, hE⟩ := id C0
  have in_X6 : ∀ w ∈ u_ws RX6 TX6 13, w ∈ wsX6_isFull := by decide +kernel
  intro x1 hf H locs ls hP hD hS hl
  rw [f_X6_isFull_b26] at hf
  refine lv_iload_n hx hb dX6_isFull_26 rfl (lv_at hl 1 rfl) ?_
  refine lv_iconst (v := 2) hx hb dX6_isFull_27 (by decide) ?_
  refine lv_icmp_ne (tgt := 44) hx hb dX6_isFull_28 (by decide) (fun hc => ?_) (fun hc => ?_)
  · replace hf := ow_f hc hf
    refine lv_iconst (v := 0) hx hb dX6_isFull_44 (by decide) ?_
    obtain rfl := Option.some.inj hf
    exact ow_retZ C0 (Or.inl rfl) hP hD hS dX6_isFull_45
  · replace hf := ow_t hc hf
    refine lv_aload_n hx hb dX6_isFull_31 rfl (lv_at hl 0 rfl) ?_
    refine va_get (D := D) (ci := 6) (v := .int i0_8) (C := RX6) (T := TX6) (N := 13) hx hb hts in_X6 hown hK hP 0 rfl rfl 8 (by decide) (hts (.fieldLink RX6 63 "PaneDays$Street" "orders" "I") (by decide +kernel)) (fun _ h9 => h9) rfl dX6_isFull_32 ?_
    refine lv_bipush (v := 12) hx hb dX6_isFull_35 (by decide) ?_
    refine lv_icmp_lt (tgt := 44) hx hb dX6_isFull_37 (by decide) (fun hc => ?_) (fun hc => ?_)
    · replace hf := ow_t hc hf
      refine lv_iconst (v := 0) hx hb dX6_isFull_44 (by decide) ?_
      obtain rfl := Option.some.inj hf
      exact ow_retZ C0 (Or.inl rfl) hP hD hS dX6_isFull_45
    · replace hf := ow_f hc hf
      refine lv_iconst (v := 1) hx hb dX6_isFull_40 (by decide) ?_
      refine lv_goto (tgt := 45) hx hb dX6_isFull_41 (by decide) ?_
      obtain rfl := Option.some.inj hf
      exact ow_retZ C0 (Or.inr rfl) hP hD hS dX6_isFull_45
def f_X6_isFull_b12  (i0_0 : Int32) (i0_6 : Int32) (i0_8 : Int32)   (x1 : Int32) : Option (Int32) := if x1 = 1 then (if 12 ≤ i0_6 then (some (1)) else (f_X6_isFull_b26 i0_0 i0_6 i0_8 x1)) else (f_X6_isFull_b26 i0_0 i0_6 i0_8 x1)
set_option maxHeartbeats 4000000 in
set_option maxRecDepth 100000 in
theorem w_X6_isFull_b12 {p : Program} {l : Launch} {e : Env} {s : State} {m : MethodId} {below : List Frame} {meth : Method} {c : Code} {D : va_G} {cs : Nat → ClassId} {av : Array Value} {w0 : va_W} (C0 : Cx p s m meth c av wsX6_isFull cX6_isFull 2 (some .boolean) RX6 D cs w0)  (a0 : Nat) (p0 : Nat → Nat) (i0_0 : Int32) (i0_6 : Int32) (i0_8 : Int32) (i0_10 : Int32) (i0_11 : Int32) (i0_12 : Int32) (v0_1 : Nat → Int32) (v0_2 : Nat → Int32) (v0_3 : Nat → Int32) (v0_4 : Nat → Int32) (v0_5 : Nat → Int32) (v0_7 : Nat → Int32) (v0_9 : Nat → Int32) (res : Int32)  : ∀ (x1 : Int32), f_X6_isFull_b12 i0_0 i0_6 i0_8 x1 = some res → ∀ (H : Heap) (locs : List Loc) (ls : Array Slot), va_P D vwCl (W_X6_isFull cs a0 p0 i0_0 i0_6 i0_8 i0_10 i0_11 i0_12 v0_1 v0_2 v0_3 v0_4 v0_5 v0_7 v0_9) H → va_D (va_A w0 s.heap.size) (W_X6_isFull cs a0 p0 i0_0 i0_6 i0_8 i0_10 i0_11 i0_12 v0_1 v0_2 v0_3 v0_4 v0_5 v0_7 v0_9) → va_S (va_A w0 s.heap.size) s.heap H locs → lv_has ls 2 [(0, .ref a0), (1, .int x1)] → W p l e rm_X6_isFull s m av below meth c H locs 0 0 (MQ below (oI D cs w0 (W_X6_isFull cs a0 p0 i0_0 i0_6 i0_8 i0_10 i0_11 i0_12 v0_1 v0_2 v0_3 v0_4 v0_5 v0_7 v0_9) res s.heap.size) av s 0 0 (va_A w0 s.heap.size)) (F0 m 12 ls []) := by
  obtain ⟨hx, hb, hr, hlk, hml, hown, hts, hK, hG, hE⟩ := id C0
  have in_X6 : ∀ w ∈ u_ws RX6 TX6 13, w ∈ wsX6_isFull := by decide +kernel
  intro x1 hf H locs ls hP hD hS hl
  rw [f_X6_isFull_b12] at hf
  refine lv_iload_n hx hb dX6_isFull_12 rfl (lv_at hl 1 rfl) ?_
  refine lv_iconst (v := 1) hx hb dX6_isFull_13 (by decide) ?_
  refine lv_icmp_ne (tgt := 26) hx hb dX6_isFull_14 (by decide) (fun hc => ?_) (fun hc => ?_)
  · replace hf := ow_f hc hf
    exact w_X6_isFull_b26 C0 a0 p0 i0_0 i0_6 i0_8 i0_10 i0_11 i0_12 v0_1 v0_2 v0_3 v0_4 v0_5 v0_7 v0_9 res x1 hf _ _ _ hP hD hS (lv_sub hl [0, 1] rfl)
  · replace hf := ow_t hc hf
    refine lv_aload_n hx hb dX6_isFull_17 rfl (lv_at hl 0 rfl) ?_
    refine va_get (D := D) (ci := 6) (v := .int i0_6) (C := RX6) (T := TX6) (N := 13) hx hb hts in_X6 hown hK hP 0 rfl rfl 6 (by decide) (hts (.fieldLink RX6 60 "PaneDays$Street" "rains" "I") (by decide +kernel)) (fun _ h9 => h9) rfl dX6_isFull_18 ?_
    refine lv_bipush (v := 12) hx hb dX6_isFull_21 (by decide) ?_
    refine lv_icmp_ge (tgt := 40) hx hb dX6_isFull_23 (by decide) (fun hc => ?_) (fun hc => ?_)
    · replace hf := ow_t hc hf
      refine lv_iconst (v := 1) hx hb dX6_isFull_40 (by decide) ?_
      refine lv_goto (tgt := 45) hx hb dX6_isFull_41 (by decide) ?_
      obtain rfl := Option.some.inj hf
      exact ow_retZ C0 (Or.inr rfl) hP hD hS dX6_isFull_45
    · replace hf := ow_f hc hf
      exact w_X6_isFull_b26 C0 a0 p0 i0_0 i0_6 i0_8 i0_10 i0_11 i0_12 v0_1 v0_2 v0_3 v0_4 v0_5 v0_7 v0_9 res x1 hf _ _ _ hP hD hS (lv_sub hl [0, 1] rfl)
def f_X6_isFull  (i0_0 : Int32) (i0_6 : Int32) (i0_8 : Int32) (x1 : Int32) : Option (Int32) := if x1 = 0 then (if 5 ≤ i0_0 then (some (1)) else (f_X6_isFull_b12 i0_0 i0_6 i0_8 x1)) else (f_X6_isFull_b12 i0_0 i0_6 i0_8 x1)
set_option maxHeartbeats 4000000 in
set_option maxRecDepth 100000 in
theorem c_X6_isFull (l : Launch) (D : va_G) (cs : Nat → ClassId)  (sz : Nat) (a0 : Nat) (p0 : Nat → Nat) (i0_0 : Int32) (i0_6 : Int32) (i0_8 : Int32) (i0_10 : Int32) (i0_11 : Int32) (i0_12 : Int32) (v0_1 : Nat → Int32) (v0_2 : Nat → Int32) (v0_3 : Nat → Int32) (v0_4 : Nat → Int32) (v0_5 : Nat → Int32) (v0_7 : Nat → Int32) (v0_9 : Nat → Int32) (x1 : Int32) (res : Int32) (hf : f_X6_isFull  i0_0 i0_6 i0_8 x1 = some res) : MI l D cs yX6_isFull wsX6_isFull rm_X6_isFull [.ref a0, .int x1] sz (W_X6_isFull cs a0 p0 i0_0 i0_6 i0_8 i0_10 i0_11 i0_12 v0_1 v0_2 v0_3 v0_4 v0_5 v0_7 v0_9) (W_X6_isFull cs a0 p0 i0_0 i0_6 i0_8 i0_10 i0_11 i0_12 v0_1 v0_2 v0_3 v0_4 v0_5 v0_7 v0_9) res := by
  rw [f_X6_isFull] at hf
  refine ow_enter (cc := cX6_isFull) (nL := 2) (ret := (some .boolean)) (by decide) rfl (Nat.le_of_ble_eq_true rfl) (fun p e s m below meth c ls H locs C0 hP hD hS hA hl => ?_)
  obtain ⟨hx, hb, hr, hlk, hml, hown, hts, hK, hG, hE⟩ := id C0
  have in_X6 : ∀ w ∈ u_ws RX6 TX6 13, w ∈ wsX6_isFull := by decide +kernel
  have hl : lv_has ls 2 [(0, .ref a0), (1, .int x1)] := hl
  refine lv_iload_n hx hb dX6_isFull_0 rfl (lv_at hl 1 rfl) ?_
  refine lv_if_ne (tgt := 12) hx hb dX6_isFull_1 (by decide) (fun hc => ?_) (fun hc => ?_)
  · replace hf := ow_f hc hf
    exact w_X6_isFull_b12 C0 a0 p0 i0_0 i0_6 i0_8 i0_10 i0_11 i0_12 v0_1 v0_2 v0_3 v0_4 v0_5 v0_7 v0_9 res x1 hf _ _ _ hP hD hS (lv_sub hl [0, 1] rfl)
  · replace hf := ow_t hc hf
    refine lv_aload_n hx hb dX6_isFull_4 rfl (lv_at hl 0 rfl) ?_
    refine va_get (D := D) (ci := 6) (v := .int i0_0) (C := RX6) (T := TX6) (N := 13) hx hb hts in_X6 hown hK hP 0 rfl rfl 0 (by decide) (hts (.fieldLink RX6 57 "PaneDays$Street" "panes" "I") (by decide +kernel)) (fun _ h9 => h9) rfl dX6_isFull_5 ?_
    refine lv_iconst (v := 5) hx hb dX6_isFull_8 (by decide) ?_
    refine lv_icmp_ge (tgt := 40) hx hb dX6_isFull_9 (by decide) (fun hc => ?_) (fun hc => ?_)
    · replace hf := ow_t hc hf
      refine lv_iconst (v := 1) hx hb dX6_isFull_40 (by decide) ?_
      refine lv_goto (tgt := 45) hx hb dX6_isFull_41 (by decide) ?_
      obtain rfl := Option.some.inj hf
      exact ow_retZ C0 (Or.inr rfl) hP hD hS dX6_isFull_45
    · replace hf := ow_f hc hf
      exact w_X6_isFull_b12 C0 a0 p0 i0_0 i0_6 i0_8 i0_10 i0_11 i0_12 v0_1 v0_2 v0_3 v0_4 v0_5 v0_7 v0_9 res x1 hf _ _ _ hP hD hS (lv_sub hl [0, 1] rfl)
abbrev W_X6_clauseOf (cs : Nat → ClassId) (a0 : Nat) (p0 : Nat → Nat) (i0_1 : Int32) (i0_2 : Int32) (i0_3 : Int32) (i0_4 : Int32) (i0_5 : Int32) (i0_6 : Int32) (i0_7 : Int32) (i0_8 : Int32) (v0_0 : Nat → Int32) : va_W := wX7 cs a0 p0 i0_1 i0_2 i0_3 i0_4 i0_5 i0_6 i0_7 i0_8 v0_0
abbrev rm_X6_clauseOf : Room := { frames := 9, cells := 0, slots := 0, locals := 222 }
def f_X6_clauseOf  (i0_3 : Int32) (i0_4 : Int32) (i0_5 : Int32) (v0_0 : Nat → Int32)  : Option (Int32) := (f_X7_isWord i0_3 i0_4 i0_5 v0_0 0).bind fun q3 => if q3 = 0 then ((f_X7_isWord i0_3 i0_4 i0_5 v0_0 1).bind fun q14 => if q14 = 0 then ((f_X7_isWord i0_3 i0_4 i0_5 v0_0 2).bind fun q25 => if q25 = 0 then ((f_X7_isWord i0_3 i0_4 i0_5 v0_0 3).bind fun q36 => if q36 = 0 then ((f_X7_isWord i0_3 i0_4 i0_5 v0_0 4).bind fun q47 => if q47 = 0 then (some ((-1))) else (some (4))) else (some (3))) else (some (2))) else (some (1))) else (some (0))
set_option maxHeartbeats 4000000 in
set_option maxRecDepth 100000 in
theorem c_X6_clauseOf (l : Launch) (D : va_G) (cs : Nat → ClassId)  (sz : Nat) (a0 : Nat) (p0 : Nat → Nat) (i0_1 : Int32) (i0_2 : Int32) (i0_3 : Int32) (i0_4 : Int32) (i0_5 : Int32) (i0_6 : Int32) (i0_7 : Int32) (i0_8 : Int32) (v0_0 : Nat → Int32)  (res : Int32) (hf : f_X6_clauseOf  i0_3 i0_4 i0_5 v0_0  = some res) : MI l D cs yX6_clauseOf wsX6_clauseOf rm_X6_clauseOf [.ref a0] sz (W_X6_clauseOf cs a0 p0 i0_1 i0_2 i0_3 i0_4 i0_5 i0_6 i0_7 i0_8 v0_0) (W_X6_clauseOf cs a0 p0 i0_1 i0_2 i0_3 i0_4 i0_5 i0_6 i0_7 i0_8 v0_0) res := by
  rw [f_X6_clauseOf] at hf
  refine ow_enter (cc := cX6_clauseOf) (nL := 1) (ret := (some .int)) (by decide) rfl (Nat.le_of_ble_eq_true rfl) (fun p e s m below meth c ls H locs C0 hP hD hS hA hl => ?_)
  obtain ⟨hx, hb, hr, hlk, hml, hown, hts, hK, hG, hE⟩ := id C0
  have hl : lv_has ls 1 [(0, .ref a0)] := hl
  refine lv_aload_n hx hb dX6_clauseOf_0 rfl (lv_at hl 0 rfl) ?_
  refine va_ldcS (q := D.2 100 0) hx hb hown (hG.2.2 _ (List.mem_of_getElem? (i := 0) rfl)) dX6_clauseOf_1 ?_
  obtain ⟨q3, hq, hf⟩ := bd_some hf
  refine ow_callVI (As := [.ref (D.2 100 0)]) (rest := []) (wr := ow_pk (W_X6_clauseOf cs a0 p0 i0_1 i0_2 i0_3 i0_4 i0_5 i0_6 i0_7 i0_8 v0_0) []) (wf := (W_X6_clauseOf cs a0 p0 i0_1 i0_2 i0_3 i0_4 i0_5 i0_6 i0_7 i0_8 v0_0)) (r := q3) C0 (c_X7_isWord l D cs H.size a0 p0 i0_1 i0_2 i0_3 i0_4 i0_5 i0_6 i0_7 i0_8 v0_0 0 (by decide)  q3 hq) (cwV 1 hts gX6_clauseOf_X7_isWord rfl rfl rfl (by decide +kernel) ⟨Nat.le_of_ble_eq_true rfl, Nat.le_of_ble_eq_true rfl⟩) 7 rfl rfl hP hD hS (fun q h => Or.inr h) [0, 1] [] [0, 1] rfl (by decide) rfl (by decide) (by decide) rfl (by decide) rfl hl.1 rfl (Nat.le_of_ble_eq_true rfl) ⟨Nat.zero_le _, Nat.zero_le _⟩ dX6_clauseOf_3 (fun H locs hP hD hS => ?_)
  refine lv_if_eq (tgt := 11) hx hb dX6_clauseOf_6 (by decide) (fun hc => ?_) (fun hc => ?_)
  · replace hf := ow_t hc hf
    refine lv_aload_n hx hb dX6_clauseOf_11 rfl (lv_at hl 0 rfl) ?_
    refine va_ldcS (q := D.2 100 1) hx hb hown (hG.2.2 _ (List.mem_of_getElem? (i := 1) rfl)) dX6_clauseOf_12 ?_
    obtain ⟨q14, hq, hf⟩ := bd_some hf
    refine ow_callVI (As := [.ref (D.2 100 1)]) (rest := []) (wr := ow_pk (W_X6_clauseOf cs a0 p0 i0_1 i0_2 i0_3 i0_4 i0_5 i0_6 i0_7 i0_8 v0_0) []) (wf := (W_X6_clauseOf cs a0 p0 i0_1 i0_2 i0_3 i0_4 i0_5 i0_6 i0_7 i0_8 v0_0)) (r := q14) C0 (c_X7_isWord l D cs H.size a0 p0 i0_1 i0_2 i0_3 i0_4 i0_5 i0_6 i0_7 i0_8 v0_0 1 (by decide)  q14 hq) (cwV 1 hts gX6_clauseOf_X7_isWord rfl rfl rfl (by decide +kernel) ⟨Nat.le_of_ble_eq_true rfl, Nat.le_of_ble_eq_true rfl⟩) 7 rfl rfl hP hD hS (fun q h => Or.inr h) [0, 1] [] [0, 1] rfl (by decide) rfl (by decide) (by decide) rfl (by decide) rfl hl.1 rfl (Nat.le_of_ble_eq_true rfl) ⟨Nat.zero_le _, Nat.zero_le _⟩ dX6_clauseOf_14 (fun H locs hP hD hS => ?_)
    refine lv_if_eq (tgt := 22) hx hb dX6_clauseOf_17 (by decide) (fun hc => ?_) (fun hc => ?_)
    · replace hf := ow_t hc hf
      refine lv_aload_n hx hb dX6_clauseOf_22 rfl (lv_at hl 0 rfl) ?_
      refine va_ldcS (q := D.2 100 2) hx hb hown (hG.2.2 _ (List.mem_of_getElem? (i := 2) rfl)) dX6_clauseOf_23 ?_
      obtain ⟨q25, hq, hf⟩ := bd_some hf
      refine ow_callVI (As := [.ref (D.2 100 2)]) (rest := []) (wr := ow_pk (W_X6_clauseOf cs a0 p0 i0_1 i0_2 i0_3 i0_4 i0_5 i0_6 i0_7 i0_8 v0_0) []) (wf := (W_X6_clauseOf cs a0 p0 i0_1 i0_2 i0_3 i0_4 i0_5 i0_6 i0_7 i0_8 v0_0)) (r := q25) C0 (c_X7_isWord l D cs H.size a0 p0 i0_1 i0_2 i0_3 i0_4 i0_5 i0_6 i0_7 i0_8 v0_0 2 (by decide)  q25 hq) (cwV 1 hts gX6_clauseOf_X7_isWord rfl rfl rfl (by decide +kernel) ⟨Nat.le_of_ble_eq_true rfl, Nat.le_of_ble_eq_true rfl⟩) 7 rfl rfl hP hD hS (fun q h => Or.inr h) [0, 1] [] [0, 1] rfl (by decide) rfl (by decide) (by decide) rfl (by decide) rfl hl.1 rfl (Nat.le_of_ble_eq_true rfl) ⟨Nat.zero_le _, Nat.zero_le _⟩ dX6_clauseOf_25 (fun H locs hP hD hS => ?_)
      refine lv_if_eq (tgt := 33) hx hb dX6_clauseOf_28 (by decide) (fun hc => ?_) (fun hc => ?_)
      · replace hf := ow_t hc hf
        refine lv_aload_n hx hb dX6_clauseOf_33 rfl (lv_at hl 0 rfl) ?_
        refine va_ldcS (q := D.2 100 3) hx hb hown (hG.2.2 _ (List.mem_of_getElem? (i := 3) rfl)) dX6_clauseOf_34 ?_
        obtain ⟨q36, hq, hf⟩ := bd_some hf
        refine ow_callVI (As := [.ref (D.2 100 3)]) (rest := []) (wr := ow_pk (W_X6_clauseOf cs a0 p0 i0_1 i0_2 i0_3 i0_4 i0_5 i0_6 i0_7 i0_8 v0_0) []) (wf := (W_X6_clauseOf cs a0 p0 i0_1 i0_2 i0_3 i0_4 i0_5 i0_6 i0_7 i0_8 v0_0)) (r := q36) C0 (c_X7_isWord l D cs H.size a0 p0 i0_1 i0_2 i0_3 i0_4 i0_5 i0_6 i0_7 i0_8 v0_0 3 (by decide)  q36 hq) (cwV 1 hts gX6_clauseOf_X7_isWord rfl rfl rfl (by decide +kernel) ⟨Nat.le_of_ble_eq_true rfl, Nat.le_of_ble_eq_true rfl⟩) 7 rfl rfl hP hD hS (fun q h => Or.inr h) [0, 1] [] [0, 1] rfl (by decide) rfl (by decide) (by decide) rfl (by decide) rfl hl.1 rfl (Nat.le_of_ble_eq_true rfl) ⟨Nat.zero_le _, Nat.zero_le _⟩ dX6_clauseOf_36 (fun H locs hP hD hS => ?_)
        refine lv_if_eq (tgt := 44) hx hb dX6_clauseOf_39 (by decide) (fun hc => ?_) (fun hc => ?_)
        · replace hf := ow_t hc hf
          refine lv_aload_n hx hb dX6_clauseOf_44 rfl (lv_at hl 0 rfl) ?_
          refine va_ldcS (q := D.2 100 4) hx hb hown (hG.2.2 _ (List.mem_of_getElem? (i := 4) rfl)) dX6_clauseOf_45 ?_
          obtain ⟨q47, hq, hf⟩ := bd_some hf
          refine ow_callVI (As := [.ref (D.2 100 4)]) (rest := []) (wr := ow_pk (W_X6_clauseOf cs a0 p0 i0_1 i0_2 i0_3 i0_4 i0_5 i0_6 i0_7 i0_8 v0_0) []) (wf := (W_X6_clauseOf cs a0 p0 i0_1 i0_2 i0_3 i0_4 i0_5 i0_6 i0_7 i0_8 v0_0)) (r := q47) C0 (c_X7_isWord l D cs H.size a0 p0 i0_1 i0_2 i0_3 i0_4 i0_5 i0_6 i0_7 i0_8 v0_0 4 (by decide)  q47 hq) (cwV 1 hts gX6_clauseOf_X7_isWord rfl rfl rfl (by decide +kernel) ⟨Nat.le_of_ble_eq_true rfl, Nat.le_of_ble_eq_true rfl⟩) 7 rfl rfl hP hD hS (fun q h => Or.inr h) [0, 1] [] [0, 1] rfl (by decide) rfl (by decide) (by decide) rfl (by decide) rfl hl.1 rfl (Nat.le_of_ble_eq_true rfl) ⟨Nat.zero_le _, Nat.zero_le _⟩ dX6_clauseOf_47 (fun H locs hP hD hS => ?_)
          refine lv_if_eq (tgt := 57) hx hb dX6_clauseOf_50 (by decide) (fun hc => ?_) (fun hc => ?_)
          · replace hf := ow_t hc hf
            refine lv_iconst (v := (-1)) hx hb dX6_clauseOf_57 (by decide) ?_
            obtain rfl := Option.some.inj hf
            exact ow_retI C0 hP hD hS dX6_clauseOf_58
          · replace hf := ow_f hc hf
            refine lv_iconst (v := 4) hx hb dX6_clauseOf_53 (by decide) ?_
            refine lv_goto (tgt := 58) hx hb dX6_clauseOf_54 (by decide) ?_
            obtain rfl := Option.some.inj hf
            exact ow_retI C0 hP hD hS dX6_clauseOf_58
        · replace hf := ow_f hc hf
          refine lv_iconst (v := 3) hx hb dX6_clauseOf_42 (by decide) ?_
          obtain rfl := Option.some.inj hf
          exact ow_retI C0 hP hD hS dX6_clauseOf_43
      · replace hf := ow_f hc hf
        refine lv_iconst (v := 2) hx hb dX6_clauseOf_31 (by decide) ?_
        obtain rfl := Option.some.inj hf
        exact ow_retI C0 hP hD hS dX6_clauseOf_32
    · replace hf := ow_f hc hf
      refine lv_iconst (v := 1) hx hb dX6_clauseOf_20 (by decide) ?_
      obtain rfl := Option.some.inj hf
      exact ow_retI C0 hP hD hS dX6_clauseOf_21
  · replace hf := ow_f hc hf
    refine lv_iconst (v := 0) hx hb dX6_clauseOf_9 (by decide) ?_
    obtain rfl := Option.some.inj hf
    exact ow_retI C0 hP hD hS dX6_clauseOf_10
abbrev W_X6_readClause (cs : Nat → ClassId) (a0 : Nat) (p0 : Nat → Nat) (i0_0 : Int32) (i0_6 : Int32) (i0_8 : Int32) (i0_10 : Int32) (i0_11 : Int32) (i0_12 : Int32) (v0_1 : Nat → Int32) (v0_2 : Nat → Int32) (v0_3 : Nat → Int32) (v0_4 : Nat → Int32) (v0_5 : Nat → Int32) (v0_7 : Nat → Int32) (v0_9 : Nat → Int32) (a1 : Nat) (p1 : Nat → Nat) (i1_1 : Int32) (i1_2 : Int32) (i1_3 : Int32) (i1_4 : Int32) (i1_5 : Int32) (i1_6 : Int32) (i1_7 : Int32) (i1_8 : Int32) (v1_0 : Nat → Int32) : va_W := wX6 cs a0 p0 i0_0 i0_6 i0_8 i0_10 i0_11 i0_12 v0_1 v0_2 v0_3 v0_4 v0_5 v0_7 v0_9 ++ wX7 cs a1 p1 i1_1 i1_2 i1_3 i1_4 i1_5 i1_6 i1_7 i1_8 v1_0
abbrev rm_X6_readClause : Room := { frames := 10, cells := 0, slots := 0, locals := 242 }
def f_X6_readClause_b32  (i1_2 : Int32) (v1_0 : Nat → Int32)  (i0_0 : Int32) (i0_6 : Int32) (i0_8 : Int32) (i0_10 : Int32) (i0_11 : Int32) (i0_12 : Int32) (v0_1 : Nat → Int32) (v0_2 : Nat → Int32) (v0_3 : Nat → Int32) (v0_4 : Nat → Int32) (v0_5 : Nat → Int32) (v0_7 : Nat → Int32) (v0_9 : Nat → Int32) (i1_3 : Int32) (i1_4 : Int32) (i1_5 : Int32) (i1_6 : Int32) (i1_7 : Int32) (i1_8 : Int32)  : Option (Int32 × Int32 × Int32 × Int32 × Int32 × Int32 × (Nat → Int32) × (Nat → Int32) × (Nat → Int32) × (Nat → Int32) × (Nat → Int32) × (Nat → Int32) × (Nat → Int32) × Int32 × Int32 × Int32 × Int32 × Int32 × Int32) := (f_X7_wrong i1_3 i1_4 i1_7 i1_8 (3)).bind fun q34 => some (i0_0, i0_6, i0_8, i0_10, i0_11, i0_12, v0_1, v0_2, v0_3, v0_4, v0_5, v0_7, v0_9, q34.1, i1_4, i1_5, i1_6, q34.2.1, q34.2.2)
set_option maxHeartbeats 4000000 in
set_option maxRecDepth 100000 in
theorem w_X6_readClause_b32 {p : Program} {l : Launch} {e : Env} {s : State} {m : MethodId} {below : List Frame} {meth : Method} {c : Code} {D : va_G} {cs : Nat → ClassId} {av : Array Value} {w0 : va_W} (C0 : Cx p s m meth c av wsX6_readClause cX6_readClause 4 none RX6 D cs w0)  (a0 : Nat) (p0 : Nat → Nat) (a1 : Nat) (p1 : Nat → Nat) (i1_1 : Int32) (i1_2 : Int32) (v1_0 : Nat → Int32) (res : Int32 × Int32 × Int32 × Int32 × Int32 × Int32 × (Nat → Int32) × (Nat → Int32) × (Nat → Int32) × (Nat → Int32) × (Nat → Int32) × (Nat → Int32) × (Nat → Int32) × Int32 × Int32 × Int32 × Int32 × Int32 × Int32)  : ∀ (i0_0 : Int32) (i0_6 : Int32) (i0_8 : Int32) (i0_10 : Int32) (i0_11 : Int32) (i0_12 : Int32) (v0_1 : Nat → Int32) (v0_2 : Nat → Int32) (v0_3 : Nat → Int32) (v0_4 : Nat → Int32) (v0_5 : Nat → Int32) (v0_7 : Nat → Int32) (v0_9 : Nat → Int32) (i1_3 : Int32) (i1_4 : Int32) (i1_5 : Int32) (i1_6 : Int32) (i1_7 : Int32) (i1_8 : Int32), f_X6_readClause_b32 i1_2 v1_0 i0_0 i0_6 i0_8 i0_10 i0_11 i0_12 v0_1 v0_2 v0_3 v0_4 v0_5 v0_7 v0_9 i1_3 i1_4 i1_5 i1_6 i1_7 i1_8 = some res → ∀ (H : Heap) (locs : List Loc) (ls : Array Slot), va_P D vwCl (W_X6_readClause cs a0 p0 i0_0 i0_6 i0_8 i0_10 i0_11 i0_12 v0_1 v0_2 v0_3 v0_4 v0_5 v0_7 v0_9 a1 p1 i1_1 i1_2 i1_3 i1_4 i1_5 i1_6 i1_7 i1_8 v1_0) H → va_D (va_A w0 s.heap.size) (W_X6_readClause cs a0 p0 i0_0 i0_6 i0_8 i0_10 i0_11 i0_12 v0_1 v0_2 v0_3 v0_4 v0_5 v0_7 v0_9 a1 p1 i1_1 i1_2 i1_3 i1_4 i1_5 i1_6 i1_7 i1_8 v1_0) → va_S (va_A w0 s.heap.size) s.heap H locs → lv_has ls 4 [(1, .ref a1)] → W p l e rm_X6_readClause s m av below meth c H locs 0 0 (MQ below (oV D cs w0 (W_X6_readClause cs a0 p0 res.1 res.2.1 res.2.2.1 res.2.2.2.1 res.2.2.2.2.1 res.2.2.2.2.2.1 res.2.2.2.2.2.2.1 res.2.2.2.2.2.2.2.1 res.2.2.2.2.2.2.2.2.1 res.2.2.2.2.2.2.2.2.2.1 res.2.2.2.2.2.2.2.2.2.2.1 res.2.2.2.2.2.2.2.2.2.2.2.1 res.2.2.2.2.2.2.2.2.2.2.2.2.1 a1 p1 i1_1 i1_2 res.2.2.2.2.2.2.2.2.2.2.2.2.2.1 res.2.2.2.2.2.2.2.2.2.2.2.2.2.2.1 res.2.2.2.2.2.2.2.2.2.2.2.2.2.2.2.1 res.2.2.2.2.2.2.2.2.2.2.2.2.2.2.2.2.1 res.2.2.2.2.2.2.2.2.2.2.2.2.2.2.2.2.2.1 res.2.2.2.2.2.2.2.2.2.2.2.2.2.2.2.2.2.2 v1_0) s.heap.size) av s 0 0 (va_A w0 s.heap.size)) (F0 m 32 ls []) := by
  obtain ⟨hx, hb, hr, hlk, hml, hown, hts, hK, hG, hE⟩ := id C0
  intro i0_0 i0_6 i0_8 i0_10 i0_11 i0_12 v0_1 v0_2 v0_3 v0_4 v0_5 v0_7 v0_9 i1_3 i1_4 i1_5 i1_6 i1_7 i1_8 hf H locs ls hP hD hS hl
  rw [f_X6_readClause_b32] at hf
  refine lv_aload_n hx hb dX6_readClause_32 rfl (lv_at hl 0 rfl) ?_
  refine lv_iconst (v := 3) hx hb dX6_readClause_33 (by decide) ?_
  obtain ⟨q34, hq, hf⟩ := bd_some hf
  refine ow_callVV (As := [.int 3]) (rest := []) (wr := ow_pk (W_X6_readClause cs a0 p0 i0_0 i0_6 i0_8 i0_10 i0_11 i0_12 v0_1 v0_2 v0_3 v0_4 v0_5 v0_7 v0_9 a1 p1 i1_1 i1_2 i1_3 i1_4 i1_5 i1_6 i1_7 i1_8 v1_0) [0, 1, 2, 3, 4, 5, 6, 7]) (wf := (W_X6_readClause cs a0 p0 i0_0 i0_6 i0_8 i0_10 i0_11 i0_12 v0_1 v0_2 v0_3 v0_4 v0_5 v0_7 v0_9 a1 p1 i1_1 i1_2 q34.1 i1_4 i1_5 i1_6 q34.2.1 q34.2.2 v1_0)) C0 (c_X7_wrong l D cs H.size a1 p1 i1_1 i1_2 i1_3 i1_4 i1_5 i1_6 i1_7 i1_8 v1_0 (3) q34 hq) (cwV 1 hts gX6_readClause_X7_wrong rfl rfl rfl (by decide +kernel) ⟨Nat.le_of_ble_eq_true rfl, Nat.le_of_ble_eq_true rfl⟩) 7 rfl rfl hP hD hS (fun q h => Or.inr h) [8, 9] [0, 1, 2, 3, 4, 5, 6, 7] [0, 1, 2, 3, 4, 5, 6, 7, 8, 9] rfl (by decide) rfl (by decide) (by decide) rfl (by decide) rfl hl.1 rfl (Nat.le_of_ble_eq_true rfl) ⟨Nat.zero_le _, Nat.zero_le _⟩ dX6_readClause_34 (fun H locs hP hD hS => ?_)
  refine lv_goto (tgt := 56) hx hb dX6_readClause_37 (by decide) ?_
  obtain rfl := Option.some.inj hf
  exact ow_retV C0 hP hD hS dX6_readClause_56
def f_X6_readClause  (i0_0 : Int32) (i0_6 : Int32) (i0_8 : Int32) (i0_10 : Int32) (i0_11 : Int32) (i0_12 : Int32) (v0_1 : Nat → Int32) (v0_2 : Nat → Int32) (v0_3 : Nat → Int32) (v0_4 : Nat → Int32) (v0_5 : Nat → Int32) (v0_7 : Nat → Int32) (v0_9 : Nat → Int32) (i1_2 : Int32) (i1_3 : Int32) (i1_4 : Int32) (i1_5 : Int32) (i1_6 : Int32) (i1_7 : Int32) (i1_8 : Int32) (v1_0 : Nat → Int32) (x2 : Int32) : Option (Int32 × Int32 × Int32 × Int32 × Int32 × Int32 × (Nat → Int32) × (Nat → Int32) × (Nat → Int32) × (Nat → Int32) × (Nat → Int32) × (Nat → Int32) × (Nat → Int32) × Int32 × Int32 × Int32 × Int32 × Int32 × Int32) := (f_X6_clauseOf i1_3 i1_4 i1_5 v1_0).bind fun q1 => if q1 = ((-1)) then ((f_X7_wrong i1_3 i1_4 i1_7 i1_8 (1)).bind fun q12 => some (i0_0, i0_6, i0_8, i0_10, i0_11, i0_12, v0_1, v0_2, v0_3, v0_4, v0_5, v0_7, v0_9, q12.1, i1_4, i1_5, i1_6, q12.2.1, q12.2.2)) else (if 60 ≤ x2 then (f_X6_readClause_b32 i1_2 v1_0 i0_0 i0_6 i0_8 i0_10 i0_11 i0_12 v0_1 v0_2 v0_3 v0_4 v0_5 v0_7 v0_9 i1_3 i1_4 i1_5 i1_6 i1_7 i1_8) else ((f_X6_isFull i0_0 i0_6 i0_8 q1).bind fun q26 => if q26 = 0 then ((f_X7_step i1_2 i1_3 i1_4 i1_5 i1_6 i1_7 v1_0).bind fun q41 => (f_X6_readNumbers i0_0 i0_6 i0_8 i0_10 i0_11 i0_12 v0_1 v0_2 v0_3 v0_4 v0_5 v0_7 v0_9 i1_2 q41.1 q41.2.1 q41.2.2.1 q41.2.2.2 i1_7 i1_8 v1_0 q1).bind fun q47 => (f_X7_takeSign i1_2 q47.2.2.2.2.2.2.2.2.2.2.2.2.2.1 q47.2.2.2.2.2.2.2.2.2.2.2.2.2.2.1 q47.2.2.2.2.2.2.2.2.2.2.2.2.2.2.2.1 q47.2.2.2.2.2.2.2.2.2.2.2.2.2.2.2.2.1 q47.2.2.2.2.2.2.2.2.2.2.2.2.2.2.2.2.2.1 q47.2.2.2.2.2.2.2.2.2.2.2.2.2.2.2.2.2.2 v1_0 (59)).bind fun q53 => some (q47.1, q47.2.1, q47.2.2.1, q47.2.2.2.1, q47.2.2.2.2.1, q47.2.2.2.2.2.1, q47.2.2.2.2.2.2.1, q47.2.2.2.2.2.2.2.1, q47.2.2.2.2.2.2.2.2.1, q47.2.2.2.2.2.2.2.2.2.1, q47.2.2.2.2.2.2.2.2.2.2.1, q47.2.2.2.2.2.2.2.2.2.2.2.1, q47.2.2.2.2.2.2.2.2.2.2.2.2.1, q53.1, q53.2.1, q53.2.2.1, q53.2.2.2.1, q53.2.2.2.2.1, q53.2.2.2.2.2)) else (f_X6_readClause_b32 i1_2 v1_0 i0_0 i0_6 i0_8 i0_10 i0_11 i0_12 v0_1 v0_2 v0_3 v0_4 v0_5 v0_7 v0_9 i1_3 i1_4 i1_5 i1_6 i1_7 i1_8)))
set_option maxHeartbeats 4000000 in
set_option maxRecDepth 100000 in
theorem c_X6_readClause (l : Launch) (D : va_G) (cs : Nat → ClassId)  (sz : Nat) (a0 : Nat) (p0 : Nat → Nat) (i0_0 : Int32) (i0_6 : Int32) (i0_8 : Int32) (i0_10 : Int32) (i0_11 : Int32) (i0_12 : Int32) (v0_1 : Nat → Int32) (v0_2 : Nat → Int32) (v0_3 : Nat → Int32) (v0_4 : Nat → Int32) (v0_5 : Nat → Int32) (v0_7 : Nat → Int32) (v0_9 : Nat → Int32) (a1 : Nat) (p1 : Nat → Nat) (i1_1 : Int32) (i1_2 : Int32) (i1_3 : Int32) (i1_4 : Int32) (i1_5 : Int32) (i1_6 : Int32) (i1_7 : Int32) (i1_8 : Int32) (v1_0 : Nat → Int32) (x2 : Int32) (res : Int32 × Int32 × Int32 × Int32 × Int32 × Int32 × (Nat → Int32) × (Nat → Int32) × (Nat → Int32) × (Nat → Int32) × (Nat → Int32) × (Nat → Int32) × (Nat → Int32) × Int32 × Int32 × Int32 × Int32 × Int32 × Int32) (hf : f_X6_readClause  i0_0 i0_6 i0_8 i0_10 i0_11 i0_12 v0_1 v0_2 v0_3 v0_4 v0_5 v0_7 v0_9 i1_2 i1_3 i1_4 i1_5 i1_6 i1_7 i1_8 v1_0 x2 = some res) : MV l D cs yX6_readClause wsX6_readClause rm_X6_readClause [.ref a0, .ref a1, .int x2] sz (W_X6_readClause cs a0 p0 i0_0 i0_6 i0_8 i0_10 i0_11 i0_12 v0_1 v0_2 v0_3 v0_4 v0_5 v0_7 v0_9 a1 p1 i1_1 i1_2 i1_3 i1_4 i1_5 i1_6 i1_7 i1_8 v1_0) (W_X6_readClause cs a0 p0 res.1 res.2.1 res.2.2.1 res.2.2.2.1 res.2.2.2.2.1 res.2.2.2.2.2.1 res.2.2.2.2.2.2.1 res.2.2.2.2.2.2.2.1 res.2.2.2.2.2.2.2.2.1 res.2.2.2.2.2.2.2.2.2.1 res.2.2.2.2.2.2.2.2.2.2.1 res.2.2.2.2.2.2.2.2.2.2.2.1 res.2.2.2.2.2.2.2.2.2.2.2.2.1 a1 p1 i1_1 i1_2 res.2.2.2.2.2.2.2.2.2.2.2.2.2.1 res.2.2.2.2.2.2.2.2.2.2.2.2.2.2.1 res.2.2.2.2.2.2.2.2.2.2.2.2.2.2.2.1 res.2.2.2.2.2.2.2.2.2.2.2.2.2.2.2.2.1 res.2.2.2.2.2.2.2.2.2.2.2.2.2.2.2.2.2.1 res.2.2.2.2.2.2.2.2.2.2.2.2.2.2.2.2.2.2 v1_0) := by
  rw [f_X6_readClause] at hf
  refine ow_enter (cc := cX6_readClause) (nL := 4) (ret := none) (by decide) rfl (Nat.le_of_ble_eq_true rfl) (fun p e s m below meth c ls H locs C0 hP hD hS hA hl => ?_)
  obtain ⟨hx, hb, hr, hlk, hml, hown, hts, hK, hG, hE⟩ := id C0
  have hl : lv_has ls 4 [(0, .ref a0), (1, .ref a1), (2, .int x2)] := hl
  refine lv_aload_n hx hb dX6_readClause_0 rfl (lv_at hl 1 rfl) ?_
  obtain ⟨q1, hq, hf⟩ := bd_some hf
  refine ow_callSI (As := [.ref a1]) (rest := []) (wr := ow_pk (W_X6_readClause cs a0 p0 i0_0 i0_6 i0_8 i0_10 i0_11 i0_12 v0_1 v0_2 v0_3 v0_4 v0_5 v0_7 v0_9 a1 p1 i1_1 i1_2 i1_3 i1_4 i1_5 i1_6 i1_7 i1_8 v1_0) [0, 1, 2, 3, 4, 5, 6, 7]) (wf := (W_X6_readClause cs a0 p0 i0_0 i0_6 i0_8 i0_10 i0_11 i0_12 v0_1 v0_2 v0_3 v0_4 v0_5 v0_7 v0_9 a1 p1 i1_1 i1_2 i1_3 i1_4 i1_5 i1_6 i1_7 i1_8 v1_0)) (r := q1) C0 (c_X6_clauseOf l D cs H.size a1 p1 i1_1 i1_2 i1_3 i1_4 i1_5 i1_6 i1_7 i1_8 v1_0  q1 hq) (va_cwS 1 hts gX6_readClause_X6_clauseOf rfl rfl rfl (by decide +kernel) ⟨Nat.le_of_ble_eq_true rfl, Nat.le_of_ble_eq_true rfl⟩) hP hD hS (fun q h => Or.inr h) [8, 9] [0, 1, 2, 3, 4, 5, 6, 7] [0, 1, 2, 3, 4, 5, 6, 7, 8, 9] rfl (by decide) rfl (by decide) (by decide) rfl (by decide) rfl hl.1 rfl (Nat.le_of_ble_eq_true rfl) ⟨Nat.zero_le _, Nat.zero_le _⟩ dX6_readClause_1 (fun H locs hP hD hS => ?_)
  refine lv_istore_n (lv' := [(3, .int q1), (0, .ref a0), (1, .ref a1), (2, .int x2)]) hx hb dX6_readClause_4 rfl hl (by decide) rfl (fun ls hl => ?_)
  refine lv_iload_n hx hb dX6_readClause_5 rfl (lv_at hl 0 rfl) ?_
  refine lv_iconst (v := (-1)) hx hb dX6_readClause_6 (by decide) ?_
  refine lv_icmp_ne (tgt := 18) hx hb dX6_readClause_7 (by decide) (fun hc => ?_) (fun hc => ?_)
  · replace hf := ow_f hc hf
    refine lv_iload_n hx hb dX6_readClause_18 rfl (lv_at hl 3 rfl) ?_
    refine lv_bipush (v := 60) hx hb dX6_readClause_19 (by decide) ?_
    refine lv_icmp_ge (tgt := 32) hx hb dX6_readClause_21 (by decide) (fun hc => ?_) (fun hc => ?_)
    · replace hf := ow_t hc hf
      exact w_X6_readClause_b32 C0 a0 p0 a1 p1 i1_1 i1_2 v1_0 res i0_0 i0_6 i0_8 i0_10 i0_11 i0_12 v0_1 v0_2 v0_3 v0_4 v0_5 v0_7 v0_9 i1_3 i1_4 i1_5 i1_6 i1_7 i1_8 hf _ _ _ hP hD hS (lv_sub hl [2] rfl)
    · replace hf := ow_f hc hf
      refine lv_aload_n hx hb dX6_readClause_24 rfl (lv_at hl 1 rfl) ?_
      refine lv_iload_n hx hb dX6_readClause_25 rfl (lv_at hl 0 rfl) ?_
      obtain ⟨q26, hq, hf⟩ := bd_some hf
      refine ow_callVI (As := [.int q1]) (rest := []) (wr := ow_pk (W_X6_readClause cs a0 p0 i0_0 i0_6 i0_8 i0_10 i0_11 i0_12 v0_1 v0_2 v0_3 v0_4 v0_5 v0_7 v0_9 a1 p1 i1_1 i1_2 i1_3 i1_4 i1_5 i1_6 i1_7 i1_8 v1_0) [8, 9]) (wf := (W_X6_readClause cs a0 p0 i0_0 i0_6 i0_8 i0_10 i0_11 i0_12 v0_1 v0_2 v0_3 v0_4 v0_5 v0_7 v0_9 a1 p1 i1_1 i1_2 i1_3 i1_4 i1_5 i1_6 i1_7 i1_8 v1_0)) (r := q26) C0 (c_X6_isFull l D cs H.size a0 p0 i0_0 i0_6 i0_8 i0_10 i0_11 i0_12 v0_1 v0_2 v0_3 v0_4 v0_5 v0_7 v0_9 q1 q26 hq) (cwV 1 hts gX6_readClause_X6_isFull rfl rfl rfl (by decide +kernel) ⟨Nat.le_of_ble_eq_true rfl, Nat.le_of_ble_eq_true rfl⟩) 6 rfl rfl hP hD hS (fun q h => Or.inr h) [0, 1, 2, 3, 4, 5, 6, 7] [8, 9] [2, 3, 4, 5, 6, 7, 8, 9, 0, 1] rfl (by decide) rfl (by decide) (by decide) rfl (by decide) rfl hl.1 rfl (Nat.le_of_ble_eq_true rfl) ⟨Nat.zero_le _, Nat.zero_le _⟩ dX6_readClause_26 (fun H locs hP hD hS => ?_)
      refine lv_if_eq (tgt := 40) hx hb dX6_readClause_29 (by decide) (fun hc => ?_) (fun hc => ?_)
      · replace hf := ow_t hc hf
        refine lv_aload_n hx hb dX6_readClause_40 rfl (lv_at hl 2 rfl) ?_
        obtain ⟨q41, hq, hf⟩ := bd_some hf
        refine ow_callVV (As := []) (rest := []) (wr := ow_pk (W_X6_readClause cs a0 p0 i0_0 i0_6 i0_8 i0_10 i0_11 i0_12 v0_1 v0_2 v0_3 v0_4 v0_5 v0_7 v0_9 a1 p1 i1_1 i1_2 i1_3 i1_4 i1_5 i1_6 i1_7 i1_8 v1_0) [0, 1, 2, 3, 4, 5, 6, 7]) (wf := (W_X6_readClause cs a0 p0 i0_0 i0_6 i0_8 i0_10 i0_11 i0_12 v0_1 v0_2 v0_3 v0_4 v0_5 v0_7 v0_9 a1 p1 i1_1 i1_2 q41.1 q41.2.1 q41.2.2.1 q41.2.2.2 i1_7 i1_8 v1_0)) C0 (c_X7_step l D cs H.size a1 p1 i1_1 i1_2 i1_3 i1_4 i1_5 i1_6 i1_7 i1_8 v1_0  q41 hq) (cwV 0 hts gX6_readClause_X7_step rfl rfl rfl (by decide +kernel) ⟨Nat.le_of_ble_eq_true rfl, Nat.le_of_ble_eq_true rfl⟩) 7 rfl rfl hP hD hS (fun q h => Or.inr h) [8, 9] [0, 1, 2, 3, 4, 5, 6, 7] [0, 1, 2, 3, 4, 5, 6, 7, 8, 9] rfl (by decide) rfl (by decide) (by decide) rfl (by decide) rfl hl.1 rfl (Nat.le_of_ble_eq_true rfl) ⟨Nat.zero_le _, Nat.zero_le _⟩ dX6_readClause_41 (fun H locs hP hD hS => ?_)
        refine lv_aload_n hx hb dX6_readClause_44 rfl (lv_at hl 1 rfl) ?_
        refine lv_aload_n hx hb dX6_readClause_45 rfl (lv_at hl 2 rfl) ?_
        refine lv_iload_n hx hb dX6_readClause_46 rfl (lv_at hl 0 rfl) ?_
        obtain ⟨q47, hq, hf⟩ := bd_some hf
        refine ow_callVV (As := [.ref a1, .int q1]) (rest := []) (wr := ow_pk (W_X6_readClause cs a0 p0 i0_0 i0_6 i0_8 i0_10 i0_11 i0_12 v0_1 v0_2 v0_3 v0_4 v0_5 v0_7 v0_9 a1 p1 i1_1 i1_2 q41.1 q41.2.1 q41.2.2.1 q41.2.2.2 i1_7 i1_8 v1_0) []) (wf := (W_X6_readClause cs a0 p0 q47.1 q47.2.1 q47.2.2.1 q47.2.2.2.1 q47.2.2.2.2.1 q47.2.2.2.2.2.1 q47.2.2.2.2.2.2.1 q47.2.2.2.2.2.2.2.1 q47.2.2.2.2.2.2.2.2.1 q47.2.2.2.2.2.2.2.2.2.1 q47.2.2.2.2.2.2.2.2.2.2.1 q47.2.2.2.2.2.2.2.2.2.2.2.1 q47.2.2.2.2.2.2.2.2.2.2.2.2.1 a1 p1 i1_1 i1_2 q47.2.2.2.2.2.2.2.2.2.2.2.2.2.1 q47.2.2.2.2.2.2.2.2.2.2.2.2.2.2.1 q47.2.2.2.2.2.2.2.2.2.2.2.2.2.2.2.1 q47.2.2.2.2.2.2.2.2.2.2.2.2.2.2.2.2.1 q47.2.2.2.2.2.2.2.2.2.2.2.2.2.2.2.2.2.1 q47.2.2.2.2.2.2.2.2.2.2.2.2.2.2.2.2.2.2 v1_0)) C0 (c_X6_readNumbers l D cs H.size a0 p0 i0_0 i0_6 i0_8 i0_10 i0_11 i0_12 v0_1 v0_2 v0_3 v0_4 v0_5 v0_7 v0_9 a1 p1 i1_1 i1_2 q41.1 q41.2.1 q41.2.2.1 q41.2.2.2 i1_7 i1_8 v1_0 q1 q47 hq) (cwV 2 hts gX6_readClause_X6_readNumbers rfl rfl rfl (by decide +kernel) ⟨Nat.le_of_ble_eq_true rfl, Nat.le_of_ble_eq_true rfl⟩) 6 rfl rfl hP hD hS (fun q h => Or.inr h) [0, 1, 2, 3, 4, 5, 6, 7, 8, 9] [] [0, 1, 2, 3, 4, 5, 6, 7, 8, 9] rfl (by decide) rfl (by decide) (by decide) rfl (by decide) rfl hl.1 rfl (Nat.le_of_ble_eq_true rfl) ⟨Nat.zero_le _, Nat.zero_le _⟩ dX6_readClause_47 (fun H locs hP hD hS => ?_)
        refine lv_aload_n hx hb dX6_readClause_50 rfl (lv_at hl 2 rfl) ?_
        refine lv_bipush (v := 59) hx hb dX6_readClause_51 (by decide) ?_
        obtain ⟨q53, hq, hf⟩ := bd_some hf
        refine ow_callVV (As := [.int 59]) (rest := []) (wr := ow_pk (W_X6_readClause cs a0 p0 q47.1 q47.2.1 q47.2.2.1 q47.2.2.2.1 q47.2.2.2.2.1 q47.2.2.2.2.2.1 q47.2.2.2.2.2.2.1 q47.2.2.2.2.2.2.2.1 q47.2.2.2.2.2.2.2.2.1 q47.2.2.2.2.2.2.2.2.2.1 q47.2.2.2.2.2.2.2.2.2.2.1 q47.2.2.2.2.2.2.2.2.2.2.2.1 q47.2.2.2.2.2.2.2.2.2.2.2.2.1 a1 p1 i1_1 i1_2 q47.2.2.2.2.2.2.2.2.2.2.2.2.2.1 q47.2.2.2.2.2.2.2.2.2.2.2.2.2.2.1 q47.2.2.2.2.2.2.2.2.2.2.2.2.2.2.2.1 q47.2.2.2.2.2.2.2.2.2.2.2.2.2.2.2.2.1 q47.2.2.2.2.2.2.2.2.2.2.2.2.2.2.2.2.2.1 q47.2.2.2.2.2.2.2.2.2.2.2.2.2.2.2.2.2.2 v1_0) [0, 1, 2, 3, 4, 5, 6, 7]) (wf := (W_X6_readClause cs a0 p0 q47.1 q47.2.1 q47.2.2.1 q47.2.2.2.1 q47.2.2.2.2.1 q47.2.2.2.2.2.1 q47.2.2.2.2.2.2.1 q47.2.2.2.2.2.2.2.1 q47.2.2.2.2.2.2.2.2.1 q47.2.2.2.2.2.2.2.2.2.1 q47.2.2.2.2.2.2.2.2.2.2.1 q47.2.2.2.2.2.2.2.2.2.2.2.1 q47.2.2.2.2.2.2.2.2.2.2.2.2.1 a1 p1 i1_1 i1_2 q53.1 q53.2.1 q53.2.2.1 q53.2.2.2.1 q53.2.2.2.2.1 q53.2.2.2.2.2 v1_0)) C0 (c_X7_takeSign l D cs H.size a1 p1 i1_1 i1_2 q47.2.2.2.2.2.2.2.2.2.2.2.2.2.1 q47.2.2.2.2.2.2.2.2.2.2.2.2.2.2.1 q47.2.2.2.2.2.2.2.2.2.2.2.2.2.2.2.1 q47.2.2.2.2.2.2.2.2.2.2.2.2.2.2.2.2.1 q47.2.2.2.2.2.2.2.2.2.2.2.2.2.2.2.2.2.1 q47.2.2.2.2.2.2.2.2.2.2.2.2.2.2.2.2.2.2 v1_0 (59) q53 hq) (cwV 1 hts gX6_readClause_X7_takeSign rfl rfl rfl (by decide +kernel) ⟨Nat.le_of_ble_eq_true rfl, Nat.le_of_ble_eq_true rfl⟩) 7 rfl rfl hP hD hS (fun q h => Or.inr h) [8, 9] [0, 1, 2, 3, 4, 5, 6, 7] [0, 1, 2, 3, 4, 5, 6, 7, 8, 9] rfl (by decide) rfl (by decide) (by decide) rfl (by decide) rfl hl.1 rfl (Nat.le_of_ble_eq_true rfl) ⟨Nat.zero_le _, Nat.zero_le _⟩ dX6_readClause_53 (fun H locs hP hD hS => ?_)
        obtain rfl := Option.some.inj hf
        exact ow_retV C0 hP hD hS dX6_readClause_56
      · replace hf := ow_f hc hf
        exact w_X6_readClause_b32 C0 a0 p0 a1 p1 i1_1 i1_2 v1_0 res i0_0 i0_6 i0_8 i0_10 i0_11 i0_12 v0_1 v0_2 v0_3 v0_4 v0_5 v0_7 v0_9 i1_3 i1_4 i1_5 i1_6 i1_7 i1_8 hf _ _ _ hP hD hS (lv_sub hl [2] rfl)
  · replace hf := ow_t hc hf
    refine lv_aload_n hx hb dX6_readClause_10 rfl (lv_at hl 2 rfl) ?_
    refine lv_iconst (v := 1) hx hb dX6_readClause_11 (by decide) ?_
    obtain ⟨q12, hq, hf⟩ := bd_some hf
    refine ow_callVV (As := [.int 1]) (rest := []) (wr := ow_pk (W_X6_readClause cs a0 p0 i0_0 i0_6 i0_8 i0_10 i0_11 i0_12 v0_1 v0_2 v0_3 v0_4 v0_5 v0_7 v0_9 a1 p1 i1_1 i1_2 i1_3 i1_4 i1_5 i1_6 i1_7 i1_8 v1_0) [0, 1, 2, 3, 4, 5, 6, 7]) (wf := (W_X6_readClause cs a0 p0 i0_0 i0_6 i0_8 i0_10 i0_11 i0_12 v0_1 v0_2 v0_3 v0_4 v0_5 v0_7 v0_9 a1 p1 i1_1 i1_2 q12.1 i1_4 i1_5 i1_6 q12.2.1 q12.2.2 v1_0)) C0 (c_X7_wrong l D cs H.size a1 p1 i1_1 i1_2 i1_3 i1_4 i1_5 i1_6 i1_7 i1_8 v1_0 (1) q12 hq) (cwV 1 hts gX6_readClause_X7_wrong rfl rfl rfl (by decide +kernel) ⟨Nat.le_of_ble_eq_true rfl, Nat.le_of_ble_eq_true rfl⟩) 7 rfl rfl hP hD hS (fun q h => Or.inr h) [8, 9] [0, 1, 2, 3, 4, 5, 6, 7] [0, 1, 2, 3, 4, 5, 6, 7, 8, 9] rfl (by decide) rfl (by decide) (by decide) rfl (by decide) rfl hl.1 rfl (Nat.le_of_ble_eq_true rfl) ⟨Nat.zero_le _, Nat.zero_le _⟩ dX6_readClause_12 (fun H locs hP hD hS => ?_)
    refine lv_goto (tgt := 56) hx hb dX6_readClause_15 (by decide) ?_
    obtain rfl := Option.some.inj hf
    exact ow_retV C0 hP hD hS dX6_readClause_56
abbrev W_X6_forget (cs : Nat → ClassId) (a0 : Nat) (p0 : Nat → Nat) (i0_0 : Int32) (i0_6 : Int32) (i0_8 : Int32) (i0_10 : Int32) (i0_11 : Int32) (i0_12 : Int32) (v0_1 : Nat → Int32) (v0_2 : Nat → Int32) (v0_3 : Nat → Int32) (v0_4 : Nat → Int32) (v0_5 : Nat → Int32) (v0_7 : Nat → Int32) (v0_9 : Nat → Int32) : va_W := wX6 cs a0 p0 i0_0 i0_6 i0_8 i0_10 i0_11 i0_12 v0_1 v0_2 v0_3 v0_4 v0_5 v0_7 v0_9
abbrev rm_X6_forget : Room := { frames := 1, cells := 0, slots := 0, locals := 23 }
def f_X6_forget  (i0_0 : Int32) (i0_6 : Int32) (i0_8 : Int32) (i0_10 : Int32) (i0_11 : Int32) (i0_12 : Int32) (v0_7 : Nat → Int32)  : Option (Int32 × Int32 × Int32 × Int32 × Int32 × Int32 × (Nat → Int32)) := (f_J7_fill_53178 201 v0_7 (0)).bind fun q36 => some (0, 0, 0, 1, 3, 20, q36)
set_option maxHeartbeats 4000000 in
set_option maxRecDepth 100000 in
theorem c_X6_forget (l : Launch) (D : va_G) (cs : Nat → ClassId)  (sz : Nat) (a0 : Nat) (p0 : Nat → Nat) (i0_0 : Int32) (i0_6 : Int32) (i0_8 : Int32) (i0_10 : Int32) (i0_11 : Int32) (i0_12 : Int32) (v0_1 : Nat → Int32) (v0_2 : Nat → Int32) (v0_3 : Nat → Int32) (v0_4 : Nat → Int32) (v0_5 : Nat → Int32) (v0_7 : Nat → Int32) (v0_9 : Nat → Int32)  (res : Int32 × Int32 × Int32 × Int32 × Int32 × Int32 × (Nat → Int32)) (hf : f_X6_forget  i0_0 i0_6 i0_8 i0_10 i0_11 i0_12 v0_7  = some res) : MV l D cs yX6_forget wsX6_forget rm_X6_forget [.ref a0] sz (W_X6_forget cs a0 p0 i0_0 i0_6 i0_8 i0_10 i0_11 i0_12 v0_1 v0_2 v0_3 v0_4 v0_5 v0_7 v0_9) (W_X6_forget cs a0 p0 res.1 res.2.1 res.2.2.1 res.2.2.2.1 res.2.2.2.2.1 res.2.2.2.2.2.1 v0_1 v0_2 v0_3 v0_4 v0_5 res.2.2.2.2.2.2 v0_9) := by
  rw [f_X6_forget] at hf
  refine ow_enter (cc := cX6_forget) (nL := 1) (ret := none) (by decide) rfl (Nat.le_of_ble_eq_true rfl) (fun p e s m below meth c ls H locs C0 hP hD hS hA hl => ?_)
  obtain ⟨hx, hb, hr, hlk, hml, hown, hts, hK, hG, hE⟩ := id C0
  have in_X6 : ∀ w ∈ u_ws RX6 TX6 13, w ∈ wsX6_forget := by decide +kernel
  have hl : lv_has ls 1 [(0, .ref a0)] := hl
  refine lv_aload_n hx hb dX6_forget_0 rfl (lv_at hl 0 rfl) ?_
  refine lv_iconst (v := 0) hx hb dX6_forget_1 (by decide) ?_
  refine va_put (D := D) (ci := 6) (v := .int 0) (ty := .int) (C := RX6) (T := TX6) (N := 13) hx hb hts in_X6 tyX6 tyX6_ok nmX6 hown hK hP hD hS 0 rfl rfl 0 (by decide) (hts (.fieldLink RX6 57 "PaneDays$Street" "panes" "I") (by decide +kernel)) (fun _ h9 => h9) rfl (by decide +kernel) rfl rfl (Nat.le_of_ble_eq_true rfl) dX6_forget_2 (fun H locs (hP : va_P D vwCl (W_X6_forget cs a0 p0 (0) i0_6 i0_8 i0_10 i0_11 i0_12 v0_1 v0_2 v0_3 v0_4 v0_5 v0_7 v0_9) H) (hD : va_D _ (W_X6_forget cs a0 p0 (0) i0_6 i0_8 i0_10 i0_11 i0_12 v0_1 v0_2 v0_3 v0_4 v0_5 v0_7 v0_9)) hS => ?_)
  refine lv_aload_n hx hb dX6_forget_5 rfl (lv_at hl 0 rfl) ?_
  refine lv_iconst (v := 0) hx hb dX6_forget_6 (by decide) ?_
  refine va_put (D := D) (ci := 6) (v := .int 0) (ty := .int) (C := RX6) (T := TX6) (N := 13) hx hb hts in_X6 tyX6 tyX6_ok nmX6 hown hK hP hD hS 0 rfl rfl 6 (by decide) (hts (.fieldLink RX6 60 "PaneDays$Street" "rains" "I") (by decide +kernel)) (fun _ h9 => h9) rfl (by decide +kernel) rfl rfl (Nat.le_of_ble_eq_true rfl) dX6_forget_7 (fun H locs (hP : va_P D vwCl (W_X6_forget cs a0 p0 (0) (0) i0_8 i0_10 i0_11 i0_12 v0_1 v0_2 v0_3 v0_4 v0_5 v0_7 v0_9) H) (hD : va_D _ (W_X6_forget cs a0 p0 (0) (0) i0_8 i0_10 i0_11 i0_12 v0_1 v0_2 v0_3 v0_4 v0_5 v0_7 v0_9)) hS => ?_)
  refine lv_aload_n hx hb dX6_forget_10 rfl (lv_at hl 0 rfl) ?_
  refine lv_iconst (v := 0) hx hb dX6_forget_11 (by decide) ?_
  refine va_put (D := D) (ci := 6) (v := .int 0) (ty := .int) (C := RX6) (T := TX6) (N := 13) hx hb hts in_X6 tyX6 tyX6_ok nmX6 hown hK hP hD hS 0 rfl rfl 8 (by decide) (hts (.fieldLink RX6 63 "PaneDays$Street" "orders" "I") (by decide +kernel)) (fun _ h9 => h9) rfl (by decide +kernel) rfl rfl (Nat.le_of_ble_eq_true rfl) dX6_forget_12 (fun H locs (hP : va_P D vwCl (W_X6_forget cs a0 p0 (0) (0) (0) i0_10 i0_11 i0_12 v0_1 v0_2 v0_3 v0_4 v0_5 v0_7 v0_9) H) (hD : va_D _ (W_X6_forget cs a0 p0 (0) (0) (0) i0_10 i0_11 i0_12 v0_1 v0_2 v0_3 v0_4 v0_5 v0_7 v0_9)) hS => ?_)
  refine lv_aload_n hx hb dX6_forget_15 rfl (lv_at hl 0 rfl) ?_
  refine lv_iconst (v := 1) hx hb dX6_forget_16 (by decide) ?_
  refine va_put (D := D) (ci := 6) (v := .int 1) (ty := .int) (C := RX6) (T := TX6) (N := 13) hx hb hts in_X6 tyX6 tyX6_ok nmX6 hown hK hP hD hS 0 rfl rfl 10 (by decide) (hts (.fieldLink RX6 66 "PaneDays$Street" "stepMinutes" "I") (by decide +kernel)) (fun _ h9 => h9) rfl (by decide +kernel) rfl rfl (Nat.le_of_ble_eq_true rfl) dX6_forget_17 (fun H locs (hP : va_P D vwCl (W_X6_forget cs a0 p0 (0) (0) (0) (1) i0_11 i0_12 v0_1 v0_2 v0_3 v0_4 v0_5 v0_7 v0_9) H) (hD : va_D _ (W_X6_forget cs a0 p0 (0) (0) (0) (1) i0_11 i0_12 v0_1 v0_2 v0_3 v0_4 v0_5 v0_7 v0_9)) hS => ?_)
  refine lv_aload_n hx hb dX6_forget_20 rfl (lv_at hl 0 rfl) ?_
  refine lv_iconst (v := 3) hx hb dX6_forget_21 (by decide) ?_
  refine va_put (D := D) (ci := 6) (v := .int 3) (ty := .int) (C := RX6) (T := TX6) (N := 13) hx hb hts in_X6 tyX6 tyX6_ok nmX6 hown hK hP hD hS 0 rfl rfl 11 (by decide) (hts (.fieldLink RX6 69 "PaneDays$Street" "floorMinutes" "I") (by decide +kernel)) (fun _ h9 => h9) rfl (by decide +kernel) rfl rfl (Nat.le_of_ble_eq_true rfl) dX6_forget_22 (fun H locs (hP : va_P D vwCl (W_X6_forget cs a0 p0 (0) (0) (0) (1) (3) i0_12 v0_1 v0_2 v0_3 v0_4 v0_5 v0_7 v0_9) H) (hD : va_D _ (W_X6_forget cs a0 p0 (0) (0) (0) (1) (3) i0_12 v0_1 v0_2 v0_3 v0_4 v0_5 v0_7 v0_9)) hS => ?_)
  refine lv_aload_n hx hb dX6_forget_25 rfl (lv_at hl 0 rfl) ?_
  refine lv_bipush (v := 20) hx hb dX6_forget_26 (by decide) ?_
  refine va_put (D := D) (ci := 6) (v := .int 20) (ty := .int) (C := RX6) (T := TX6) (N := 13) hx hb hts in_X6 tyX6 tyX6_ok nmX6 hown hK hP hD hS 0 rfl rfl 12 (by decide) (hts (.fieldLink RX6 72 "PaneDays$Street" "hold" "I") (by decide +kernel)) (fun _ h9 => h9) rfl (by decide +kernel) rfl rfl (Nat.le_of_ble_eq_true rfl) dX6_forget_28 (fun H locs (hP : va_P D vwCl (W_X6_forget cs a0 p0 (0) (0) (0) (1) (3) (20) v0_1 v0_2 v0_3 v0_4 v0_5 v0_7 v0_9) H) (hD : va_D _ (W_X6_forget cs a0 p0 (0) (0) (0) (1) (3) (20) v0_1 v0_2 v0_3 v0_4 v0_5 v0_7 v0_9)) hS => ?_)
  refine lv_aload_n hx hb dX6_forget_31 rfl (lv_at hl 0 rfl) ?_
  refine va_get (D := D) (ci := 6) (v := .ref (p0 7)) (C := RX6) (T := TX6) (N := 13) hx hb hts in_X6 hown hK hP 0 rfl rfl 7 (by decide) (hts (.fieldLink RX6 27 "PaneDays$Street" "rainOn" "[I") (by decide +kernel)) (fun _ h9 => h9) rfl dX6_forget_32 ?_
  refine lv_iconst (v := 0) hx hb dX6_forget_35 (by decide) ?_
  obtain ⟨q36, hq, hf⟩ := bd_some hf
  refine ow_callSV (As := [.ref (p0 7), .int 0]) (rest := []) (wr := ow_pk (W_X6_forget cs a0 p0 (0) (0) (0) (1) (3) (20) v0_1 v0_2 v0_3 v0_4 v0_5 v0_7 v0_9) [0, 1, 2, 3, 4, 5, 7]) (wf := (W_X6_forget cs a0 p0 (0) (0) (0) (1) (3) (20) v0_1 v0_2 v0_3 v0_4 v0_5 q36 v0_9)) C0 (c_J7_fill_53178 l D cs H.size (p0 7) 201 v0_7 (0) q36 hq) (va_cwS 2 hts gX6_forget_J7_fill_53178 rfl rfl rfl (by decide +kernel) ⟨Nat.le_of_ble_eq_true rfl, Nat.le_of_ble_eq_true rfl⟩) hP hD hS (fun q h => Or.inr h) [6] [0, 1, 2, 3, 4, 5, 7] [0, 1, 2, 3, 4, 5, 7, 6] rfl (by decide) rfl (by decide) (by decide) rfl (by decide) rfl hl.1 rfl (Nat.le_of_ble_eq_true rfl) ⟨Nat.zero_le _, Nat.zero_le _⟩ dX6_forget_36 (fun H locs hP hD hS => ?_)
  obtain rfl := Option.some.inj hf
  exact ow_retV C0 hP hD hS dX6_forget_39
abbrev W_X6_read (cs : Nat → ClassId) (a0 : Nat) (p0 : Nat → Nat) (i0_0 : Int32) (i0_6 : Int32) (i0_8 : Int32) (i0_10 : Int32) (i0_11 : Int32) (i0_12 : Int32) (v0_1 : Nat → Int32) (v0_2 : Nat → Int32) (v0_3 : Nat → Int32) (v0_4 : Nat → Int32) (v0_5 : Nat → Int32) (v0_7 : Nat → Int32) (v0_9 : Nat → Int32) (a1 : Nat) (p1 : Nat → Nat) (i1_1 : Int32) (i1_2 : Int32) (i1_3 : Int32) (i1_4 : Int32) (i1_5 : Int32) (i1_6 : Int32) (i1_7 : Int32) (i1_8 : Int32) (v1_0 : Nat → Int32) : va_W := wX6 cs a0 p0 i0_0 i0_6 i0_8 i0_10 i0_11 i0_12 v0_1 v0_2 v0_3 v0_4 v0_5 v0_7 v0_9 ++ wX7 cs a1 p1 i1_1 i1_2 i1_3 i1_4 i1_5 i1_6 i1_7 i1_8 v1_0
abbrev rm_X6_read : Room := { frames := 11, cells := 0, slots := 0, locals := 265 }
def f_X6_read_b38  (i1_2 : Int32) (v1_0 : Nat → Int32)  (i0_0 : Int32) (i0_6 : Int32) (i0_8 : Int32) (i0_10 : Int32) (i0_11 : Int32) (i0_12 : Int32) (v0_1 : Nat → Int32) (v0_2 : Nat → Int32) (v0_3 : Nat → Int32) (v0_4 : Nat → Int32) (v0_5 : Nat → Int32) (v0_7 : Nat → Int32) (v0_9 : Nat → Int32) (i1_3 : Int32) (i1_4 : Int32) (i1_5 : Int32) (i1_6 : Int32) (i1_7 : Int32) (i1_8 : Int32)  : Option (Int32 × Int32 × Int32 × Int32 × Int32 × Int32 × Int32 × (Nat → Int32) × (Nat → Int32) × (Nat → Int32) × (Nat → Int32) × (Nat → Int32) × (Nat → Int32) × (Nat → Int32) × Int32 × Int32 × Int32 × Int32 × Int32 × Int32) := (f_X7_takeEnd i1_3 i1_4 i1_7 i1_8).bind fun q39 => cz q39.1 (some (q39.1, i0_0, i0_6, i0_8, i0_10, i0_11, i0_12, v0_1, v0_2, v0_3, v0_4, v0_5, v0_7, v0_9, q39.2.1, i1_4, i1_5, i1_6, q39.2.2.1, q39.2.2.2))
set_option maxHeartbeats 4000000 in
set_option maxRecDepth 100000 in
theorem w_X6_read_b38 {p : Program} {l : Launch} {e : Env} {s : State} {m : MethodId} {below : List Frame} {meth : Method} {c : Code} {D : va_G} {cs : Nat → ClassId} {av : Array Value} {w0 : va_W} (C0 : Cx p s m meth c av wsX6_read cX6_read 3 (some .boolean) RX6 D cs w0)  (a0 : Nat) (p0 : Nat → Nat) (a1 : Nat) (p1 : Nat → Nat) (i1_1 : Int32) (i1_2 : Int32) (v1_0 : Nat → Int32) (res : Int32 × Int32 × Int32 × Int32 × Int32 × Int32 × Int32 × (Nat → Int32) × (Nat → Int32) × (Nat → Int32) × (Nat → Int32) × (Nat → Int32) × (Nat → Int32) × (Nat → Int32) × Int32 × Int32 × Int32 × Int32 × Int32 × Int32)  : ∀ (i0_0 : Int32) (i0_6 : Int32) (i0_8 : Int32) (i0_10 : Int32) (i0_11 : Int32) (i0_12 : Int32) (v0_1 : Nat → Int32) (v0_2 : Nat → Int32) (v0_3 : Nat → Int32) (v0_4 : Nat → Int32) (v0_5 : Nat → Int32) (v0_7 : Nat → Int32) (v0_9 : Nat → Int32) (i1_3 : Int32) (i1_4 : Int32) (i1_5 : Int32) (i1_6 : Int32) (i1_7 : Int32) (i1_8 : Int32), f_X6_read_b38 i1_2 v1_0 i0_0 i0_6 i0_8 i0_10 i0_11 i0_12 v0_1 v0_2 v0_3 v0_4 v0_5 v0_7 v0_9 i1_3 i1_4 i1_5 i1_6 i1_7 i1_8 = some res → ∀ (H : Heap) (locs : List Loc) (ls : Array Slot), va_P D vwCl (W_X6_read cs a0 p0 i0_0 i0_6 i0_8 i0_10 i0_11 i0_12 v0_1 v0_2 v0_3 v0_4 v0_5 v0_7 v0_9 a1 p1 i1_1 i1_2 i1_3 i1_4 i1_5 i1_6 i1_7 i1_8 v1_0) H → va_D (va_A w0 s.heap.size) (W_X6_read cs a0 p0 i0_0 i0_6 i0_8 i0_10 i0_11 i0_12 v0_1 v0_2 v0_3 v0_4 v0_5 v0_7 v0_9 a1 p1 i1_1 i1_2 i1_3 i1_4 i1_5 i1_6 i1_7 i1_8 v1_0) → va_S (va_A w0 s.heap.size) s.heap H locs → lv_has ls 3 [(1, .ref a1)] → W p l e rm_X6_read s m av below meth c H locs 0 0 (MQ below (oI D cs w0 (W_X6_read cs a0 p0 res.2.1 res.2.2.1 res.2.2.2.1 res.2.2.2.2.1 res.2.2.2.2.2.1 res.2.2.2.2.2.2.1 res.2.2.2.2.2.2.2.1 res.2.2.2.2.2.2.2.2.1 res.2.2.2.2.2.2.2.2.2.1 res.2.2.2.2.2.2.2.2.2.2.1 res.2.2.2.2.2.2.2.2.2.2.2.1 res.2.2.2.2.2.2.2.2.2.2.2.2.1 res.2.2.2.2.2.2.2.2.2.2.2.2.2.1 a1 p1 i1_1 i1_2 res.2.2.2.2.2.2.2.2.2.2.2.2.2.2.1 res.2.2.2.2.2.2.2.2.2.2.2.2.2.2.2.1 res.2.2.2.2.2.2.2.2.2.2.2.2.2.2.2.2.1 res.2.2.2.2.2.2.2.2.2.2.2.2.2.2.2.2.2.1 res.2.2.2.2.2.2.2.2.2.2.2.2.2.2.2.2.2.2.1 res.2.2.2.2.2.2.2.2.2.2.2.2.2.2.2.2.2.2.2 v1_0) res.1 s.heap.size) av s 0 0 (va_A w0 s.heap.size)) (F0 m 38 ls []) := by
  obtain ⟨hx, hb, hr, hlk, hml, hown, hts, hK, hG, hE⟩ := id C0
  have in_X7 : ∀ w ∈ u_ws RX7 TX7 9, w ∈ wsX6_read := by decide +kernel
  intro i0_0 i0_6 i0_8 i0_10 i0_11 i0_12 v0_1 v0_2 v0_3 v0_4 v0_5 v0_7 v0_9 i1_3 i1_4 i1_5 i1_6 i1_7 i1_8 hf H locs ls hP hD hS hl
  rw [f_X6_read_b38] at hf
  refine lv_aload_n hx hb dX6_read_38 rfl (lv_at hl 0 rfl) ?_
  obtain ⟨q39, hq, hf⟩ := bd_some hf
  refine ow_callVI (As := []) (rest := []) (wr := ow_pk (W_X6_read cs a0 p0 i0_0 i0_6 i0_8 i0_10 i0_11 i0_12 v0_1 v0_2 v0_3 v0_4 v0_5 v0_7 v0_9 a1 p1 i1_1 i1_2 i1_3 i1_4 i1_5 i1_6 i1_7 i1_8 v1_0) [0, 1, 2, 3, 4, 5, 6, 7]) (wf := (W_X6_read cs a0 p0 i0_0 i0_6 i0_8 i0_10 i0_11 i0_12 v0_1 v0_2 v0_3 v0_4 v0_5 v0_7 v0_9 a1 p1 i1_1 i1_2 q39.2.1 i1_4 i1_5 i1_6 q39.2.2.1 q39.2.2.2 v1_0)) (r := q39.1) C0 (c_X7_takeEnd l D cs H.size a1 p1 i1_1 i1_2 i1_3 i1_4 i1_5 i1_6 i1_7 i1_8 v1_0  q39 hq) (cwV 0 hts gX6_read_X7_takeEnd rfl rfl rfl (by decide +kernel) ⟨Nat.le_of_ble_eq_true rfl, Nat.le_of_ble_eq_true rfl⟩) 7 rfl rfl hP hD hS (fun q h => Or.inr h) [8, 9] [0, 1, 2, 3, 4, 5, 6, 7] [0, 1, 2, 3, 4, 5, 6, 7, 8, 9] rfl (by decide) rfl (by decide) (by decide) rfl (by decide) rfl hl.1 rfl (Nat.le_of_ble_eq_true rfl) ⟨Nat.zero_le _, Nat.zero_le _⟩ dX6_read_39 (fun H locs hP hD hS => ?_)
  obtain ⟨hz, hf⟩ := cz_some hf
  obtain rfl := Option.some.inj hf
  exact ow_retZ C0 hz hP hD hS dX6_read_42
def f_X6_read_b6  (i1_2 : Int32) (v1_0 : Nat → Int32)  : Nat → (Int32) → (Int32) → (Int32) → (Int32) → (Int32) → (Int32) → (Nat → Int32) → (Nat → Int32) → (Nat → Int32) → (Nat → Int32) → (Nat → Int32) → (Nat → Int32) → (Nat → Int32) → (Int32) → (Int32) → (Int32) → (Int32) → (Int32) → (Int32) → Int32 → Option (Int32 × Int32 × Int32 × Int32 × Int32 × Int32 × Int32 × (Nat → Int32) × (Nat → Int32) × (Nat → Int32) × (Nat → Int32) × (Nat → Int32) × (Nat → Int32) × (Nat → Int32) × Int32 × Int32 × Int32 × Int32 × Int32 × Int32)
  | 0, _, _, _, _, _, _, _, _, _, _, _, _, _, _, _, _, _, _, _, _ => none
  | n + 1, i0_0, i0_6, i0_8, i0_10, i0_11, i0_12, v0_1, v0_2, v0_3, v0_4, v0_5, v0_7, v0_9, i1_3, i1_4, i1_5, i1_6, i1_7, i1_8, x2 => if 60 < x2 then (f_X6_read_b38 i1_2 v1_0 i0_0 i0_6 i0_8 i0_10 i0_11 i0_12 v0_1 v0_2 v0_3 v0_4 v0_5 v0_7 v0_9 i1_3 i1_4 i1_5 i1_6 i1_7 i1_8) else (if i1_7 = 0 then (if i1_3 = 0 then (f_X6_read_b38 i1_2 v1_0 i0_0 i0_6 i0_8 i0_10 i0_11 i0_12 v0_1 v0_2 v0_3 v0_4 v0_5 v0_7 v0_9 i1_3 i1_4 i1_5 i1_6 i1_7 i1_8) else ((f_X6_readClause i0_0 i0_6 i0_8 i0_10 i0_11 i0_12 v0_1 v0_2 v0_3 v0_4 v0_5 v0_7 v0_9 i1_2 i1_3 i1_4 i1_5 i1_6 i1_7 i1_8 v1_0 x2).bind fun q29 => f_X6_read_b6 i1_2 v1_0 n q29.1 q29.2.1 q29.2.2.1 q29.2.2.2.1 q29.2.2.2.2.1 q29.2.2.2.2.2.1 q29.2.2.2.2.2.2.1 q29.2.2.2.2.2.2.2.1 q29.2.2.2.2.2.2.2.2.1 q29.2.2.2.2.2.2.2.2.2.1 q29.2.2.2.2.2.2.2.2.2.2.1 q29.2.2.2.2.2.2.2.2.2.2.2.1 q29.2.2.2.2.2.2.2.2.2.2.2.2.1 q29.2.2.2.2.2.2.2.2.2.2.2.2.2.1 q29.2.2.2.2.2.2.2.2.2.2.2.2.2.2.1 q29.2.2.2.2.2.2.2.2.2.2.2.2.2.2.2.1 q29.2.2.2.2.2.2.2.2.2.2.2.2.2.2.2.2.1 q29.2.2.2.2.2.2.2.2.2.2.2.2.2.2.2.2.2.1 q29.2.2.2.2.2.2.2.2.2.2.2.2.2.2.2.2.2.2 (x2 + 1))) else (f_X6_read_b38 i1_2 v1_0 i0_0 i0_6 i0_8 i0_10 i0_11 i0_12 v0_1 v0_2 v0_3 v0_4 v0_5 v0_7 v0_9 i1_3 i1_4 i1_5 i1_6 i1_7 i1_8))
set_option maxHeartbeats 4000000 in
set_option maxRecDepth 100000 in
theorem w_X6_read_b6 {p : Program} {l : Launch} {e : Env} {s : State} {m : MethodId} {below : List Frame} {meth : Method} {c : Code} {D : va_G} {cs : Nat → ClassId} {av : Array Value} {w0 : va_W} (C0 : Cx p s m meth c av wsX6_read cX6_read 3 (some .boolean) RX6 D cs w0)  (a0 : Nat) (p0 : Nat → Nat) (a1 : Nat) (p1 : Nat → Nat) (i1_1 : Int32) (i1_2 : Int32) (v1_0 : Nat → Int32) (res : Int32 × Int32 × Int32 × Int32 × Int32 × Int32 × Int32 × (Nat → Int32) × (Nat → Int32) × (Nat → Int32) × (Nat → Int32) × (Nat → Int32) × (Nat → Int32) × (Nat → Int32) × Int32 × Int32 × Int32 × Int32 × Int32 × Int32)  : ∀ (n : Nat) (i0_0 : Int32) (i0_6 : Int32) (i0_8 : Int32) (i0_10 : Int32) (i0_11 : Int32) (i0_12 : Int32) (v0_1 : Nat → Int32) (v0_2 : Nat → Int32) (v0_3 : Nat → Int32) (v0_4 : Nat → Int32) (v0_5 : Nat → Int32) (v0_7 : Nat → Int32) (v0_9 : Nat → Int32) (i1_3 : Int32) (i1_4 : Int32) (i1_5 : Int32) (i1_6 : Int32) (i1_7 : Int32) (i1_8 : Int32) (x2 : Int32), f_X6_read_b6 i1_2 v1_0 n i0_0 i0_6 i0_8 i0_10 i0_11 i0_12 v0_1 v0_2 v0_3 v0_4 v0_5 v0_7 v0_9 i1_3 i1_4 i1_5 i1_6 i1_7 i1_8 x2 = some res → ∀ (H : Heap) (locs : List Loc) (ls : Array Slot), va_P D vwCl (W_X6_read cs a0 p0 i0_0 i0_6 i0_8 i0_10 i0_11 i0_12 v0_1 v0_2 v0_3 v0_4 v0_5 v0_7 v0_9 a1 p1 i1_1 i1_2 i1_3 i1_4 i1_5 i1_6 i1_7 i1_8 v1_0) H → va_D (va_A w0 s.heap.size) (W_X6_read cs a0 p0 i0_0 i0_6 i0_8 i0_10 i0_11 i0_12 v0_1 v0_2 v0_3 v0_4 v0_5 v0_7 v0_9 a1 p1 i1_1 i1_2 i1_3 i1_4 i1_5 i1_6 i1_7 i1_8 v1_0) → va_S (va_A w0 s.heap.size) s.heap H locs → lv_has ls 3 [(0, .ref a0), (1, .ref a1), (2, .int x2)] → W p l e rm_X6_read s m av below meth c H locs 0 0 (MQ below (oI D cs w0 (W_X6_read cs a0 p0 res.2.1 res.2.2.1 res.2.2.2.1 res.2.2.2.2.1 res.2.2.2.2.2.1 res.2.2.2.2.2.2.1 res.2.2.2.2.2.2.2.1 res.2.2.2.2.2.2.2.2.1 res.2.2.2.2.2.2.2.2.2.1 res.2.2.2.2.2.2.2.2.2.2.1 res.2.2.2.2.2.2.2.2.2.2.2.1 res.2.2.2.2.2.2.2.2.2.2.2.2.1 res.2.2.2.2.2.2.2.2.2.2.2.2.2.1 a1 p1 i1_1 i1_2 res.2.2.2.2.2.2.2.2.2.2.2.2.2.2.1 res.2.2.2.2.2.2.2.2.2.2.2.2.2.2.2.1 res.2.2.2.2.2.2.2.2.2.2.2.2.2.2.2.2.1 res.2.2.2.2.2.2.2.2.2.2.2.2.2.2.2.2.2.1 res.2.2.2.2.2.2.2.2.2.2.2.2.2.2.2.2.2.2.1 res.2.2.2.2.2.2.2.2.2.2.2.2.2.2.2.2.2.2.2 v1_0) res.1 s.heap.size) av s 0 0 (va_A w0 s.heap.size)) (F0 m 6 ls []) := by
  obtain ⟨hx, hb, hr, hlk, hml, hown, hts, hK, hG, hE⟩ := id C0
  have in_X7 : ∀ w ∈ u_ws RX7 TX7 9, w ∈ wsX6_read := by decide +kernel
  intro n
  induction n with
  | zero =>
    intro i0_0 i0_6 i0_8 i0_10 i0_11 i0_12 v0_1 v0_2 v0_3 v0_4 v0_5 v0_7 v0_9 i1_3 i1_4 i1_5 i1_6 i1_7 i1_8 x2 hf
    rw [f_X6_read_b6] at hf
    cases hf
  | succ n ih =>
    intro i0_0 i0_6 i0_8 i0_10 i0_11 i0_12 v0_1 v0_2 v0_3 v0_4 v0_5 v0_7 v0_9 i1_3 i1_4 i1_5 i1_6 i1_7 i1_8 x2 hf H locs ls hP hD hS hl
    rw [f_X6_read_b6] at hf
    refine lv_iload_n hx hb dX6_read_6 rfl (lv_at hl 2 rfl) ?_
    refine lv_bipush (v := 60) hx hb dX6_read_7 (by decide) ?_
    refine lv_icmp_gt (tgt := 38) hx hb dX6_read_9 (by decide) (fun hc => ?_) (fun hc => ?_)
    · replace hf := ow_t hc hf
      exact w_X6_read_b38 C0 a0 p0 a1 p1 i1_1 i1_2 v1_0 res i0_0 i0_6 i0_8 i0_10 i0_11 i0_12 v0_1 v0_2 v0_3 v0_4 v0_5 v0_7 v0_9 i1_3 i1_4 i1_5 i1_6 i1_7 i1_8 hf _ _ _ hP hD hS (lv_sub hl [1] rfl)
    · replace hf := ow_f hc hf
      refine lv_aload_n hx hb dX6_read_12 rfl (lv_at hl 1 rfl) ?_
      refine va_get (D := D) (ci := 7) (v := .int i1_7) (C := RX7) (T := TX7) (N := 9) hx hb hts in_X7 hown hK hP 8 rfl rfl 7 (by decide) (hts (.fieldLink RX6 40 "PaneDays$Tape" "fault" "I") (by decide +kernel)) (fun _ h9 => h9) rfl dX6_read_13 ?_
      refine lv_if_ne (tgt := 38) hx hb dX6_read_16 (by decide) (fun hc => ?_) (fun hc => ?_)
      · replace hf := ow_f hc hf
        exact w_X6_read_b38 C0 a0 p0 a1 p1 i1_1 i1_2 v1_0 res i0_0 i0_6 i0_8 i0_10 i0_11 i0_12 v0_1 v0_2 v0_3 v0_4 v0_5 v0_7 v0_9 i1_3 i1_4 i1_5 i1_6 i1_7 i1_8 hf _ _ _ hP hD hS (lv_sub hl [1] rfl)
      · replace hf := ow_t hc hf
        refine lv_aload_n hx hb dX6_read_19 rfl (lv_at hl 1 rfl) ?_
        refine va_get (D := D) (ci := 7) (v := .int i1_3) (C := RX7) (T := TX7) (N := 9) hx hb hts in_X7 hown hK hP 8 rfl rfl 3 (by decide) (hts (.fieldLink RX6 46 "PaneDays$Tape" "kind" "I") (by decide +kernel)) (fun _ h9 => h9) rfl dX6_read_20 ?_
        refine lv_if_eq (tgt := 38) hx hb dX6_read_23 (by decide) (fun hc => ?_) (fun hc => ?_)
        · replace hf := ow_t hc hf
          exact w_X6_read_b38 C0 a0 p0 a1 p1 i1_1 i1_2 v1_0 res i0_0 i0_6 i0_8 i0_10 i0_11 i0_12 v0_1 v0_2 v0_3 v0_4 v0_5 v0_7 v0_9 i1_3 i1_4 i1_5 i1_6 i1_7 i1_8 hf _ _ _ hP hD hS (lv_sub hl [1] rfl)
        · replace hf := ow_f hc hf
          refine lv_aload_n hx hb dX6_read_26 rfl (lv_at hl 0 rfl) ?_
          refine lv_aload_n hx hb dX6_read_27 rfl (lv_at hl 1 rfl) ?_
          refine lv_iload_n hx hb dX6_read_28 rfl (lv_at hl 2 rfl) ?_
          obtain ⟨q29, hq, hf⟩ := bd_some hf
          refine ow_callVV (As := [.ref a1, .int x2]) (rest := []) (wr := ow_pk (W_X6_read cs a0 p0 i0_0 i0_6 i0_8 i0_10 i0_11 i0_12 v0_1 v0_2 v0_3 v0_4 v0_5 v0_7 v0_9 a1 p1 i1_1 i1_2 i1_3 i1_4 i1_5 i1_6 i1_7 i1_8 v1_0) []) (wf := (W_X6_read cs a0 p0 q29.1 q29.2.1 q29.2.2.1 q29.2.2.2.1 q29.2.2.2.2.1 q29.2.2.2.2.2.1 q29.2.2.2.2.2.2.1 q29.2.2.2.2.2.2.2.1 q29.2.2.2.2.2.2.2.2.1 q29.2.2.2.2.2.2.2.2.2.1 q29.2.2.2.2.2.2.2.2.2.2.1 q29.2.2.2.2.2.2.2.2.2.2.2.1 q29.2.2.2.2.2.2.2.2.2.2.2.2.1 a1 p1 i1_1 i1_2 q29.2.2.2.2.2.2.2.2.2.2.2.2.2.1 q29.2.2.2.2.2.2.2.2.2.2.2.2.2.2.1 q29.2.2.2.2.2.2.2.2.2.2.2.2.2.2.2.1 q29.2.2.2.2.2.2.2.2.2.2.2.2.2.2.2.2.1 q29.2.2.2.2.2.2.2.2.2.2.2.2.2.2.2.2.2.1 q29.2.2.2.2.2.2.2.2.2.2.2.2.2.2.2.2.2.2 v1_0)) C0 (c_X6_readClause l D cs H.size a0 p0 i0_0 i0_6 i0_8 i0_10 i0_11 i0_12 v0_1 v0_2 v0_3 v0_4 v0_5 v0_7 v0_9 a1 p1 i1_1 i1_2 i1_3 i1_4 i1_5 i1_6 i1_7 i1_8 v1_0 x2 q29 hq) (cwV 2 hts gX6_read_X6_readClause rfl rfl rfl (by decide +kernel) ⟨Nat.le_of_ble_eq_true rfl, Nat.le_of_ble_eq_true rfl⟩) 6 rfl rfl hP hD hS (fun q h => Or.inr h) [0, 1, 2, 3, 4, 5, 6, 7, 8, 9] [] [0, 1, 2, 3, 4, 5, 6, 7, 8, 9] rfl (by decide) rfl (by decide) (by decide) rfl (by decide) rfl hl.1 rfl (Nat.le_of_ble_eq_true rfl) ⟨Nat.zero_le _, Nat.zero_le _⟩ dX6_read_29 (fun H locs hP hD hS => ?_)
          refine lv_iinc (v := x2 + 1) (lv' := [(2, .int (x2 + 1)), (0, .ref a0), (1, .ref a1)]) hx hb dX6_read_32 hl (k := 2) rfl (ow_inc (by decide)) (by decide) rfl (fun ls hl => ?_)
          refine lv_goto (tgt := 6) hx hb dX6_read_35 (by decide) ?_
          exact ih q29.1 q29.2.1 q29.2.2.1 q29.2.2.2.1 q29.2.2.2.2.1 q29.2.2.2.2.2.1 q29.2.2.2.2.2.2.1 q29.2.2.2.2.2.2.2.1 q29.2.2.2.2.2.2.2.2.1 q29.2.2.2.2.2.2.2.2.2.1 q29.2.2.2.2.2.2.2.2.2.2.1 q29.2.2.2.2.2.2.2.2.2.2.2.1 q29.2.2.2.2.2.2.2.2.2.2.2.2.1 q29.2.2.2.2.2.2.2.2.2.2.2.2.2.1 q29.2.2.2.2.2.2.2.2.2.2.2.2.2.2.1 q29.2.2.2.2.2.2.2.2.2.2.2.2.2.2.2.1 q29.2.2.2.2.2.2.2.2.2.2.2.2.2.2.2.2.1 q29.2.2.2.2.2.2.2.2.2.2.2.2.2.2.2.2.2.1 q29.2.2.2.2.2.2.2.2.2.2.2.2.2.2.2.2.2.2 (x2 + 1) hf _ _ _ hP hD hS (lv_sub hl [1, 2, 0] rfl)
def f_X6_read  (i0_0 : Int32) (i0_6 : Int32) (i0_8 : Int32) (i0_10 : Int32) (i0_11 : Int32) (i0_12 : Int32) (v0_1 : Nat → Int32) (v0_2 : Nat → Int32) (v0_3 : Nat → Int32) (v0_4 : Nat → Int32) (v0_5 : Nat → Int32) (v0_7 : Nat → Int32) (v0_9 : Nat → Int32) (i1_2 : Int32) (i1_3 : Int32) (i1_4 : Int32) (i1_5 : Int32) (i1_6 : Int32) (i1_7 : Int32) (i1_8 : Int32) (v1_0 : Nat → Int32)  : Option (Int32 × Int32 × Int32 × Int32 × Int32 × Int32 × Int32 × (Nat → Int32) × (Nat → Int32) × (Nat → Int32) × (Nat → Int32) × (Nat → Int32) × (Nat → Int32) × (Nat → Int32) × Int32 × Int32 × Int32 × Int32 × Int32 × Int32) := (f_X6_forget i0_0 i0_6 i0_8 i0_10 i0_11 i0_12 v0_7).bind fun q1 => f_X6_read_b6 i1_2 v1_0 4000 q1.1 q1.2.1 q1.2.2.1 q1.2.2.2.1 q1.2.2.2.2.1 q1.2.2.2.2.2.1 v0_1 v0_2 v0_3 v0_4 v0_5 q1.2.2.2.2.2.2 v0_9 i1_3 i1_4 i1_5 i1_6 i1_7 i1_8 (0)
set_option maxHeartbeats 4000000 in
set_option maxRecDepth 100000 in
theorem c_X6_read (l : Launch) (D : va_G) (cs : Nat → ClassId)  (sz : Nat) (a0 : Nat) (p0 : Nat → Nat) (i0_0 : Int32) (i0_6 : Int32) (i0_8 : Int32) (i0_10 : Int32) (i0_11 : Int32) (i0_12 : Int32) (v0_1 : Nat → Int32) (v0_2 : Nat → Int32) (v0_3 : Nat → Int32) (v0_4 : Nat → Int32) (v0_5 : Nat → Int32) (v0_7 : Nat → Int32) (v0_9 : Nat → Int32) (a1 : Nat) (p1 : Nat → Nat) (i1_1 : Int32) (i1_2 : Int32) (i1_3 : Int32) (i1_4 : Int32) (i1_5 : Int32) (i1_6 : Int32) (i1_7 : Int32) (i1_8 : Int32) (v1_0 : Nat → Int32)  (res : Int32 × Int32 × Int32 × Int32 × Int32 × Int32 × Int32 × (Nat → Int32) × (Nat → Int32) × (Nat → Int32) × (Nat → Int32) × (Nat → Int32) × (Nat → Int32) × (Nat → Int32) × Int32 × Int32 × Int32 × Int32 × Int32 × Int32) (hf : f_X6_read  i0_0 i0_6 i0_8 i0_10 i0_11 i0_12 v0_1 v0_2 v0_3 v0_4 v0_5 v0_7 v0_9 i1_2 i1_3 i1_4 i1_5 i1_6 i1_7 i1_8 v1_0  = some res) : MI l D cs yX6_read wsX6_read rm_X6_read [.ref a0, .ref a1] sz (W_X6_read cs a0 p0 i0_0 i0_6 i0_8 i0_10 i0_11 i0_12 v0_1 v0_2 v0_3 v0_4 v0_5 v0_7 v0_9 a1 p1 i1_1 i1_2 i1_3 i1_4 i1_5 i1_6 i1_7 i1_8 v1_0) (W_X6_read cs a0 p0 res.2.1 res.2.2.1 res.2.2.2.1 res.2.2.2.2.1 res.2.2.2.2.2.1 res.2.2.2.2.2.2.1 res.2.2.2.2.2.2.2.1 res.2.2.2.2.2.2.2.2.1 res.2.2.2.2.2.2.2.2.2.1 res.2.2.2.2.2.2.2.2.2.2.1 res.2.2.2.2.2.2.2.2.2.2.2.1 res.2.2.2.2.2.2.2.2.2.2.2.2.1 res.2.2.2.2.2.2.2.2.2.2.2.2.2.1 a1 p1 i1_1 i1_2 res.2.2.2.2.2.2.2.2.2.2.2.2.2.2.1 res.2.2.2.2.2.2.2.2.2.2.2.2.2.2.2.1 res.2.2.2.2.2.2.2.2.2.2.2.2.2.2.2.2.1 res.2.2.2.2.2.2.2.2.2.2.2.2.2.2.2.2.2.1 res.2.2.2.2.2.2.2.2.2.2.2.2.2.2.2.2.2.2.1 res.2.2.2.2.2.2.2.2.2.2.2.2.2.2.2.2.2.2.2 v1_0) res.1 := by
  rw [f_X6_read] at hf
  refine ow_enter (cc := cX6_read) (nL := 3) (ret := (some .boolean)) (by decide) rfl (Nat.le_of_ble_eq_true rfl) (fun p e s m below meth c ls H locs C0 hP hD hS hA hl => ?_)
  obtain ⟨hx, hb, hr, hlk, hml, hown, hts, hK, hG, hE⟩ := id C0
  have in_X7 : ∀ w ∈ u_ws RX7 TX7 9, w ∈ wsX6_read := by decide +kernel
  have hl : lv_has ls 3 [(0, .ref a0), (1, .ref a1)] := hl
  refine lv_aload_n hx hb dX6_read_0 rfl (lv_at hl 0 rfl) ?_
  obtain ⟨q1, hq, hf⟩ := bd_some hf
  refine ow_callVV (As := []) (rest := []) (wr := ow_pk (W_X6_read cs a0 p0 i0_0 i0_6 i0_8 i0_10 i0_11 i0_12 v0_1 v0_2 v0_3 v0_4 v0_5 v0_7 v0_9 a1 p1 i1_1 i1_2 i1_3 i1_4 i1_5 i1_6 i1_7 i1_8 v1_0) [8, 9]) (wf := (W_X6_read cs a0 p0 q1.1 q1.2.1 q1.2.2.1 q1.2.2.2.1 q1.2.2.2.2.1 q1.2.2.2.2.2.1 v0_1 v0_2 v0_3 v0_4 v0_5 q1.2.2.2.2.2.2 v0_9 a1 p1 i1_1 i1_2 i1_3 i1_4 i1_5 i1_6 i1_7 i1_8 v1_0)) C0 (c_X6_forget l D cs H.size a0 p0 i0_0 i0_6 i0_8 i0_10 i0_11 i0_12 v0_1 v0_2 v0_3 v0_4 v0_5 v0_7 v0_9  q1 hq) (cwV 0 hts gX6_read_X6_forget rfl rfl rfl (by decide +kernel) ⟨Nat.le_of_ble_eq_true rfl, Nat.le_of_ble_eq_true rfl⟩) 6 rfl rfl hP hD hS (fun q h => Or.inr h) [0, 1, 2, 3, 4, 5, 6, 7] [8, 9] [2, 3, 4, 5, 6, 7, 8, 9, 0, 1] rfl (by decide) rfl (by decide) (by decide) rfl (by decide) rfl hl.1 rfl (Nat.le_of_ble_eq_true rfl) ⟨Nat.zero_le _, Nat.zero_le _⟩ dX6_read_1 (fun H locs hP hD hS => ?_)
  refine lv_iconst (v := 0) hx hb dX6_read_4 (by decide) ?_
  refine lv_istore_n (lv' := [(2, .int 0), (0, .ref a0), (1, .ref a1)]) hx hb dX6_read_5 rfl hl (by decide) rfl (fun ls hl => ?_)
  exact w_X6_read_b6 C0 a0 p0 a1 p1 i1_1 i1_2 v1_0 res 4000 q1.1 q1.2.1 q1.2.2.1 q1.2.2.2.1 q1.2.2.2.2.1 q1.2.2.2.2.2.1 v0_1 v0_2 v0_3 v0_4 v0_5 q1.2.2.2.2.2.2 v0_9 i1_3 i1_4 i1_5 i1_6 i1_7 i1_8 (0) hf _ _ _ hP hD hS (lv_sub hl [1, 2, 0] rfl)
abbrev rm_X10_cellAt : Room := { frames := 0, cells := 0, slots := 0, locals := 0 }
def f_X10_cellAt   (x0 : Int32) (x1 : Int32) (x2 : Int32) : Option (Int32) := some (((16 * x0) + (4 * x2)) + x1)
set_option maxHeartbeats 4000000 in
set_option maxRecDepth 100000 in
theorem c_X10_cellAt (l : Launch) (D : va_G) (cs : Nat → ClassId)  (sz : Nat)  (x0 : Int32) (x1 : Int32) (x2 : Int32) (res : Int32) (hf : f_X10_cellAt   x0 x1 x2 = some res) : MI l D cs yX10_cellAt wsX10_cellAt rm_X10_cellAt [.int x0, .int x1, .int x2] sz ([] : va_W) ([] : va_W) res := by
  rw [f_X10_cellAt] at hf
  refine ow_enter (cc := cX10_cellAt) (nL := 3) (ret := (some .int)) (by decide) rfl (Nat.le_of_ble_eq_true rfl) (fun p e s m below meth c ls H locs C0 hP hD hS hA hl => ?_)
  obtain ⟨hx, hb, hr, hlk, hml, hown, hts, hK, hG, hE⟩ := id C0
  have hl : lv_has ls 3 [(0, .int x0), (1, .int x1), (2, .int x2)] := hl
  refine lv_bipush (v := 16) hx hb dX10_cellAt_0 (by decide) ?_
  refine lv_iload_n hx hb dX10_cellAt_2 rfl (lv_at hl 0 rfl) ?_
  refine lv_imul hx hb dX10_cellAt_3 ?_
  refine lv_iconst (v := 4) hx hb dX10_cellAt_4 (by decide) ?_
  refine lv_iload_n hx hb dX10_cellAt_5 rfl (lv_at hl 2 rfl) ?_
  refine lv_imul hx hb dX10_cellAt_6 ?_
  refine lv_iadd hx hb dX10_cellAt_7 ?_
  refine lv_iload_n hx hb dX10_cellAt_8 rfl (lv_at hl 1 rfl) ?_
  refine lv_iadd hx hb dX10_cellAt_9 ?_
  obtain rfl := Option.some.inj hf
  exact ow_retI C0 hP hD hS dX10_cellAt_10
abbrev W_X6_cellOf (cs : Nat → ClassId) (a0 : Nat) (p0 : Nat → Nat) (i0_0 : Int32) (i0_6 : Int32) (i0_8 : Int32) (i0_10 : Int32) (i0_11 : Int32) (i0_12 : Int32) (v0_1 : Nat → Int32) (v0_2 : Nat → Int32) (v0_3 : Nat → Int32) (v0_4 : Nat → Int32) (v0_5 : Nat → Int32) (v0_7 : Nat → Int32) (v0_9 : Nat → Int32) : va_W := wX6 cs a0 p0 i0_0 i0_6 i0_8 i0_10 i0_11 i0_12 v0_1 v0_2 v0_3 v0_4 v0_5 v0_7 v0_9
abbrev rm_X6_cellOf : Room := { frames := 1, cells := 0, slots := 0, locals := 22 }
def f_X6_cellOf  (v0_9 : Nat → Int32) (x1 : Int32) : Option (Int32) := ck ((5 * x1) + 0) 60 (ck ((5 * x1) + 1) 60 (ck ((5 * x1) + 2) 60 ((f_X10_cellAt (v0_9 ((5 * x1) + 0).toNatClampNeg) (v0_9 ((5 * x1) + 1).toNatClampNeg) (v0_9 ((5 * x1) + 2).toNatClampNeg)).bind fun q28 => some (q28))))
set_option maxHeartbeats 4000000 in
set_option maxRecDepth 100000 in
theorem c_X6_cellOf (l : Launch) (D : va_G) (cs : Nat → ClassId)  (sz : Nat) (a0 : Nat) (p0 : Nat → Nat) (i0_0 : Int32) (i0_6 : Int32) (i0_8 : Int32) (i0_10 : Int32) (i0_11 : Int32) (i0_12 : Int32) (v0_1 : Nat → Int32) (v0_2 : Nat → Int32) (v0_3 : Nat → Int32) (v0_4 : Nat → Int32) (v0_5 : Nat → Int32) (v0_7 : Nat → Int32) (v0_9 : Nat → Int32) (x1 : Int32) (res : Int32) (hf : f_X6_cellOf  v0_9 x1 = some res) : MI l D cs yX6_cellOf wsX6_cellOf rm_X6_cellOf [.ref a0, .int x1] sz (W_X6_cellOf cs a0 p0 i0_0 i0_6 i0_8 i0_10 i0_11 i0_12 v0_1 v0_2 v0_3 v0_4 v0_5 v0_7 v0_9) (W_X6_cellOf cs a0 p0 i0_0 i0_6 i0_8 i0_10 i0_11 i0_12 v0_1 v0_2 v0_3 v0_4 v0_5 v0_7 v0_9) res := by
  rw [f_X6_cellOf] at hf
  refine ow_enter (cc := cX6_cellOf) (nL := 3) (ret := (some .int)) (by decide) rfl (Nat.le_of_ble_eq_true rfl) (fun p e s m below meth c ls H locs C0 hP hD hS hA hl => ?_)
  obtain ⟨hx, hb, hr, hlk, hml, hown, hts, hK, hG, hE⟩ := id C0
  have in_X6 : ∀ w ∈ u_ws RX6 TX6 13, w ∈ wsX6_cellOf := by decide +kernel
  have hl : lv_has ls 3 [(0, .ref a0), (1, .int x1)] := hl
  refine lv_iconst (v := 5) hx hb dX6_cellOf_0 (by decide) ?_
  refine lv_iload_n hx hb dX6_cellOf_1 rfl (lv_at hl 1 rfl) ?_
  refine lv_imul hx hb dX6_cellOf_2 ?_
  refine lv_istore_n (lv' := [(2, .int (5 * x1)), (0, .ref a0), (1, .int x1)]) hx hb dX6_cellOf_3 rfl hl (by decide) rfl (fun ls hl => ?_)
  refine lv_aload_n hx hb dX6_cellOf_4 rfl (lv_at hl 1 rfl) ?_
  refine va_get (D := D) (ci := 6) (v := .ref (p0 9)) (C := RX6) (T := TX6) (N := 13) hx hb hts in_X6 hown hK hP 0 rfl rfl 9 (by decide) (hts (.fieldLink RX6 30 "PaneDays$Street" "order" "[I") (by decide +kernel)) (fun _ h9 => h9) rfl dX6_cellOf_5 ?_
  refine lv_iload_n hx hb dX6_cellOf_8 rfl (lv_at hl 0 rfl) ?_
  refine lv_iconst (v := 0) hx hb dX6_cellOf_9 (by decide) ?_
  refine lv_iadd hx hb dX6_cellOf_10 ?_
  obtain ⟨hin, hf⟩ := ck_some hf
  refine va_iald (f := v0_9) hx hb hK hP 7 0 rfl rfl hin dX6_cellOf_11 ?_
  refine lv_aload_n hx hb dX6_cellOf_12 rfl (lv_at hl 1 rfl) ?_
  refine va_get (D := D) (ci := 6) (v := .ref (p0 9)) (C := RX6) (T := TX6) (N := 13) hx hb hts in_X6 hown hK hP 0 rfl rfl 9 (by decide) (hts (.fieldLink RX6 30 "PaneDays$Street" "order" "[I") (by decide +kernel)) (fun _ h9 => h9) rfl dX6_cellOf_13 ?_
  refine lv_iload_n hx hb dX6_cellOf_16 rfl (lv_at hl 0 rfl) ?_
  refine lv_iconst (v := 1) hx hb dX6_cellOf_17 (by decide) ?_
  refine lv_iadd hx hb dX6_cellOf_18 ?_
  obtain ⟨hin, hf⟩ := ck_some hf
  refine va_iald (f := v0_9) hx hb hK hP 7 0 rfl rfl hin dX6_cellOf_19 ?_
  refine lv_aload_n hx hb dX6_cellOf_20 rfl (lv_at hl 1 rfl) ?_
  refine va_get (D := D) (ci := 6) (v := .ref (p0 9)) (C := RX6) (T := TX6) (N := 13) hx hb hts in_X6 hown hK hP 0 rfl rfl 9 (by decide) (hts (.fieldLink RX6 30 "PaneDays$Street" "order" "[I") (by decide +kernel)) (fun _ h9 => h9) rfl dX6_cellOf_21 ?_
  refine lv_iload_n hx hb dX6_cellOf_24 rfl (lv_at hl 0 rfl) ?_
  refine lv_iconst (v := 2) hx hb dX6_cellOf_25 (by decide) ?_
  refine lv_iadd hx hb dX6_cellOf_26 ?_
  obtain ⟨hin, hf⟩ := ck_some hf
  refine va_iald (f := v0_9) hx hb hK hP 7 0 rfl rfl hin dX6_cellOf_27 ?_
  obtain ⟨q28, hq, hf⟩ := bd_some hf
  refine ow_callSIN (As := [.int (v0_9 ((5 * x1) + 0).toNatClampNeg), .int (v0_9 ((5 * x1) + 1).toNatClampNeg), .int (v0_9 ((5 * x1) + 2).toNatClampNeg)]) (rest := []) (wr := ow_pk (W_X6_cellOf cs a0 p0 i0_0 i0_6 i0_8 i0_10 i0_11 i0_12 v0_1 v0_2 v0_3 v0_4 v0_5 v0_7 v0_9) [0, 1, 2, 3, 4, 5, 6, 7]) (wf := (W_X6_cellOf cs a0 p0 i0_0 i0_6 i0_8 i0_10 i0_11 i0_12 v0_1 v0_2 v0_3 v0_4 v0_5 v0_7 v0_9)) (r := q28) C0 (c_X10_cellAt l D cs H.size  (v0_9 ((5 * x1) + 0).toNatClampNeg) (v0_9 ((5 * x1) + 1).toNatClampNeg) (v0_9 ((5 * x1) + 2).toNatClampNeg) q28 hq) ⟨va_cnB (host := RX10) 3 hts gX6_cellOf_X10_cellAt_n36 rfl rfl rfl (hG.2.1 (RX6, 36, yX10_cellAt, RX10) (by decide +kernel)) (hts (.initialized RX10) (by decide +kernel)) (by decide +kernel) ⟨Nat.le_of_ble_eq_true rfl, Nat.le_of_ble_eq_true rfl⟩, hts (.static yX10_cellAt) (by decide +kernel), trivial⟩ hP hD hS (fun q h => Or.inr h) [] [0, 1, 2, 3, 4, 5, 6, 7] [0, 1, 2, 3, 4, 5, 6, 7] rfl (by decide) rfl (by decide) (by decide) rfl (by decide) rfl hl.1 rfl (Nat.le_of_ble_eq_true rfl) ⟨Nat.zero_le _, Nat.zero_le _⟩ dX6_cellOf_28 (fun H locs hP hD hS => ?_)
  obtain rfl := Option.some.inj hf
  exact ow_retI C0 hP hD hS dX6_cellOf_31
abbrev W_X6_part (cs : Nat → ClassId) (a0 : Nat) (p0 : Nat → Nat) (i0_0 : Int32) (i0_6 : Int32) (i0_8 : Int32) (i0_10 : Int32) (i0_11 : Int32) (i0_12 : Int32) (v0_1 : Nat → Int32) (v0_2 : Nat → Int32) (v0_3 : Nat → Int32) (v0_4 : Nat → Int32) (v0_5 : Nat → Int32) (v0_7 : Nat → Int32) (v0_9 : Nat → Int32) : va_W := wX6 cs a0 p0 i0_0 i0_6 i0_8 i0_10 i0_11 i0_12 v0_1 v0_2 v0_3 v0_4 v0_5 v0_7 v0_9
abbrev rm_X6_part : Room := { frames := 0, cells := 0, slots := 0, locals := 0 }
def f_X6_part  (v0_9 : Nat → Int32) (x1 : Int32) (x2 : Int32) : Option (Int32) := ck ((5 * x1) + x2) 60 (some (v0_9 ((5 * x1) + x2).toNatClampNeg))
set_option maxHeartbeats 4000000 in
set_option maxRecDepth 100000 in
theorem c_X6_part (l : Launch) (D : va_G) (cs : Nat → ClassId)  (sz : Nat) (a0 : Nat) (p0 : Nat → Nat) (i0_0 : Int32) (i0_6 : Int32) (i0_8 : Int32) (i0_10 : Int32) (i0_11 : Int32) (i0_12 : Int32) (v0_1 : Nat → Int32) (v0_2 : Nat → Int32) (v0_3 : Nat → Int32) (v0_4 : Nat → Int32) (v0_5 : Nat → Int32) (v0_7 : Nat → Int32) (v0_9 : Nat → Int32) (x1 : Int32) (x2 : Int32) (res : Int32) (hf : f_X6_part  v0_9 x1 x2 = some res) : MI l D cs yX6_part wsX6_part rm_X6_part [.ref a0, .int x1, .int x2] sz (W_X6_part cs a0 p0 i0_0 i0_6 i0_8 i0_10 i0_11 i0_12 v0_1 v0_2 v0_3 v0_4 v0_5 v0_7 v0_9) (W_X6_part cs a0 p0 i0_0 i0_6 i0_8 i0_10 i0_11 i0_12 v0_1 v0_2 v0_3 v0_4 v0_5 v0_7 v0_9) res := by
  rw [f_X6_part] at hf
  refine ow_enter (cc := cX6_part) (nL := 3) (ret := (some .int)) (by decide) rfl (Nat.le_of_ble_eq_true rfl) (fun p e s m below meth c ls H locs C0 hP hD hS hA hl => ?_)
  obtain ⟨hx, hb, hr, hlk, hml, hown, hts, hK, hG, hE⟩ := id C0
  have in_X6 : ∀ w ∈ u_ws RX6 TX6 13, w ∈ wsX6_part := by decide +kernel
  have hl : lv_has ls 3 [(0, .ref a0), (1, .int x1), (2, .int x2)] := hl
  refine lv_aload_n hx hb dX6_part_0 rfl (lv_at hl 0 rfl) ?_
  refine va_get (D := D) (ci := 6) (v := .ref (p0 9)) (C := RX6) (T := TX6) (N := 13) hx hb hts in_X6 hown hK hP 0 rfl rfl 9 (by decide) (hts (.fieldLink RX6 30 "PaneDays$Street" "order" "[I") (by decide +kernel)) (fun _ h9 => h9) rfl dX6_part_1 ?_
  refine lv_iconst (v := 5) hx hb dX6_part_4 (by decide) ?_
  refine lv_iload_n hx hb dX6_part_5 rfl (lv_at hl 1 rfl) ?_
  refine lv_imul hx hb dX6_part_6 ?_
  refine lv_iload_n hx hb dX6_part_7 rfl (lv_at hl 2 rfl) ?_
  refine lv_iadd hx hb dX6_part_8 ?_
  obtain ⟨hin, hf⟩ := ck_some hf
  refine va_iald (f := v0_9) hx hb hK hP 7 0 rfl rfl hin dX6_part_9 ?_
  obtain rfl := Option.some.inj hf
  exact ow_retI C0 hP hD hS dX6_part_10

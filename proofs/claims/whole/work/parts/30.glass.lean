abbrev wX0 (cs : Nat → ClassId) (a : Nat) (p : Nat → Nat) (i0 : Int32) (i1 : Int32) (v2 : Nat → Int32) (v3 : Nat → Int32) : va_W := [(a, .inr (0, [.int i0, .int i1, .ref (p 2), .ref (p 3)])), (p 2, .inl (cs 0, 8, .inl v2)), (p 3, .inl (cs 0, 8, .inl v3))]
abbrev wX1 (cs : Nat → ClassId) (a : Nat) (p : Nat → Nat) (i0 : Int32) (i1 : Int32) (v2 : Nat → Int32) (v3 : Nat → Int32) : va_W := [(a, .inr (1, [.int i0, .int i1, .ref (p 2), .ref (p 3)])), (p 2, .inl (cs 0, 201, .inl v2)), (p 3, .inl (cs 0, 16, .inl v3))]
abbrev wX2 (cs : Nat → ClassId) (a : Nat) (p : Nat → Nat) (i3 : Int32) (i4 : Int32) (i5 : Int32) (i6 : Int32) (i7 : Int32) (v0 : Nat → Int32) (v1 : Nat → Int32) (v2 : Nat → Int32) : va_W := [(a, .inr (2, [.ref (p 0), .ref (p 1), .ref (p 2), .int i3, .int i4, .int i5, .int i6, .int i7])), (p 0, .inl (cs 0, 2400, .inl v0)), (p 1, .inl (cs 0, 80, .inl v1)), (p 2, .inl (cs 0, 201, .inl v2))]
abbrev wX3 (cs : Nat → ClassId) (a : Nat) (p : Nat → Nat) (i2 : Int32) (v0 : Nat → Int32) (v1 : Nat → Int32) : va_W := [(a, .inr (3, [.ref (p 0), .ref (p 1), .int i2])), (p 0, .inl (cs 0, 150, .inl v0)), (p 1, .inl (cs 0, 150, .inl v1))]
abbrev wX5 (cs : Nat → ClassId) (a : Nat) (p : Nat → Nat) (i0 : Int32) (i1 : Int32) (v2 : Nat → Int32) : va_W := [(a, .inr (5, [.int i0, .int i1, .ref (p 2)])), (p 2, .inl (cs 0, 5, .inl v2))]
abbrev wX6 (cs : Nat → ClassId) (a : Nat) (p : Nat → Nat) (i0 : Int32) (i6 : Int32) (i8 : Int32) (i10 : Int32) (i11 : Int32) (i12 : Int32) (v1 : Nat → Int32) (v2 : Nat → Int32) (v3 : Nat → Int32) (v4 : Nat → Int32) (v5 : Nat → Int32) (v7 : Nat → Int32) (v9 : Nat → Int32) : va_W := [(a, .inr (6, [.int i0, .ref (p 1), .ref (p 2), .ref (p 3), .ref (p 4), .ref (p 5), .int i6, .ref (p 7), .int i8, .ref (p 9), .int i10, .int i11, .int i12])), (p 1, .inl (cs 0, 5, .inl v1)), (p 2, .inl (cs 0, 5, .inl v2)), (p 3, .inl (cs 0, 5, .inl v3)), (p 4, .inl (cs 0, 5, .inl v4)), (p 5, .inl (cs 0, 5, .inl v5)), (p 7, .inl (cs 0, 201, .inl v7)), (p 9, .inl (cs 0, 60, .inl v9))]
abbrev wX7 (cs : Nat → ClassId) (a : Nat) (p : Nat → Nat) (i1 : Int32) (i2 : Int32) (i3 : Int32) (i4 : Int32) (i5 : Int32) (i6 : Int32) (i7 : Int32) (i8 : Int32) (v0 : Nat → Int32) : va_W := [(a, .inr (7, [.ref (p 0), .int i1, .int i2, .int i3, .int i4, .int i5, .int i6, .int i7, .int i8])), (p 0, .inl (cs 1, 600, .inl v0))]
abbrev wX8 (cs : Nat → ClassId) (a : Nat) (p : Nat → Nat) (i1 : Int32) (i2 : Int32) (i3 : Int32) (v4 : Nat → Int32) (v5 : Nat → Int32) : va_W := [(a, .inr (8, [.ref (p 0), .int i1, .int i2, .int i3, .ref (p 4), .ref (p 5)])), (p 4, .inl (cs 0, 8, .inl v4)), (p 5, .inl (cs 0, 305, .inl v5))]
abbrev wX9 (cs : Nat → ClassId) (a : Nat) (p : Nat → Nat) (i9 : Int32) (i10 : Int32) (i11 : Int32) (i12 : Int32) (v0 : Nat → Int32) (v1 : Nat → Int32) (v2 : Nat → Int32) (v3 : Nat → Int32) (v4 : Nat → Int32) (v5 : Nat → Int32) (v6 : Nat → Int32) : va_W := [(a, .inr (9, [.ref (p 0), .ref (p 1), .ref (p 2), .ref (p 3), .ref (p 4), .ref (p 5), .ref (p 6), .ref (p 7), .ref (p 8), .int i9, .int i10, .int i11, .int i12])), (p 0, .inl (cs 0, 50, .inl v0)), (p 1, .inl (cs 0, 50, .inl v1)), (p 2, .inl (cs 0, 50, .inl v2)), (p 3, .inl (cs 0, 50, .inl v3)), (p 4, .inl (cs 0, 50, .inl v4)), (p 5, .inl (cs 0, 50, .inl v5)), (p 6, .inl (cs 0, 50, .inl v6))]
theorem in_X2_settle_X2 : ∀ w ∈ u_ws RX2 TX2 8, w ∈ wsX2_settle := fun w h => List.mem_cons_of_mem _ (List.mem_append_right _ h)
abbrev W_X2_settle (cs : Nat → ClassId) (a0 : Nat) (p0 : Nat → Nat) (i0_3 : Int32) (i0_4 : Int32) (i0_5 : Int32) (i0_6 : Int32) (i0_7 : Int32) (v0_0 : Nat → Int32) (v0_1 : Nat → Int32) (v0_2 : Nat → Int32) : va_W := wX2 cs a0 p0 i0_3 i0_4 i0_5 i0_6 i0_7 v0_0 v0_1 v0_2
abbrev rm_X2_settle : Room := { frames := 1, cells := 0, slots := 0, locals := 60 }
def f_X2_settle_b48  (i0_4 : Int32)  (v0_0 : Nat → Int32) (v0_1 : Nat → Int32) (x1 : Int32) (x3 : Int32) : Option ((Nat → Int32) × (Nat → Int32)) := ck x1 80 (ck (x3 + (v0_1 (x1).toNatClampNeg)) 2400 (ck x1 80 (ck x1 80 (some (upd v0_0 (x3 + (v0_1 (x1).toNatClampNeg)).toNatClampNeg i0_4, upd v0_1 (x1).toNatClampNeg ((v0_1 (x1).toNatClampNeg) + 1))))))
set_option maxHeartbeats 4000000 in
set_option maxRecDepth 100000 in
theorem w_X2_settle_b48 {p : Program} {l : Launch} {e : Env} {s : State} {m : MethodId} {below : List Frame} {meth : Method} {c : Code} {D : va_G} {cs : Nat → ClassId} {av : Array Value} {w0 : va_W} (C0 : Cx p s m meth c av wsX2_settle cX2_settle 4 none RX2 D cs w0)  (a0 : Nat) (p0 : Nat → Nat) (i0_3 : Int32) (i0_4 : Int32) (i0_5 : Int32) (i0_6 : Int32) (i0_7 : Int32) (v0_2 : Nat → Int32) (res : (Nat → Int32) × (Nat → Int32))  : ∀ (v0_0 : Nat → Int32) (v0_1 : Nat → Int32) (x1 : Int32) (x3 : Int32), f_X2_settle_b48 i0_4 v0_0 v0_1 x1 x3 = some res → ∀ (H : Heap) (locs : List Loc) (ls : Array Slot), va_P D vwCl (W_X2_settle cs a0 p0 i0_3 i0_4 i0_5 i0_6 i0_7 v0_0 v0_1 v0_2) H → va_D (va_A w0 s.heap.size) (W_X2_settle cs a0 p0 i0_3 i0_4 i0_5 i0_6 i0_7 v0_0 v0_1 v0_2) → va_S (va_A w0 s.heap.size) s.heap H locs → lv_has ls 4 [(0, .ref a0), (1, .int x1), (3, .int x3)] → W p l e rm_X2_settle s m av below meth c H locs 0 0 (MQ below (oV D cs w0 (W_X2_settle cs a0 p0 i0_3 i0_4 i0_5 i0_6 i0_7 res.1 res.2 v0_2) s.heap.size) av s 0 0 (va_A w0 s.heap.size)) (F0 m 48 ls []) := by
  obtain ⟨hx, hb, hr, hlk, hml, hown, hts, hK, hG, hE⟩ := id C0
  intro v0_0 v0_1 x1 x3 hf H locs ls hP hD hS hl
  rw [f_X2_settle_b48] at hf
  refine lv_aload_n hx hb dX2_settle_48 rfl (lv_at hl 0 rfl) ?_
  refine va_get (D := D) (ci := 2) (v := .ref (p0 0)) (C := RX2) (T := TX2) (N := 8) hx hb hts in_X2_settle_X2 hown hK hP 0 rfl rfl 0 (by decide) (hts (.fieldLink RX2 9 "PaneDays$Glass" "film" "[I") (List.mem_of_getElem? (i := 2) rfl)) (fun _ h9 => h9) rfl dX2_settle_49 ?_
  refine lv_iload_n hx hb dX2_settle_52 rfl (lv_at hl 2 rfl) ?_
  refine lv_aload_n hx hb dX2_settle_53 rfl (lv_at hl 0 rfl) ?_
  refine va_get (D := D) (ci := 2) (v := .ref (p0 1)) (C := RX2) (T := TX2) (N := 8) hx hb hts in_X2_settle_X2 hown hK hP 0 rfl rfl 1 (by decide) (hts (.fieldLink RX2 15 "PaneDays$Glass" "depth" "[I") (List.mem_of_getElem? (i := 1) rfl)) (fun _ h9 => h9) rfl dX2_settle_54 ?_
  refine lv_iload_n hx hb dX2_settle_57 rfl (lv_at hl 1 rfl) ?_
  obtain ⟨hin, hf⟩ := ck_some hf
  refine va_iald (f := v0_1) hx hb hK hP 2 0 rfl rfl hin dX2_settle_58 ?_
  refine lv_iadd hx hb dX2_settle_59 ?_
  refine lv_aload_n hx hb dX2_settle_60 rfl (lv_at hl 0 rfl) ?_
  refine va_get (D := D) (ci := 2) (v := .int i0_4) (C := RX2) (T := TX2) (N := 8) hx hb hts in_X2_settle_X2 hown hK hP 0 rfl rfl 4 (by decide) (hts (.fieldLink RX2 31 "PaneDays$Glass" "day" "I") (List.mem_of_getElem? (i := 7) rfl)) (fun _ h9 => h9) rfl dX2_settle_61 ?_
  obtain ⟨hin, hf⟩ := ck_some hf
  refine va_iast (f := v0_0) hx hb hK hP hD hS 1 0 rfl rfl hin dX2_settle_64 (fun H locs (hP : va_P D vwCl (W_X2_settle cs a0 p0 i0_3 i0_4 i0_5 i0_6 i0_7 (upd v0_0 (x3 + (v0_1 (x1).toNatClampNeg)).toNatClampNeg i0_4) v0_1 v0_2) H) (hD : va_D _ (W_X2_settle cs a0 p0 i0_3 i0_4 i0_5 i0_6 i0_7 (upd v0_0 (x3 + (v0_1 (x1).toNatClampNeg)).toNatClampNeg i0_4) v0_1 v0_2)) hS => ?_)
  refine lv_aload_n hx hb dX2_settle_65 rfl (lv_at hl 0 rfl) ?_
  refine va_get (D := D) (ci := 2) (v := .ref (p0 1)) (C := RX2) (T := TX2) (N := 8) hx hb hts in_X2_settle_X2 hown hK hP 0 rfl rfl 1 (by decide) (hts (.fieldLink RX2 15 "PaneDays$Glass" "depth" "[I") (List.mem_of_getElem? (i := 1) rfl)) (fun _ h9 => h9) rfl dX2_settle_66 ?_
  refine lv_iload_n hx hb dX2_settle_69 rfl (lv_at hl 1 rfl) ?_
  refine lv_dup2_11 hx hb dX2_settle_70 rfl rfl ?_
  obtain ⟨hin, hf⟩ := ck_some hf
  refine va_iald (f := v0_1) hx hb hK hP 2 0 rfl rfl hin dX2_settle_71 ?_
  refine lv_iconst (v := 1) hx hb dX2_settle_72 (by decide) ?_
  refine lv_iadd hx hb dX2_settle_73 ?_
  obtain ⟨hin, hf⟩ := ck_some hf
  refine va_iast (f := v0_1) hx hb hK hP hD hS 2 0 rfl rfl hin dX2_settle_74 (fun H locs (hP : va_P D vwCl (W_X2_settle cs a0 p0 i0_3 i0_4 i0_5 i0_6 i0_7 (upd v0_0 (x3 + (v0_1 (x1).toNatClampNeg)).toNatClampNeg i0_4) (upd v0_1 (x1).toNatClampNeg ((v0_1 (x1).toNatClampNeg) + 1)) v0_2) H) (hD : va_D _ (W_X2_settle cs a0 p0 i0_3 i0_4 i0_5 i0_6 i0_7 (upd v0_0 (x3 + (v0_1 (x1).toNatClampNeg)).toNatClampNeg i0_4) (upd v0_1 (x1).toNatClampNeg ((v0_1 (x1).toNatClampNeg) + 1)) v0_2)) hS => ?_)
  obtain rfl := Option.some.inj hf
  exact ow_retV C0 hP hD hS dX2_settle_75
def f_X2_settle  (i0_4 : Int32) (v0_0 : Nat → Int32) (v0_1 : Nat → Int32) (x1 : Int32) (x2 : Int32) : Option ((Nat → Int32) × (Nat → Int32)) := ck x1 80 (if (v0_1 (x1).toNatClampNeg) < x2 then (f_X2_settle_b48 i0_4 v0_0 v0_1 x1 (30 * x1)) else (ck x1 80 (cy ((30 * x1) + 1 : Int32) (30 * x1 : Int32) ((v0_1 (x1).toNatClampNeg) - 1 : Int32) 2400 2400 (ck x1 80 (ck x1 80 (f_X2_settle_b48 i0_4 (va_cpy v0_0 v0_0 ((30 * x1) + 1 : Int32).toNatClampNeg (30 * x1 : Int32).toNatClampNeg ((v0_1 (x1).toNatClampNeg) - 1 : Int32).toNatClampNeg) (upd v0_1 (x1).toNatClampNeg ((v0_1 (x1).toNatClampNeg) - 1)) x1 (30 * x1)))))))
set_option maxHeartbeats 4000000 in
set_option maxRecDepth 100000 in
theorem c_X2_settle (l : Launch) (D : va_G) (cs : Nat → ClassId)  (sz : Nat) (a0 : Nat) (p0 : Nat → Nat) (i0_3 : Int32) (i0_4 : Int32) (i0_5 : Int32) (i0_6 : Int32) (i0_7 : Int32) (v0_0 : Nat → Int32) (v0_1 : Nat → Int32) (v0_2 : Nat → Int32) (x1 : Int32) (x2 : Int32) (res : (Nat → Int32) × (Nat → Int32)) (hf : f_X2_settle  i0_4 v0_0 v0_1 x1 x2 = some res) : MV l D cs yX2_settle wsX2_settle rm_X2_settle [.ref a0, .int x1, .int x2] sz (W_X2_settle cs a0 p0 i0_3 i0_4 i0_5 i0_6 i0_7 v0_0 v0_1 v0_2) (W_X2_settle cs a0 p0 i0_3 i0_4 i0_5 i0_6 i0_7 res.1 res.2 v0_2) := by
  rw [f_X2_settle] at hf
  refine ow_enter (cc := cX2_settle) (nL := 4) (ret := none) (by decide) rfl (Nat.le_of_ble_eq_true rfl) (fun p e s m below meth c ls H locs C0 hP hD hS hA hl => ?_)
  obtain ⟨hx, hb, hr, hlk, hml, hown, hts, hK, hG, hE⟩ := id C0
  have hl : lv_has ls 4 [(0, .ref a0), (1, .int x1), (2, .int x2)] := hl
  refine lv_bipush (v := 30) hx hb dX2_settle_0 (by decide) ?_
  refine lv_iload_n hx hb dX2_settle_2 rfl (lv_at hl 1 rfl) ?_
  refine lv_imul hx hb dX2_settle_3 ?_
  refine lv_istore_n (lv' := [(3, .int (30 * x1)), (0, .ref a0), (1, .int x1), (2, .int x2)]) hx hb dX2_settle_4 rfl hl (by decide) rfl (fun ls hl => ?_)
  refine lv_aload_n hx hb dX2_settle_5 rfl (lv_at hl 1 rfl) ?_
  refine va_get (D := D) (ci := 2) (v := .ref (p0 1)) (C := RX2) (T := TX2) (N := 8) hx hb hts in_X2_settle_X2 hown hK hP 0 rfl rfl 1 (by decide) (hts (.fieldLink RX2 15 "PaneDays$Glass" "depth" "[I") (List.mem_of_getElem? (i := 1) rfl)) (fun _ h9 => h9) rfl dX2_settle_6 ?_
  refine lv_iload_n hx hb dX2_settle_9 rfl (lv_at hl 2 rfl) ?_
  obtain ⟨hin, hf⟩ := ck_some hf
  refine va_iald (f := v0_1) hx hb hK hP 2 0 rfl rfl hin dX2_settle_10 ?_
  refine lv_iload_n hx hb dX2_settle_11 rfl (lv_at hl 3 rfl) ?_
  refine lv_icmp_lt (tgt := 48) hx hb dX2_settle_12 (by decide) (fun hc => ?_) (fun hc => ?_)
  · replace hf := ow_t hc hf
    exact w_X2_settle_b48 C0 a0 p0 i0_3 i0_4 i0_5 i0_6 i0_7 v0_2 res v0_0 v0_1 x1 (30 * x1) hf _ _ _ hP hD hS (lv_sub hl [1, 2, 0] rfl)
  · replace hf := ow_f hc hf
    refine lv_aload_n hx hb dX2_settle_15 rfl (lv_at hl 1 rfl) ?_
    refine va_get (D := D) (ci := 2) (v := .ref (p0 0)) (C := RX2) (T := TX2) (N := 8) hx hb hts in_X2_settle_X2 hown hK hP 0 rfl rfl 0 (by decide) (hts (.fieldLink RX2 9 "PaneDays$Glass" "film" "[I") (List.mem_of_getElem? (i := 2) rfl)) (fun _ h9 => h9) rfl dX2_settle_16 ?_
    refine lv_iload_n hx hb dX2_settle_19 rfl (lv_at hl 0 rfl) ?_
    refine lv_iconst (v := 1) hx hb dX2_settle_20 (by decide) ?_
    refine lv_iadd hx hb dX2_settle_21 ?_
    refine lv_aload_n hx hb dX2_settle_22 rfl (lv_at hl 1 rfl) ?_
    refine va_get (D := D) (ci := 2) (v := .ref (p0 0)) (C := RX2) (T := TX2) (N := 8) hx hb hts in_X2_settle_X2 hown hK hP 0 rfl rfl 0 (by decide) (hts (.fieldLink RX2 9 "PaneDays$Glass" "film" "[I") (List.mem_of_getElem? (i := 2) rfl)) (fun _ h9 => h9) rfl dX2_settle_23 ?_
    refine lv_iload_n hx hb dX2_settle_26 rfl (lv_at hl 0 rfl) ?_
    refine lv_aload_n hx hb dX2_settle_27 rfl (lv_at hl 1 rfl) ?_
    refine va_get (D := D) (ci := 2) (v := .ref (p0 1)) (C := RX2) (T := TX2) (N := 8) hx hb hts in_X2_settle_X2 hown hK hP 0 rfl rfl 1 (by decide) (hts (.fieldLink RX2 15 "PaneDays$Glass" "depth" "[I") (List.mem_of_getElem? (i := 1) rfl)) (fun _ h9 => h9) rfl dX2_settle_28 ?_
    refine lv_iload_n hx hb dX2_settle_31 rfl (lv_at hl 2 rfl) ?_
    obtain ⟨hin, hf⟩ := ck_some hf
    refine va_iald (f := v0_1) hx hb hK hP 2 0 rfl rfl hin dX2_settle_32 ?_
    refine lv_iconst (v := 1) hx hb dX2_settle_33 (by decide) ?_
    refine lv_isub hx hb dX2_settle_34 ?_
    obtain ⟨⟨hc1, hc2, hc3, hc4, hc5⟩, hf⟩ := cy_some hf
    refine va_copyi (f := v0_0) (g := v0_0) (ty := .int) hx hb (hml.trans hl.1.symm) hown (hts (.methodLink RX2 43 arraycopyName) (by decide +kernel)) (hts (.native arraycopyName) (by decide +kernel)) (hts (.static arraycopyName) (by decide +kernel)) (hts (.initialized "java/lang/System") (by decide +kernel)) hK hP hD hS 1 1 0 0 rfl rfl rfl rfl rfl hc1 hc2 hc3 hc4 hc5 (fun _ _ => rfl) (Nat.le_of_ble_eq_true rfl) (Nat.le_of_ble_eq_true rfl) dX2_settle_35 (fun H locs (hP : va_P D vwCl (W_X2_settle cs a0 p0 i0_3 i0_4 i0_5 i0_6 i0_7 (va_cpy v0_0 v0_0 ((30 * x1) + 1 : Int32).toNatClampNeg (30 * x1 : Int32).toNatClampNeg ((v0_1 (x1).toNatClampNeg) - 1 : Int32).toNatClampNeg) v0_1 v0_2) H) (hD : va_D _ (W_X2_settle cs a0 p0 i0_3 i0_4 i0_5 i0_6 i0_7 (va_cpy v0_0 v0_0 ((30 * x1) + 1 : Int32).toNatClampNeg (30 * x1 : Int32).toNatClampNeg ((v0_1 (x1).toNatClampNeg) - 1 : Int32).toNatClampNeg) v0_1 v0_2)) hS => ?_)
    refine lv_aload_n hx hb dX2_settle_38 rfl (lv_at hl 1 rfl) ?_
    refine va_get (D := D) (ci := 2) (v := .ref (p0 1)) (C := RX2) (T := TX2) (N := 8) hx hb hts in_X2_settle_X2 hown hK hP 0 rfl rfl 1 (by decide) (hts (.fieldLink RX2 15 "PaneDays$Glass" "depth" "[I") (List.mem_of_getElem? (i := 1) rfl)) (fun _ h9 => h9) rfl dX2_settle_39 ?_
    refine lv_iload_n hx hb dX2_settle_42 rfl (lv_at hl 2 rfl) ?_
    refine lv_dup2_11 hx hb dX2_settle_43 rfl rfl ?_
    obtain ⟨hin, hf⟩ := ck_some hf
    refine va_iald (f := v0_1) hx hb hK hP 2 0 rfl rfl hin dX2_settle_44 ?_
    refine lv_iconst (v := 1) hx hb dX2_settle_45 (by decide) ?_
    refine lv_isub hx hb dX2_settle_46 ?_
    obtain ⟨hin, hf⟩ := ck_some hf
    refine va_iast (f := v0_1) hx hb hK hP hD hS 2 0 rfl rfl hin dX2_settle_47 (fun H locs (hP : va_P D vwCl (W_X2_settle cs a0 p0 i0_3 i0_4 i0_5 i0_6 i0_7 (va_cpy v0_0 v0_0 ((30 * x1) + 1 : Int32).toNatClampNeg (30 * x1 : Int32).toNatClampNeg ((v0_1 (x1).toNatClampNeg) - 1 : Int32).toNatClampNeg) (upd v0_1 (x1).toNatClampNeg ((v0_1 (x1).toNatClampNeg) - 1)) v0_2) H) (hD : va_D _ (W_X2_settle cs a0 p0 i0_3 i0_4 i0_5 i0_6 i0_7 (va_cpy v0_0 v0_0 ((30 * x1) + 1 : Int32).toNatClampNeg (30 * x1 : Int32).toNatClampNeg ((v0_1 (x1).toNatClampNeg) - 1 : Int32).toNatClampNeg) (upd v0_1 (x1).toNatClampNeg ((v0_1 (x1).toNatClampNeg) - 1)) v0_2)) hS => ?_)
    exact w_X2_settle_b48 C0 a0 p0 i0_3 i0_4 i0_5 i0_6 i0_7 v0_2 res (va_cpy v0_0 v0_0 ((30 * x1) + 1 : Int32).toNatClampNeg (30 * x1 : Int32).toNatClampNeg ((v0_1 (x1).toNatClampNeg) - 1 : Int32).toNatClampNeg) (upd v0_1 (x1).toNatClampNeg ((v0_1 (x1).toNatClampNeg) - 1)) x1 (30 * x1) hf _ _ _ hP hD hS (lv_sub hl [1, 2, 0] rfl)
theorem in_X2_wash_X2 : ∀ w ∈ u_ws RX2 TX2 8, w ∈ wsX2_wash := fun w h => List.mem_cons_of_mem _ (List.mem_append_right _ h)
abbrev W_X2_wash (cs : Nat → ClassId) (a0 : Nat) (p0 : Nat → Nat) (i0_3 : Int32) (i0_4 : Int32) (i0_5 : Int32) (i0_6 : Int32) (i0_7 : Int32) (v0_0 : Nat → Int32) (v0_1 : Nat → Int32) (v0_2 : Nat → Int32) : va_W := wX2 cs a0 p0 i0_3 i0_4 i0_5 i0_6 i0_7 v0_0 v0_1 v0_2
abbrev rm_X2_wash : Room := { frames := 1, cells := 0, slots := 0, locals := 21 }
def f_X2_wash_b8    : Nat → (Nat → Int32) → Int32 → Int32 → Int32 → Int32 → Option (Int32 × (Nat → Int32))
  | 0, _, _, _, _, _ => none
  | n + 1, v0_1, x1, x2, x3, x4 => if ((16 * x1) + 16) ≤ x4 then (some (x3, v0_1)) else (ck x4 80 (ck x4 80 (ck x4 80 (f_X2_wash_b8 n (upd v0_1 (x4).toNatClampNeg ((v0_1 (x4).toNatClampNeg) - (if (v0_1 (x4).toNatClampNeg) < x2 then (v0_1 (x4).toNatClampNeg) else x2))) x1 x2 (x3 + (if (v0_1 (x4).toNatClampNeg) < x2 then (v0_1 (x4).toNatClampNeg) else x2)) (x4 + 1)))))
set_option maxHeartbeats 4000000 in
set_option maxRecDepth 100000 in
theorem w_X2_wash_b8 {p : Program} {l : Launch} {e : Env} {s : State} {m : MethodId} {below : List Frame} {meth : Method} {c : Code} {D : va_G} {cs : Nat → ClassId} {av : Array Value} {w0 : va_W} (C0 : Cx p s m meth c av wsX2_wash cX2_wash 6 (some .int) RX2 D cs w0)  (a0 : Nat) (p0 : Nat → Nat) (i0_3 : Int32) (i0_4 : Int32) (i0_5 : Int32) (i0_6 : Int32) (i0_7 : Int32) (v0_0 : Nat → Int32) (v0_2 : Nat → Int32) (res : Int32 × (Nat → Int32))  : ∀ (n : Nat) (v0_1 : Nat → Int32) (x1 : Int32) (x2 : Int32) (x3 : Int32) (x4 : Int32), f_X2_wash_b8 n v0_1 x1 x2 x3 x4 = some res → ∀ (H : Heap) (locs : List Loc) (ls : Array Slot), va_P D vwCl (W_X2_wash cs a0 p0 i0_3 i0_4 i0_5 i0_6 i0_7 v0_0 v0_1 v0_2) H → va_D (va_A w0 s.heap.size) (W_X2_wash cs a0 p0 i0_3 i0_4 i0_5 i0_6 i0_7 v0_0 v0_1 v0_2) → va_S (va_A w0 s.heap.size) s.heap H locs → lv_has ls 6 [(0, .ref a0), (1, .int x1), (2, .int x2), (3, .int x3), (4, .int x4)] → W p l e rm_X2_wash s m av below meth c H locs 0 0 (MQ below (oI D cs w0 (W_X2_wash cs a0 p0 i0_3 i0_4 i0_5 i0_6 i0_7 v0_0 res.2 v0_2) res.1 s.heap.size) av s 0 0 (va_A w0 s.heap.size)) (F0 m 8 ls []) := by
  obtain ⟨hx, hb, hr, hlk, hml, hown, hts, hK, hG, hE⟩ := id C0
  intro n
  induction n with
  | zero =>
    intro v0_1 x1 x2 x3 x4 hf
    rw [f_X2_wash_b8] at hf
    cases hf
  | succ n ih =>
    intro v0_1 x1 x2 x3 x4 hf H locs ls hP hD hS hl
    rw [f_X2_wash_b8] at hf
    refine lv_iload hx hb dX2_wash_8 (lv_at hl 4 rfl) ?_
    refine lv_bipush (v := 16) hx hb dX2_wash_10 (by decide) ?_
    refine lv_iload_n hx hb dX2_wash_12 rfl (lv_at hl 1 rfl) ?_
    refine lv_imul hx hb dX2_wash_13 ?_
    refine lv_bipush (v := 16) hx hb dX2_wash_14 (by decide) ?_
    refine lv_iadd hx hb dX2_wash_16 ?_
    refine lv_icmp_ge (tgt := 56) hx hb dX2_wash_17 (by decide) (fun hc => ?_) (fun hc => ?_)
    · replace hf := ow_t hc hf
      refine lv_iload_n hx hb dX2_wash_56 rfl (lv_at hl 3 rfl) ?_
      obtain rfl := Option.some.inj hf
      exact ow_retI C0 hP hD hS dX2_wash_57
    · replace hf := ow_f hc hf
      refine lv_iload_n hx hb dX2_wash_20 rfl (lv_at hl 2 rfl) ?_
      refine lv_aload_n hx hb dX2_wash_21 rfl (lv_at hl 0 rfl) ?_
      refine va_get (D := D) (ci := 2) (v := .ref (p0 1)) (C := RX2) (T := TX2) (N := 8) hx hb hts in_X2_wash_X2 hown hK hP 0 rfl rfl 1 (by decide) (hts (.fieldLink RX2 15 "PaneDays$Glass" "depth" "[I") (List.mem_of_getElem? (i := 1) rfl)) (fun _ h9 => h9) rfl dX2_wash_22 ?_
      refine lv_iload hx hb dX2_wash_25 (lv_at hl 4 rfl) ?_
      obtain ⟨hin, hf⟩ := ck_some hf
      refine va_iald (f := v0_1) hx hb hK hP 2 0 rfl rfl hin dX2_wash_27 ?_
      refine va_mmin hx hb (hml.trans hl.1.symm) hown (hts (.methodLink RX2 60 Lib.Math.min.name) (by decide +kernel)) (hts (.static Lib.Math.min.name) (by decide +kernel)) (hts (.initialized "java/lang/Math") (by decide +kernel)) (hts (.code Lib.Math.min.name Lib.Math.min.code 2 (some .int)) (by decide +kernel)) (Nat.le_of_ble_eq_true rfl) (Nat.le_of_ble_eq_true rfl) (Nat.zero_le _) (Nat.zero_le _) dX2_wash_28 ?_
      refine lv_istore (lv' := [(5, .int (if (v0_1 (x4).toNatClampNeg) < x2 then (v0_1 (x4).toNatClampNeg) else x2)), (0, .ref a0), (1, .int x1), (2, .int x2), (3, .int x3), (4, .int x4)]) hx hb dX2_wash_31 hl (by decide) rfl (fun ls hl => ?_)
      refine lv_aload_n hx hb dX2_wash_33 rfl (lv_at hl 1 rfl) ?_
      refine va_get (D := D) (ci := 2) (v := .ref (p0 1)) (C := RX2) (T := TX2) (N := 8) hx hb hts in_X2_wash_X2 hown hK hP 0 rfl rfl 1 (by decide) (hts (.fieldLink RX2 15 "PaneDays$Glass" "depth" "[I") (List.mem_of_getElem? (i := 1) rfl)) (fun _ h9 => h9) rfl dX2_wash_34 ?_
      refine lv_iload hx hb dX2_wash_37 (lv_at hl 5 rfl) ?_
      refine lv_dup2_11 hx hb dX2_wash_39 rfl rfl ?_
      obtain ⟨hin, hf⟩ := ck_some hf
      refine va_iald (f := v0_1) hx hb hK hP 2 0 rfl rfl hin dX2_wash_40 ?_
      refine lv_iload hx hb dX2_wash_41 (lv_at hl 0 rfl) ?_
      refine lv_isub hx hb dX2_wash_43 ?_
      obtain ⟨hin, hf⟩ := ck_some hf
      refine va_iast (f := v0_1) hx hb hK hP hD hS 2 0 rfl rfl hin dX2_wash_44 (fun H locs (hP : va_P D vwCl (W_X2_wash cs a0 p0 i0_3 i0_4 i0_5 i0_6 i0_7 v0_0 (upd v0_1 (x4).toNatClampNeg ((v0_1 (x4).toNatClampNeg) - (if (v0_1 (x4).toNatClampNeg) < x2 then (v0_1 (x4).toNatClampNeg) else x2))) v0_2) H) (hD : va_D _ (W_X2_wash cs a0 p0 i0_3 i0_4 i0_5 i0_6 i0_7 v0_0 (upd v0_1 (x4).toNatClampNeg ((v0_1 (x4).toNatClampNeg) - (if (v0_1 (x4).toNatClampNeg) < x2 then (v0_1 (x4).toNatClampNeg) else x2))) v0_2)) hS => ?_)
      refine lv_iload_n hx hb dX2_wash_45 rfl (lv_at hl 4 rfl) ?_
      refine lv_iload hx hb dX2_wash_46 (lv_at hl 0 rfl) ?_
      refine lv_iadd hx hb dX2_wash_48 ?_
      refine lv_istore_n (lv' := [(3, .int (x3 + (if (v0_1 (x4).toNatClampNeg) < x2 then (v0_1 (x4).toNatClampNeg) else x2))), (5, .int (if (v0_1 (x4).toNatClampNeg) < x2 then (v0_1 (x4).toNatClampNeg) else x2)), (0, .ref a0), (1, .int x1), (2, .int x2), (4, .int x4)]) hx hb dX2_wash_49 rfl hl (by decide) rfl (fun ls hl => ?_)
      refine lv_iinc (v := x4 + 1) (lv' := [(4, .int (x4 + 1)), (3, .int (x3 + (if (v0_1 (x4).toNatClampNeg) < x2 then (v0_1 (x4).toNatClampNeg) else x2))), (5, .int (if (v0_1 (x4).toNatClampNeg) < x2 then (v0_1 (x4).toNatClampNeg) else x2)), (0, .ref a0), (1, .int x1), (2, .int x2)]) hx hb dX2_wash_50 hl (k := 5) rfl (ow_inc (by decide)) (by decide) rfl (fun ls hl => ?_)
      refine lv_goto (tgt := 8) hx hb dX2_wash_53 (by decide) ?_
      exact ih (upd v0_1 (x4).toNatClampNeg ((v0_1 (x4).toNatClampNeg) - (if (v0_1 (x4).toNatClampNeg) < x2 then (v0_1 (x4).toNatClampNeg) else x2))) x1 x2 (x3 + (if (v0_1 (x4).toNatClampNeg) < x2 then (v0_1 (x4).toNatClampNeg) else x2)) (x4 + 1) hf _ _ _ hP hD hS (lv_sub hl [3, 4, 5, 1, 0] rfl)
def f_X2_wash  (v0_1 : Nat → Int32) (x1 : Int32) (x2 : Int32) : Option (Int32 × (Nat → Int32)) := f_X2_wash_b8 4000 v0_1 x1 x2 (0) (16 * x1)
set_option maxHeartbeats 4000000 in
set_option maxRecDepth 100000 in
theorem c_X2_wash (l : Launch) (D : va_G) (cs : Nat → ClassId)  (sz : Nat) (a0 : Nat) (p0 : Nat → Nat) (i0_3 : Int32) (i0_4 : Int32) (i0_5 : Int32) (i0_6 : Int32) (i0_7 : Int32) (v0_0 : Nat → Int32) (v0_1 : Nat → Int32) (v0_2 : Nat → Int32) (x1 : Int32) (x2 : Int32) (res : Int32 × (Nat → Int32)) (hf : f_X2_wash  v0_1 x1 x2 = some res) : MI l D cs yX2_wash wsX2_wash rm_X2_wash [.ref a0, .int x1, .int x2] sz (W_X2_wash cs a0 p0 i0_3 i0_4 i0_5 i0_6 i0_7 v0_0 v0_1 v0_2) (W_X2_wash cs a0 p0 i0_3 i0_4 i0_5 i0_6 i0_7 v0_0 res.2 v0_2) res.1 := by
  rw [f_X2_wash] at hf
  refine ow_enter (cc := cX2_wash) (nL := 6) (ret := (some .int)) (by decide) rfl (Nat.le_of_ble_eq_true rfl) (fun p e s m below meth c ls H locs C0 hP hD hS hA hl => ?_)
  obtain ⟨hx, hb, hr, hlk, hml, hown, hts, hK, hG, hE⟩ := id C0
  have hl : lv_has ls 6 [(0, .ref a0), (1, .int x1), (2, .int x2)] := hl
  refine lv_iconst (v := 0) hx hb dX2_wash_0 (by decide) ?_
  refine lv_istore_n (lv' := [(3, .int 0), (0, .ref a0), (1, .int x1), (2, .int x2)]) hx hb dX2_wash_1 rfl hl (by decide) rfl (fun ls hl => ?_)
  refine lv_bipush (v := 16) hx hb dX2_wash_2 (by decide) ?_
  refine lv_iload_n hx hb dX2_wash_4 rfl (lv_at hl 2 rfl) ?_
  refine lv_imul hx hb dX2_wash_5 ?_
  refine lv_istore (lv' := [(4, .int (16 * x1)), (3, .int 0), (0, .ref a0), (1, .int x1), (2, .int x2)]) hx hb dX2_wash_6 hl (by decide) rfl (fun ls hl => ?_)
  exact w_X2_wash_b8 C0 a0 p0 i0_3 i0_4 i0_5 i0_6 i0_7 v0_0 v0_2 res 4000 v0_1 x1 x2 (0) (16 * x1) hf _ _ _ hP hD hS (lv_sub hl [2, 3, 4, 1, 0] rfl)
theorem in_X2_isBroken_X2 : ∀ w ∈ u_ws RX2 TX2 8, w ∈ wsX2_isBroken := fun w h => List.mem_cons_of_mem _ (List.mem_append_right _ h)
abbrev W_X2_isBroken (cs : Nat → ClassId) (a0 : Nat) (p0 : Nat → Nat) (i0_3 : Int32) (i0_4 : Int32) (i0_5 : Int32) (i0_6 : Int32) (i0_7 : Int32) (v0_0 : Nat → Int32) (v0_1 : Nat → Int32) (v0_2 : Nat → Int32) : va_W := wX2 cs a0 p0 i0_3 i0_4 i0_5 i0_6 i0_7 v0_0 v0_1 v0_2
abbrev rm_X2_isBroken : Room := { frames := 0, cells := 0, slots := 0, locals := 0 }
def f_X2_isBroken  (i0_6 : Int32) (x1 : Int32) : Option (Int32) := if ((i0_6 >>> (x1 &&& 31)) &&& 1) = 1 then (some (1)) else (some (0))
set_option maxHeartbeats 4000000 in
set_option maxRecDepth 100000 in
theorem c_X2_isBroken (l : Launch) (D : va_G) (cs : Nat → ClassId)  (sz : Nat) (a0 : Nat) (p0 : Nat → Nat) (i0_3 : Int32) (i0_4 : Int32) (i0_5 : Int32) (i0_6 : Int32) (i0_7 : Int32) (v0_0 : Nat → Int32) (v0_1 : Nat → Int32) (v0_2 : Nat → Int32) (x1 : Int32) (res : Int32) (hf : f_X2_isBroken  i0_6 x1 = some res) : MI l D cs yX2_isBroken wsX2_isBroken rm_X2_isBroken [.ref a0, .int x1] sz (W_X2_isBroken cs a0 p0 i0_3 i0_4 i0_5 i0_6 i0_7 v0_0 v0_1 v0_2) (W_X2_isBroken cs a0 p0 i0_3 i0_4 i0_5 i0_6 i0_7 v0_0 v0_1 v0_2) res := by
  rw [f_X2_isBroken] at hf
  refine ow_enter (cc := cX2_isBroken) (nL := 2) (ret := (some .boolean)) (by decide) rfl (Nat.le_of_ble_eq_true rfl) (fun p e s m below meth c ls H locs C0 hP hD hS hA hl => ?_)
  obtain ⟨hx, hb, hr, hlk, hml, hown, hts, hK, hG, hE⟩ := id C0
  have hl : lv_has ls 2 [(0, .ref a0), (1, .int x1)] := hl
  refine lv_aload_n hx hb dX2_isBroken_0 rfl (lv_at hl 0 rfl) ?_
  refine va_get (D := D) (ci := 2) (v := .int i0_6) (C := RX2) (T := TX2) (N := 8) hx hb hts in_X2_isBroken_X2 hown hK hP 0 rfl rfl 6 (by decide) (hts (.fieldLink RX2 37 "PaneDays$Glass" "broken" "I") (List.mem_of_getElem? (i := 1) rfl)) (fun _ h9 => h9) rfl dX2_isBroken_1 ?_
  refine lv_iload_n hx hb dX2_isBroken_4 rfl (lv_at hl 1 rfl) ?_
  refine lv_ishr hx hb dX2_isBroken_5 ?_
  refine lv_iconst (v := 1) hx hb dX2_isBroken_6 (by decide) ?_
  refine lv_iand hx hb dX2_isBroken_7 ?_
  refine lv_iconst (v := 1) hx hb dX2_isBroken_8 (by decide) ?_
  refine lv_icmp_ne (tgt := 16) hx hb dX2_isBroken_9 (by decide) (fun hc => ?_) (fun hc => ?_)
  · replace hf := ow_f hc hf
    refine lv_iconst (v := 0) hx hb dX2_isBroken_16 (by decide) ?_
    obtain rfl := Option.some.inj hf
    exact ow_retZ C0 (Or.inl rfl) hP hD hS dX2_isBroken_17
  · replace hf := ow_t hc hf
    refine lv_iconst (v := 1) hx hb dX2_isBroken_12 (by decide) ?_
    refine lv_goto (tgt := 17) hx hb dX2_isBroken_13 (by decide) ?_
    obtain rfl := Option.some.inj hf
    exact ow_retZ C0 (Or.inr rfl) hP hD hS dX2_isBroken_17
theorem in_X2_smash_X2 : ∀ w ∈ u_ws RX2 TX2 8, w ∈ wsX2_smash := fun w h => List.mem_cons_of_mem _ (List.mem_append_right _ h)
abbrev W_X2_smash (cs : Nat → ClassId) (a0 : Nat) (p0 : Nat → Nat) (i0_3 : Int32) (i0_4 : Int32) (i0_5 : Int32) (i0_6 : Int32) (i0_7 : Int32) (v0_0 : Nat → Int32) (v0_1 : Nat → Int32) (v0_2 : Nat → Int32) : va_W := wX2 cs a0 p0 i0_3 i0_4 i0_5 i0_6 i0_7 v0_0 v0_1 v0_2
abbrev rm_X2_smash : Room := { frames := 1, cells := 0, slots := 0, locals := 21 }
def f_X2_smash_b24    : Nat → (Int32) → (Nat → Int32) → Int32 → Int32 → Option (Int32 × Int32 × (Nat → Int32))
  | 0, _, _, _, _ => none
  | n + 1, i0_6, v0_1, x1, x2 => if 16 ≤ x2 then (some (1, i0_6, v0_1)) else (ck ((16 * x1) + x2) 80 (f_X2_smash_b24 n i0_6 (upd v0_1 ((16 * x1) + x2).toNatClampNeg (0)) x1 (x2 + 1)))
set_option maxHeartbeats 4000000 in
set_option maxRecDepth 100000 in
theorem w_X2_smash_b24 {p : Program} {l : Launch} {e : Env} {s : State} {m : MethodId} {below : List Frame} {meth : Method} {c : Code} {D : va_G} {cs : Nat → ClassId} {av : Array Value} {w0 : va_W} (C0 : Cx p s m meth c av wsX2_smash cX2_smash 3 (some .boolean) RX2 D cs w0)  (a0 : Nat) (p0 : Nat → Nat) (i0_3 : Int32) (i0_4 : Int32) (i0_5 : Int32) (i0_7 : Int32) (v0_0 : Nat → Int32) (v0_2 : Nat → Int32) (res : Int32 × Int32 × (Nat → Int32))  : ∀ (n : Nat) (i0_6 : Int32) (v0_1 : Nat → Int32) (x1 : Int32) (x2 : Int32), f_X2_smash_b24 n i0_6 v0_1 x1 x2 = some res → ∀ (H : Heap) (locs : List Loc) (ls : Array Slot), va_P D vwCl (W_X2_smash cs a0 p0 i0_3 i0_4 i0_5 i0_6 i0_7 v0_0 v0_1 v0_2) H → va_D (va_A w0 s.heap.size) (W_X2_smash cs a0 p0 i0_3 i0_4 i0_5 i0_6 i0_7 v0_0 v0_1 v0_2) → va_S (va_A w0 s.heap.size) s.heap H locs → lv_has ls 3 [(0, .ref a0), (1, .int x1), (2, .int x2)] → W p l e rm_X2_smash s m av below meth c H locs 0 0 (MQ below (oI D cs w0 (W_X2_smash cs a0 p0 i0_3 i0_4 i0_5 res.2.1 i0_7 v0_0 res.2.2 v0_2) res.1 s.heap.size) av s 0 0 (va_A w0 s.heap.size)) (F0 m 24 ls []) := by
  obtain ⟨hx, hb, hr, hlk, hml, hown, hts, hK, hG, hE⟩ := id C0
  intro n
  induction n with
  | zero =>
    intro i0_6 v0_1 x1 x2 hf
    rw [f_X2_smash_b24] at hf
    cases hf
  | succ n ih =>
    intro i0_6 v0_1 x1 x2 hf H locs ls hP hD hS hl
    rw [f_X2_smash_b24] at hf
    refine lv_iload_n hx hb dX2_smash_24 rfl (lv_at hl 2 rfl) ?_
    refine lv_bipush (v := 16) hx hb dX2_smash_25 (by decide) ?_
    refine lv_icmp_ge (tgt := 48) hx hb dX2_smash_27 (by decide) (fun hc => ?_) (fun hc => ?_)
    · replace hf := ow_t hc hf
      refine lv_iconst (v := 1) hx hb dX2_smash_48 (by decide) ?_
      obtain rfl := Option.some.inj hf
      exact ow_retZ C0 (Or.inr rfl) hP hD hS dX2_smash_49
    · replace hf := ow_f hc hf
      refine lv_aload_n hx hb dX2_smash_30 rfl (lv_at hl 0 rfl) ?_
      refine va_get (D := D) (ci := 2) (v := .ref (p0 1)) (C := RX2) (T := TX2) (N := 8) hx hb hts in_X2_smash_X2 hown hK hP 0 rfl rfl 1 (by decide) (hts (.fieldLink RX2 15 "PaneDays$Glass" "depth" "[I") (List.mem_of_getElem? (i := 2) rfl)) (fun _ h9 => h9) rfl dX2_smash_31 ?_
      refine lv_bipush (v := 16) hx hb dX2_smash_34 (by decide) ?_
      refine lv_iload_n hx hb dX2_smash_36 rfl (lv_at hl 1 rfl) ?_
      refine lv_imul hx hb dX2_smash_37 ?_
      refine lv_iload_n hx hb dX2_smash_38 rfl (lv_at hl 2 rfl) ?_
      refine lv_iadd hx hb dX2_smash_39 ?_
      refine lv_iconst (v := 0) hx hb dX2_smash_40 (by decide) ?_
      obtain ⟨hin, hf⟩ := ck_some hf
      refine va_iast (f := v0_1) hx hb hK hP hD hS 2 0 rfl rfl hin dX2_smash_41 (fun H locs (hP : va_P D vwCl (W_X2_smash cs a0 p0 i0_3 i0_4 i0_5 i0_6 i0_7 v0_0 (upd v0_1 ((16 * x1) + x2).toNatClampNeg (0)) v0_2) H) (hD : va_D _ (W_X2_smash cs a0 p0 i0_3 i0_4 i0_5 i0_6 i0_7 v0_0 (upd v0_1 ((16 * x1) + x2).toNatClampNeg (0)) v0_2)) hS => ?_)
      refine lv_iinc (v := x2 + 1) (lv' := [(2, .int (x2 + 1)), (0, .ref a0), (1, .int x1)]) hx hb dX2_smash_42 hl (k := 2) rfl (ow_inc (by decide)) (by decide) rfl (fun ls hl => ?_)
      refine lv_goto (tgt := 24) hx hb dX2_smash_45 (by decide) ?_
      exact ih i0_6 (upd v0_1 ((16 * x1) + x2).toNatClampNeg (0)) x1 (x2 + 1) hf _ _ _ hP hD hS (lv_sub hl [1, 2, 0] rfl)
def f_X2_smash  (i0_6 : Int32) (v0_1 : Nat → Int32) (x1 : Int32) : Option (Int32 × Int32 × (Nat → Int32)) := (f_X2_isBroken i0_6 x1).bind fun q2 => if q2 = 0 then (f_X2_smash_b24 4000 (i0_6 ||| (((1 : Int32)) <<< (x1 &&& 31))) v0_1 x1 (0)) else (some (0, i0_6, v0_1))
set_option maxHeartbeats 4000000 in
set_option maxRecDepth 100000 in
theorem c_X2_smash (l : Launch) (D : va_G) (cs : Nat → ClassId)  (sz : Nat) (a0 : Nat) (p0 : Nat → Nat) (i0_3 : Int32) (i0_4 : Int32) (i0_5 : Int32) (i0_6 : Int32) (i0_7 : Int32) (v0_0 : Nat → Int32) (v0_1 : Nat → Int32) (v0_2 : Nat → Int32) (x1 : Int32) (res : Int32 × Int32 × (Nat → Int32)) (hf : f_X2_smash  i0_6 v0_1 x1 = some res) : MI l D cs yX2_smash wsX2_smash rm_X2_smash [.ref a0, .int x1] sz (W_X2_smash cs a0 p0 i0_3 i0_4 i0_5 i0_6 i0_7 v0_0 v0_1 v0_2) (W_X2_smash cs a0 p0 i0_3 i0_4 i0_5 res.2.1 i0_7 v0_0 res.2.2 v0_2) res.1 := by
  rw [f_X2_smash] at hf
  refine ow_enter (cc := cX2_smash) (nL := 3) (ret := (some .boolean)) (by decide) rfl (Nat.le_of_ble_eq_true rfl) (fun p e s m below meth c ls H locs C0 hP hD hS hA hl => ?_)
  obtain ⟨hx, hb, hr, hlk, hml, hown, hts, hK, hG, hE⟩ := id C0
  have hl : lv_has ls 3 [(0, .ref a0), (1, .int x1)] := hl
  refine lv_aload_n hx hb dX2_smash_0 rfl (lv_at hl 0 rfl) ?_
  refine lv_iload_n hx hb dX2_smash_1 rfl (lv_at hl 1 rfl) ?_
  obtain ⟨q2, hq, hf⟩ := bd_some hf
  refine ow_callVI (As := [.int x1]) (rest := []) (wr := ow_pk (W_X2_smash cs a0 p0 i0_3 i0_4 i0_5 i0_6 i0_7 v0_0 v0_1 v0_2) []) (wf := (W_X2_smash cs a0 p0 i0_3 i0_4 i0_5 i0_6 i0_7 v0_0 v0_1 v0_2)) (r := q2) C0 (c_X2_isBroken l D cs H.size a0 p0 i0_3 i0_4 i0_5 i0_6 i0_7 v0_0 v0_1 v0_2 x1 q2 hq) (cwV 1 hts gX2_smash_X2_isBroken rfl rfl rfl (by decide +kernel) ⟨Nat.le_of_ble_eq_true rfl, Nat.le_of_ble_eq_true rfl⟩) 2 rfl rfl hP hD hS (fun q h => Or.inr h) [0, 1, 2, 3] [] [0, 1, 2, 3] rfl (by decide) rfl (by decide) (by decide) rfl (by decide) rfl hl.1 rfl (Nat.le_of_ble_eq_true rfl) ⟨Nat.zero_le _, Nat.zero_le _⟩ dX2_smash_2 (fun H locs hP hD hS => ?_)
  refine lv_if_eq (tgt := 10) hx hb dX2_smash_5 (by decide) (fun hc => ?_) (fun hc => ?_)
  · replace hf := ow_t hc hf
    refine lv_aload_n hx hb dX2_smash_10 rfl (lv_at hl 0 rfl) ?_
    refine lv_dup hx hb dX2_smash_11 rfl ?_
    refine va_get (D := D) (ci := 2) (v := .int i0_6) (C := RX2) (T := TX2) (N := 8) hx hb hts in_X2_smash_X2 hown hK hP 0 rfl rfl 6 (by decide) (hts (.fieldLink RX2 37 "PaneDays$Glass" "broken" "I") (List.mem_of_getElem? (i := 1) rfl)) (fun _ h9 => h9) rfl dX2_smash_12 ?_
    refine lv_iconst (v := 1) hx hb dX2_smash_15 (by decide) ?_
    refine lv_iload_n hx hb dX2_smash_16 rfl (lv_at hl 1 rfl) ?_
    refine lv_ishl hx hb dX2_smash_17 ?_
    refine lv_ior hx hb dX2_smash_18 ?_
    refine va_put (D := D) (ci := 2) (v := .int (i0_6 ||| (((1 : Int32)) <<< (x1 &&& 31)))) (ty := .int) (C := RX2) (T := TX2) (N := 8) hx hb hts in_X2_smash_X2 tyX2 tyX2_ok nmX2 hown hK hP hD hS 0 rfl rfl 6 (by decide) (hts (.fieldLink RX2 37 "PaneDays$Glass" "broken" "I") (List.mem_of_getElem? (i := 1) rfl)) (fun _ h9 => h9) rfl (by decide +kernel) rfl rfl (Nat.le_of_ble_eq_true rfl) dX2_smash_19 (fun H locs (hP : va_P D vwCl (W_X2_smash cs a0 p0 i0_3 i0_4 i0_5 (i0_6 ||| (((1 : Int32)) <<< (x1 &&& 31))) i0_7 v0_0 v0_1 v0_2) H) (hD : va_D _ (W_X2_smash cs a0 p0 i0_3 i0_4 i0_5 (i0_6 ||| (((1 : Int32)) <<< (x1 &&& 31))) i0_7 v0_0 v0_1 v0_2)) hS => ?_)
    refine lv_iconst (v := 0) hx hb dX2_smash_22 (by decide) ?_
    refine lv_istore_n (lv' := [(2, .int 0), (0, .ref a0), (1, .int x1)]) hx hb dX2_smash_23 rfl hl (by decide) rfl (fun ls hl => ?_)
    exact w_X2_smash_b24 C0 a0 p0 i0_3 i0_4 i0_5 i0_7 v0_0 v0_2 res 4000 (i0_6 ||| (((1 : Int32)) <<< (x1 &&& 31))) v0_1 x1 (0) hf _ _ _ hP hD hS (lv_sub hl [1, 2, 0] rfl)
  · replace hf := ow_f hc hf
    refine lv_iconst (v := 0) hx hb dX2_smash_8 (by decide) ?_
    obtain rfl := Option.some.inj hf
    exact ow_retZ C0 (Or.inl rfl) hP hD hS dX2_smash_9
abbrev W_J7_fill_53178 (cs : Nat → ClassId) (a0 : Nat) (n0 : Nat) (v0 : Nat → Int32) : va_W := [(a0, .inl (cs 0, n0, .inl v0))]
abbrev rm_J7_fill_53178 : Room := { frames := 0, cells := 0, slots := 0, locals := 0 }
def f_J7_fill_53178_b5  (n0 : Nat)  : Nat → (Nat → Int32) → Int32 → Int32 → Int32 → Option ((Nat → Int32))
  | 0, _, _, _, _ => none
  | n + 1, v0, x1, x2, x3 => if x3 ≤ x2 then (some (v0)) else (ck x2 n0 (f_J7_fill_53178_b5 n0 n (upd v0 (x2).toNatClampNeg x1) x1 (x2 + 1) x3))
set_option maxHeartbeats 4000000 in
set_option maxRecDepth 100000 in
theorem w_J7_fill_53178_b5 {p : Program} {l : Launch} {e : Env} {s : State} {m : MethodId} {below : List Frame} {meth : Method} {c : Code} {D : va_G} {cs : Nat → ClassId} {av : Array Value} {w0 : va_W} (C0 : Cx p s m meth c av wsJ7_fill_53178 cJ7_fill_53178 4 none RJ7 D cs w0)  (a0 : Nat) (n0 : Nat) (res : (Nat → Int32))  : ∀ (n : Nat) (v0 : Nat → Int32) (x1 : Int32) (x2 : Int32) (x3 : Int32), f_J7_fill_53178_b5 n0 n v0 x1 x2 x3 = some res → ∀ (H : Heap) (locs : List Loc) (ls : Array Slot), va_P D vwCl (W_J7_fill_53178 cs a0 n0 v0) H → va_D (va_A w0 s.heap.size) (W_J7_fill_53178 cs a0 n0 v0) → va_S (va_A w0 s.heap.size) s.heap H locs → lv_has ls 4 [(0, .ref a0), (1, .int x1), (2, .int x2), (3, .int x3)] → W p l e rm_J7_fill_53178 s m av below meth c H locs 0 0 (MQ below (oV D cs w0 (W_J7_fill_53178 cs a0 n0 res) s.heap.size) av s 0 0 (va_A w0 s.heap.size)) (F0 m 5 ls []) := by
  obtain ⟨hx, hb, hr, hlk, hml, hown, hts, hK, hG, hE⟩ := id C0
  intro n
  induction n with
  | zero =>
    intro v0 x1 x2 x3 hf
    rw [f_J7_fill_53178_b5] at hf
    cases hf
  | succ n ih =>
    intro v0 x1 x2 x3 hf H locs ls hP hD hS hl
    rw [f_J7_fill_53178_b5] at hf
    refine lv_iload_n hx hb dJ7_fill_53178_5 rfl (lv_at hl 2 rfl) ?_
    refine lv_iload_n hx hb dJ7_fill_53178_6 rfl (lv_at hl 3 rfl) ?_
    refine lv_icmp_ge (tgt := 20) hx hb dJ7_fill_53178_7 (by decide) (fun hc => ?_) (fun hc => ?_)
    · replace hf := ow_t hc hf
      obtain rfl := Option.some.inj hf
      exact ow_retV C0 hP hD hS dJ7_fill_53178_20
    · replace hf := ow_f hc hf
      refine lv_aload_n hx hb dJ7_fill_53178_10 rfl (lv_at hl 0 rfl) ?_
      refine lv_iload_n hx hb dJ7_fill_53178_11 rfl (lv_at hl 2 rfl) ?_
      refine lv_iload_n hx hb dJ7_fill_53178_12 rfl (lv_at hl 1 rfl) ?_
      obtain ⟨hin, hf⟩ := ck_some hf
      refine va_iast (f := v0) hx hb hK hP hD hS 0 0 rfl rfl hin dJ7_fill_53178_13 (fun H locs (hP : va_P D vwCl (W_J7_fill_53178 cs a0 n0 (upd v0 (x2).toNatClampNeg x1)) H) (hD : va_D _ (W_J7_fill_53178 cs a0 n0 (upd v0 (x2).toNatClampNeg x1))) hS => ?_)
      refine lv_iinc (v := x2 + 1) (lv' := [(2, .int (x2 + 1)), (0, .ref a0), (1, .int x1), (3, .int x3)]) hx hb dJ7_fill_53178_14 hl (k := 2) rfl (ow_inc (by decide)) (by decide) rfl (fun ls hl => ?_)
      refine lv_goto (tgt := 5) hx hb dJ7_fill_53178_17 (by decide) ?_
      exact ih (upd v0 (x2).toNatClampNeg x1) x1 (x2 + 1) x3 hf _ _ _ hP hD hS (lv_sub hl [1, 2, 0, 3] rfl)
def f_J7_fill_53178  (n0 : Nat) (v0 : Nat → Int32) (x1 : Int32) : Option ((Nat → Int32)) := f_J7_fill_53178_b5 n0 4000 v0 x1 (0) (nI n0)
set_option maxHeartbeats 4000000 in
set_option maxRecDepth 100000 in
theorem c_J7_fill_53178 (l : Launch) (D : va_G) (cs : Nat → ClassId)  (sz : Nat) (a0 : Nat) (n0 : Nat) (v0 : Nat → Int32) (x1 : Int32) (res : (Nat → Int32)) (hf : f_J7_fill_53178  n0 v0 x1 = some res) : MV l D cs yJ7_fill_53178 wsJ7_fill_53178 rm_J7_fill_53178 [.ref a0, .int x1] sz (W_J7_fill_53178 cs a0 n0 v0) (W_J7_fill_53178 cs a0 n0 res) := by
  rw [f_J7_fill_53178] at hf
  refine ow_enter (cc := cJ7_fill_53178) (nL := 4) (ret := none) (by decide) rfl (Nat.le_of_ble_eq_true rfl) (fun p e s m below meth c ls H locs C0 hP hD hS hA hl => ?_)
  obtain ⟨hx, hb, hr, hlk, hml, hown, hts, hK, hG, hE⟩ := id C0
  have hl : lv_has ls 4 [(0, .ref a0), (1, .int x1)] := hl
  refine lv_iconst (v := 0) hx hb dJ7_fill_53178_0 (by decide) ?_
  refine lv_istore_n (lv' := [(2, .int 0), (0, .ref a0), (1, .int x1)]) hx hb dJ7_fill_53178_1 rfl hl (by decide) rfl (fun ls hl => ?_)
  refine lv_aload_n hx hb dJ7_fill_53178_2 rfl (lv_at hl 1 rfl) ?_
  refine va_alen (v := nI n0) hx hb hK hP 0 0 rfl rfl rfl dJ7_fill_53178_3 ?_
  refine lv_istore_n (lv' := [(3, .int (nI n0)), (2, .int 0), (0, .ref a0), (1, .int x1)]) hx hb dJ7_fill_53178_4 rfl hl (by decide) rfl (fun ls hl => ?_)
  exact w_J7_fill_53178_b5 C0 a0 n0 res 4000 v0 x1 (0) (nI n0) hf _ _ _ hP hD hS (lv_sub hl [2, 3, 1, 0] rfl)
theorem in_X2_rinse_X2 : ∀ w ∈ u_ws RX2 TX2 8, w ∈ wsX2_rinse := fun w h => List.mem_cons_of_mem _ (List.mem_append_right _ h)
abbrev W_X2_rinse (cs : Nat → ClassId) (a0 : Nat) (p0 : Nat → Nat) (i0_3 : Int32) (i0_4 : Int32) (i0_5 : Int32) (i0_6 : Int32) (i0_7 : Int32) (v0_0 : Nat → Int32) (v0_1 : Nat → Int32) (v0_2 : Nat → Int32) : va_W := wX2 cs a0 p0 i0_3 i0_4 i0_5 i0_6 i0_7 v0_0 v0_1 v0_2
abbrev rm_X2_rinse : Room := { frames := 1, cells := 0, slots := 0, locals := 23 }
def f_X2_rinse_b12    (i0_3 : Int32) (v0_2 : Nat → Int32) (t0 : Int32) : Option (Int32 × Int32 × (Nat → Int32)) := (f_J7_fill_53178 201 v0_2 (0)).bind fun q18 => cz t0 (some (t0, 0, q18))
set_option maxHeartbeats 4000000 in
set_option maxRecDepth 100000 in
theorem w_X2_rinse_b12 {p : Program} {l : Launch} {e : Env} {s : State} {m : MethodId} {below : List Frame} {meth : Method} {c : Code} {D : va_G} {cs : Nat → ClassId} {av : Array Value} {w0 : va_W} (C0 : Cx p s m meth c av wsX2_rinse cX2_rinse 2 (some .boolean) RX2 D cs w0)  (a0 : Nat) (p0 : Nat → Nat) (i0_4 : Int32) (i0_5 : Int32) (i0_6 : Int32) (i0_7 : Int32) (v0_0 : Nat → Int32) (v0_1 : Nat → Int32) (res : Int32 × Int32 × (Nat → Int32))  : ∀ (i0_3 : Int32) (v0_2 : Nat → Int32) (t0 : Int32), f_X2_rinse_b12 i0_3 v0_2 t0 = some res → ∀ (H : Heap) (locs : List Loc) (ls : Array Slot), va_P D vwCl (W_X2_rinse cs a0 p0 i0_3 i0_4 i0_5 i0_6 i0_7 v0_0 v0_1 v0_2) H → va_D (va_A w0 s.heap.size) (W_X2_rinse cs a0 p0 i0_3 i0_4 i0_5 i0_6 i0_7 v0_0 v0_1 v0_2) → va_S (va_A w0 s.heap.size) s.heap H locs → lv_has ls 2 [(0, .ref a0)] → W p l e rm_X2_rinse s m av below meth c H locs 0 0 (MQ below (oI D cs w0 (W_X2_rinse cs a0 p0 res.2.1 i0_4 i0_5 i0_6 i0_7 v0_0 v0_1 res.2.2) res.1 s.heap.size) av s 0 0 (va_A w0 s.heap.size)) (F0 m 12 ls [.int t0]) := by
  obtain ⟨hx, hb, hr, hlk, hml, hown, hts, hK, hG, hE⟩ := id C0
  intro i0_3 v0_2 t0 hf H locs ls hP hD hS hl
  rw [f_X2_rinse_b12] at hf
  refine lv_istore_n (lv' := [(1, .int t0), (0, .ref a0)]) hx hb dX2_rinse_12 rfl hl (by decide) rfl (fun ls hl => ?_)
  refine lv_aload_n hx hb dX2_rinse_13 rfl (lv_at hl 1 rfl) ?_
  refine va_get (D := D) (ci := 2) (v := .ref (p0 2)) (C := RX2) (T := TX2) (N := 8) hx hb hts in_X2_rinse_X2 hown hK hP 0 rfl rfl 2 (by decide) (hts (.fieldLink RX2 18 "PaneDays$Glass" "rag" "[I") (List.mem_of_getElem? (i := 2) rfl)) (fun _ h9 => h9) rfl dX2_rinse_14 ?_
  refine lv_iconst (v := 0) hx hb dX2_rinse_17 (by decide) ?_
  obtain ⟨q18, hq, hf⟩ := bd_some hf
  refine ow_callSV (As := [.ref (p0 2), .int 0]) (rest := []) (wr := ow_pk (W_X2_rinse cs a0 p0 i0_3 i0_4 i0_5 i0_6 i0_7 v0_0 v0_1 v0_2) [0, 1, 2]) (wf := (W_X2_rinse cs a0 p0 i0_3 i0_4 i0_5 i0_6 i0_7 v0_0 v0_1 q18)) C0 (c_J7_fill_53178 l D cs H.size (p0 2) 201 v0_2 (0) q18 hq) (va_cwS 2 hts gX2_rinse_J7_fill_53178 rfl rfl rfl (by decide +kernel) ⟨Nat.le_of_ble_eq_true rfl, Nat.le_of_ble_eq_true rfl⟩) hP hD hS (fun q h => Or.inr h) [3] [0, 1, 2] [0, 1, 2, 3] rfl (by decide) rfl (by decide) (by decide) rfl (by decide) rfl hl.1 rfl (Nat.le_of_ble_eq_true rfl) ⟨Nat.zero_le _, Nat.zero_le _⟩ dX2_rinse_18 (fun H locs hP hD hS => ?_)
  refine lv_aload_n hx hb dX2_rinse_21 rfl (lv_at hl 1 rfl) ?_
  refine lv_iconst (v := 0) hx hb dX2_rinse_22 (by decide) ?_
  refine va_put (D := D) (ci := 2) (v := .int 0) (ty := .int) (C := RX2) (T := TX2) (N := 8) hx hb hts in_X2_rinse_X2 tyX2 tyX2_ok nmX2 hown hK hP hD hS 0 rfl rfl 3 (by decide) (hts (.fieldLink RX2 27 "PaneDays$Glass" "onRag" "I") (List.mem_of_getElem? (i := 1) rfl)) (fun _ h9 => h9) rfl (by decide +kernel) rfl rfl (Nat.le_of_ble_eq_true rfl) dX2_rinse_23 (fun H locs (hP : va_P D vwCl (W_X2_rinse cs a0 p0 (0) i0_4 i0_5 i0_6 i0_7 v0_0 v0_1 q18) H) (hD : va_D _ (W_X2_rinse cs a0 p0 (0) i0_4 i0_5 i0_6 i0_7 v0_0 v0_1 q18)) hS => ?_)
  refine lv_iload_n hx hb dX2_rinse_26 rfl (lv_at hl 0 rfl) ?_
  obtain ⟨hz, hf⟩ := cz_some hf
  obtain rfl := Option.some.inj hf
  exact ow_retZ C0 hz hP hD hS dX2_rinse_27
def f_X2_rinse  (i0_3 : Int32) (v0_2 : Nat → Int32)  : Option (Int32 × Int32 × (Nat → Int32)) := if i0_3 ≤ 0 then (f_X2_rinse_b12 i0_3 v0_2 (0)) else (f_X2_rinse_b12 i0_3 v0_2 (1))
set_option maxHeartbeats 4000000 in
set_option maxRecDepth 100000 in
theorem c_X2_rinse (l : Launch) (D : va_G) (cs : Nat → ClassId)  (sz : Nat) (a0 : Nat) (p0 : Nat → Nat) (i0_3 : Int32) (i0_4 : Int32) (i0_5 : Int32) (i0_6 : Int32) (i0_7 : Int32) (v0_0 : Nat → Int32) (v0_1 : Nat → Int32) (v0_2 : Nat → Int32)  (res : Int32 × Int32 × (Nat → Int32)) (hf : f_X2_rinse  i0_3 v0_2  = some res) : MI l D cs yX2_rinse wsX2_rinse rm_X2_rinse [.ref a0] sz (W_X2_rinse cs a0 p0 i0_3 i0_4 i0_5 i0_6 i0_7 v0_0 v0_1 v0_2) (W_X2_rinse cs a0 p0 res.2.1 i0_4 i0_5 i0_6 i0_7 v0_0 v0_1 res.2.2) res.1 := by
  rw [f_X2_rinse] at hf
  refine ow_enter (cc := cX2_rinse) (nL := 2) (ret := (some .boolean)) (by decide) rfl (Nat.le_of_ble_eq_true rfl) (fun p e s m below meth c ls H locs C0 hP hD hS hA hl => ?_)
  obtain ⟨hx, hb, hr, hlk, hml, hown, hts, hK, hG, hE⟩ := id C0
  have hl : lv_has ls 2 [(0, .ref a0)] := hl
  refine lv_aload_n hx hb dX2_rinse_0 rfl (lv_at hl 0 rfl) ?_
  refine va_get (D := D) (ci := 2) (v := .int i0_3) (C := RX2) (T := TX2) (N := 8) hx hb hts in_X2_rinse_X2 hown hK hP 0 rfl rfl 3 (by decide) (hts (.fieldLink RX2 27 "PaneDays$Glass" "onRag" "I") (List.mem_of_getElem? (i := 1) rfl)) (fun _ h9 => h9) rfl dX2_rinse_1 ?_
  refine lv_if_le (tgt := 11) hx hb dX2_rinse_4 (by decide) (fun hc => ?_) (fun hc => ?_)
  · replace hf := ow_t hc hf
    refine lv_iconst (v := 0) hx hb dX2_rinse_11 (by decide) ?_
    exact w_X2_rinse_b12 C0 a0 p0 i0_4 i0_5 i0_6 i0_7 v0_0 v0_1 res i0_3 v0_2 (0) hf _ _ _ hP hD hS (lv_sub hl [0] rfl)
  · replace hf := ow_f hc hf
    refine lv_iconst (v := 1) hx hb dX2_rinse_7 (by decide) ?_
    refine lv_goto (tgt := 12) hx hb dX2_rinse_8 (by decide) ?_
    exact w_X2_rinse_b12 C0 a0 p0 i0_4 i0_5 i0_6 i0_7 v0_0 v0_1 res i0_3 v0_2 (1) hf _ _ _ hP hD hS (lv_sub hl [0] rfl)
theorem in_X2_behind_X2 : ∀ w ∈ u_ws RX2 TX2 8, w ∈ wsX2_behind := fun w h => List.mem_cons_of_mem _ (List.mem_append_right _ h)
abbrev W_X2_behind (cs : Nat → ClassId) (a0 : Nat) (p0 : Nat → Nat) (i0_3 : Int32) (i0_4 : Int32) (i0_5 : Int32) (i0_6 : Int32) (i0_7 : Int32) (v0_0 : Nat → Int32) (v0_1 : Nat → Int32) (v0_2 : Nat → Int32) : va_W := wX2 cs a0 p0 i0_3 i0_4 i0_5 i0_6 i0_7 v0_0 v0_1 v0_2
abbrev rm_X2_behind : Room := { frames := 0, cells := 0, slots := 0, locals := 0 }
def f_X2_behind  (v0_0 : Nat → Int32) (v0_1 : Nat → Int32) (x1 : Int32) (x2 : Int32) : Option (Int32) := if x2 < 0 then (some (0)) else (ck x1 80 (if x2 < (v0_1 (x1).toNatClampNeg) then (ck x1 80 (ck ((((30 * x1) + (v0_1 (x1).toNatClampNeg)) - 1) - x2) 2400 (some (v0_0 ((((30 * x1) + (v0_1 (x1).toNatClampNeg)) - 1) - x2).toNatClampNeg)))) else (some (0))))
set_option maxHeartbeats 4000000 in
set_option maxRecDepth 100000 in
theorem c_X2_behind (l : Launch) (D : va_G) (cs : Nat → ClassId)  (sz : Nat) (a0 : Nat) (p0 : Nat → Nat) (i0_3 : Int32) (i0_4 : Int32) (i0_5 : Int32) (i0_6 : Int32) (i0_7 : Int32) (v0_0 : Nat → Int32) (v0_1 : Nat → Int32) (v0_2 : Nat → Int32) (x1 : Int32) (x2 : Int32) (res : Int32) (hf : f_X2_behind  v0_0 v0_1 x1 x2 = some res) : MI l D cs yX2_behind wsX2_behind rm_X2_behind [.ref a0, .int x1, .int x2] sz (W_X2_behind cs a0 p0 i0_3 i0_4 i0_5 i0_6 i0_7 v0_0 v0_1 v0_2) (W_X2_behind cs a0 p0 i0_3 i0_4 i0_5 i0_6 i0_7 v0_0 v0_1 v0_2) res := by
  rw [f_X2_behind] at hf
  refine ow_enter (cc := cX2_behind) (nL := 3) (ret := (some .int)) (by decide) rfl (Nat.le_of_ble_eq_true rfl) (fun p e s m below meth c ls H locs C0 hP hD hS hA hl => ?_)
  obtain ⟨hx, hb, hr, hlk, hml, hown, hts, hK, hG, hE⟩ := id C0
  have hl : lv_has ls 3 [(0, .ref a0), (1, .int x1), (2, .int x2)] := hl
  refine lv_iload_n hx hb dX2_behind_0 rfl (lv_at hl 2 rfl) ?_
  refine lv_if_lt (tgt := 14) hx hb dX2_behind_1 (by decide) (fun hc => ?_) (fun hc => ?_)
  · replace hf := ow_t hc hf
    refine lv_iconst (v := 0) hx hb dX2_behind_14 (by decide) ?_
    refine lv_goto (tgt := 38) hx hb dX2_behind_15 (by decide) ?_
    obtain rfl := Option.some.inj hf
    exact ow_retI C0 hP hD hS dX2_behind_38
  · replace hf := ow_f hc hf
    refine lv_iload_n hx hb dX2_behind_4 rfl (lv_at hl 2 rfl) ?_
    refine lv_aload_n hx hb dX2_behind_5 rfl (lv_at hl 0 rfl) ?_
    refine va_get (D := D) (ci := 2) (v := .ref (p0 1)) (C := RX2) (T := TX2) (N := 8) hx hb hts in_X2_behind_X2 hown hK hP 0 rfl rfl 1 (by decide) (hts (.fieldLink RX2 15 "PaneDays$Glass" "depth" "[I") (List.mem_of_getElem? (i := 1) rfl)) (fun _ h9 => h9) rfl dX2_behind_6 ?_
    refine lv_iload_n hx hb dX2_behind_9 rfl (lv_at hl 1 rfl) ?_
    obtain ⟨hin, hf⟩ := ck_some hf
    refine va_iald (f := v0_1) hx hb hK hP 2 0 rfl rfl hin dX2_behind_10 ?_
    refine lv_icmp_lt (tgt := 18) hx hb dX2_behind_11 (by decide) (fun hc => ?_) (fun hc => ?_)
    · replace hf := ow_t hc hf
      refine lv_aload_n hx hb dX2_behind_18 rfl (lv_at hl 0 rfl) ?_
      refine va_get (D := D) (ci := 2) (v := .ref (p0 0)) (C := RX2) (T := TX2) (N := 8) hx hb hts in_X2_behind_X2 hown hK hP 0 rfl rfl 0 (by decide) (hts (.fieldLink RX2 9 "PaneDays$Glass" "film" "[I") (List.mem_of_getElem? (i := 2) rfl)) (fun _ h9 => h9) rfl dX2_behind_19 ?_
      refine lv_bipush (v := 30) hx hb dX2_behind_22 (by decide) ?_
      refine lv_iload_n hx hb dX2_behind_24 rfl (lv_at hl 1 rfl) ?_
      refine lv_imul hx hb dX2_behind_25 ?_
      refine lv_aload_n hx hb dX2_behind_26 rfl (lv_at hl 0 rfl) ?_
      refine va_get (D := D) (ci := 2) (v := .ref (p0 1)) (C := RX2) (T := TX2) (N := 8) hx hb hts in_X2_behind_X2 hown hK hP 0 rfl rfl 1 (by decide) (hts (.fieldLink RX2 15 "PaneDays$Glass" "depth" "[I") (List.mem_of_getElem? (i := 1) rfl)) (fun _ h9 => h9) rfl dX2_behind_27 ?_
      refine lv_iload_n hx hb dX2_behind_30 rfl (lv_at hl 1 rfl) ?_
      obtain ⟨hin, hf⟩ := ck_some hf
      refine va_iald (f := v0_1) hx hb hK hP 2 0 rfl rfl hin dX2_behind_31 ?_
      refine lv_iadd hx hb dX2_behind_32 ?_
      refine lv_iconst (v := 1) hx hb dX2_behind_33 (by decide) ?_
      refine lv_isub hx hb dX2_behind_34 ?_
      refine lv_iload_n hx hb dX2_behind_35 rfl (lv_at hl 2 rfl) ?_
      refine lv_isub hx hb dX2_behind_36 ?_
      obtain ⟨hin, hf⟩ := ck_some hf
      refine va_iald (f := v0_0) hx hb hK hP 1 0 rfl rfl hin dX2_behind_37 ?_
      obtain rfl := Option.some.inj hf
      exact ow_retI C0 hP hD hS dX2_behind_38
    · replace hf := ow_f hc hf
      refine lv_iconst (v := 0) hx hb dX2_behind_14 (by decide) ?_
      refine lv_goto (tgt := 38) hx hb dX2_behind_15 (by decide) ?_
      obtain rfl := Option.some.inj hf
      exact ow_retI C0 hP hD hS dX2_behind_38
theorem in_X2_wipeCell_X2 : ∀ w ∈ u_ws RX2 TX2 8, w ∈ wsX2_wipeCell := fun w h => List.mem_cons_of_mem _ (List.mem_append_right _ h)
abbrev W_X2_wipeCell (cs : Nat → ClassId) (a0 : Nat) (p0 : Nat → Nat) (i0_3 : Int32) (i0_4 : Int32) (i0_5 : Int32) (i0_6 : Int32) (i0_7 : Int32) (v0_0 : Nat → Int32) (v0_1 : Nat → Int32) (v0_2 : Nat → Int32) : va_W := wX2 cs a0 p0 i0_3 i0_4 i0_5 i0_6 i0_7 v0_0 v0_1 v0_2
abbrev rm_X2_wipeCell : Room := { frames := 1, cells := 0, slots := 0, locals := 22 }
def f_X2_wipeCell_b2  (v0_0 : Nat → Int32)  : Nat → (Int32) → (Nat → Int32) → (Nat → Int32) → Int32 → Int32 → Int32 → Option (Int32 × (Nat → Int32) × (Nat → Int32))
  | 0, _, _, _, _, _, _ => none
  | n + 1, i0_3, v0_1, v0_2, x1, x2, x3 => if x2 ≤ x3 then (ck x1 80 (ck x1 80 (some (i0_3 + x2, upd v0_1 (x1).toNatClampNeg ((v0_1 (x1).toNatClampNeg) - x2), v0_2)))) else ((f_X2_behind v0_0 v0_1 x1 x3).bind fun q14 => ck q14 201 (ck q14 201 (f_X2_wipeCell_b2 v0_0 n i0_3 v0_1 (upd v0_2 (q14).toNatClampNeg ((v0_2 (q14).toNatClampNeg) + 1)) x1 x2 (x3 + 1))))
set_option maxHeartbeats 4000000 in
set_option maxRecDepth 100000 in
theorem w_X2_wipeCell_b2 {p : Program} {l : Launch} {e : Env} {s : State} {m : MethodId} {below : List Frame} {meth : Method} {c : Code} {D : va_G} {cs : Nat → ClassId} {av : Array Value} {w0 : va_W} (C0 : Cx p s m meth c av wsX2_wipeCell cX2_wipeCell 4 none RX2 D cs w0)  (a0 : Nat) (p0 : Nat → Nat) (i0_4 : Int32) (i0_5 : Int32) (i0_6 : Int32) (i0_7 : Int32) (v0_0 : Nat → Int32) (res : Int32 × (Nat → Int32) × (Nat → Int32))  : ∀ (n : Nat) (i0_3 : Int32) (v0_1 : Nat → Int32) (v0_2 : Nat → Int32) (x1 : Int32) (x2 : Int32) (x3 : Int32), f_X2_wipeCell_b2 v0_0 n i0_3 v0_1 v0_2 x1 x2 x3 = some res → ∀ (H : Heap) (locs : List Loc) (ls : Array Slot), va_P D vwCl (W_X2_wipeCell cs a0 p0 i0_3 i0_4 i0_5 i0_6 i0_7 v0_0 v0_1 v0_2) H → va_D (va_A w0 s.heap.size) (W_X2_wipeCell cs a0 p0 i0_3 i0_4 i0_5 i0_6 i0_7 v0_0 v0_1 v0_2) → va_S (va_A w0 s.heap.size) s.heap H locs → lv_has ls 4 [(0, .ref a0), (1, .int x1), (2, .int x2), (3, .int x3)] → W p l e rm_X2_wipeCell s m av below meth c H locs 0 0 (MQ below (oV D cs w0 (W_X2_wipeCell cs a0 p0 res.1 i0_4 i0_5 i0_6 i0_7 v0_0 res.2.1 res.2.2) s.heap.size) av s 0 0 (va_A w0 s.heap.size)) (F0 m 2 ls []) := by
  obtain ⟨hx, hb, hr, hlk, hml, hown, hts, hK, hG, hE⟩ := id C0
  intro n
  induction n with
  | zero =>
    intro i0_3 v0_1 v0_2 x1 x2 x3 hf
    rw [f_X2_wipeCell_b2] at hf
    cases hf
  | succ n ih =>
    intro i0_3 v0_1 v0_2 x1 x2 x3 hf H locs ls hP hD hS hl
    rw [f_X2_wipeCell_b2] at hf
    refine lv_iload_n hx hb dX2_wipeCell_2 rfl (lv_at hl 3 rfl) ?_
    refine lv_iload_n hx hb dX2_wipeCell_3 rfl (lv_at hl 2 rfl) ?_
    refine lv_icmp_ge (tgt := 28) hx hb dX2_wipeCell_4 (by decide) (fun hc => ?_) (fun hc => ?_)
    · replace hf := ow_t hc hf
      refine lv_aload_n hx hb dX2_wipeCell_28 rfl (lv_at hl 0 rfl) ?_
      refine va_get (D := D) (ci := 2) (v := .ref (p0 1)) (C := RX2) (T := TX2) (N := 8) hx hb hts in_X2_wipeCell_X2 hown hK hP 0 rfl rfl 1 (by decide) (hts (.fieldLink RX2 15 "PaneDays$Glass" "depth" "[I") (List.mem_of_getElem? (i := 2) rfl)) (fun _ h9 => h9) rfl dX2_wipeCell_29 ?_
      refine lv_iload_n hx hb dX2_wipeCell_32 rfl (lv_at hl 1 rfl) ?_
      refine lv_dup2_11 hx hb dX2_wipeCell_33 rfl rfl ?_
      obtain ⟨hin, hf⟩ := ck_some hf
      refine va_iald (f := v0_1) hx hb hK hP 2 0 rfl rfl hin dX2_wipeCell_34 ?_
      refine lv_iload_n hx hb dX2_wipeCell_35 rfl (lv_at hl 2 rfl) ?_
      refine lv_isub hx hb dX2_wipeCell_36 ?_
      obtain ⟨hin, hf⟩ := ck_some hf
      refine va_iast (f := v0_1) hx hb hK hP hD hS 2 0 rfl rfl hin dX2_wipeCell_37 (fun H locs (hP : va_P D vwCl (W_X2_wipeCell cs a0 p0 i0_3 i0_4 i0_5 i0_6 i0_7 v0_0 (upd v0_1 (x1).toNatClampNeg ((v0_1 (x1).toNatClampNeg) - x2)) v0_2) H) (hD : va_D _ (W_X2_wipeCell cs a0 p0 i0_3 i0_4 i0_5 i0_6 i0_7 v0_0 (upd v0_1 (x1).toNatClampNeg ((v0_1 (x1).toNatClampNeg) - x2)) v0_2)) hS => ?_)
      refine lv_aload_n hx hb dX2_wipeCell_38 rfl (lv_at hl 0 rfl) ?_
      refine lv_dup hx hb dX2_wipeCell_39 rfl ?_
      refine va_get (D := D) (ci := 2) (v := .int i0_3) (C := RX2) (T := TX2) (N := 8) hx hb hts in_X2_wipeCell_X2 hown hK hP 0 rfl rfl 3 (by decide) (hts (.fieldLink RX2 27 "PaneDays$Glass" "onRag" "I") (List.mem_of_getElem? (i := 3) rfl)) (fun _ h9 => h9) rfl dX2_wipeCell_40 ?_
      refine lv_iload_n hx hb dX2_wipeCell_43 rfl (lv_at hl 2 rfl) ?_
      refine lv_iadd hx hb dX2_wipeCell_44 ?_
      refine va_put (D := D) (ci := 2) (v := .int (i0_3 + x2)) (ty := .int) (C := RX2) (T := TX2) (N := 8) hx hb hts in_X2_wipeCell_X2 tyX2 tyX2_ok nmX2 hown hK hP hD hS 0 rfl rfl 3 (by decide) (hts (.fieldLink RX2 27 "PaneDays$Glass" "onRag" "I") (List.mem_of_getElem? (i := 3) rfl)) (fun _ h9 => h9) rfl (by decide +kernel) rfl rfl (Nat.le_of_ble_eq_true rfl) dX2_wipeCell_45 (fun H locs (hP : va_P D vwCl (W_X2_wipeCell cs a0 p0 (i0_3 + x2) i0_4 i0_5 i0_6 i0_7 v0_0 (upd v0_1 (x1).toNatClampNeg ((v0_1 (x1).toNatClampNeg) - x2)) v0_2) H) (hD : va_D _ (W_X2_wipeCell cs a0 p0 (i0_3 + x2) i0_4 i0_5 i0_6 i0_7 v0_0 (upd v0_1 (x1).toNatClampNeg ((v0_1 (x1).toNatClampNeg) - x2)) v0_2)) hS => ?_)
      obtain rfl := Option.some.inj hf
      exact ow_retV C0 hP hD hS dX2_wipeCell_48
    · replace hf := ow_f hc hf
      refine lv_aload_n hx hb dX2_wipeCell_7 rfl (lv_at hl 0 rfl) ?_
      refine va_get (D := D) (ci := 2) (v := .ref (p0 2)) (C := RX2) (T := TX2) (N := 8) hx hb hts in_X2_wipeCell_X2 hown hK hP 0 rfl rfl 2 (by decide) (hts (.fieldLink RX2 18 "PaneDays$Glass" "rag" "[I") (List.mem_of_getElem? (i := 1) rfl)) (fun _ h9 => h9) rfl dX2_wipeCell_8 ?_
      refine lv_aload_n hx hb dX2_wipeCell_11 rfl (lv_at hl 0 rfl) ?_
      refine lv_iload_n hx hb dX2_wipeCell_12 rfl (lv_at hl 1 rfl) ?_
      refine lv_iload_n hx hb dX2_wipeCell_13 rfl (lv_at hl 3 rfl) ?_
      obtain ⟨q14, hq, hf⟩ := bd_some hf
      refine ow_callVI (As := [.int x1, .int x3]) (rest := [.ref (p0 2)]) (wr := ow_pk (W_X2_wipeCell cs a0 p0 i0_3 i0_4 i0_5 i0_6 i0_7 v0_0 v0_1 v0_2) []) (wf := (W_X2_wipeCell cs a0 p0 i0_3 i0_4 i0_5 i0_6 i0_7 v0_0 v0_1 v0_2)) (r := q14) C0 (c_X2_behind l D cs H.size a0 p0 i0_3 i0_4 i0_5 i0_6 i0_7 v0_0 v0_1 v0_2 x1 x3 q14 hq) (cwV 2 hts gX2_wipeCell_X2_behind rfl rfl rfl (by decide +kernel) ⟨Nat.le_of_ble_eq_true rfl, Nat.le_of_ble_eq_true rfl⟩) 2 rfl rfl hP hD hS (fun q h => Or.inr h) [0, 1, 2, 3] [] [0, 1, 2, 3] rfl (by decide) rfl (by decide) (by decide) rfl (by decide) rfl hl.1 rfl (Nat.le_of_ble_eq_true rfl) ⟨Nat.zero_le _, Nat.zero_le _⟩ dX2_wipeCell_14 (fun H locs hP hD hS => ?_)
      refine lv_dup2_11 hx hb dX2_wipeCell_17 rfl rfl ?_
      obtain ⟨hin, hf⟩ := ck_some hf
      refine va_iald (f := v0_2) hx hb hK hP 3 0 rfl rfl hin dX2_wipeCell_18 ?_
      refine lv_iconst (v := 1) hx hb dX2_wipeCell_19 (by decide) ?_
      refine lv_iadd hx hb dX2_wipeCell_20 ?_
      obtain ⟨hin, hf⟩ := ck_some hf
      refine va_iast (f := v0_2) hx hb hK hP hD hS 3 0 rfl rfl hin dX2_wipeCell_21 (fun H locs (hP : va_P D vwCl (W_X2_wipeCell cs a0 p0 i0_3 i0_4 i0_5 i0_6 i0_7 v0_0 v0_1 (upd v0_2 (q14).toNatClampNeg ((v0_2 (q14).toNatClampNeg) + 1))) H) (hD : va_D _ (W_X2_wipeCell cs a0 p0 i0_3 i0_4 i0_5 i0_6 i0_7 v0_0 v0_1 (upd v0_2 (q14).toNatClampNeg ((v0_2 (q14).toNatClampNeg) + 1)))) hS => ?_)
      refine lv_iinc (v := x3 + 1) (lv' := [(3, .int (x3 + 1)), (0, .ref a0), (1, .int x1), (2, .int x2)]) hx hb dX2_wipeCell_22 hl (k := 3) rfl (ow_inc (by decide)) (by decide) rfl (fun ls hl => ?_)
      refine lv_goto (tgt := 2) hx hb dX2_wipeCell_25 (by decide) ?_
      exact ih i0_3 v0_1 (upd v0_2 (q14).toNatClampNeg ((v0_2 (q14).toNatClampNeg) + 1)) x1 x2 (x3 + 1) hf _ _ _ hP hD hS (lv_sub hl [1, 2, 3, 0] rfl)
def f_X2_wipeCell  (i0_3 : Int32) (v0_0 : Nat → Int32) (v0_1 : Nat → Int32) (v0_2 : Nat → Int32) (x1 : Int32) (x2 : Int32) : Option (Int32 × (Nat → Int32) × (Nat → Int32)) := f_X2_wipeCell_b2 v0_0 4000 i0_3 v0_1 v0_2 x1 x2 (0)
set_option maxHeartbeats 4000000 in
set_option maxRecDepth 100000 in
theorem c_X2_wipeCell (l : Launch) (D : va_G) (cs : Nat → ClassId)  (sz : Nat) (a0 : Nat) (p0 : Nat → Nat) (i0_3 : Int32) (i0_4 : Int32) (i0_5 : Int32) (i0_6 : Int32) (i0_7 : Int32) (v0_0 : Nat → Int32) (v0_1 : Nat → Int32) (v0_2 : Nat → Int32) (x1 : Int32) (x2 : Int32) (res : Int32 × (Nat → Int32) × (Nat → Int32)) (hf : f_X2_wipeCell  i0_3 v0_0 v0_1 v0_2 x1 x2 = some res) : MV l D cs yX2_wipeCell wsX2_wipeCell rm_X2_wipeCell [.ref a0, .int x1, .int x2] sz (W_X2_wipeCell cs a0 p0 i0_3 i0_4 i0_5 i0_6 i0_7 v0_0 v0_1 v0_2) (W_X2_wipeCell cs a0 p0 res.1 i0_4 i0_5 i0_6 i0_7 v0_0 res.2.1 res.2.2) := by
  rw [f_X2_wipeCell] at hf
  refine ow_enter (cc := cX2_wipeCell) (nL := 4) (ret := none) (by decide) rfl (Nat.le_of_ble_eq_true rfl) (fun p e s m below meth c ls H locs C0 hP hD hS hA hl => ?_)
  obtain ⟨hx, hb, hr, hlk, hml, hown, hts, hK, hG, hE⟩ := id C0
  have hl : lv_has ls 4 [(0, .ref a0), (1, .int x1), (2, .int x2)] := hl
  refine lv_iconst (v := 0) hx hb dX2_wipeCell_0 (by decide) ?_
  refine lv_istore_n (lv' := [(3, .int 0), (0, .ref a0), (1, .int x1), (2, .int x2)]) hx hb dX2_wipeCell_1 rfl hl (by decide) rfl (fun ls hl => ?_)
  exact w_X2_wipeCell_b2 C0 a0 p0 i0_4 i0_5 i0_6 i0_7 v0_0 res 4000 i0_3 v0_1 v0_2 x1 x2 (0) hf _ _ _ hP hD hS (lv_sub hl [1, 2, 3, 0] rfl)
theorem in_X2_wipe_X2 : ∀ w ∈ u_ws RX2 TX2 8, w ∈ wsX2_wipe := fun w h => List.mem_cons_of_mem _ (List.mem_append_right _ h)
abbrev W_X2_wipe (cs : Nat → ClassId) (a0 : Nat) (p0 : Nat → Nat) (i0_3 : Int32) (i0_4 : Int32) (i0_5 : Int32) (i0_6 : Int32) (i0_7 : Int32) (v0_0 : Nat → Int32) (v0_1 : Nat → Int32) (v0_2 : Nat → Int32) : va_W := wX2 cs a0 p0 i0_3 i0_4 i0_5 i0_6 i0_7 v0_0 v0_1 v0_2
abbrev rm_X2_wipe : Room := { frames := 2, cells := 0, slots := 0, locals := 45 }
def f_X2_wipe_b62  (v0_0 : Nat → Int32) (k6 : (Int32) → (Nat → Int32) → (Nat → Int32) → Int32 → Int32 → Int32 → Int32 → Int32 → Option (Int32 × Int32 × (Nat → Int32) × (Nat → Int32))) (i0_3 : Int32) (v0_1 : Nat → Int32) (v0_2 : Nat → Int32) (x1 : Int32) (x2 : Int32) (x3 : Int32) (x4 : Int32) (x5 : Int32) : Option (Int32 × Int32 × (Nat → Int32) × (Nat → Int32)) := k6 i0_3 v0_1 v0_2 x1 x2 x3 x4 (x5 + 1)
set_option maxHeartbeats 4000000 in
set_option maxRecDepth 100000 in
theorem w_X2_wipe_b62 {p : Program} {l : Launch} {e : Env} {s : State} {m : MethodId} {below : List Frame} {meth : Method} {c : Code} {D : va_G} {cs : Nat → ClassId} {av : Array Value} {w0 : va_W} (C0 : Cx p s m meth c av wsX2_wipe cX2_wipe 7 (some .boolean) RX2 D cs w0)  (a0 : Nat) (p0 : Nat → Nat) (i0_4 : Int32) (i0_5 : Int32) (i0_6 : Int32) (i0_7 : Int32) (v0_0 : Nat → Int32) (res : Int32 × Int32 × (Nat → Int32) × (Nat → Int32)) (k6 : (Int32) → (Nat → Int32) → (Nat → Int32) → Int32 → Int32 → Int32 → Int32 → Int32 → Option (Int32 × Int32 × (Nat → Int32) × (Nat → Int32))) (hk6 : ∀ (i0_3 : Int32) (v0_1 : Nat → Int32) (v0_2 : Nat → Int32) (x1 : Int32) (x2 : Int32) (x3 : Int32) (x4 : Int32) (x5 : Int32), k6 i0_3 v0_1 v0_2 x1 x2 x3 x4 x5 = some res → ∀ (H : Heap) (locs : List Loc) (ls : Array Slot), va_P D vwCl (W_X2_wipe cs a0 p0 i0_3 i0_4 i0_5 i0_6 i0_7 v0_0 v0_1 v0_2) H → va_D (va_A w0 s.heap.size) (W_X2_wipe cs a0 p0 i0_3 i0_4 i0_5 i0_6 i0_7 v0_0 v0_1 v0_2) → va_S (va_A w0 s.heap.size) s.heap H locs → lv_has ls 7 [(0, .ref a0), (1, .int x1), (2, .int x2), (3, .int x3), (4, .int x4), (5, .int x5)] → W p l e rm_X2_wipe s m av below meth c H locs 0 0 (MQ below (oI D cs w0 (W_X2_wipe cs a0 p0 res.2.1 i0_4 i0_5 i0_6 i0_7 v0_0 res.2.2.1 res.2.2.2) res.1 s.heap.size) av s 0 0 (va_A w0 s.heap.size)) (F0 m 6 ls [])) : ∀ (i0_3 : Int32) (v0_1 : Nat → Int32) (v0_2 : Nat → Int32) (x1 : Int32) (x2 : Int32) (x3 : Int32) (x4 : Int32) (x5 : Int32), f_X2_wipe_b62 v0_0 k6 i0_3 v0_1 v0_2 x1 x2 x3 x4 x5 = some res → ∀ (H : Heap) (locs : List Loc) (ls : Array Slot), va_P D vwCl (W_X2_wipe cs a0 p0 i0_3 i0_4 i0_5 i0_6 i0_7 v0_0 v0_1 v0_2) H → va_D (va_A w0 s.heap.size) (W_X2_wipe cs a0 p0 i0_3 i0_4 i0_5 i0_6 i0_7 v0_0 v0_1 v0_2) → va_S (va_A w0 s.heap.size) s.heap H locs → lv_has ls 7 [(0, .ref a0), (1, .int x1), (2, .int x2), (3, .int x3), (4, .int x4), (5, .int x5)] → W p l e rm_X2_wipe s m av below meth c H locs 0 0 (MQ below (oI D cs w0 (W_X2_wipe cs a0 p0 res.2.1 i0_4 i0_5 i0_6 i0_7 v0_0 res.2.2.1 res.2.2.2) res.1 s.heap.size) av s 0 0 (va_A w0 s.heap.size)) (F0 m 62 ls []) := by
  obtain ⟨hx, hb, hr, hlk, hml, hown, hts, hK, hG, hE⟩ := id C0
  intro i0_3 v0_1 v0_2 x1 x2 x3 x4 x5 hf H locs ls hP hD hS hl
  rw [f_X2_wipe_b62] at hf
  refine lv_iinc (v := x5 + 1) (lv' := [(5, .int (x5 + 1)), (0, .ref a0), (1, .int x1), (2, .int x2), (3, .int x3), (4, .int x4)]) hx hb dX2_wipe_62 hl (k := 5) rfl (ow_inc (by decide)) (by decide) rfl (fun ls hl => ?_)
  refine lv_goto (tgt := 6) hx hb dX2_wipe_65 (by decide) ?_
  exact hk6 i0_3 v0_1 v0_2 x1 x2 x3 x4 (x5 + 1) hf _ _ _ hP hD hS (lv_sub hl [1, 2, 3, 4, 5, 0] rfl)
def f_X2_wipe_b6  (v0_0 : Nat → Int32)  : Nat → (Int32) → (Nat → Int32) → (Nat → Int32) → Int32 → Int32 → Int32 → Int32 → Int32 → Option (Int32 × Int32 × (Nat → Int32) × (Nat → Int32))
  | 0, _, _, _, _, _, _, _, _ => none
  | n + 1, i0_3, v0_1, v0_2, x1, x2, x3, x4, x5 => if 16 ≤ x5 then (cz x4 (some (x4, i0_3, v0_1, v0_2))) else (if ((x2 >>> (x5 &&& 31)) &&& 1) = 1 then (ck ((16 * x1) + x5) 80 (if (v0_1 ((16 * x1) + x5).toNatClampNeg) ≤ 0 then (f_X2_wipe_b62 v0_0 (f_X2_wipe_b6 v0_0 n) i0_3 v0_1 v0_2 x1 x2 x3 x4 x5) else (ck ((16 * x1) + x5) 80 ((f_X2_wipeCell i0_3 v0_0 v0_1 v0_2 ((16 * x1) + x5) (if (v0_1 ((16 * x1) + x5).toNatClampNeg) < x3 then (v0_1 ((16 * x1) + x5).toNatClampNeg) else x3)).bind fun q56 => f_X2_wipe_b62 v0_0 (f_X2_wipe_b6 v0_0 n) q56.1 q56.2.1 q56.2.2 x1 x2 x3 (1) x5)))) else (f_X2_wipe_b62 v0_0 (f_X2_wipe_b6 v0_0 n) i0_3 v0_1 v0_2 x1 x2 x3 x4 x5))
set_option maxHeartbeats 4000000 in
set_option maxRecDepth 100000 in
theorem w_X2_wipe_b6 {p : Program} {l : Launch} {e : Env} {s : State} {m : MethodId} {below : List Frame} {meth : Method} {c : Code} {D : va_G} {cs : Nat → ClassId} {av : Array Value} {w0 : va_W} (C0 : Cx p s m meth c av wsX2_wipe cX2_wipe 7 (some .boolean) RX2 D cs w0)  (a0 : Nat) (p0 : Nat → Nat) (i0_4 : Int32) (i0_5 : Int32) (i0_6 : Int32) (i0_7 : Int32) (v0_0 : Nat → Int32) (res : Int32 × Int32 × (Nat → Int32) × (Nat → Int32))  : ∀ (n : Nat) (i0_3 : Int32) (v0_1 : Nat → Int32) (v0_2 : Nat → Int32) (x1 : Int32) (x2 : Int32) (x3 : Int32) (x4 : Int32) (x5 : Int32), f_X2_wipe_b6 v0_0 n i0_3 v0_1 v0_2 x1 x2 x3 x4 x5 = some res → ∀ (H : Heap) (locs : List Loc) (ls : Array Slot), va_P D vwCl (W_X2_wipe cs a0 p0 i0_3 i0_4 i0_5 i0_6 i0_7 v0_0 v0_1 v0_2) H → va_D (va_A w0 s.heap.size) (W_X2_wipe cs a0 p0 i0_3 i0_4 i0_5 i0_6 i0_7 v0_0 v0_1 v0_2) → va_S (va_A w0 s.heap.size) s.heap H locs → lv_has ls 7 [(0, .ref a0), (1, .int x1), (2, .int x2), (3, .int x3), (4, .int x4), (5, .int x5)] → W p l e rm_X2_wipe s m av below meth c H locs 0 0 (MQ below (oI D cs w0 (W_X2_wipe cs a0 p0 res.2.1 i0_4 i0_5 i0_6 i0_7 v0_0 res.2.2.1 res.2.2.2) res.1 s.heap.size) av s 0 0 (va_A w0 s.heap.size)) (F0 m 6 ls []) := by
  obtain ⟨hx, hb, hr, hlk, hml, hown, hts, hK, hG, hE⟩ := id C0
  intro n
  induction n with
  | zero =>
    intro i0_3 v0_1 v0_2 x1 x2 x3 x4 x5 hf
    rw [f_X2_wipe_b6] at hf
    cases hf
  | succ n ih =>
    intro i0_3 v0_1 v0_2 x1 x2 x3 x4 x5 hf H locs ls hP hD hS hl
    rw [f_X2_wipe_b6] at hf
    refine lv_iload hx hb dX2_wipe_6 (lv_at hl 5 rfl) ?_
    refine lv_bipush (v := 16) hx hb dX2_wipe_8 (by decide) ?_
    refine lv_icmp_ge (tgt := 68) hx hb dX2_wipe_10 (by decide) (fun hc => ?_) (fun hc => ?_)
    · replace hf := ow_t hc hf
      refine lv_iload hx hb dX2_wipe_68 (lv_at hl 4 rfl) ?_
      obtain ⟨hz, hf⟩ := cz_some hf
      obtain rfl := Option.some.inj hf
      exact ow_retZ C0 hz hP hD hS dX2_wipe_70
    · replace hf := ow_f hc hf
      refine lv_bipush (v := 16) hx hb dX2_wipe_13 (by decide) ?_
      refine lv_iload_n hx hb dX2_wipe_15 rfl (lv_at hl 1 rfl) ?_
      refine lv_imul hx hb dX2_wipe_16 ?_
      refine lv_iload hx hb dX2_wipe_17 (lv_at hl 5 rfl) ?_
      refine lv_iadd hx hb dX2_wipe_19 ?_
      refine lv_istore (lv' := [(6, .int ((16 * x1) + x5)), (0, .ref a0), (1, .int x1), (2, .int x2), (3, .int x3), (4, .int x4), (5, .int x5)]) hx hb dX2_wipe_20 hl (by decide) rfl (fun ls hl => ?_)
      refine lv_iload_n hx hb dX2_wipe_22 rfl (lv_at hl 3 rfl) ?_
      refine lv_iload hx hb dX2_wipe_23 (lv_at hl 6 rfl) ?_
      refine lv_ishr hx hb dX2_wipe_25 ?_
      refine lv_iconst (v := 1) hx hb dX2_wipe_26 (by decide) ?_
      refine lv_iand hx hb dX2_wipe_27 ?_
      refine lv_iconst (v := 1) hx hb dX2_wipe_28 (by decide) ?_
      refine lv_icmp_ne (tgt := 62) hx hb dX2_wipe_29 (by decide) (fun hc => ?_) (fun hc => ?_)
      · replace hf := ow_f hc hf
        exact w_X2_wipe_b62 C0 a0 p0 i0_4 i0_5 i0_6 i0_7 v0_0 res (f_X2_wipe_b6 v0_0 n) ih i0_3 v0_1 v0_2 x1 x2 x3 x4 x5 hf _ _ _ hP hD hS (lv_sub hl [1, 2, 3, 4, 5, 6] rfl)
      · replace hf := ow_t hc hf
        refine lv_aload_n hx hb dX2_wipe_32 rfl (lv_at hl 1 rfl) ?_
        refine va_get (D := D) (ci := 2) (v := .ref (p0 1)) (C := RX2) (T := TX2) (N := 8) hx hb hts in_X2_wipe_X2 hown hK hP 0 rfl rfl 1 (by decide) (hts (.fieldLink RX2 15 "PaneDays$Glass" "depth" "[I") (List.mem_of_getElem? (i := 1) rfl)) (fun _ h9 => h9) rfl dX2_wipe_33 ?_
        refine lv_iload hx hb dX2_wipe_36 (lv_at hl 0 rfl) ?_
        obtain ⟨hin, hf⟩ := ck_some hf
        refine va_iald (f := v0_1) hx hb hK hP 2 0 rfl rfl hin dX2_wipe_38 ?_
        refine lv_if_le (tgt := 62) hx hb dX2_wipe_39 (by decide) (fun hc => ?_) (fun hc => ?_)
        · replace hf := ow_t hc hf
          exact w_X2_wipe_b62 C0 a0 p0 i0_4 i0_5 i0_6 i0_7 v0_0 res (f_X2_wipe_b6 v0_0 n) ih i0_3 v0_1 v0_2 x1 x2 x3 x4 x5 hf _ _ _ hP hD hS (lv_sub hl [1, 2, 3, 4, 5, 6] rfl)
        · replace hf := ow_f hc hf
          refine lv_aload_n hx hb dX2_wipe_42 rfl (lv_at hl 1 rfl) ?_
          refine lv_iload hx hb dX2_wipe_43 (lv_at hl 0 rfl) ?_
          refine lv_iload_n hx hb dX2_wipe_45 rfl (lv_at hl 4 rfl) ?_
          refine lv_aload_n hx hb dX2_wipe_46 rfl (lv_at hl 1 rfl) ?_
          refine va_get (D := D) (ci := 2) (v := .ref (p0 1)) (C := RX2) (T := TX2) (N := 8) hx hb hts in_X2_wipe_X2 hown hK hP 0 rfl rfl 1 (by decide) (hts (.fieldLink RX2 15 "PaneDays$Glass" "depth" "[I") (List.mem_of_getElem? (i := 1) rfl)) (fun _ h9 => h9) rfl dX2_wipe_47 ?_
          refine lv_iload hx hb dX2_wipe_50 (lv_at hl 0 rfl) ?_
          obtain ⟨hin, hf⟩ := ck_some hf
          refine va_iald (f := v0_1) hx hb hK hP 2 0 rfl rfl hin dX2_wipe_52 ?_
          refine va_mmin hx hb (hml.trans hl.1.symm) hown (hts (.methodLink RX2 60 Lib.Math.min.name) (by decide +kernel)) (hts (.static Lib.Math.min.name) (by decide +kernel)) (hts (.initialized "java/lang/Math") (by decide +kernel)) (hts (.code Lib.Math.min.name Lib.Math.min.code 2 (some .int)) (by decide +kernel)) (Nat.le_of_ble_eq_true rfl) (Nat.le_of_ble_eq_true rfl) (Nat.zero_le _) (Nat.zero_le _) dX2_wipe_53 ?_
          obtain ⟨q56, hq, hf⟩ := bd_some hf
          refine ow_callVV (As := [.int ((16 * x1) + x5), .int (if (v0_1 ((16 * x1) + x5).toNatClampNeg) < x3 then (v0_1 ((16 * x1) + x5).toNatClampNeg) else x3)]) (rest := []) (wr := ow_pk (W_X2_wipe cs a0 p0 i0_3 i0_4 i0_5 i0_6 i0_7 v0_0 v0_1 v0_2) []) (wf := (W_X2_wipe cs a0 p0 q56.1 i0_4 i0_5 i0_6 i0_7 v0_0 q56.2.1 q56.2.2)) C0 (c_X2_wipeCell l D cs H.size a0 p0 i0_3 i0_4 i0_5 i0_6 i0_7 v0_0 v0_1 v0_2 ((16 * x1) + x5) (if (v0_1 ((16 * x1) + x5).toNatClampNeg) < x3 then (v0_1 ((16 * x1) + x5).toNatClampNeg) else x3) q56 hq) (cwV 2 hts gX2_wipe_X2_wipeCell rfl rfl rfl (by decide +kernel) ⟨Nat.le_of_ble_eq_true rfl, Nat.le_of_ble_eq_true rfl⟩) 2 rfl rfl hP hD hS (fun q h => Or.inr h) [0, 1, 2, 3] [] [0, 1, 2, 3] rfl (by decide) rfl (by decide) (by decide) rfl (by decide) rfl hl.1 rfl (Nat.le_of_ble_eq_true rfl) ⟨Nat.zero_le _, Nat.zero_le _⟩ dX2_wipe_56 (fun H locs hP hD hS => ?_)
          refine lv_iconst (v := 1) hx hb dX2_wipe_59 (by decide) ?_
          refine lv_istore (lv' := [(4, .int 1), (6, .int ((16 * x1) + x5)), (0, .ref a0), (1, .int x1), (2, .int x2), (3, .int x3), (5, .int x5)]) hx hb dX2_wipe_60 hl (by decide) rfl (fun ls hl => ?_)
          exact w_X2_wipe_b62 C0 a0 p0 i0_4 i0_5 i0_6 i0_7 v0_0 res (f_X2_wipe_b6 v0_0 n) ih q56.1 q56.2.1 q56.2.2 x1 x2 x3 (1) x5 hf _ _ _ hP hD hS (lv_sub hl [2, 3, 4, 5, 0, 6] rfl)
def f_X2_wipe  (i0_3 : Int32) (v0_0 : Nat → Int32) (v0_1 : Nat → Int32) (v0_2 : Nat → Int32) (x1 : Int32) (x2 : Int32) (x3 : Int32) : Option (Int32 × Int32 × (Nat → Int32) × (Nat → Int32)) := f_X2_wipe_b6 v0_0 4000 i0_3 v0_1 v0_2 x1 x2 x3 (0) (0)
set_option maxHeartbeats 4000000 in
set_option maxRecDepth 100000 in
theorem c_X2_wipe (l : Launch) (D : va_G) (cs : Nat → ClassId)  (sz : Nat) (a0 : Nat) (p0 : Nat → Nat) (i0_3 : Int32) (i0_4 : Int32) (i0_5 : Int32) (i0_6 : Int32) (i0_7 : Int32) (v0_0 : Nat → Int32) (v0_1 : Nat → Int32) (v0_2 : Nat → Int32) (x1 : Int32) (x2 : Int32) (x3 : Int32) (res : Int32 × Int32 × (Nat → Int32) × (Nat → Int32)) (hf : f_X2_wipe  i0_3 v0_0 v0_1 v0_2 x1 x2 x3 = some res) : MI l D cs yX2_wipe wsX2_wipe rm_X2_wipe [.ref a0, .int x1, .int x2, .int x3] sz (W_X2_wipe cs a0 p0 i0_3 i0_4 i0_5 i0_6 i0_7 v0_0 v0_1 v0_2) (W_X2_wipe cs a0 p0 res.2.1 i0_4 i0_5 i0_6 i0_7 v0_0 res.2.2.1 res.2.2.2) res.1 := by
  rw [f_X2_wipe] at hf
  refine ow_enter (cc := cX2_wipe) (nL := 7) (ret := (some .boolean)) (by decide) rfl (Nat.le_of_ble_eq_true rfl) (fun p e s m below meth c ls H locs C0 hP hD hS hA hl => ?_)
  obtain ⟨hx, hb, hr, hlk, hml, hown, hts, hK, hG, hE⟩ := id C0
  have hl : lv_has ls 7 [(0, .ref a0), (1, .int x1), (2, .int x2), (3, .int x3)] := hl
  refine lv_iconst (v := 0) hx hb dX2_wipe_0 (by decide) ?_
  refine lv_istore (lv' := [(4, .int 0), (0, .ref a0), (1, .int x1), (2, .int x2), (3, .int x3)]) hx hb dX2_wipe_1 hl (by decide) rfl (fun ls hl => ?_)
  refine lv_iconst (v := 0) hx hb dX2_wipe_3 (by decide) ?_
  refine lv_istore (lv' := [(5, .int 0), (4, .int 0), (0, .ref a0), (1, .int x1), (2, .int x2), (3, .int x3)]) hx hb dX2_wipe_4 hl (by decide) rfl (fun ls hl => ?_)
  exact w_X2_wipe_b6 C0 a0 p0 i0_4 i0_5 i0_6 i0_7 v0_0 res 4000 i0_3 v0_1 v0_2 x1 x2 x3 (0) (0) hf _ _ _ hP hD hS (lv_sub hl [2, 3, 4, 5, 1, 0] rfl)
theorem in_X2_thickest_X2 : ∀ w ∈ u_ws RX2 TX2 8, w ∈ wsX2_thickest := fun w h => List.mem_cons_of_mem _ (List.mem_append_right _ h)
abbrev W_X2_thickest (cs : Nat → ClassId) (a0 : Nat) (p0 : Nat → Nat) (i0_3 : Int32) (i0_4 : Int32) (i0_5 : Int32) (i0_6 : Int32) (i0_7 : Int32) (v0_0 : Nat → Int32) (v0_1 : Nat → Int32) (v0_2 : Nat → Int32) : va_W := wX2 cs a0 p0 i0_3 i0_4 i0_5 i0_6 i0_7 v0_0 v0_1 v0_2
abbrev rm_X2_thickest : Room := { frames := 0, cells := 0, slots := 0, locals := 0 }
def f_X2_thickest_b31  (v0_1 : Nat → Int32) (k6 : Int32 → Int32 → Int32 → Option (Int32))  (x1 : Int32) (x2 : Int32) (x3 : Int32) : Option (Int32) := k6 x1 x2 (x3 + 1)
set_option maxHeartbeats 4000000 in
set_option maxRecDepth 100000 in
theorem w_X2_thickest_b31 {p : Program} {l : Launch} {e : Env} {s : State} {m : MethodId} {below : List Frame} {meth : Method} {c : Code} {D : va_G} {cs : Nat → ClassId} {av : Array Value} {w0 : va_W} (C0 : Cx p s m meth c av wsX2_thickest cX2_thickest 4 (some .int) RX2 D cs w0)  (a0 : Nat) (p0 : Nat → Nat) (i0_3 : Int32) (i0_4 : Int32) (i0_5 : Int32) (i0_6 : Int32) (i0_7 : Int32) (v0_0 : Nat → Int32) (v0_1 : Nat → Int32) (v0_2 : Nat → Int32) (res : Int32) (k6 : Int32 → Int32 → Int32 → Option (Int32)) (hk6 : ∀ (x1 : Int32) (x2 : Int32) (x3 : Int32), k6 x1 x2 x3 = some res → ∀ (H : Heap) (locs : List Loc) (ls : Array Slot), va_P D vwCl (W_X2_thickest cs a0 p0 i0_3 i0_4 i0_5 i0_6 i0_7 v0_0 v0_1 v0_2) H → va_D (va_A w0 s.heap.size) (W_X2_thickest cs a0 p0 i0_3 i0_4 i0_5 i0_6 i0_7 v0_0 v0_1 v0_2) → va_S (va_A w0 s.heap.size) s.heap H locs → lv_has ls 4 [(0, .ref a0), (1, .int x1), (2, .int x2), (3, .int x3)] → W p l e rm_X2_thickest s m av below meth c H locs 0 0 (MQ below (oI D cs w0 (W_X2_thickest cs a0 p0 i0_3 i0_4 i0_5 i0_6 i0_7 v0_0 v0_1 v0_2) res s.heap.size) av s 0 0 (va_A w0 s.heap.size)) (F0 m 6 ls [])) : ∀ (x1 : Int32) (x2 : Int32) (x3 : Int32), f_X2_thickest_b31 v0_1 k6 x1 x2 x3 = some res → ∀ (H : Heap) (locs : List Loc) (ls : Array Slot), va_P D vwCl (W_X2_thickest cs a0 p0 i0_3 i0_4 i0_5 i0_6 i0_7 v0_0 v0_1 v0_2) H → va_D (va_A w0 s.heap.size) (W_X2_thickest cs a0 p0 i0_3 i0_4 i0_5 i0_6 i0_7 v0_0 v0_1 v0_2) → va_S (va_A w0 s.heap.size) s.heap H locs → lv_has ls 4 [(0, .ref a0), (1, .int x1), (2, .int x2), (3, .int x3)] → W p l e rm_X2_thickest s m av below meth c H locs 0 0 (MQ below (oI D cs w0 (W_X2_thickest cs a0 p0 i0_3 i0_4 i0_5 i0_6 i0_7 v0_0 v0_1 v0_2) res s.heap.size) av s 0 0 (va_A w0 s.heap.size)) (F0 m 31 ls []) := by
  obtain ⟨hx, hb, hr, hlk, hml, hown, hts, hK, hG, hE⟩ := id C0
  intro x1 x2 x3 hf H locs ls hP hD hS hl
  rw [f_X2_thickest_b31] at hf
  refine lv_iinc (v := x3 + 1) (lv' := [(3, .int (x3 + 1)), (0, .ref a0), (1, .int x1), (2, .int x2)]) hx hb dX2_thickest_31 hl (k := 3) rfl (ow_inc (by decide)) (by decide) rfl (fun ls hl => ?_)
  refine lv_goto (tgt := 6) hx hb dX2_thickest_34 (by decide) ?_
  exact hk6 x1 x2 (x3 + 1) hf _ _ _ hP hD hS (lv_sub hl [1, 2, 3, 0] rfl)
def f_X2_thickest_b6  (v0_1 : Nat → Int32)  : Nat → Int32 → Int32 → Int32 → Option (Int32)
  | 0, _, _, _ => none
  | n + 1, x1, x2, x3 => if 80 ≤ x3 then (some (x1)) else (ck x3 80 (if (v0_1 (x3).toNatClampNeg) ≤ x2 then (f_X2_thickest_b31 v0_1 (f_X2_thickest_b6 v0_1 n) x1 x2 x3) else (ck x3 80 (f_X2_thickest_b31 v0_1 (f_X2_thickest_b6 v0_1 n) x3 (v0_1 (x3).toNatClampNeg) x3))))
set_option maxHeartbeats 4000000 in
set_option maxRecDepth 100000 in
theorem w_X2_thickest_b6 {p : Program} {l : Launch} {e : Env} {s : State} {m : MethodId} {below : List Frame} {meth : Method} {c : Code} {D : va_G} {cs : Nat → ClassId} {av : Array Value} {w0 : va_W} (C0 : Cx p s m meth c av wsX2_thickest cX2_thickest 4 (some .int) RX2 D cs w0)  (a0 : Nat) (p0 : Nat → Nat) (i0_3 : Int32) (i0_4 : Int32) (i0_5 : Int32) (i0_6 : Int32) (i0_7 : Int32) (v0_0 : Nat → Int32) (v0_1 : Nat → Int32) (v0_2 : Nat → Int32) (res : Int32)  : ∀ (n : Nat) (x1 : Int32) (x2 : Int32) (x3 : Int32), f_X2_thickest_b6 v0_1 n x1 x2 x3 = some res → ∀ (H : Heap) (locs : List Loc) (ls : Array Slot), va_P D vwCl (W_X2_thickest cs a0 p0 i0_3 i0_4 i0_5 i0_6 i0_7 v0_0 v0_1 v0_2) H → va_D (va_A w0 s.heap.size) (W_X2_thickest cs a0 p0 i0_3 i0_4 i0_5 i0_6 i0_7 v0_0 v0_1 v0_2) → va_S (va_A w0 s.heap.size) s.heap H locs → lv_has ls 4 [(0, .ref a0), (1, .int x1), (2, .int x2), (3, .int x3)] → W p l e rm_X2_thickest s m av below meth c H locs 0 0 (MQ below (oI D cs w0 (W_X2_thickest cs a0 p0 i0_3 i0_4 i0_5 i0_6 i0_7 v0_0 v0_1 v0_2) res s.heap.size) av s 0 0 (va_A w0 s.heap.size)) (F0 m 6 ls []) := by
  obtain ⟨hx, hb, hr, hlk, hml, hown, hts, hK, hG, hE⟩ := id C0
  intro n
  induction n with
  | zero =>
    intro x1 x2 x3 hf
    rw [f_X2_thickest_b6] at hf
    cases hf
  | succ n ih =>
    intro x1 x2 x3 hf H locs ls hP hD hS hl
    rw [f_X2_thickest_b6] at hf
    refine lv_iload_n hx hb dX2_thickest_6 rfl (lv_at hl 3 rfl) ?_
    refine lv_bipush (v := 80) hx hb dX2_thickest_7 (by decide) ?_
    refine lv_icmp_ge (tgt := 37) hx hb dX2_thickest_9 (by decide) (fun hc => ?_) (fun hc => ?_)
    · replace hf := ow_t hc hf
      refine lv_iload_n hx hb dX2_thickest_37 rfl (lv_at hl 1 rfl) ?_
      obtain rfl := Option.some.inj hf
      exact ow_retI C0 hP hD hS dX2_thickest_38
    · replace hf := ow_f hc hf
      refine lv_aload_n hx hb dX2_thickest_12 rfl (lv_at hl 0 rfl) ?_
      refine va_get (D := D) (ci := 2) (v := .ref (p0 1)) (C := RX2) (T := TX2) (N := 8) hx hb hts in_X2_thickest_X2 hown hK hP 0 rfl rfl 1 (by decide) (hts (.fieldLink RX2 15 "PaneDays$Glass" "depth" "[I") (List.mem_of_getElem? (i := 1) rfl)) (fun _ h9 => h9) rfl dX2_thickest_13 ?_
      refine lv_iload_n hx hb dX2_thickest_16 rfl (lv_at hl 3 rfl) ?_
      obtain ⟨hin, hf⟩ := ck_some hf
      refine va_iald (f := v0_1) hx hb hK hP 2 0 rfl rfl hin dX2_thickest_17 ?_
      refine lv_iload_n hx hb dX2_thickest_18 rfl (lv_at hl 2 rfl) ?_
      refine lv_icmp_le (tgt := 31) hx hb dX2_thickest_19 (by decide) (fun hc => ?_) (fun hc => ?_)
      · replace hf := ow_t hc hf
        exact w_X2_thickest_b31 C0 a0 p0 i0_3 i0_4 i0_5 i0_6 i0_7 v0_0 v0_1 v0_2 res (f_X2_thickest_b6 v0_1 n) ih x1 x2 x3 hf _ _ _ hP hD hS (lv_sub hl [0, 1, 2, 3] rfl)
      · replace hf := ow_f hc hf
        refine lv_aload_n hx hb dX2_thickest_22 rfl (lv_at hl 0 rfl) ?_
        refine va_get (D := D) (ci := 2) (v := .ref (p0 1)) (C := RX2) (T := TX2) (N := 8) hx hb hts in_X2_thickest_X2 hown hK hP 0 rfl rfl 1 (by decide) (hts (.fieldLink RX2 15 "PaneDays$Glass" "depth" "[I") (List.mem_of_getElem? (i := 1) rfl)) (fun _ h9 => h9) rfl dX2_thickest_23 ?_
        refine lv_iload_n hx hb dX2_thickest_26 rfl (lv_at hl 3 rfl) ?_
        obtain ⟨hin, hf⟩ := ck_some hf
        refine va_iald (f := v0_1) hx hb hK hP 2 0 rfl rfl hin dX2_thickest_27 ?_
        refine lv_istore_n (lv' := [(2, .int (v0_1 (x3).toNatClampNeg)), (0, .ref a0), (1, .int x1), (3, .int x3)]) hx hb dX2_thickest_28 rfl hl (by decide) rfl (fun ls hl => ?_)
        refine lv_iload_n hx hb dX2_thickest_29 rfl (lv_at hl 3 rfl) ?_
        refine lv_istore_n (lv' := [(1, .int x3), (2, .int (v0_1 (x3).toNatClampNeg)), (0, .ref a0), (3, .int x3)]) hx hb dX2_thickest_30 rfl hl (by decide) rfl (fun ls hl => ?_)
        exact w_X2_thickest_b31 C0 a0 p0 i0_3 i0_4 i0_5 i0_6 i0_7 v0_0 v0_1 v0_2 res (f_X2_thickest_b6 v0_1 n) ih x3 (v0_1 (x3).toNatClampNeg) x3 hf _ _ _ hP hD hS (lv_sub hl [2, 0, 1, 3] rfl)
def f_X2_thickest  (v0_1 : Nat → Int32)  : Option (Int32) := f_X2_thickest_b6 v0_1 4000 ((-1)) (0) (0)
set_option maxHeartbeats 4000000 in
set_option maxRecDepth 100000 in
theorem c_X2_thickest (l : Launch) (D : va_G) (cs : Nat → ClassId)  (sz : Nat) (a0 : Nat) (p0 : Nat → Nat) (i0_3 : Int32) (i0_4 : Int32) (i0_5 : Int32) (i0_6 : Int32) (i0_7 : Int32) (v0_0 : Nat → Int32) (v0_1 : Nat → Int32) (v0_2 : Nat → Int32)  (res : Int32) (hf : f_X2_thickest  v0_1  = some res) : MI l D cs yX2_thickest wsX2_thickest rm_X2_thickest [.ref a0] sz (W_X2_thickest cs a0 p0 i0_3 i0_4 i0_5 i0_6 i0_7 v0_0 v0_1 v0_2) (W_X2_thickest cs a0 p0 i0_3 i0_4 i0_5 i0_6 i0_7 v0_0 v0_1 v0_2) res := by
  rw [f_X2_thickest] at hf
  refine ow_enter (cc := cX2_thickest) (nL := 4) (ret := (some .int)) (by decide) rfl (Nat.le_of_ble_eq_true rfl) (fun p e s m below meth c ls H locs C0 hP hD hS hA hl => ?_)
  obtain ⟨hx, hb, hr, hlk, hml, hown, hts, hK, hG, hE⟩ := id C0
  have hl : lv_has ls 4 [(0, .ref a0)] := hl
  refine lv_iconst (v := (-1)) hx hb dX2_thickest_0 (by decide) ?_
  refine lv_istore_n (lv' := [(1, .int ((-1))), (0, .ref a0)]) hx hb dX2_thickest_1 rfl hl (by decide) rfl (fun ls hl => ?_)
  refine lv_iconst (v := 0) hx hb dX2_thickest_2 (by decide) ?_
  refine lv_istore_n (lv' := [(2, .int 0), (1, .int ((-1))), (0, .ref a0)]) hx hb dX2_thickest_3 rfl hl (by decide) rfl (fun ls hl => ?_)
  refine lv_iconst (v := 0) hx hb dX2_thickest_4 (by decide) ?_
  refine lv_istore_n (lv' := [(3, .int 0), (2, .int 0), (1, .int ((-1))), (0, .ref a0)]) hx hb dX2_thickest_5 rfl hl (by decide) rfl (fun ls hl => ?_)
  exact w_X2_thickest_b6 C0 a0 p0 i0_3 i0_4 i0_5 i0_6 i0_7 v0_0 v0_1 v0_2 res 4000 ((-1)) (0) (0) hf _ _ _ hP hD hS (lv_sub hl [3, 2, 1, 0] rfl)
theorem in_X2_outsideOf_X2 : ∀ w ∈ u_ws RX2 TX2 8, w ∈ wsX2_outsideOf := fun w h => List.mem_cons_of_mem _ (List.mem_append_right _ h)
abbrev W_X2_outsideOf (cs : Nat → ClassId) (a0 : Nat) (p0 : Nat → Nat) (i0_3 : Int32) (i0_4 : Int32) (i0_5 : Int32) (i0_6 : Int32) (i0_7 : Int32) (v0_0 : Nat → Int32) (v0_1 : Nat → Int32) (v0_2 : Nat → Int32) : va_W := wX2 cs a0 p0 i0_3 i0_4 i0_5 i0_6 i0_7 v0_0 v0_1 v0_2
abbrev rm_X2_outsideOf : Room := { frames := 1, cells := 0, slots := 0, locals := 22 }
def f_X2_outsideOf_b2  (v0_0 : Nat → Int32) (v0_1 : Nat → Int32)  : Nat → Int32 → Int32 → Int32 → Option (Int32)
  | 0, _, _, _ => none
  | n + 1, x1, x2, x3 => ck x1 80 (if (v0_1 (x1).toNatClampNeg) ≤ x3 then (some ((-1))) else ((f_X2_behind v0_0 v0_1 x1 x3).bind fun q15 => if q15 = x2 then (some (x3)) else (f_X2_outsideOf_b2 v0_0 v0_1 n x1 x2 (x3 + 1))))
set_option maxHeartbeats 4000000 in
set_option maxRecDepth 100000 in
theorem w_X2_outsideOf_b2 {p : Program} {l : Launch} {e : Env} {s : State} {m : MethodId} {below : List Frame} {meth : Method} {c : Code} {D : va_G} {cs : Nat → ClassId} {av : Array Value} {w0 : va_W} (C0 : Cx p s m meth c av wsX2_outsideOf cX2_outsideOf 4 (some .int) RX2 D cs w0)  (a0 : Nat) (p0 : Nat → Nat) (i0_3 : Int32) (i0_4 : Int32) (i0_5 : Int32) (i0_6 : Int32) (i0_7 : Int32) (v0_0 : Nat → Int32) (v0_1 : Nat → Int32) (v0_2 : Nat → Int32) (res : Int32)  : ∀ (n : Nat) (x1 : Int32) (x2 : Int32) (x3 : Int32), f_X2_outsideOf_b2 v0_0 v0_1 n x1 x2 x3 = some res → ∀ (H : Heap) (locs : List Loc) (ls : Array Slot), va_P D vwCl (W_X2_outsideOf cs a0 p0 i0_3 i0_4 i0_5 i0_6 i0_7 v0_0 v0_1 v0_2) H → va_D (va_A w0 s.heap.size) (W_X2_outsideOf cs a0 p0 i0_3 i0_4 i0_5 i0_6 i0_7 v0_0 v0_1 v0_2) → va_S (va_A w0 s.heap.size) s.heap H locs → lv_has ls 4 [(0, .ref a0), (1, .int x1), (2, .int x2), (3, .int x3)] → W p l e rm_X2_outsideOf s m av below meth c H locs 0 0 (MQ below (oI D cs w0 (W_X2_outsideOf cs a0 p0 i0_3 i0_4 i0_5 i0_6 i0_7 v0_0 v0_1 v0_2) res s.heap.size) av s 0 0 (va_A w0 s.heap.size)) (F0 m 2 ls []) := by
  obtain ⟨hx, hb, hr, hlk, hml, hown, hts, hK, hG, hE⟩ := id C0
  intro n
  induction n with
  | zero =>
    intro x1 x2 x3 hf
    rw [f_X2_outsideOf_b2] at hf
    cases hf
  | succ n ih =>
    intro x1 x2 x3 hf H locs ls hP hD hS hl
    rw [f_X2_outsideOf_b2] at hf
    refine lv_iload_n hx hb dX2_outsideOf_2 rfl (lv_at hl 3 rfl) ?_
    refine lv_aload_n hx hb dX2_outsideOf_3 rfl (lv_at hl 0 rfl) ?_
    refine va_get (D := D) (ci := 2) (v := .ref (p0 1)) (C := RX2) (T := TX2) (N := 8) hx hb hts in_X2_outsideOf_X2 hown hK hP 0 rfl rfl 1 (by decide) (hts (.fieldLink RX2 15 "PaneDays$Glass" "depth" "[I") (List.mem_of_getElem? (i := 1) rfl)) (fun _ h9 => h9) rfl dX2_outsideOf_4 ?_
    refine lv_iload_n hx hb dX2_outsideOf_7 rfl (lv_at hl 1 rfl) ?_
    obtain ⟨hin, hf⟩ := ck_some hf
    refine va_iald (f := v0_1) hx hb hK hP 2 0 rfl rfl hin dX2_outsideOf_8 ?_
    refine lv_icmp_ge (tgt := 30) hx hb dX2_outsideOf_9 (by decide) (fun hc => ?_) (fun hc => ?_)
    · replace hf := ow_t hc hf
      refine lv_iconst (v := (-1)) hx hb dX2_outsideOf_30 (by decide) ?_
      obtain rfl := Option.some.inj hf
      exact ow_retI C0 hP hD hS dX2_outsideOf_31
    · replace hf := ow_f hc hf
      refine lv_aload_n hx hb dX2_outsideOf_12 rfl (lv_at hl 0 rfl) ?_
      refine lv_iload_n hx hb dX2_outsideOf_13 rfl (lv_at hl 1 rfl) ?_
      refine lv_iload_n hx hb dX2_outsideOf_14 rfl (lv_at hl 3 rfl) ?_
      obtain ⟨q15, hq, hf⟩ := bd_some hf
      refine ow_callVI (As := [.int x1, .int x3]) (rest := []) (wr := ow_pk (W_X2_outsideOf cs a0 p0 i0_3 i0_4 i0_5 i0_6 i0_7 v0_0 v0_1 v0_2) []) (wf := (W_X2_outsideOf cs a0 p0 i0_3 i0_4 i0_5 i0_6 i0_7 v0_0 v0_1 v0_2)) (r := q15) C0 (c_X2_behind l D cs H.size a0 p0 i0_3 i0_4 i0_5 i0_6 i0_7 v0_0 v0_1 v0_2 x1 x3 q15 hq) (cwV 2 hts gX2_outsideOf_X2_behind rfl rfl rfl (by decide +kernel) ⟨Nat.le_of_ble_eq_true rfl, Nat.le_of_ble_eq_true rfl⟩) 2 rfl rfl hP hD hS (fun q h => Or.inr h) [0, 1, 2, 3] [] [0, 1, 2, 3] rfl (by decide) rfl (by decide) (by decide) rfl (by decide) rfl hl.1 rfl (Nat.le_of_ble_eq_true rfl) ⟨Nat.zero_le _, Nat.zero_le _⟩ dX2_outsideOf_15 (fun H locs hP hD hS => ?_)
      refine lv_iload_n hx hb dX2_outsideOf_18 rfl (lv_at hl 2 rfl) ?_
      refine lv_icmp_ne (tgt := 24) hx hb dX2_outsideOf_19 (by decide) (fun hc => ?_) (fun hc => ?_)
      · replace hf := ow_f hc hf
        refine lv_iinc (v := x3 + 1) (lv' := [(3, .int (x3 + 1)), (0, .ref a0), (1, .int x1), (2, .int x2)]) hx hb dX2_outsideOf_24 hl (k := 3) rfl (ow_inc (by decide)) (by decide) rfl (fun ls hl => ?_)
        refine lv_goto (tgt := 2) hx hb dX2_outsideOf_27 (by decide) ?_
        exact ih x1 x2 (x3 + 1) hf _ _ _ hP hD hS (lv_sub hl [1, 2, 3, 0] rfl)
      · replace hf := ow_t hc hf
        refine lv_iload_n hx hb dX2_outsideOf_22 rfl (lv_at hl 3 rfl) ?_
        obtain rfl := Option.some.inj hf
        exact ow_retI C0 hP hD hS dX2_outsideOf_23
def f_X2_outsideOf  (v0_0 : Nat → Int32) (v0_1 : Nat → Int32) (x1 : Int32) (x2 : Int32) : Option (Int32) := f_X2_outsideOf_b2 v0_0 v0_1 4000 x1 x2 (0)
set_option maxHeartbeats 4000000 in
set_option maxRecDepth 100000 in
theorem c_X2_outsideOf (l : Launch) (D : va_G) (cs : Nat → ClassId)  (sz : Nat) (a0 : Nat) (p0 : Nat → Nat) (i0_3 : Int32) (i0_4 : Int32) (i0_5 : Int32) (i0_6 : Int32) (i0_7 : Int32) (v0_0 : Nat → Int32) (v0_1 : Nat → Int32) (v0_2 : Nat → Int32) (x1 : Int32) (x2 : Int32) (res : Int32) (hf : f_X2_outsideOf  v0_0 v0_1 x1 x2 = some res) : MI l D cs yX2_outsideOf wsX2_outsideOf rm_X2_outsideOf [.ref a0, .int x1, .int x2] sz (W_X2_outsideOf cs a0 p0 i0_3 i0_4 i0_5 i0_6 i0_7 v0_0 v0_1 v0_2) (W_X2_outsideOf cs a0 p0 i0_3 i0_4 i0_5 i0_6 i0_7 v0_0 v0_1 v0_2) res := by
  rw [f_X2_outsideOf] at hf
  refine ow_enter (cc := cX2_outsideOf) (nL := 4) (ret := (some .int)) (by decide) rfl (Nat.le_of_ble_eq_true rfl) (fun p e s m below meth c ls H locs C0 hP hD hS hA hl => ?_)
  obtain ⟨hx, hb, hr, hlk, hml, hown, hts, hK, hG, hE⟩ := id C0
  have hl : lv_has ls 4 [(0, .ref a0), (1, .int x1), (2, .int x2)] := hl
  refine lv_iconst (v := 0) hx hb dX2_outsideOf_0 (by decide) ?_
  refine lv_istore_n (lv' := [(3, .int 0), (0, .ref a0), (1, .int x1), (2, .int x2)]) hx hb dX2_outsideOf_1 rfl hl (by decide) rfl (fun ls hl => ?_)
  exact w_X2_outsideOf_b2 C0 a0 p0 i0_3 i0_4 i0_5 i0_6 i0_7 v0_0 v0_1 v0_2 res 4000 x1 x2 (0) hf _ _ _ hP hD hS (lv_sub hl [1, 2, 3, 0] rfl)
abbrev W_X2_filmsOf (cs : Nat → ClassId) (a0 : Nat) (p0 : Nat → Nat) (i0_3 : Int32) (i0_4 : Int32) (i0_5 : Int32) (i0_6 : Int32) (i0_7 : Int32) (v0_0 : Nat → Int32) (v0_1 : Nat → Int32) (v0_2 : Nat → Int32) : va_W := wX2 cs a0 p0 i0_3 i0_4 i0_5 i0_6 i0_7 v0_0 v0_1 v0_2
abbrev rm_X2_filmsOf : Room := { frames := 2, cells := 0, slots := 0, locals := 45 }
def f_X2_filmsOf_b23  (v0_0 : Nat → Int32) (v0_1 : Nat → Int32) (k4 : Int32 → Int32 → Int32 → Option (Int32))  (x1 : Int32) (x2 : Int32) (x3 : Int32) : Option (Int32) := k4 x1 x2 (x3 + 1)
set_option maxHeartbeats 4000000 in
set_option maxRecDepth 100000 in
theorem w_X2_filmsOf_b23 {p : Program} {l : Launch} {e : Env} {s : State} {m : MethodId} {below : List Frame} {meth : Method} {c : Code} {D : va_G} {cs : Nat → ClassId} {av : Array Value} {w0 : va_W} (C0 : Cx p s m meth c av wsX2_filmsOf cX2_filmsOf 4 (some .int) RX2 D cs w0)  (a0 : Nat) (p0 : Nat → Nat) (i0_3 : Int32) (i0_4 : Int32) (i0_5 : Int32) (i0_6 : Int32) (i0_7 : Int32) (v0_0 : Nat → Int32) (v0_1 : Nat → Int32) (v0_2 : Nat → Int32) (res : Int32) (k4 : Int32 → Int32 → Int32 → Option (Int32)) (hk4 : ∀ (x1 : Int32) (x2 : Int32) (x3 : Int32), k4 x1 x2 x3 = some res → ∀ (H : Heap) (locs : List Loc) (ls : Array Slot), va_P D vwCl (W_X2_filmsOf cs a0 p0 i0_3 i0_4 i0_5 i0_6 i0_7 v0_0 v0_1 v0_2) H → va_D (va_A w0 s.heap.size) (W_X2_filmsOf cs a0 p0 i0_3 i0_4 i0_5 i0_6 i0_7 v0_0 v0_1 v0_2) → va_S (va_A w0 s.heap.size) s.heap H locs → lv_has ls 4 [(0, .ref a0), (1, .int x1), (2, .int x2), (3, .int x3)] → W p l e rm_X2_filmsOf s m av below meth c H locs 0 0 (MQ below (oI D cs w0 (W_X2_filmsOf cs a0 p0 i0_3 i0_4 i0_5 i0_6 i0_7 v0_0 v0_1 v0_2) res s.heap.size) av s 0 0 (va_A w0 s.heap.size)) (F0 m 4 ls [])) : ∀ (x1 : Int32) (x2 : Int32) (x3 : Int32), f_X2_filmsOf_b23 v0_0 v0_1 k4 x1 x2 x3 = some res → ∀ (H : Heap) (locs : List Loc) (ls : Array Slot), va_P D vwCl (W_X2_filmsOf cs a0 p0 i0_3 i0_4 i0_5 i0_6 i0_7 v0_0 v0_1 v0_2) H → va_D (va_A w0 s.heap.size) (W_X2_filmsOf cs a0 p0 i0_3 i0_4 i0_5 i0_6 i0_7 v0_0 v0_1 v0_2) → va_S (va_A w0 s.heap.size) s.heap H locs → lv_has ls 4 [(0, .ref a0), (1, .int x1), (2, .int x2), (3, .int x3)] → W p l e rm_X2_filmsOf s m av below meth c H locs 0 0 (MQ below (oI D cs w0 (W_X2_filmsOf cs a0 p0 i0_3 i0_4 i0_5 i0_6 i0_7 v0_0 v0_1 v0_2) res s.heap.size) av s 0 0 (va_A w0 s.heap.size)) (F0 m 23 ls []) := by
  obtain ⟨hx, hb, hr, hlk, hml, hown, hts, hK, hG, hE⟩ := id C0
  intro x1 x2 x3 hf H locs ls hP hD hS hl
  rw [f_X2_filmsOf_b23] at hf
  refine lv_iinc (v := x3 + 1) (lv' := [(3, .int (x3 + 1)), (0, .ref a0), (1, .int x1), (2, .int x2)]) hx hb dX2_filmsOf_23 hl (k := 3) rfl (ow_inc (by decide)) (by decide) rfl (fun ls hl => ?_)
  refine lv_goto (tgt := 4) hx hb dX2_filmsOf_26 (by decide) ?_
  exact hk4 x1 x2 (x3 + 1) hf _ _ _ hP hD hS (lv_sub hl [1, 2, 3, 0] rfl)
def f_X2_filmsOf_b4  (v0_0 : Nat → Int32) (v0_1 : Nat → Int32)  : Nat → Int32 → Int32 → Int32 → Option (Int32)
  | 0, _, _, _ => none
  | n + 1, x1, x2, x3 => if 80 ≤ x3 then (some (x2)) else ((f_X2_outsideOf v0_0 v0_1 x3 x1).bind fun q13 => if q13 = ((-1)) then (f_X2_filmsOf_b23 v0_0 v0_1 (f_X2_filmsOf_b4 v0_0 v0_1 n) x1 x2 x3) else (f_X2_filmsOf_b23 v0_0 v0_1 (f_X2_filmsOf_b4 v0_0 v0_1 n) x1 (x2 + 1) x3))
set_option maxHeartbeats 4000000 in
set_option maxRecDepth 100000 in
theorem w_X2_filmsOf_b4 {p : Program} {l : Launch} {e : Env} {s : State} {m : MethodId} {below : List Frame} {meth : Method} {c : Code} {D : va_G} {cs : Nat → ClassId} {av : Array Value} {w0 : va_W} (C0 : Cx p s m meth c av wsX2_filmsOf cX2_filmsOf 4 (some .int) RX2 D cs w0)  (a0 : Nat) (p0 : Nat → Nat) (i0_3 : Int32) (i0_4 : Int32) (i0_5 : Int32) (i0_6 : Int32) (i0_7 : Int32) (v0_0 : Nat → Int32) (v0_1 : Nat → Int32) (v0_2 : Nat → Int32) (res : Int32)  : ∀ (n : Nat) (x1 : Int32) (x2 : Int32) (x3 : Int32), f_X2_filmsOf_b4 v0_0 v0_1 n x1 x2 x3 = some res → ∀ (H : Heap) (locs : List Loc) (ls : Array Slot), va_P D vwCl (W_X2_filmsOf cs a0 p0 i0_3 i0_4 i0_5 i0_6 i0_7 v0_0 v0_1 v0_2) H → va_D (va_A w0 s.heap.size) (W_X2_filmsOf cs a0 p0 i0_3 i0_4 i0_5 i0_6 i0_7 v0_0 v0_1 v0_2) → va_S (va_A w0 s.heap.size) s.heap H locs → lv_has ls 4 [(0, .ref a0), (1, .int x1), (2, .int x2), (3, .int x3)] → W p l e rm_X2_filmsOf s m av below meth c H locs 0 0 (MQ below (oI D cs w0 (W_X2_filmsOf cs a0 p0 i0_3 i0_4 i0_5 i0_6 i0_7 v0_0 v0_1 v0_2) res s.heap.size) av s 0 0 (va_A w0 s.heap.size)) (F0 m 4 ls []) := by
  obtain ⟨hx, hb, hr, hlk, hml, hown, hts, hK, hG, hE⟩ := id C0
  intro n
  induction n with
  | zero =>
    intro x1 x2 x3 hf
    rw [f_X2_filmsOf_b4] at hf
    cases hf
  | succ n ih =>
    intro x1 x2 x3 hf H locs ls hP hD hS hl
    rw [f_X2_filmsOf_b4] at hf
    refine lv_iload_n hx hb dX2_filmsOf_4 rfl (lv_at hl 3 rfl) ?_
    refine lv_bipush (v := 80) hx hb dX2_filmsOf_5 (by decide) ?_
    refine lv_icmp_ge (tgt := 29) hx hb dX2_filmsOf_7 (by decide) (fun hc => ?_) (fun hc => ?_)
    · replace hf := ow_t hc hf
      refine lv_iload_n hx hb dX2_filmsOf_29 rfl (lv_at hl 2 rfl) ?_
      obtain rfl := Option.some.inj hf
      exact ow_retI C0 hP hD hS dX2_filmsOf_30
    · replace hf := ow_f hc hf
      refine lv_aload_n hx hb dX2_filmsOf_10 rfl (lv_at hl 0 rfl) ?_
      refine lv_iload_n hx hb dX2_filmsOf_11 rfl (lv_at hl 3 rfl) ?_
      refine lv_iload_n hx hb dX2_filmsOf_12 rfl (lv_at hl 1 rfl) ?_
      obtain ⟨q13, hq, hf⟩ := bd_some hf
      refine ow_callVI (As := [.int x3, .int x1]) (rest := []) (wr := ow_pk (W_X2_filmsOf cs a0 p0 i0_3 i0_4 i0_5 i0_6 i0_7 v0_0 v0_1 v0_2) []) (wf := (W_X2_filmsOf cs a0 p0 i0_3 i0_4 i0_5 i0_6 i0_7 v0_0 v0_1 v0_2)) (r := q13) C0 (c_X2_outsideOf l D cs H.size a0 p0 i0_3 i0_4 i0_5 i0_6 i0_7 v0_0 v0_1 v0_2 x3 x1 q13 hq) (cwV 2 hts gX2_filmsOf_X2_outsideOf rfl rfl rfl (by decide +kernel) ⟨Nat.le_of_ble_eq_true rfl, Nat.le_of_ble_eq_true rfl⟩) 2 rfl rfl hP hD hS (fun q h => Or.inr h) [0, 1, 2, 3] [] [0, 1, 2, 3] rfl (by decide) rfl (by decide) (by decide) rfl (by decide) rfl hl.1 rfl (Nat.le_of_ble_eq_true rfl) ⟨Nat.zero_le _, Nat.zero_le _⟩ dX2_filmsOf_13 (fun H locs hP hD hS => ?_)
      refine lv_iconst (v := (-1)) hx hb dX2_filmsOf_16 (by decide) ?_
      refine lv_icmp_eq (tgt := 23) hx hb dX2_filmsOf_17 (by decide) (fun hc => ?_) (fun hc => ?_)
      · replace hf := ow_t hc hf
        exact w_X2_filmsOf_b23 C0 a0 p0 i0_3 i0_4 i0_5 i0_6 i0_7 v0_0 v0_1 v0_2 res (f_X2_filmsOf_b4 v0_0 v0_1 n) ih x1 x2 x3 hf _ _ _ hP hD hS (lv_sub hl [0, 1, 2, 3] rfl)
      · replace hf := ow_f hc hf
        refine lv_iinc (v := x2 + 1) (lv' := [(2, .int (x2 + 1)), (0, .ref a0), (1, .int x1), (3, .int x3)]) hx hb dX2_filmsOf_20 hl (k := 2) rfl (ow_inc (by decide)) (by decide) rfl (fun ls hl => ?_)
        exact w_X2_filmsOf_b23 C0 a0 p0 i0_3 i0_4 i0_5 i0_6 i0_7 v0_0 v0_1 v0_2 res (f_X2_filmsOf_b4 v0_0 v0_1 n) ih x1 (x2 + 1) x3 hf _ _ _ hP hD hS (lv_sub hl [1, 2, 0, 3] rfl)
def f_X2_filmsOf  (v0_0 : Nat → Int32) (v0_1 : Nat → Int32) (x1 : Int32) : Option (Int32) := f_X2_filmsOf_b4 v0_0 v0_1 4000 x1 (0) (0)
set_option maxHeartbeats 4000000 in
set_option maxRecDepth 100000 in
theorem c_X2_filmsOf (l : Launch) (D : va_G) (cs : Nat → ClassId)  (sz : Nat) (a0 : Nat) (p0 : Nat → Nat) (i0_3 : Int32) (i0_4 : Int32) (i0_5 : Int32) (i0_6 : Int32) (i0_7 : Int32) (v0_0 : Nat → Int32) (v0_1 : Nat → Int32) (v0_2 : Nat → Int32) (x1 : Int32) (res : Int32) (hf : f_X2_filmsOf  v0_0 v0_1 x1 = some res) : MI l D cs yX2_filmsOf wsX2_filmsOf rm_X2_filmsOf [.ref a0, .int x1] sz (W_X2_filmsOf cs a0 p0 i0_3 i0_4 i0_5 i0_6 i0_7 v0_0 v0_1 v0_2) (W_X2_filmsOf cs a0 p0 i0_3 i0_4 i0_5 i0_6 i0_7 v0_0 v0_1 v0_2) res := by
  rw [f_X2_filmsOf] at hf
  refine ow_enter (cc := cX2_filmsOf) (nL := 4) (ret := (some .int)) (by decide) rfl (Nat.le_of_ble_eq_true rfl) (fun p e s m below meth c ls H locs C0 hP hD hS hA hl => ?_)
  obtain ⟨hx, hb, hr, hlk, hml, hown, hts, hK, hG, hE⟩ := id C0
  have hl : lv_has ls 4 [(0, .ref a0), (1, .int x1)] := hl
  refine lv_iconst (v := 0) hx hb dX2_filmsOf_0 (by decide) ?_
  refine lv_istore_n (lv' := [(2, .int 0), (0, .ref a0), (1, .int x1)]) hx hb dX2_filmsOf_1 rfl hl (by decide) rfl (fun ls hl => ?_)
  refine lv_iconst (v := 0) hx hb dX2_filmsOf_2 (by decide) ?_
  refine lv_istore_n (lv' := [(3, .int 0), (2, .int 0), (0, .ref a0), (1, .int x1)]) hx hb dX2_filmsOf_3 rfl hl (by decide) rfl (fun ls hl => ?_)
  exact w_X2_filmsOf_b4 C0 a0 p0 i0_3 i0_4 i0_5 i0_6 i0_7 v0_0 v0_1 v0_2 res 4000 x1 (0) (0) hf _ _ _ hP hD hS (lv_sub hl [2, 3, 1, 0] rfl)
theorem in_X2_filmsOn_X2 : ∀ w ∈ u_ws RX2 TX2 8, w ∈ wsX2_filmsOn := fun w h => List.mem_cons_of_mem _ (List.mem_append_right _ h)
abbrev W_X2_filmsOn (cs : Nat → ClassId) (a0 : Nat) (p0 : Nat → Nat) (i0_3 : Int32) (i0_4 : Int32) (i0_5 : Int32) (i0_6 : Int32) (i0_7 : Int32) (v0_0 : Nat → Int32) (v0_1 : Nat → Int32) (v0_2 : Nat → Int32) : va_W := wX2 cs a0 p0 i0_3 i0_4 i0_5 i0_6 i0_7 v0_0 v0_1 v0_2
abbrev rm_X2_filmsOn : Room := { frames := 0, cells := 0, slots := 0, locals := 0 }
def f_X2_filmsOn_b4  (v0_1 : Nat → Int32)  : Nat → Int32 → Int32 → Int32 → Option (Int32)
  | 0, _, _, _ => none
  | n + 1, x1, x2, x3 => if 16 ≤ x3 then (some (x2)) else (ck ((16 * x1) + x3) 80 (f_X2_filmsOn_b4 v0_1 n x1 (x2 + (v0_1 ((16 * x1) + x3).toNatClampNeg)) (x3 + 1)))
set_option maxHeartbeats 4000000 in
set_option maxRecDepth 100000 in
theorem w_X2_filmsOn_b4 {p : Program} {l : Launch} {e : Env} {s : State} {m : MethodId} {below : List Frame} {meth : Method} {c : Code} {D : va_G} {cs : Nat → ClassId} {av : Array Value} {w0 : va_W} (C0 : Cx p s m meth c av wsX2_filmsOn cX2_filmsOn 4 (some .int) RX2 D cs w0)  (a0 : Nat) (p0 : Nat → Nat) (i0_3 : Int32) (i0_4 : Int32) (i0_5 : Int32) (i0_6 : Int32) (i0_7 : Int32) (v0_0 : Nat → Int32) (v0_1 : Nat → Int32) (v0_2 : Nat → Int32) (res : Int32)  : ∀ (n : Nat) (x1 : Int32) (x2 : Int32) (x3 : Int32), f_X2_filmsOn_b4 v0_1 n x1 x2 x3 = some res → ∀ (H : Heap) (locs : List Loc) (ls : Array Slot), va_P D vwCl (W_X2_filmsOn cs a0 p0 i0_3 i0_4 i0_5 i0_6 i0_7 v0_0 v0_1 v0_2) H → va_D (va_A w0 s.heap.size) (W_X2_filmsOn cs a0 p0 i0_3 i0_4 i0_5 i0_6 i0_7 v0_0 v0_1 v0_2) → va_S (va_A w0 s.heap.size) s.heap H locs → lv_has ls 4 [(0, .ref a0), (1, .int x1), (2, .int x2), (3, .int x3)] → W p l e rm_X2_filmsOn s m av below meth c H locs 0 0 (MQ below (oI D cs w0 (W_X2_filmsOn cs a0 p0 i0_3 i0_4 i0_5 i0_6 i0_7 v0_0 v0_1 v0_2) res s.heap.size) av s 0 0 (va_A w0 s.heap.size)) (F0 m 4 ls []) := by
  obtain ⟨hx, hb, hr, hlk, hml, hown, hts, hK, hG, hE⟩ := id C0
  intro n
  induction n with
  | zero =>
    intro x1 x2 x3 hf
    rw [f_X2_filmsOn_b4] at hf
    cases hf
  | succ n ih =>
    intro x1 x2 x3 hf H locs ls hP hD hS hl
    rw [f_X2_filmsOn_b4] at hf
    refine lv_iload_n hx hb dX2_filmsOn_4 rfl (lv_at hl 3 rfl) ?_
    refine lv_bipush (v := 16) hx hb dX2_filmsOn_5 (by decide) ?_
    refine lv_icmp_ge (tgt := 30) hx hb dX2_filmsOn_7 (by decide) (fun hc => ?_) (fun hc => ?_)
    · replace hf := ow_t hc hf
      refine lv_iload_n hx hb dX2_filmsOn_30 rfl (lv_at hl 2 rfl) ?_
      obtain rfl := Option.some.inj hf
      exact ow_retI C0 hP hD hS dX2_filmsOn_31
    · replace hf := ow_f hc hf
      refine lv_iload_n hx hb dX2_filmsOn_10 rfl (lv_at hl 2 rfl) ?_
      refine lv_aload_n hx hb dX2_filmsOn_11 rfl (lv_at hl 0 rfl) ?_
      refine va_get (D := D) (ci := 2) (v := .ref (p0 1)) (C := RX2) (T := TX2) (N := 8) hx hb hts in_X2_filmsOn_X2 hown hK hP 0 rfl rfl 1 (by decide) (hts (.fieldLink RX2 15 "PaneDays$Glass" "depth" "[I") (List.mem_of_getElem? (i := 1) rfl)) (fun _ h9 => h9) rfl dX2_filmsOn_12 ?_
      refine lv_bipush (v := 16) hx hb dX2_filmsOn_15 (by decide) ?_
      refine lv_iload_n hx hb dX2_filmsOn_17 rfl (lv_at hl 1 rfl) ?_
      refine lv_imul hx hb dX2_filmsOn_18 ?_
      refine lv_iload_n hx hb dX2_filmsOn_19 rfl (lv_at hl 3 rfl) ?_
      refine lv_iadd hx hb dX2_filmsOn_20 ?_
      obtain ⟨hin, hf⟩ := ck_some hf
      refine va_iald (f := v0_1) hx hb hK hP 2 0 rfl rfl hin dX2_filmsOn_21 ?_
      refine lv_iadd hx hb dX2_filmsOn_22 ?_
      refine lv_istore_n (lv' := [(2, .int (x2 + (v0_1 ((16 * x1) + x3).toNatClampNeg))), (0, .ref a0), (1, .int x1), (3, .int x3)]) hx hb dX2_filmsOn_23 rfl hl (by decide) rfl (fun ls hl => ?_)
      refine lv_iinc (v := x3 + 1) (lv' := [(3, .int (x3 + 1)), (2, .int (x2 + (v0_1 ((16 * x1) + x3).toNatClampNeg))), (0, .ref a0), (1, .int x1)]) hx hb dX2_filmsOn_24 hl (k := 3) rfl (ow_inc (by decide)) (by decide) rfl (fun ls hl => ?_)
      refine lv_goto (tgt := 4) hx hb dX2_filmsOn_27 (by decide) ?_
      exact ih x1 (x2 + (v0_1 ((16 * x1) + x3).toNatClampNeg)) (x3 + 1) hf _ _ _ hP hD hS (lv_sub hl [2, 3, 1, 0] rfl)
def f_X2_filmsOn  (v0_1 : Nat → Int32) (x1 : Int32) : Option (Int32) := f_X2_filmsOn_b4 v0_1 4000 x1 (0) (0)
set_option maxHeartbeats 4000000 in
set_option maxRecDepth 100000 in
theorem c_X2_filmsOn (l : Launch) (D : va_G) (cs : Nat → ClassId)  (sz : Nat) (a0 : Nat) (p0 : Nat → Nat) (i0_3 : Int32) (i0_4 : Int32) (i0_5 : Int32) (i0_6 : Int32) (i0_7 : Int32) (v0_0 : Nat → Int32) (v0_1 : Nat → Int32) (v0_2 : Nat → Int32) (x1 : Int32) (res : Int32) (hf : f_X2_filmsOn  v0_1 x1 = some res) : MI l D cs yX2_filmsOn wsX2_filmsOn rm_X2_filmsOn [.ref a0, .int x1] sz (W_X2_filmsOn cs a0 p0 i0_3 i0_4 i0_5 i0_6 i0_7 v0_0 v0_1 v0_2) (W_X2_filmsOn cs a0 p0 i0_3 i0_4 i0_5 i0_6 i0_7 v0_0 v0_1 v0_2) res := by
  rw [f_X2_filmsOn] at hf
  refine ow_enter (cc := cX2_filmsOn) (nL := 4) (ret := (some .int)) (by decide) rfl (Nat.le_of_ble_eq_true rfl) (fun p e s m below meth c ls H locs C0 hP hD hS hA hl => ?_)
  obtain ⟨hx, hb, hr, hlk, hml, hown, hts, hK, hG, hE⟩ := id C0
  have hl : lv_has ls 4 [(0, .ref a0), (1, .int x1)] := hl
  refine lv_iconst (v := 0) hx hb dX2_filmsOn_0 (by decide) ?_
  refine lv_istore_n (lv' := [(2, .int 0), (0, .ref a0), (1, .int x1)]) hx hb dX2_filmsOn_1 rfl hl (by decide) rfl (fun ls hl => ?_)
  refine lv_iconst (v := 0) hx hb dX2_filmsOn_2 (by decide) ?_
  refine lv_istore_n (lv' := [(3, .int 0), (2, .int 0), (0, .ref a0), (1, .int x1)]) hx hb dX2_filmsOn_3 rfl hl (by decide) rfl (fun ls hl => ?_)
  exact w_X2_filmsOn_b4 C0 a0 p0 i0_3 i0_4 i0_5 i0_6 i0_7 v0_0 v0_1 v0_2 res 4000 x1 (0) (0) hf _ _ _ hP hD hS (lv_sub hl [2, 3, 1, 0] rfl)
abbrev W_X2_filmsOnAll (cs : Nat → ClassId) (a0 : Nat) (p0 : Nat → Nat) (i0_3 : Int32) (i0_4 : Int32) (i0_5 : Int32) (i0_6 : Int32) (i0_7 : Int32) (v0_0 : Nat → Int32) (v0_1 : Nat → Int32) (v0_2 : Nat → Int32) : va_W := wX2 cs a0 p0 i0_3 i0_4 i0_5 i0_6 i0_7 v0_0 v0_1 v0_2
abbrev rm_X2_filmsOnAll : Room := { frames := 1, cells := 0, slots := 0, locals := 23 }
def f_X2_filmsOnAll_b4  (v0_1 : Nat → Int32)  : Nat → Int32 → Int32 → Option (Int32)
  | 0, _, _ => none
  | n + 1, x1, x2 => if 5 ≤ x2 then (some (x1)) else ((f_X2_filmsOn v0_1 x2).bind fun q12 => f_X2_filmsOnAll_b4 v0_1 n (x1 + q12) (x2 + 1))
set_option maxHeartbeats 4000000 in
set_option maxRecDepth 100000 in
theorem w_X2_filmsOnAll_b4 {p : Program} {l : Launch} {e : Env} {s : State} {m : MethodId} {below : List Frame} {meth : Method} {c : Code} {D : va_G} {cs : Nat → ClassId} {av : Array Value} {w0 : va_W} (C0 : Cx p s m meth c av wsX2_filmsOnAll cX2_filmsOnAll 3 (some .int) RX2 D cs w0)  (a0 : Nat) (p0 : Nat → Nat) (i0_3 : Int32) (i0_4 : Int32) (i0_5 : Int32) (i0_6 : Int32) (i0_7 : Int32) (v0_0 : Nat → Int32) (v0_1 : Nat → Int32) (v0_2 : Nat → Int32) (res : Int32)  : ∀ (n : Nat) (x1 : Int32) (x2 : Int32), f_X2_filmsOnAll_b4 v0_1 n x1 x2 = some res → ∀ (H : Heap) (locs : List Loc) (ls : Array Slot), va_P D vwCl (W_X2_filmsOnAll cs a0 p0 i0_3 i0_4 i0_5 i0_6 i0_7 v0_0 v0_1 v0_2) H → va_D (va_A w0 s.heap.size) (W_X2_filmsOnAll cs a0 p0 i0_3 i0_4 i0_5 i0_6 i0_7 v0_0 v0_1 v0_2) → va_S (va_A w0 s.heap.size) s.heap H locs → lv_has ls 3 [(0, .ref a0), (1, .int x1), (2, .int x2)] → W p l e rm_X2_filmsOnAll s m av below meth c H locs 0 0 (MQ below (oI D cs w0 (W_X2_filmsOnAll cs a0 p0 i0_3 i0_4 i0_5 i0_6 i0_7 v0_0 v0_1 v0_2) res s.heap.size) av s 0 0 (va_A w0 s.heap.size)) (F0 m 4 ls []) := by
  obtain ⟨hx, hb, hr, hlk, hml, hown, hts, hK, hG, hE⟩ := id C0
  intro n
  induction n with
  | zero =>
    intro x1 x2 hf
    rw [f_X2_filmsOnAll_b4] at hf
    cases hf
  | succ n ih =>
    intro x1 x2 hf H locs ls hP hD hS hl
    rw [f_X2_filmsOnAll_b4] at hf
    refine lv_iload_n hx hb dX2_filmsOnAll_4 rfl (lv_at hl 2 rfl) ?_
    refine lv_iconst (v := 5) hx hb dX2_filmsOnAll_5 (by decide) ?_
    refine lv_icmp_ge (tgt := 23) hx hb dX2_filmsOnAll_6 (by decide) (fun hc => ?_) (fun hc => ?_)
    · replace hf := ow_t hc hf
      refine lv_iload_n hx hb dX2_filmsOnAll_23 rfl (lv_at hl 1 rfl) ?_
      obtain rfl := Option.some.inj hf
      exact ow_retI C0 hP hD hS dX2_filmsOnAll_24
    · replace hf := ow_f hc hf
      refine lv_iload_n hx hb dX2_filmsOnAll_9 rfl (lv_at hl 1 rfl) ?_
      refine lv_aload_n hx hb dX2_filmsOnAll_10 rfl (lv_at hl 0 rfl) ?_
      refine lv_iload_n hx hb dX2_filmsOnAll_11 rfl (lv_at hl 2 rfl) ?_
      obtain ⟨q12, hq, hf⟩ := bd_some hf
      refine ow_callVI (As := [.int x2]) (rest := [.int x1]) (wr := ow_pk (W_X2_filmsOnAll cs a0 p0 i0_3 i0_4 i0_5 i0_6 i0_7 v0_0 v0_1 v0_2) []) (wf := (W_X2_filmsOnAll cs a0 p0 i0_3 i0_4 i0_5 i0_6 i0_7 v0_0 v0_1 v0_2)) (r := q12) C0 (c_X2_filmsOn l D cs H.size a0 p0 i0_3 i0_4 i0_5 i0_6 i0_7 v0_0 v0_1 v0_2 x2 q12 hq) (cwV 1 hts gX2_filmsOnAll_X2_filmsOn rfl rfl rfl (by decide +kernel) ⟨Nat.le_of_ble_eq_true rfl, Nat.le_of_ble_eq_true rfl⟩) 2 rfl rfl hP hD hS (fun q h => Or.inr h) [0, 1, 2, 3] [] [0, 1, 2, 3] rfl (by decide) rfl (by decide) (by decide) rfl (by decide) rfl hl.1 rfl (Nat.le_of_ble_eq_true rfl) ⟨Nat.zero_le _, Nat.zero_le _⟩ dX2_filmsOnAll_12 (fun H locs hP hD hS => ?_)
      refine lv_iadd hx hb dX2_filmsOnAll_15 ?_
      refine lv_istore_n (lv' := [(1, .int (x1 + q12)), (0, .ref a0), (2, .int x2)]) hx hb dX2_filmsOnAll_16 rfl hl (by decide) rfl (fun ls hl => ?_)
      refine lv_iinc (v := x2 + 1) (lv' := [(2, .int (x2 + 1)), (1, .int (x1 + q12)), (0, .ref a0)]) hx hb dX2_filmsOnAll_17 hl (k := 2) rfl (ow_inc (by decide)) (by decide) rfl (fun ls hl => ?_)
      refine lv_goto (tgt := 4) hx hb dX2_filmsOnAll_20 (by decide) ?_
      exact ih (x1 + q12) (x2 + 1) hf _ _ _ hP hD hS (lv_sub hl [2, 1, 0] rfl)
def f_X2_filmsOnAll  (v0_1 : Nat → Int32)  : Option (Int32) := f_X2_filmsOnAll_b4 v0_1 4000 (0) (0)
set_option maxHeartbeats 4000000 in
set_option maxRecDepth 100000 in
theorem c_X2_filmsOnAll (l : Launch) (D : va_G) (cs : Nat → ClassId)  (sz : Nat) (a0 : Nat) (p0 : Nat → Nat) (i0_3 : Int32) (i0_4 : Int32) (i0_5 : Int32) (i0_6 : Int32) (i0_7 : Int32) (v0_0 : Nat → Int32) (v0_1 : Nat → Int32) (v0_2 : Nat → Int32)  (res : Int32) (hf : f_X2_filmsOnAll  v0_1  = some res) : MI l D cs yX2_filmsOnAll wsX2_filmsOnAll rm_X2_filmsOnAll [.ref a0] sz (W_X2_filmsOnAll cs a0 p0 i0_3 i0_4 i0_5 i0_6 i0_7 v0_0 v0_1 v0_2) (W_X2_filmsOnAll cs a0 p0 i0_3 i0_4 i0_5 i0_6 i0_7 v0_0 v0_1 v0_2) res := by
  rw [f_X2_filmsOnAll] at hf
  refine ow_enter (cc := cX2_filmsOnAll) (nL := 3) (ret := (some .int)) (by decide) rfl (Nat.le_of_ble_eq_true rfl) (fun p e s m below meth c ls H locs C0 hP hD hS hA hl => ?_)
  obtain ⟨hx, hb, hr, hlk, hml, hown, hts, hK, hG, hE⟩ := id C0
  have hl : lv_has ls 3 [(0, .ref a0)] := hl
  refine lv_iconst (v := 0) hx hb dX2_filmsOnAll_0 (by decide) ?_
  refine lv_istore_n (lv' := [(1, .int 0), (0, .ref a0)]) hx hb dX2_filmsOnAll_1 rfl hl (by decide) rfl (fun ls hl => ?_)
  refine lv_iconst (v := 0) hx hb dX2_filmsOnAll_2 (by decide) ?_
  refine lv_istore_n (lv' := [(2, .int 0), (1, .int 0), (0, .ref a0)]) hx hb dX2_filmsOnAll_3 rfl hl (by decide) rfl (fun ls hl => ?_)
  exact w_X2_filmsOnAll_b4 C0 a0 p0 i0_3 i0_4 i0_5 i0_6 i0_7 v0_0 v0_1 v0_2 res 4000 (0) (0) hf _ _ _ hP hD hS (lv_sub hl [2, 1, 0] rfl)
theorem in_X2_shown_X2 : ∀ w ∈ u_ws RX2 TX2 8, w ∈ wsX2_shown := fun w h => List.mem_cons_of_mem _ (List.mem_append_right _ h)
abbrev W_X2_shown (cs : Nat → ClassId) (a0 : Nat) (p0 : Nat → Nat) (i0_3 : Int32) (i0_4 : Int32) (i0_5 : Int32) (i0_6 : Int32) (i0_7 : Int32) (v0_0 : Nat → Int32) (v0_1 : Nat → Int32) (v0_2 : Nat → Int32) : va_W := wX2 cs a0 p0 i0_3 i0_4 i0_5 i0_6 i0_7 v0_0 v0_1 v0_2
abbrev rm_X2_shown : Room := { frames := 0, cells := 0, slots := 0, locals := 0 }
def f_X2_shown  (v0_0 : Nat → Int32) (v0_1 : Nat → Int32) (x1 : Int32) : Option (Int32) := ck x1 80 (if (v0_1 (x1).toNatClampNeg) = 0 then (some (0)) else (ck x1 80 (ck (((30 * x1) + (v0_1 (x1).toNatClampNeg)) - 1) 2400 (some (v0_0 (((30 * x1) + (v0_1 (x1).toNatClampNeg)) - 1).toNatClampNeg)))))
set_option maxHeartbeats 4000000 in
set_option maxRecDepth 100000 in
theorem c_X2_shown (l : Launch) (D : va_G) (cs : Nat → ClassId)  (sz : Nat) (a0 : Nat) (p0 : Nat → Nat) (i0_3 : Int32) (i0_4 : Int32) (i0_5 : Int32) (i0_6 : Int32) (i0_7 : Int32) (v0_0 : Nat → Int32) (v0_1 : Nat → Int32) (v0_2 : Nat → Int32) (x1 : Int32) (res : Int32) (hf : f_X2_shown  v0_0 v0_1 x1 = some res) : MI l D cs yX2_shown wsX2_shown rm_X2_shown [.ref a0, .int x1] sz (W_X2_shown cs a0 p0 i0_3 i0_4 i0_5 i0_6 i0_7 v0_0 v0_1 v0_2) (W_X2_shown cs a0 p0 i0_3 i0_4 i0_5 i0_6 i0_7 v0_0 v0_1 v0_2) res := by
  rw [f_X2_shown] at hf
  refine ow_enter (cc := cX2_shown) (nL := 2) (ret := (some .int)) (by decide) rfl (Nat.le_of_ble_eq_true rfl) (fun p e s m below meth c ls H locs C0 hP hD hS hA hl => ?_)
  obtain ⟨hx, hb, hr, hlk, hml, hown, hts, hK, hG, hE⟩ := id C0
  have hl : lv_has ls 2 [(0, .ref a0), (1, .int x1)] := hl
  refine lv_aload_n hx hb dX2_shown_0 rfl (lv_at hl 0 rfl) ?_
  refine va_get (D := D) (ci := 2) (v := .ref (p0 1)) (C := RX2) (T := TX2) (N := 8) hx hb hts in_X2_shown_X2 hown hK hP 0 rfl rfl 1 (by decide) (hts (.fieldLink RX2 15 "PaneDays$Glass" "depth" "[I") (List.mem_of_getElem? (i := 1) rfl)) (fun _ h9 => h9) rfl dX2_shown_1 ?_
  refine lv_iload_n hx hb dX2_shown_4 rfl (lv_at hl 1 rfl) ?_
  obtain ⟨hin, hf⟩ := ck_some hf
  refine va_iald (f := v0_1) hx hb hK hP 2 0 rfl rfl hin dX2_shown_5 ?_
  refine lv_if_ne (tgt := 13) hx hb dX2_shown_6 (by decide) (fun hc => ?_) (fun hc => ?_)
  · replace hf := ow_f hc hf
    refine lv_aload_n hx hb dX2_shown_13 rfl (lv_at hl 0 rfl) ?_
    refine va_get (D := D) (ci := 2) (v := .ref (p0 0)) (C := RX2) (T := TX2) (N := 8) hx hb hts in_X2_shown_X2 hown hK hP 0 rfl rfl 0 (by decide) (hts (.fieldLink RX2 9 "PaneDays$Glass" "film" "[I") (List.mem_of_getElem? (i := 2) rfl)) (fun _ h9 => h9) rfl dX2_shown_14 ?_
    refine lv_bipush (v := 30) hx hb dX2_shown_17 (by decide) ?_
    refine lv_iload_n hx hb dX2_shown_19 rfl (lv_at hl 1 rfl) ?_
    refine lv_imul hx hb dX2_shown_20 ?_
    refine lv_aload_n hx hb dX2_shown_21 rfl (lv_at hl 0 rfl) ?_
    refine va_get (D := D) (ci := 2) (v := .ref (p0 1)) (C := RX2) (T := TX2) (N := 8) hx hb hts in_X2_shown_X2 hown hK hP 0 rfl rfl 1 (by decide) (hts (.fieldLink RX2 15 "PaneDays$Glass" "depth" "[I") (List.mem_of_getElem? (i := 1) rfl)) (fun _ h9 => h9) rfl dX2_shown_22 ?_
    refine lv_iload_n hx hb dX2_shown_25 rfl (lv_at hl 1 rfl) ?_
    obtain ⟨hin, hf⟩ := ck_some hf
    refine va_iald (f := v0_1) hx hb hK hP 2 0 rfl rfl hin dX2_shown_26 ?_
    refine lv_iadd hx hb dX2_shown_27 ?_
    refine lv_iconst (v := 1) hx hb dX2_shown_28 (by decide) ?_
    refine lv_isub hx hb dX2_shown_29 ?_
    obtain ⟨hin, hf⟩ := ck_some hf
    refine va_iald (f := v0_0) hx hb hK hP 1 0 rfl rfl hin dX2_shown_30 ?_
    obtain rfl := Option.some.inj hf
    exact ow_retI C0 hP hD hS dX2_shown_31
  · replace hf := ow_t hc hf
    refine lv_iconst (v := 0) hx hb dX2_shown_9 (by decide) ?_
    refine lv_goto (tgt := 31) hx hb dX2_shown_10 (by decide) ?_
    obtain rfl := Option.some.inj hf
    exact ow_retI C0 hP hD hS dX2_shown_31
theorem in_X2_copy_X2 : ∀ w ∈ u_ws RX2 TX2 8, w ∈ wsX2_copy := fun w h => List.mem_cons_of_mem _ (List.mem_append_right _ h)
abbrev W_X2_copy (cs : Nat → ClassId) (a0 : Nat) (p0 : Nat → Nat) (i0_3 : Int32) (i0_4 : Int32) (i0_5 : Int32) (i0_6 : Int32) (i0_7 : Int32) (v0_0 : Nat → Int32) (v0_1 : Nat → Int32) (v0_2 : Nat → Int32) (a1 : Nat) (p1 : Nat → Nat) (i1_3 : Int32) (i1_4 : Int32) (i1_5 : Int32) (i1_6 : Int32) (i1_7 : Int32) (v1_0 : Nat → Int32) (v1_1 : Nat → Int32) (v1_2 : Nat → Int32) : va_W := wX2 cs a0 p0 i0_3 i0_4 i0_5 i0_6 i0_7 v0_0 v0_1 v0_2 ++ wX2 cs a1 p1 i1_3 i1_4 i1_5 i1_6 i1_7 v1_0 v1_1 v1_2
abbrev rm_X2_copy : Room := { frames := 1, cells := 0, slots := 0, locals := 60 }
def f_X2_copy  (i0_3 : Int32) (i0_4 : Int32) (i0_5 : Int32) (i0_6 : Int32) (i0_7 : Int32) (v0_0 : Nat → Int32) (v0_1 : Nat → Int32) (v0_2 : Nat → Int32) (i1_3 : Int32) (i1_4 : Int32) (i1_5 : Int32) (i1_6 : Int32) (i1_7 : Int32) (v1_0 : Nat → Int32) (v1_1 : Nat → Int32) (v1_2 : Nat → Int32)  : Option (Int32 × Int32 × Int32 × Int32 × Int32 × (Nat → Int32) × (Nat → Int32) × (Nat → Int32)) := cy (0 : Int32) (0 : Int32) (nI 2400 : Int32) 2400 2400 (cy (0 : Int32) (0 : Int32) (nI 80 : Int32) 80 80 (cy (0 : Int32) (0 : Int32) (nI 201 : Int32) 201 201 (some (i1_3, i1_4, i1_5, i1_6, i1_7, va_cpy v1_0 v0_0 (0 : Int32).toNatClampNeg (0 : Int32).toNatClampNeg (nI 2400 : Int32).toNatClampNeg, va_cpy v1_1 v0_1 (0 : Int32).toNatClampNeg (0 : Int32).toNatClampNeg (nI 80 : Int32).toNatClampNeg, va_cpy v1_2 v0_2 (0 : Int32).toNatClampNeg (0 : Int32).toNatClampNeg (nI 201 : Int32).toNatClampNeg))))
set_option maxHeartbeats 4000000 in
set_option maxRecDepth 100000 in
theorem c_X2_copy (l : Launch) (D : va_G) (cs : Nat → ClassId)  (sz : Nat) (a0 : Nat) (p0 : Nat → Nat) (i0_3 : Int32) (i0_4 : Int32) (i0_5 : Int32) (i0_6 : Int32) (i0_7 : Int32) (v0_0 : Nat → Int32) (v0_1 : Nat → Int32) (v0_2 : Nat → Int32) (a1 : Nat) (p1 : Nat → Nat) (i1_3 : Int32) (i1_4 : Int32) (i1_5 : Int32) (i1_6 : Int32) (i1_7 : Int32) (v1_0 : Nat → Int32) (v1_1 : Nat → Int32) (v1_2 : Nat → Int32)  (res : Int32 × Int32 × Int32 × Int32 × Int32 × (Nat → Int32) × (Nat → Int32) × (Nat → Int32)) (hf : f_X2_copy  i0_3 i0_4 i0_5 i0_6 i0_7 v0_0 v0_1 v0_2 i1_3 i1_4 i1_5 i1_6 i1_7 v1_0 v1_1 v1_2  = some res) : MV l D cs yX2_copy wsX2_copy rm_X2_copy [.ref a0, .ref a1] sz (W_X2_copy cs a0 p0 i0_3 i0_4 i0_5 i0_6 i0_7 v0_0 v0_1 v0_2 a1 p1 i1_3 i1_4 i1_5 i1_6 i1_7 v1_0 v1_1 v1_2) (W_X2_copy cs a0 p0 res.1 res.2.1 res.2.2.1 res.2.2.2.1 res.2.2.2.2.1 res.2.2.2.2.2.1 res.2.2.2.2.2.2.1 res.2.2.2.2.2.2.2 a1 p1 i1_3 i1_4 i1_5 i1_6 i1_7 v1_0 v1_1 v1_2) := by
  rw [f_X2_copy] at hf
  refine ow_enter (cc := cX2_copy) (nL := 2) (ret := none) (by decide) rfl (Nat.le_of_ble_eq_true rfl) (fun p e s m below meth c ls H locs C0 hP hD hS hA hl => ?_)
  obtain ⟨hx, hb, hr, hlk, hml, hown, hts, hK, hG, hE⟩ := id C0
  have hl : lv_has ls 2 [(0, .ref a0), (1, .ref a1)] := hl
  refine lv_aload_n hx hb dX2_copy_0 rfl (lv_at hl 1 rfl) ?_
  refine va_get (D := D) (ci := 2) (v := .ref (p1 0)) (C := RX2) (T := TX2) (N := 8) hx hb hts in_X2_copy_X2 hown hK hP 4 rfl rfl 0 (by decide) (hts (.fieldLink RX2 9 "PaneDays$Glass" "film" "[I") (List.mem_of_getElem? (i := 1) rfl)) (fun _ h9 => h9) rfl dX2_copy_1 ?_
  refine lv_iconst (v := 0) hx hb dX2_copy_4 (by decide) ?_
  refine lv_aload_n hx hb dX2_copy_5 rfl (lv_at hl 0 rfl) ?_
  refine va_get (D := D) (ci := 2) (v := .ref (p0 0)) (C := RX2) (T := TX2) (N := 8) hx hb hts in_X2_copy_X2 hown hK hP 0 rfl rfl 0 (by decide) (hts (.fieldLink RX2 9 "PaneDays$Glass" "film" "[I") (List.mem_of_getElem? (i := 1) rfl)) (fun _ h9 => h9) rfl dX2_copy_6 ?_
  refine lv_iconst (v := 0) hx hb dX2_copy_9 (by decide) ?_
  refine lv_aload_n hx hb dX2_copy_10 rfl (lv_at hl 0 rfl) ?_
  refine va_get (D := D) (ci := 2) (v := .ref (p0 0)) (C := RX2) (T := TX2) (N := 8) hx hb hts in_X2_copy_X2 hown hK hP 0 rfl rfl 0 (by decide) (hts (.fieldLink RX2 9 "PaneDays$Glass" "film" "[I") (List.mem_of_getElem? (i := 1) rfl)) (fun _ h9 => h9) rfl dX2_copy_11 ?_
  refine va_alen (v := nI 2400) hx hb hK hP 1 0 rfl rfl rfl dX2_copy_14 ?_
  obtain ⟨⟨hc1, hc2, hc3, hc4, hc5⟩, hf⟩ := cy_some hf
  refine va_copyi (f := v1_0) (g := v0_0) (ty := .int) hx hb (hml.trans hl.1.symm) hown (hts (.methodLink RX2 43 arraycopyName) (by decide +kernel)) (hts (.native arraycopyName) (by decide +kernel)) (hts (.static arraycopyName) (by decide +kernel)) (hts (.initialized "java/lang/System") (by decide +kernel)) hK hP hD hS 5 1 0 0 rfl rfl rfl rfl rfl hc1 hc2 hc3 hc4 hc5 (fun _ _ => rfl) (Nat.le_of_ble_eq_true rfl) (Nat.le_of_ble_eq_true rfl) dX2_copy_15 (fun H locs (hP : va_P D vwCl (W_X2_copy cs a0 p0 i0_3 i0_4 i0_5 i0_6 i0_7 (va_cpy v1_0 v0_0 (0 : Int32).toNatClampNeg (0 : Int32).toNatClampNeg (nI 2400 : Int32).toNatClampNeg) v0_1 v0_2 a1 p1 i1_3 i1_4 i1_5 i1_6 i1_7 v1_0 v1_1 v1_2) H) (hD : va_D _ (W_X2_copy cs a0 p0 i0_3 i0_4 i0_5 i0_6 i0_7 (va_cpy v1_0 v0_0 (0 : Int32).toNatClampNeg (0 : Int32).toNatClampNeg (nI 2400 : Int32).toNatClampNeg) v0_1 v0_2 a1 p1 i1_3 i1_4 i1_5 i1_6 i1_7 v1_0 v1_1 v1_2)) hS => ?_)
  refine lv_aload_n hx hb dX2_copy_18 rfl (lv_at hl 1 rfl) ?_
  refine va_get (D := D) (ci := 2) (v := .ref (p1 1)) (C := RX2) (T := TX2) (N := 8) hx hb hts in_X2_copy_X2 hown hK hP 4 rfl rfl 1 (by decide) (hts (.fieldLink RX2 15 "PaneDays$Glass" "depth" "[I") (List.mem_of_getElem? (i := 6) rfl)) (fun _ h9 => h9) rfl dX2_copy_19 ?_
  refine lv_iconst (v := 0) hx hb dX2_copy_22 (by decide) ?_
  refine lv_aload_n hx hb dX2_copy_23 rfl (lv_at hl 0 rfl) ?_
  refine va_get (D := D) (ci := 2) (v := .ref (p0 1)) (C := RX2) (T := TX2) (N := 8) hx hb hts in_X2_copy_X2 hown hK hP 0 rfl rfl 1 (by decide) (hts (.fieldLink RX2 15 "PaneDays$Glass" "depth" "[I") (List.mem_of_getElem? (i := 6) rfl)) (fun _ h9 => h9) rfl dX2_copy_24 ?_
  refine lv_iconst (v := 0) hx hb dX2_copy_27 (by decide) ?_
  refine lv_aload_n hx hb dX2_copy_28 rfl (lv_at hl 0 rfl) ?_
  refine va_get (D := D) (ci := 2) (v := .ref (p0 1)) (C := RX2) (T := TX2) (N := 8) hx hb hts in_X2_copy_X2 hown hK hP 0 rfl rfl 1 (by decide) (hts (.fieldLink RX2 15 "PaneDays$Glass" "depth" "[I") (List.mem_of_getElem? (i := 6) rfl)) (fun _ h9 => h9) rfl dX2_copy_29 ?_
  refine va_alen (v := nI 80) hx hb hK hP 2 0 rfl rfl rfl dX2_copy_32 ?_
  obtain ⟨⟨hc1, hc2, hc3, hc4, hc5⟩, hf⟩ := cy_some hf
  refine va_copyi (f := v1_1) (g := v0_1) (ty := .int) hx hb (hml.trans hl.1.symm) hown (hts (.methodLink RX2 43 arraycopyName) (by decide +kernel)) (hts (.native arraycopyName) (by decide +kernel)) (hts (.static arraycopyName) (by decide +kernel)) (hts (.initialized "java/lang/System") (by decide +kernel)) hK hP hD hS 6 2 0 0 rfl rfl rfl rfl rfl hc1 hc2 hc3 hc4 hc5 (fun _ _ => rfl) (Nat.le_of_ble_eq_true rfl) (Nat.le_of_ble_eq_true rfl) dX2_copy_33 (fun H locs (hP : va_P D vwCl (W_X2_copy cs a0 p0 i0_3 i0_4 i0_5 i0_6 i0_7 (va_cpy v1_0 v0_0 (0 : Int32).toNatClampNeg (0 : Int32).toNatClampNeg (nI 2400 : Int32).toNatClampNeg) (va_cpy v1_1 v0_1 (0 : Int32).toNatClampNeg (0 : Int32).toNatClampNeg (nI 80 : Int32).toNatClampNeg) v0_2 a1 p1 i1_3 i1_4 i1_5 i1_6 i1_7 v1_0 v1_1 v1_2) H) (hD : va_D _ (W_X2_copy cs a0 p0 i0_3 i0_4 i0_5 i0_6 i0_7 (va_cpy v1_0 v0_0 (0 : Int32).toNatClampNeg (0 : Int32).toNatClampNeg (nI 2400 : Int32).toNatClampNeg) (va_cpy v1_1 v0_1 (0 : Int32).toNatClampNeg (0 : Int32).toNatClampNeg (nI 80 : Int32).toNatClampNeg) v0_2 a1 p1 i1_3 i1_4 i1_5 i1_6 i1_7 v1_0 v1_1 v1_2)) hS => ?_)
  refine lv_aload_n hx hb dX2_copy_36 rfl (lv_at hl 1 rfl) ?_
  refine va_get (D := D) (ci := 2) (v := .ref (p1 2)) (C := RX2) (T := TX2) (N := 8) hx hb hts in_X2_copy_X2 hown hK hP 4 rfl rfl 2 (by decide) (hts (.fieldLink RX2 18 "PaneDays$Glass" "rag" "[I") (List.mem_of_getElem? (i := 7) rfl)) (fun _ h9 => h9) rfl dX2_copy_37 ?_
  refine lv_iconst (v := 0) hx hb dX2_copy_40 (by decide) ?_
  refine lv_aload_n hx hb dX2_copy_41 rfl (lv_at hl 0 rfl) ?_
  refine va_get (D := D) (ci := 2) (v := .ref (p0 2)) (C := RX2) (T := TX2) (N := 8) hx hb hts in_X2_copy_X2 hown hK hP 0 rfl rfl 2 (by decide) (hts (.fieldLink RX2 18 "PaneDays$Glass" "rag" "[I") (List.mem_of_getElem? (i := 7) rfl)) (fun _ h9 => h9) rfl dX2_copy_42 ?_
  refine lv_iconst (v := 0) hx hb dX2_copy_45 (by decide) ?_
  refine lv_aload_n hx hb dX2_copy_46 rfl (lv_at hl 0 rfl) ?_
  refine va_get (D := D) (ci := 2) (v := .ref (p0 2)) (C := RX2) (T := TX2) (N := 8) hx hb hts in_X2_copy_X2 hown hK hP 0 rfl rfl 2 (by decide) (hts (.fieldLink RX2 18 "PaneDays$Glass" "rag" "[I") (List.mem_of_getElem? (i := 7) rfl)) (fun _ h9 => h9) rfl dX2_copy_47 ?_
  refine va_alen (v := nI 201) hx hb hK hP 3 0 rfl rfl rfl dX2_copy_50 ?_
  obtain ⟨⟨hc1, hc2, hc3, hc4, hc5⟩, hf⟩ := cy_some hf
  refine va_copyi (f := v1_2) (g := v0_2) (ty := .int) hx hb (hml.trans hl.1.symm) hown (hts (.methodLink RX2 43 arraycopyName) (by decide +kernel)) (hts (.native arraycopyName) (by decide +kernel)) (hts (.static arraycopyName) (by decide +kernel)) (hts (.initialized "java/lang/System") (by decide +kernel)) hK hP hD hS 7 3 0 0 rfl rfl rfl rfl rfl hc1 hc2 hc3 hc4 hc5 (fun _ _ => rfl) (Nat.le_of_ble_eq_true rfl) (Nat.le_of_ble_eq_true rfl) dX2_copy_51 (fun H locs (hP : va_P D vwCl (W_X2_copy cs a0 p0 i0_3 i0_4 i0_5 i0_6 i0_7 (va_cpy v1_0 v0_0 (0 : Int32).toNatClampNeg (0 : Int32).toNatClampNeg (nI 2400 : Int32).toNatClampNeg) (va_cpy v1_1 v0_1 (0 : Int32).toNatClampNeg (0 : Int32).toNatClampNeg (nI 80 : Int32).toNatClampNeg) (va_cpy v1_2 v0_2 (0 : Int32).toNatClampNeg (0 : Int32).toNatClampNeg (nI 201 : Int32).toNatClampNeg) a1 p1 i1_3 i1_4 i1_5 i1_6 i1_7 v1_0 v1_1 v1_2) H) (hD : va_D _ (W_X2_copy cs a0 p0 i0_3 i0_4 i0_5 i0_6 i0_7 (va_cpy v1_0 v0_0 (0 : Int32).toNatClampNeg (0 : Int32).toNatClampNeg (nI 2400 : Int32).toNatClampNeg) (va_cpy v1_1 v0_1 (0 : Int32).toNatClampNeg (0 : Int32).toNatClampNeg (nI 80 : Int32).toNatClampNeg) (va_cpy v1_2 v0_2 (0 : Int32).toNatClampNeg (0 : Int32).toNatClampNeg (nI 201 : Int32).toNatClampNeg) a1 p1 i1_3 i1_4 i1_5 i1_6 i1_7 v1_0 v1_1 v1_2)) hS => ?_)
  refine lv_aload_n hx hb dX2_copy_54 rfl (lv_at hl 0 rfl) ?_
  refine lv_aload_n hx hb dX2_copy_55 rfl (lv_at hl 1 rfl) ?_
  refine va_get (D := D) (ci := 2) (v := .int i1_3) (C := RX2) (T := TX2) (N := 8) hx hb hts in_X2_copy_X2 hown hK hP 4 rfl rfl 3 (by decide) (hts (.fieldLink RX2 27 "PaneDays$Glass" "onRag" "I") (List.mem_of_getElem? (i := 8) rfl)) (fun _ h9 => h9) rfl dX2_copy_56 ?_
  refine va_put (D := D) (ci := 2) (v := .int i1_3) (ty := .int) (C := RX2) (T := TX2) (N := 8) hx hb hts in_X2_copy_X2 tyX2 tyX2_ok nmX2 hown hK hP hD hS 0 rfl rfl 3 (by decide) (hts (.fieldLink RX2 27 "PaneDays$Glass" "onRag" "I") (List.mem_of_getElem? (i := 8) rfl)) (fun _ h9 => h9) rfl (by decide +kernel) rfl rfl (Nat.le_of_ble_eq_true rfl) dX2_copy_59 (fun H locs (hP : va_P D vwCl (W_X2_copy cs a0 p0 i1_3 i0_4 i0_5 i0_6 i0_7 (va_cpy v1_0 v0_0 (0 : Int32).toNatClampNeg (0 : Int32).toNatClampNeg (nI 2400 : Int32).toNatClampNeg) (va_cpy v1_1 v0_1 (0 : Int32).toNatClampNeg (0 : Int32).toNatClampNeg (nI 80 : Int32).toNatClampNeg) (va_cpy v1_2 v0_2 (0 : Int32).toNatClampNeg (0 : Int32).toNatClampNeg (nI 201 : Int32).toNatClampNeg) a1 p1 i1_3 i1_4 i1_5 i1_6 i1_7 v1_0 v1_1 v1_2) H) (hD : va_D _ (W_X2_copy cs a0 p0 i1_3 i0_4 i0_5 i0_6 i0_7 (va_cpy v1_0 v0_0 (0 : Int32).toNatClampNeg (0 : Int32).toNatClampNeg (nI 2400 : Int32).toNatClampNeg) (va_cpy v1_1 v0_1 (0 : Int32).toNatClampNeg (0 : Int32).toNatClampNeg (nI 80 : Int32).toNatClampNeg) (va_cpy v1_2 v0_2 (0 : Int32).toNatClampNeg (0 : Int32).toNatClampNeg (nI 201 : Int32).toNatClampNeg) a1 p1 i1_3 i1_4 i1_5 i1_6 i1_7 v1_0 v1_1 v1_2)) hS => ?_)
  refine lv_aload_n hx hb dX2_copy_62 rfl (lv_at hl 0 rfl) ?_
  refine lv_aload_n hx hb dX2_copy_63 rfl (lv_at hl 1 rfl) ?_
  refine va_get (D := D) (ci := 2) (v := .int i1_4) (C := RX2) (T := TX2) (N := 8) hx hb hts in_X2_copy_X2 hown hK hP 4 rfl rfl 4 (by decide) (hts (.fieldLink RX2 31 "PaneDays$Glass" "day" "I") (List.mem_of_getElem? (i := 9) rfl)) (fun _ h9 => h9) rfl dX2_copy_64 ?_
  refine va_put (D := D) (ci := 2) (v := .int i1_4) (ty := .int) (C := RX2) (T := TX2) (N := 8) hx hb hts in_X2_copy_X2 tyX2 tyX2_ok nmX2 hown hK hP hD hS 0 rfl rfl 4 (by decide) (hts (.fieldLink RX2 31 "PaneDays$Glass" "day" "I") (List.mem_of_getElem? (i := 9) rfl)) (fun _ h9 => h9) rfl (by decide +kernel) rfl rfl (Nat.le_of_ble_eq_true rfl) dX2_copy_67 (fun H locs (hP : va_P D vwCl (W_X2_copy cs a0 p0 i1_3 i1_4 i0_5 i0_6 i0_7 (va_cpy v1_0 v0_0 (0 : Int32).toNatClampNeg (0 : Int32).toNatClampNeg (nI 2400 : Int32).toNatClampNeg) (va_cpy v1_1 v0_1 (0 : Int32).toNatClampNeg (0 : Int32).toNatClampNeg (nI 80 : Int32).toNatClampNeg) (va_cpy v1_2 v0_2 (0 : Int32).toNatClampNeg (0 : Int32).toNatClampNeg (nI 201 : Int32).toNatClampNeg) a1 p1 i1_3 i1_4 i1_5 i1_6 i1_7 v1_0 v1_1 v1_2) H) (hD : va_D _ (W_X2_copy cs a0 p0 i1_3 i1_4 i0_5 i0_6 i0_7 (va_cpy v1_0 v0_0 (0 : Int32).toNatClampNeg (0 : Int32).toNatClampNeg (nI 2400 : Int32).toNatClampNeg) (va_cpy v1_1 v0_1 (0 : Int32).toNatClampNeg (0 : Int32).toNatClampNeg (nI 80 : Int32).toNatClampNeg) (va_cpy v1_2 v0_2 (0 : Int32).toNatClampNeg (0 : Int32).toNatClampNeg (nI 201 : Int32).toNatClampNeg) a1 p1 i1_3 i1_4 i1_5 i1_6 i1_7 v1_0 v1_1 v1_2)) hS => ?_)
  refine lv_aload_n hx hb dX2_copy_70 rfl (lv_at hl 0 rfl) ?_
  refine lv_aload_n hx hb dX2_copy_71 rfl (lv_at hl 1 rfl) ?_
  refine va_get (D := D) (ci := 2) (v := .int i1_5) (C := RX2) (T := TX2) (N := 8) hx hb hts in_X2_copy_X2 hown hK hP 4 rfl rfl 5 (by decide) (hts (.fieldLink RX2 34 "PaneDays$Glass" "washed" "I") (List.mem_of_getElem? (i := 10) rfl)) (fun _ h9 => h9) rfl dX2_copy_72 ?_
  refine va_put (D := D) (ci := 2) (v := .int i1_5) (ty := .int) (C := RX2) (T := TX2) (N := 8) hx hb hts in_X2_copy_X2 tyX2 tyX2_ok nmX2 hown hK hP hD hS 0 rfl rfl 5 (by decide) (hts (.fieldLink RX2 34 "PaneDays$Glass" "washed" "I") (List.mem_of_getElem? (i := 10) rfl)) (fun _ h9 => h9) rfl (by decide +kernel) rfl rfl (Nat.le_of_ble_eq_true rfl) dX2_copy_75 (fun H locs (hP : va_P D vwCl (W_X2_copy cs a0 p0 i1_3 i1_4 i1_5 i0_6 i0_7 (va_cpy v1_0 v0_0 (0 : Int32).toNatClampNeg (0 : Int32).toNatClampNeg (nI 2400 : Int32).toNatClampNeg) (va_cpy v1_1 v0_1 (0 : Int32).toNatClampNeg (0 : Int32).toNatClampNeg (nI 80 : Int32).toNatClampNeg) (va_cpy v1_2 v0_2 (0 : Int32).toNatClampNeg (0 : Int32).toNatClampNeg (nI 201 : Int32).toNatClampNeg) a1 p1 i1_3 i1_4 i1_5 i1_6 i1_7 v1_0 v1_1 v1_2) H) (hD : va_D _ (W_X2_copy cs a0 p0 i1_3 i1_4 i1_5 i0_6 i0_7 (va_cpy v1_0 v0_0 (0 : Int32).toNatClampNeg (0 : Int32).toNatClampNeg (nI 2400 : Int32).toNatClampNeg) (va_cpy v1_1 v0_1 (0 : Int32).toNatClampNeg (0 : Int32).toNatClampNeg (nI 80 : Int32).toNatClampNeg) (va_cpy v1_2 v0_2 (0 : Int32).toNatClampNeg (0 : Int32).toNatClampNeg (nI 201 : Int32).toNatClampNeg) a1 p1 i1_3 i1_4 i1_5 i1_6 i1_7 v1_0 v1_1 v1_2)) hS => ?_)
  refine lv_aload_n hx hb dX2_copy_78 rfl (lv_at hl 0 rfl) ?_
  refine lv_aload_n hx hb dX2_copy_79 rfl (lv_at hl 1 rfl) ?_
  refine va_get (D := D) (ci := 2) (v := .int i1_6) (C := RX2) (T := TX2) (N := 8) hx hb hts in_X2_copy_X2 hown hK hP 4 rfl rfl 6 (by decide) (hts (.fieldLink RX2 37 "PaneDays$Glass" "broken" "I") (List.mem_of_getElem? (i := 11) rfl)) (fun _ h9 => h9) rfl dX2_copy_80 ?_
  refine va_put (D := D) (ci := 2) (v := .int i1_6) (ty := .int) (C := RX2) (T := TX2) (N := 8) hx hb hts in_X2_copy_X2 tyX2 tyX2_ok nmX2 hown hK hP hD hS 0 rfl rfl 6 (by decide) (hts (.fieldLink RX2 37 "PaneDays$Glass" "broken" "I") (List.mem_of_getElem? (i := 11) rfl)) (fun _ h9 => h9) rfl (by decide +kernel) rfl rfl (Nat.le_of_ble_eq_true rfl) dX2_copy_83 (fun H locs (hP : va_P D vwCl (W_X2_copy cs a0 p0 i1_3 i1_4 i1_5 i1_6 i0_7 (va_cpy v1_0 v0_0 (0 : Int32).toNatClampNeg (0 : Int32).toNatClampNeg (nI 2400 : Int32).toNatClampNeg) (va_cpy v1_1 v0_1 (0 : Int32).toNatClampNeg (0 : Int32).toNatClampNeg (nI 80 : Int32).toNatClampNeg) (va_cpy v1_2 v0_2 (0 : Int32).toNatClampNeg (0 : Int32).toNatClampNeg (nI 201 : Int32).toNatClampNeg) a1 p1 i1_3 i1_4 i1_5 i1_6 i1_7 v1_0 v1_1 v1_2) H) (hD : va_D _ (W_X2_copy cs a0 p0 i1_3 i1_4 i1_5 i1_6 i0_7 (va_cpy v1_0 v0_0 (0 : Int32).toNatClampNeg (0 : Int32).toNatClampNeg (nI 2400 : Int32).toNatClampNeg) (va_cpy v1_1 v0_1 (0 : Int32).toNatClampNeg (0 : Int32).toNatClampNeg (nI 80 : Int32).toNatClampNeg) (va_cpy v1_2 v0_2 (0 : Int32).toNatClampNeg (0 : Int32).toNatClampNeg (nI 201 : Int32).toNatClampNeg) a1 p1 i1_3 i1_4 i1_5 i1_6 i1_7 v1_0 v1_1 v1_2)) hS => ?_)
  refine lv_aload_n hx hb dX2_copy_86 rfl (lv_at hl 0 rfl) ?_
  refine lv_aload_n hx hb dX2_copy_87 rfl (lv_at hl 1 rfl) ?_
  refine va_get (D := D) (ci := 2) (v := .int i1_7) (C := RX2) (T := TX2) (N := 8) hx hb hts in_X2_copy_X2 hown hK hP 4 rfl rfl 7 (by decide) (hts (.fieldLink RX2 40 "PaneDays$Glass" "met" "I") (List.mem_of_getElem? (i := 12) rfl)) (fun _ h9 => h9) rfl dX2_copy_88 ?_
  refine va_put (D := D) (ci := 2) (v := .int i1_7) (ty := .int) (C := RX2) (T := TX2) (N := 8) hx hb hts in_X2_copy_X2 tyX2 tyX2_ok nmX2 hown hK hP hD hS 0 rfl rfl 7 (by decide) (hts (.fieldLink RX2 40 "PaneDays$Glass" "met" "I") (List.mem_of_getElem? (i := 12) rfl)) (fun _ h9 => h9) rfl (by decide +kernel) rfl rfl (Nat.le_of_ble_eq_true rfl) dX2_copy_91 (fun H locs (hP : va_P D vwCl (W_X2_copy cs a0 p0 i1_3 i1_4 i1_5 i1_6 i1_7 (va_cpy v1_0 v0_0 (0 : Int32).toNatClampNeg (0 : Int32).toNatClampNeg (nI 2400 : Int32).toNatClampNeg) (va_cpy v1_1 v0_1 (0 : Int32).toNatClampNeg (0 : Int32).toNatClampNeg (nI 80 : Int32).toNatClampNeg) (va_cpy v1_2 v0_2 (0 : Int32).toNatClampNeg (0 : Int32).toNatClampNeg (nI 201 : Int32).toNatClampNeg) a1 p1 i1_3 i1_4 i1_5 i1_6 i1_7 v1_0 v1_1 v1_2) H) (hD : va_D _ (W_X2_copy cs a0 p0 i1_3 i1_4 i1_5 i1_6 i1_7 (va_cpy v1_0 v0_0 (0 : Int32).toNatClampNeg (0 : Int32).toNatClampNeg (nI 2400 : Int32).toNatClampNeg) (va_cpy v1_1 v0_1 (0 : Int32).toNatClampNeg (0 : Int32).toNatClampNeg (nI 80 : Int32).toNatClampNeg) (va_cpy v1_2 v0_2 (0 : Int32).toNatClampNeg (0 : Int32).toNatClampNeg (nI 201 : Int32).toNatClampNeg) a1 p1 i1_3 i1_4 i1_5 i1_6 i1_7 v1_0 v1_1 v1_2)) hS => ?_)
  obtain rfl := Option.some.inj hf
  exact ow_retV C0 hP hD hS dX2_copy_94
theorem in_X2_forget_X2 : ∀ w ∈ u_ws RX2 TX2 8, w ∈ wsX2_forget := fun w h => List.mem_cons_of_mem _ (List.mem_append_right _ h)
abbrev W_X2_forget (cs : Nat → ClassId) (a0 : Nat) (p0 : Nat → Nat) (i0_3 : Int32) (i0_4 : Int32) (i0_5 : Int32) (i0_6 : Int32) (i0_7 : Int32) (v0_0 : Nat → Int32) (v0_1 : Nat → Int32) (v0_2 : Nat → Int32) : va_W := wX2 cs a0 p0 i0_3 i0_4 i0_5 i0_6 i0_7 v0_0 v0_1 v0_2
abbrev rm_X2_forget : Room := { frames := 1, cells := 0, slots := 0, locals := 23 }
def f_X2_forget  (i0_3 : Int32) (i0_4 : Int32) (i0_5 : Int32) (i0_6 : Int32) (i0_7 : Int32) (v0_1 : Nat → Int32) (v0_2 : Nat → Int32)  : Option (Int32 × Int32 × Int32 × Int32 × Int32 × (Nat → Int32) × (Nat → Int32)) := (f_J7_fill_53178 80 v0_1 (0)).bind fun q5 => (f_J7_fill_53178 201 v0_2 (0)).bind fun q13 => some (0, 0, 0, 0, 0, q5, q13)
set_option maxHeartbeats 4000000 in
set_option maxRecDepth 100000 in
theorem c_X2_forget (l : Launch) (D : va_G) (cs : Nat → ClassId)  (sz : Nat) (a0 : Nat) (p0 : Nat → Nat) (i0_3 : Int32) (i0_4 : Int32) (i0_5 : Int32) (i0_6 : Int32) (i0_7 : Int32) (v0_0 : Nat → Int32) (v0_1 : Nat → Int32) (v0_2 : Nat → Int32)  (res : Int32 × Int32 × Int32 × Int32 × Int32 × (Nat → Int32) × (Nat → Int32)) (hf : f_X2_forget  i0_3 i0_4 i0_5 i0_6 i0_7 v0_1 v0_2  = some res) : MV l D cs yX2_forget wsX2_forget rm_X2_forget [.ref a0] sz (W_X2_forget cs a0 p0 i0_3 i0_4 i0_5 i0_6 i0_7 v0_0 v0_1 v0_2) (W_X2_forget cs a0 p0 res.1 res.2.1 res.2.2.1 res.2.2.2.1 res.2.2.2.2.1 v0_0 res.2.2.2.2.2.1 res.2.2.2.2.2.2) := by
  rw [f_X2_forget] at hf
  refine ow_enter (cc := cX2_forget) (nL := 1) (ret := none) (by decide) rfl (Nat.le_of_ble_eq_true rfl) (fun p e s m below meth c ls H locs C0 hP hD hS hA hl => ?_)
  obtain ⟨hx, hb, hr, hlk, hml, hown, hts, hK, hG, hE⟩ := id C0
  have hl : lv_has ls 1 [(0, .ref a0)] := hl
  refine lv_aload_n hx hb dX2_forget_0 rfl (lv_at hl 0 rfl) ?_
  refine va_get (D := D) (ci := 2) (v := .ref (p0 1)) (C := RX2) (T := TX2) (N := 8) hx hb hts in_X2_forget_X2 hown hK hP 0 rfl rfl 1 (by decide) (hts (.fieldLink RX2 15 "PaneDays$Glass" "depth" "[I") (List.mem_of_getElem? (i := 1) rfl)) (fun _ h9 => h9) rfl dX2_forget_1 ?_
  refine lv_iconst (v := 0) hx hb dX2_forget_4 (by decide) ?_
  obtain ⟨q5, hq, hf⟩ := bd_some hf
  refine ow_callSV (As := [.ref (p0 1), .int 0]) (rest := []) (wr := ow_pk (W_X2_forget cs a0 p0 i0_3 i0_4 i0_5 i0_6 i0_7 v0_0 v0_1 v0_2) [0, 1, 3]) (wf := (W_X2_forget cs a0 p0 i0_3 i0_4 i0_5 i0_6 i0_7 v0_0 q5 v0_2)) C0 (c_J7_fill_53178 l D cs H.size (p0 1) 80 v0_1 (0) q5 hq) (va_cwS 2 hts gX2_forget_J7_fill_53178 rfl rfl rfl (by decide +kernel) ⟨Nat.le_of_ble_eq_true rfl, Nat.le_of_ble_eq_true rfl⟩) hP hD hS (fun q h => Or.inr h) [2] [0, 1, 3] [0, 1, 3, 2] rfl (by decide) rfl (by decide) (by decide) rfl (by decide) rfl hl.1 rfl (Nat.le_of_ble_eq_true rfl) ⟨Nat.zero_le _, Nat.zero_le _⟩ dX2_forget_5 (fun H locs hP hD hS => ?_)
  refine lv_aload_n hx hb dX2_forget_8 rfl (lv_at hl 0 rfl) ?_
  refine va_get (D := D) (ci := 2) (v := .ref (p0 2)) (C := RX2) (T := TX2) (N := 8) hx hb hts in_X2_forget_X2 hown hK hP 0 rfl rfl 2 (by decide) (hts (.fieldLink RX2 18 "PaneDays$Glass" "rag" "[I") (List.mem_of_getElem? (i := 2) rfl)) (fun _ h9 => h9) rfl dX2_forget_9 ?_
  refine lv_iconst (v := 0) hx hb dX2_forget_12 (by decide) ?_
  obtain ⟨q13, hq, hf⟩ := bd_some hf
  refine ow_callSV (As := [.ref (p0 2), .int 0]) (rest := []) (wr := ow_pk (W_X2_forget cs a0 p0 i0_3 i0_4 i0_5 i0_6 i0_7 v0_0 q5 v0_2) [0, 1, 2]) (wf := (W_X2_forget cs a0 p0 i0_3 i0_4 i0_5 i0_6 i0_7 v0_0 q5 q13)) C0 (c_J7_fill_53178 l D cs H.size (p0 2) 201 v0_2 (0) q13 hq) (va_cwS 2 hts gX2_forget_J7_fill_53178 rfl rfl rfl (by decide +kernel) ⟨Nat.le_of_ble_eq_true rfl, Nat.le_of_ble_eq_true rfl⟩) hP hD hS (fun q h => Or.inr h) [3] [0, 1, 2] [0, 1, 2, 3] rfl (by decide) rfl (by decide) (by decide) rfl (by decide) rfl hl.1 rfl (Nat.le_of_ble_eq_true rfl) ⟨Nat.zero_le _, Nat.zero_le _⟩ dX2_forget_13 (fun H locs hP hD hS => ?_)
  refine lv_aload_n hx hb dX2_forget_16 rfl (lv_at hl 0 rfl) ?_
  refine lv_iconst (v := 0) hx hb dX2_forget_17 (by decide) ?_
  refine va_put (D := D) (ci := 2) (v := .int 0) (ty := .int) (C := RX2) (T := TX2) (N := 8) hx hb hts in_X2_forget_X2 tyX2 tyX2_ok nmX2 hown hK hP hD hS 0 rfl rfl 3 (by decide) (hts (.fieldLink RX2 27 "PaneDays$Glass" "onRag" "I") (List.mem_of_getElem? (i := 3) rfl)) (fun _ h9 => h9) rfl (by decide +kernel) rfl rfl (Nat.le_of_ble_eq_true rfl) dX2_forget_18 (fun H locs (hP : va_P D vwCl (W_X2_forget cs a0 p0 (0) i0_4 i0_5 i0_6 i0_7 v0_0 q5 q13) H) (hD : va_D _ (W_X2_forget cs a0 p0 (0) i0_4 i0_5 i0_6 i0_7 v0_0 q5 q13)) hS => ?_)
  refine lv_aload_n hx hb dX2_forget_21 rfl (lv_at hl 0 rfl) ?_
  refine lv_iconst (v := 0) hx hb dX2_forget_22 (by decide) ?_
  refine va_put (D := D) (ci := 2) (v := .int 0) (ty := .int) (C := RX2) (T := TX2) (N := 8) hx hb hts in_X2_forget_X2 tyX2 tyX2_ok nmX2 hown hK hP hD hS 0 rfl rfl 4 (by decide) (hts (.fieldLink RX2 31 "PaneDays$Glass" "day" "I") (List.mem_of_getElem? (i := 4) rfl)) (fun _ h9 => h9) rfl (by decide +kernel) rfl rfl (Nat.le_of_ble_eq_true rfl) dX2_forget_23 (fun H locs (hP : va_P D vwCl (W_X2_forget cs a0 p0 (0) (0) i0_5 i0_6 i0_7 v0_0 q5 q13) H) (hD : va_D _ (W_X2_forget cs a0 p0 (0) (0) i0_5 i0_6 i0_7 v0_0 q5 q13)) hS => ?_)
  refine lv_aload_n hx hb dX2_forget_26 rfl (lv_at hl 0 rfl) ?_
  refine lv_iconst (v := 0) hx hb dX2_forget_27 (by decide) ?_
  refine va_put (D := D) (ci := 2) (v := .int 0) (ty := .int) (C := RX2) (T := TX2) (N := 8) hx hb hts in_X2_forget_X2 tyX2 tyX2_ok nmX2 hown hK hP hD hS 0 rfl rfl 5 (by decide) (hts (.fieldLink RX2 34 "PaneDays$Glass" "washed" "I") (List.mem_of_getElem? (i := 5) rfl)) (fun _ h9 => h9) rfl (by decide +kernel) rfl rfl (Nat.le_of_ble_eq_true rfl) dX2_forget_28 (fun H locs (hP : va_P D vwCl (W_X2_forget cs a0 p0 (0) (0) (0) i0_6 i0_7 v0_0 q5 q13) H) (hD : va_D _ (W_X2_forget cs a0 p0 (0) (0) (0) i0_6 i0_7 v0_0 q5 q13)) hS => ?_)
  refine lv_aload_n hx hb dX2_forget_31 rfl (lv_at hl 0 rfl) ?_
  refine lv_iconst (v := 0) hx hb dX2_forget_32 (by decide) ?_
  refine va_put (D := D) (ci := 2) (v := .int 0) (ty := .int) (C := RX2) (T := TX2) (N := 8) hx hb hts in_X2_forget_X2 tyX2 tyX2_ok nmX2 hown hK hP hD hS 0 rfl rfl 6 (by decide) (hts (.fieldLink RX2 37 "PaneDays$Glass" "broken" "I") (List.mem_of_getElem? (i := 6) rfl)) (fun _ h9 => h9) rfl (by decide +kernel) rfl rfl (Nat.le_of_ble_eq_true rfl) dX2_forget_33 (fun H locs (hP : va_P D vwCl (W_X2_forget cs a0 p0 (0) (0) (0) (0) i0_7 v0_0 q5 q13) H) (hD : va_D _ (W_X2_forget cs a0 p0 (0) (0) (0) (0) i0_7 v0_0 q5 q13)) hS => ?_)
  refine lv_aload_n hx hb dX2_forget_36 rfl (lv_at hl 0 rfl) ?_
  refine lv_iconst (v := 0) hx hb dX2_forget_37 (by decide) ?_
  refine va_put (D := D) (ci := 2) (v := .int 0) (ty := .int) (C := RX2) (T := TX2) (N := 8) hx hb hts in_X2_forget_X2 tyX2 tyX2_ok nmX2 hown hK hP hD hS 0 rfl rfl 7 (by decide) (hts (.fieldLink RX2 40 "PaneDays$Glass" "met" "I") (List.mem_of_getElem? (i := 7) rfl)) (fun _ h9 => h9) rfl (by decide +kernel) rfl rfl (Nat.le_of_ble_eq_true rfl) dX2_forget_38 (fun H locs (hP : va_P D vwCl (W_X2_forget cs a0 p0 (0) (0) (0) (0) (0) v0_0 q5 q13) H) (hD : va_D _ (W_X2_forget cs a0 p0 (0) (0) (0) (0) (0) v0_0 q5 q13)) hS => ?_)
  obtain rfl := Option.some.inj hf
  exact ow_retV C0 hP hD hS dX2_forget_41

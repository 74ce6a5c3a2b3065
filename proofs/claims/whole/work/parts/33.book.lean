abbrev rm_J6_bitCount_0f7a4 : Room := { frames := 0, cells := 0, slots := 0, locals := 0 }
def f_J6_bitCount_0f7a4   (x0 : Int32) : Option (Int32) := some ((((((((x0 - ((((x0 : Int32).toUInt32 >>> ((1 : Int32).toUInt32 &&& Int32.toUInt32 31)).toInt32) &&& 1431655765)) &&& 858993459) + ((((x0 - ((((x0 : Int32).toUInt32 >>> ((1 : Int32).toUInt32 &&& Int32.toUInt32 31)).toInt32) &&& 1431655765) : Int32).toUInt32 >>> ((2 : Int32).toUInt32 &&& Int32.toUInt32 31)).toInt32) &&& 858993459)) + (((((x0 - ((((x0 : Int32).toUInt32 >>> ((1 : Int32).toUInt32 &&& Int32.toUInt32 31)).toInt32) &&& 1431655765)) &&& 858993459) + ((((x0 - ((((x0 : Int32).toUInt32 >>> ((1 : Int32).toUInt32 &&& Int32.toUInt32 31)).toInt32) &&& 1431655765) : Int32).toUInt32 >>> ((2 : Int32).toUInt32 &&& Int32.toUInt32 31)).toInt32) &&& 858993459) : Int32).toUInt32 >>> ((4 : Int32).toUInt32 &&& Int32.toUInt32 31)).toInt32)) &&& 252645135) + (((((((x0 - ((((x0 : Int32).toUInt32 >>> ((1 : Int32).toUInt32 &&& Int32.toUInt32 31)).toInt32) &&& 1431655765)) &&& 858993459) + ((((x0 - ((((x0 : Int32).toUInt32 >>> ((1 : Int32).toUInt32 &&& Int32.toUInt32 31)).toInt32) &&& 1431655765) : Int32).toUInt32 >>> ((2 : Int32).toUInt32 &&& Int32.toUInt32 31)).toInt32) &&& 858993459)) + (((((x0 - ((((x0 : Int32).toUInt32 >>> ((1 : Int32).toUInt32 &&& Int32.toUInt32 31)).toInt32) &&& 1431655765)) &&& 858993459) + ((((x0 - ((((x0 : Int32).toUInt32 >>> ((1 : Int32).toUInt32 &&& Int32.toUInt32 31)).toInt32) &&& 1431655765) : Int32).toUInt32 >>> ((2 : Int32).toUInt32 &&& Int32.toUInt32 31)).toInt32) &&& 858993459) : Int32).toUInt32 >>> ((4 : Int32).toUInt32 &&& Int32.toUInt32 31)).toInt32)) &&& 252645135 : Int32).toUInt32 >>> ((8 : Int32).toUInt32 &&& Int32.toUInt32 31)).toInt32)) + ((((((((x0 - ((((x0 : Int32).toUInt32 >>> ((1 : Int32).toUInt32 &&& Int32.toUInt32 31)).toInt32) &&& 1431655765)) &&& 858993459) + ((((x0 - ((((x0 : Int32).toUInt32 >>> ((1 : Int32).toUInt32 &&& Int32.toUInt32 31)).toInt32) &&& 1431655765) : Int32).toUInt32 >>> ((2 : Int32).toUInt32 &&& Int32.toUInt32 31)).toInt32) &&& 858993459)) + (((((x0 - ((((x0 : Int32).toUInt32 >>> ((1 : Int32).toUInt32 &&& Int32.toUInt32 31)).toInt32) &&& 1431655765)) &&& 858993459) + ((((x0 - ((((x0 : Int32).toUInt32 >>> ((1 : Int32).toUInt32 &&& Int32.toUInt32 31)).toInt32) &&& 1431655765) : Int32).toUInt32 >>> ((2 : Int32).toUInt32 &&& Int32.toUInt32 31)).toInt32) &&& 858993459) : Int32).toUInt32 >>> ((4 : Int32).toUInt32 &&& Int32.toUInt32 31)).toInt32)) &&& 252645135) + (((((((x0 - ((((x0 : Int32).toUInt32 >>> ((1 : Int32).toUInt32 &&& Int32.toUInt32 31)).toInt32) &&& 1431655765)) &&& 858993459) + ((((x0 - ((((x0 : Int32).toUInt32 >>> ((1 : Int32).toUInt32 &&& Int32.toUInt32 31)).toInt32) &&& 1431655765) : Int32).toUInt32 >>> ((2 : Int32).toUInt32 &&& Int32.toUInt32 31)).toInt32) &&& 858993459)) + (((((x0 - ((((x0 : Int32).toUInt32 >>> ((1 : Int32).toUInt32 &&& Int32.toUInt32 31)).toInt32) &&& 1431655765)) &&& 858993459) + ((((x0 - ((((x0 : Int32).toUInt32 >>> ((1 : Int32).toUInt32 &&& Int32.toUInt32 31)).toInt32) &&& 1431655765) : Int32).toUInt32 >>> ((2 : Int32).toUInt32 &&& Int32.toUInt32 31)).toInt32) &&& 858993459) : Int32).toUInt32 >>> ((4 : Int32).toUInt32 &&& Int32.toUInt32 31)).toInt32)) &&& 252645135 : Int32).toUInt32 >>> ((8 : Int32).toUInt32 &&& Int32.toUInt32 31)).toInt32) : Int32).toUInt32 >>> ((16 : Int32).toUInt32 &&& Int32.toUInt32 31)).toInt32)) &&& 63)
set_option maxHeartbeats 4000000 in
set_option maxRecDepth 100000 in
theorem c_J6_bitCount_0f7a4 (l : Launch) (D : va_G) (cs : Nat → ClassId)  (sz : Nat)  (x0 : Int32) (res : Int32) (hf : f_J6_bitCount_0f7a4   x0 = some res) : MI l D cs yJ6_bitCount_0f7a4 wsJ6_bitCount_0f7a4 rm_J6_bitCount_0f7a4 [.int x0] sz ([] : va_W) ([] : va_W) res := by
  rw [f_J6_bitCount_0f7a4] at hf
  refine ow_enter (cc := cJ6_bitCount_0f7a4) (nL := 1) (ret := (some .int)) (by decide) rfl (Nat.le_of_ble_eq_true rfl) (fun p e s m below meth c ls H locs C0 hP hD hS hA hl => ?_)
  obtain ⟨hx, hb, hr, hlk, hml, hown, hts, hK, hG, hE⟩ := id C0
  have hl : lv_has ls 1 [(0, .int x0)] := hl
  refine lv_iload_n hx hb dJ6_bitCount_0f7a4_0 rfl (lv_at hl 0 rfl) ?_
  refine lv_iload_n hx hb dJ6_bitCount_0f7a4_1 rfl (lv_at hl 0 rfl) ?_
  refine lv_iconst (v := 1) hx hb dJ6_bitCount_0f7a4_2 (by decide) ?_
  refine lv_iushr (v := ((x0 : Int32).toUInt32 >>> ((1 : Int32).toUInt32 &&& Int32.toUInt32 31)).toInt32) hx hb dJ6_bitCount_0f7a4_3 rfl ?_
  refine lv_ldcw (own := RJ6) (v := 1431655765) hx hb hown (hts (.constant RJ6 265 (1431655765)) (List.mem_of_getElem? (i := 1) rfl)) dJ6_bitCount_0f7a4_4 ?_
  refine lv_iand hx hb dJ6_bitCount_0f7a4_7 ?_
  refine lv_isub hx hb dJ6_bitCount_0f7a4_8 ?_
  refine lv_istore_n (lv' := [(0, .int (x0 - ((((x0 : Int32).toUInt32 >>> ((1 : Int32).toUInt32 &&& Int32.toUInt32 31)).toInt32) &&& 1431655765)))]) hx hb dJ6_bitCount_0f7a4_9 rfl hl (by decide) rfl (fun ls hl => ?_)
  refine lv_iload_n hx hb dJ6_bitCount_0f7a4_10 rfl (lv_at hl 0 rfl) ?_
  refine lv_ldcw (own := RJ6) (v := 858993459) hx hb hown (hts (.constant RJ6 266 (858993459)) (List.mem_of_getElem? (i := 2) rfl)) dJ6_bitCount_0f7a4_11 ?_
  refine lv_iand hx hb dJ6_bitCount_0f7a4_14 ?_
  refine lv_iload_n hx hb dJ6_bitCount_0f7a4_15 rfl (lv_at hl 0 rfl) ?_
  refine lv_iconst (v := 2) hx hb dJ6_bitCount_0f7a4_16 (by decide) ?_
  refine lv_iushr (v := ((x0 - ((((x0 : Int32).toUInt32 >>> ((1 : Int32).toUInt32 &&& Int32.toUInt32 31)).toInt32) &&& 1431655765) : Int32).toUInt32 >>> ((2 : Int32).toUInt32 &&& Int32.toUInt32 31)).toInt32) hx hb dJ6_bitCount_0f7a4_17 rfl ?_
  refine lv_ldcw (own := RJ6) (v := 858993459) hx hb hown (hts (.constant RJ6 266 (858993459)) (List.mem_of_getElem? (i := 2) rfl)) dJ6_bitCount_0f7a4_18 ?_
  refine lv_iand hx hb dJ6_bitCount_0f7a4_21 ?_
  refine lv_iadd hx hb dJ6_bitCount_0f7a4_22 ?_
  refine lv_istore_n (lv' := [(0, .int (((x0 - ((((x0 : Int32).toUInt32 >>> ((1 : Int32).toUInt32 &&& Int32.toUInt32 31)).toInt32) &&& 1431655765)) &&& 858993459) + ((((x0 - ((((x0 : Int32).toUInt32 >>> ((1 : Int32).toUInt32 &&& Int32.toUInt32 31)).toInt32) &&& 1431655765) : Int32).toUInt32 >>> ((2 : Int32).toUInt32 &&& Int32.toUInt32 31)).toInt32) &&& 858993459)))]) hx hb dJ6_bitCount_0f7a4_23 rfl hl (by decide) rfl (fun ls hl => ?_)
  refine lv_iload_n hx hb dJ6_bitCount_0f7a4_24 rfl (lv_at hl 0 rfl) ?_
  refine lv_iload_n hx hb dJ6_bitCount_0f7a4_25 rfl (lv_at hl 0 rfl) ?_
  refine lv_iconst (v := 4) hx hb dJ6_bitCount_0f7a4_26 (by decide) ?_
  refine lv_iushr (v := ((((x0 - ((((x0 : Int32).toUInt32 >>> ((1 : Int32).toUInt32 &&& Int32.toUInt32 31)).toInt32) &&& 1431655765)) &&& 858993459) + ((((x0 - ((((x0 : Int32).toUInt32 >>> ((1 : Int32).toUInt32 &&& Int32.toUInt32 31)).toInt32) &&& 1431655765) : Int32).toUInt32 >>> ((2 : Int32).toUInt32 &&& Int32.toUInt32 31)).toInt32) &&& 858993459) : Int32).toUInt32 >>> ((4 : Int32).toUInt32 &&& Int32.toUInt32 31)).toInt32) hx hb dJ6_bitCount_0f7a4_27 rfl ?_
  refine lv_iadd hx hb dJ6_bitCount_0f7a4_28 ?_
  refine lv_ldcw (own := RJ6) (v := 252645135) hx hb hown (hts (.constant RJ6 267 (252645135)) (List.mem_of_getElem? (i := 3) rfl)) dJ6_bitCount_0f7a4_29 ?_
  refine lv_iand hx hb dJ6_bitCount_0f7a4_32 ?_
  refine lv_istore_n (lv' := [(0, .int (((((x0 - ((((x0 : Int32).toUInt32 >>> ((1 : Int32).toUInt32 &&& Int32.toUInt32 31)).toInt32) &&& 1431655765)) &&& 858993459) + ((((x0 - ((((x0 : Int32).toUInt32 >>> ((1 : Int32).toUInt32 &&& Int32.toUInt32 31)).toInt32) &&& 1431655765) : Int32).toUInt32 >>> ((2 : Int32).toUInt32 &&& Int32.toUInt32 31)).toInt32) &&& 858993459)) + (((((x0 - ((((x0 : Int32).toUInt32 >>> ((1 : Int32).toUInt32 &&& Int32.toUInt32 31)).toInt32) &&& 1431655765)) &&& 858993459) + ((((x0 - ((((x0 : Int32).toUInt32 >>> ((1 : Int32).toUInt32 &&& Int32.toUInt32 31)).toInt32) &&& 1431655765) : Int32).toUInt32 >>> ((2 : Int32).toUInt32 &&& Int32.toUInt32 31)).toInt32) &&& 858993459) : Int32).toUInt32 >>> ((4 : Int32).toUInt32 &&& Int32.toUInt32 31)).toInt32)) &&& 252645135))]) hx hb dJ6_bitCount_0f7a4_33 rfl hl (by decide) rfl (fun ls hl => ?_)
  refine lv_iload_n hx hb dJ6_bitCount_0f7a4_34 rfl (lv_at hl 0 rfl) ?_
  refine lv_iload_n hx hb dJ6_bitCount_0f7a4_35 rfl (lv_at hl 0 rfl) ?_
  refine lv_bipush (v := 8) hx hb dJ6_bitCount_0f7a4_36 (by decide) ?_
  refine lv_iushr (v := ((((((x0 - ((((x0 : Int32).toUInt32 >>> ((1 : Int32).toUInt32 &&& Int32.toUInt32 31)).toInt32) &&& 1431655765)) &&& 858993459) + ((((x0 - ((((x0 : Int32).toUInt32 >>> ((1 : Int32).toUInt32 &&& Int32.toUInt32 31)).toInt32) &&& 1431655765) : Int32).toUInt32 >>> ((2 : Int32).toUInt32 &&& Int32.toUInt32 31)).toInt32) &&& 858993459)) + (((((x0 - ((((x0 : Int32).toUInt32 >>> ((1 : Int32).toUInt32 &&& Int32.toUInt32 31)).toInt32) &&& 1431655765)) &&& 858993459) + ((((x0 - ((((x0 : Int32).toUInt32 >>> ((1 : Int32).toUInt32 &&& Int32.toUInt32 31)).toInt32) &&& 1431655765) : Int32).toUInt32 >>> ((2 : Int32).toUInt32 &&& Int32.toUInt32 31)).toInt32) &&& 858993459) : Int32).toUInt32 >>> ((4 : Int32).toUInt32 &&& Int32.toUInt32 31)).toInt32)) &&& 252645135 : Int32).toUInt32 >>> ((8 : Int32).toUInt32 &&& Int32.toUInt32 31)).toInt32) hx hb dJ6_bitCount_0f7a4_38 rfl ?_
  refine lv_iadd hx hb dJ6_bitCount_0f7a4_39 ?_
  refine lv_istore_n (lv' := [(0, .int ((((((x0 - ((((x0 : Int32).toUInt32 >>> ((1 : Int32).toUInt32 &&& Int32.toUInt32 31)).toInt32) &&& 1431655765)) &&& 858993459) + ((((x0 - ((((x0 : Int32).toUInt32 >>> ((1 : Int32).toUInt32 &&& Int32.toUInt32 31)).toInt32) &&& 1431655765) : Int32).toUInt32 >>> ((2 : Int32).toUInt32 &&& Int32.toUInt32 31)).toInt32) &&& 858993459)) + (((((x0 - ((((x0 : Int32).toUInt32 >>> ((1 : Int32).toUInt32 &&& Int32.toUInt32 31)).toInt32) &&& 1431655765)) &&& 858993459) + ((((x0 - ((((x0 : Int32).toUInt32 >>> ((1 : Int32).toUInt32 &&& Int32.toUInt32 31)).toInt32) &&& 1431655765) : Int32).toUInt32 >>> ((2 : Int32).toUInt32 &&& Int32.toUInt32 31)).toInt32) &&& 858993459) : Int32).toUInt32 >>> ((4 : Int32).toUInt32 &&& Int32.toUInt32 31)).toInt32)) &&& 252645135) + (((((((x0 - ((((x0 : Int32).toUInt32 >>> ((1 : Int32).toUInt32 &&& Int32.toUInt32 31)).toInt32) &&& 1431655765)) &&& 858993459) + ((((x0 - ((((x0 : Int32).toUInt32 >>> ((1 : Int32).toUInt32 &&& Int32.toUInt32 31)).toInt32) &&& 1431655765) : Int32).toUInt32 >>> ((2 : Int32).toUInt32 &&& Int32.toUInt32 31)).toInt32) &&& 858993459)) + (((((x0 - ((((x0 : Int32).toUInt32 >>> ((1 : Int32).toUInt32 &&& Int32.toUInt32 31)).toInt32) &&& 1431655765)) &&& 858993459) + ((((x0 - ((((x0 : Int32).toUInt32 >>> ((1 : Int32).toUInt32 &&& Int32.toUInt32 31)).toInt32) &&& 1431655765) : Int32).toUInt32 >>> ((2 : Int32).toUInt32 &&& Int32.toUInt32 31)).toInt32) &&& 858993459) : Int32).toUInt32 >>> ((4 : Int32).toUInt32 &&& Int32.toUInt32 31)).toInt32)) &&& 252645135 : Int32).toUInt32 >>> ((8 : Int32).toUInt32 &&& Int32.toUInt32 31)).toInt32)))]) hx hb dJ6_bitCount_0f7a4_40 rfl hl (by decide) rfl (fun ls hl => ?_)
  refine lv_iload_n hx hb dJ6_bitCount_0f7a4_41 rfl (lv_at hl 0 rfl) ?_
  refine lv_iload_n hx hb dJ6_bitCount_0f7a4_42 rfl (lv_at hl 0 rfl) ?_
  refine lv_bipush (v := 16) hx hb dJ6_bitCount_0f7a4_43 (by decide) ?_
  refine lv_iushr (v := (((((((x0 - ((((x0 : Int32).toUInt32 >>> ((1 : Int32).toUInt32 &&& Int32.toUInt32 31)).toInt32) &&& 1431655765)) &&& 858993459) + ((((x0 - ((((x0 : Int32).toUInt32 >>> ((1 : Int32).toUInt32 &&& Int32.toUInt32 31)).toInt32) &&& 1431655765) : Int32).toUInt32 >>> ((2 : Int32).toUInt32 &&& Int32.toUInt32 31)).toInt32) &&& 858993459)) + (((((x0 - ((((x0 : Int32).toUInt32 >>> ((1 : Int32).toUInt32 &&& Int32.toUInt32 31)).toInt32) &&& 1431655765)) &&& 858993459) + ((((x0 - ((((x0 : Int32).toUInt32 >>> ((1 : Int32).toUInt32 &&& Int32.toUInt32 31)).toInt32) &&& 1431655765) : Int32).toUInt32 >>> ((2 : Int32).toUInt32 &&& Int32.toUInt32 31)).toInt32) &&& 858993459) : Int32).toUInt32 >>> ((4 : Int32).toUInt32 &&& Int32.toUInt32 31)).toInt32)) &&& 252645135) + (((((((x0 - ((((x0 : Int32).toUInt32 >>> ((1 : Int32).toUInt32 &&& Int32.toUInt32 31)).toInt32) &&& 1431655765)) &&& 858993459) + ((((x0 - ((((x0 : Int32).toUInt32 >>> ((1 : Int32).toUInt32 &&& Int32.toUInt32 31)).toInt32) &&& 1431655765) : Int32).toUInt32 >>> ((2 : Int32).toUInt32 &&& Int32.toUInt32 31)).toInt32) &&& 858993459)) + (((((x0 - ((((x0 : Int32).toUInt32 >>> ((1 : Int32).toUInt32 &&& Int32.toUInt32 31)).toInt32) &&& 1431655765)) &&& 858993459) + ((((x0 - ((((x0 : Int32).toUInt32 >>> ((1 : Int32).toUInt32 &&& Int32.toUInt32 31)).toInt32) &&& 1431655765) : Int32).toUInt32 >>> ((2 : Int32).toUInt32 &&& Int32.toUInt32 31)).toInt32) &&& 858993459) : Int32).toUInt32 >>> ((4 : Int32).toUInt32 &&& Int32.toUInt32 31)).toInt32)) &&& 252645135 : Int32).toUInt32 >>> ((8 : Int32).toUInt32 &&& Int32.toUInt32 31)).toInt32) : Int32).toUInt32 >>> ((16 : Int32).toUInt32 &&& Int32.toUInt32 31)).toInt32) hx hb dJ6_bitCount_0f7a4_45 rfl ?_
  refine lv_iadd hx hb dJ6_bitCount_0f7a4_46 ?_
  refine lv_istore_n (lv' := [(0, .int (((((((x0 - ((((x0 : Int32).toUInt32 >>> ((1 : Int32).toUInt32 &&& Int32.toUInt32 31)).toInt32) &&& 1431655765)) &&& 858993459) + ((((x0 - ((((x0 : Int32).toUInt32 >>> ((1 : Int32).toUInt32 &&& Int32.toUInt32 31)).toInt32) &&& 1431655765) : Int32).toUInt32 >>> ((2 : Int32).toUInt32 &&& Int32.toUInt32 31)).toInt32) &&& 858993459)) + (((((x0 - ((((x0 : Int32).toUInt32 >>> ((1 : Int32).toUInt32 &&& Int32.toUInt32 31)).toInt32) &&& 1431655765)) &&& 858993459) + ((((x0 - ((((x0 : Int32).toUInt32 >>> ((1 : Int32).toUInt32 &&& Int32.toUInt32 31)).toInt32) &&& 1431655765) : Int32).toUInt32 >>> ((2 : Int32).toUInt32 &&& Int32.toUInt32 31)).toInt32) &&& 858993459) : Int32).toUInt32 >>> ((4 : Int32).toUInt32 &&& Int32.toUInt32 31)).toInt32)) &&& 252645135) + (((((((x0 - ((((x0 : Int32).toUInt32 >>> ((1 : Int32).toUInt32 &&& Int32.toUInt32 31)).toInt32) &&& 1431655765)) &&& 858993459) + ((((x0 - ((((x0 : Int32).toUInt32 >>> ((1 : Int32).toUInt32 &&& Int32.toUInt32 31)).toInt32) &&& 1431655765) : Int32).toUInt32 >>> ((2 : Int32).toUInt32 &&& Int32.toUInt32 31)).toInt32) &&& 858993459)) + (((((x0 - ((((x0 : Int32).toUInt32 >>> ((1 : Int32).toUInt32 &&& Int32.toUInt32 31)).toInt32) &&& 1431655765)) &&& 858993459) + ((((x0 - ((((x0 : Int32).toUInt32 >>> ((1 : Int32).toUInt32 &&& Int32.toUInt32 31)).toInt32) &&& 1431655765) : Int32).toUInt32 >>> ((2 : Int32).toUInt32 &&& Int32.toUInt32 31)).toInt32) &&& 858993459) : Int32).toUInt32 >>> ((4 : Int32).toUInt32 &&& Int32.toUInt32 31)).toInt32)) &&& 252645135 : Int32).toUInt32 >>> ((8 : Int32).toUInt32 &&& Int32.toUInt32 31)).toInt32)) + ((((((((x0 - ((((x0 : Int32).toUInt32 >>> ((1 : Int32).toUInt32 &&& Int32.toUInt32 31)).toInt32) &&& 1431655765)) &&& 858993459) + ((((x0 - ((((x0 : Int32).toUInt32 >>> ((1 : Int32).toUInt32 &&& Int32.toUInt32 31)).toInt32) &&& 1431655765) : Int32).toUInt32 >>> ((2 : Int32).toUInt32 &&& Int32.toUInt32 31)).toInt32) &&& 858993459)) + (((((x0 - ((((x0 : Int32).toUInt32 >>> ((1 : Int32).toUInt32 &&& Int32.toUInt32 31)).toInt32) &&& 1431655765)) &&& 858993459) + ((((x0 - ((((x0 : Int32).toUInt32 >>> ((1 : Int32).toUInt32 &&& Int32.toUInt32 31)).toInt32) &&& 1431655765) : Int32).toUInt32 >>> ((2 : Int32).toUInt32 &&& Int32.toUInt32 31)).toInt32) &&& 858993459) : Int32).toUInt32 >>> ((4 : Int32).toUInt32 &&& Int32.toUInt32 31)).toInt32)) &&& 252645135) + (((((((x0 - ((((x0 : Int32).toUInt32 >>> ((1 : Int32).toUInt32 &&& Int32.toUInt32 31)).toInt32) &&& 1431655765)) &&& 858993459) + ((((x0 - ((((x0 : Int32).toUInt32 >>> ((1 : Int32).toUInt32 &&& Int32.toUInt32 31)).toInt32) &&& 1431655765) : Int32).toUInt32 >>> ((2 : Int32).toUInt32 &&& Int32.toUInt32 31)).toInt32) &&& 858993459)) + (((((x0 - ((((x0 : Int32).toUInt32 >>> ((1 : Int32).toUInt32 &&& Int32.toUInt32 31)).toInt32) &&& 1431655765)) &&& 858993459) + ((((x0 - ((((x0 : Int32).toUInt32 >>> ((1 : Int32).toUInt32 &&& Int32.toUInt32 31)).toInt32) &&& 1431655765) : Int32).toUInt32 >>> ((2 : Int32).toUInt32 &&& Int32.toUInt32 31)).toInt32) &&& 858993459) : Int32).toUInt32 >>> ((4 : Int32).toUInt32 &&& Int32.toUInt32 31)).toInt32)) &&& 252645135 : Int32).toUInt32 >>> ((8 : Int32).toUInt32 &&& Int32.toUInt32 31)).toInt32) : Int32).toUInt32 >>> ((16 : Int32).toUInt32 &&& Int32.toUInt32 31)).toInt32)))]) hx hb dJ6_bitCount_0f7a4_47 rfl hl (by decide) rfl (fun ls hl => ?_)
  refine lv_iload_n hx hb dJ6_bitCount_0f7a4_48 rfl (lv_at hl 0 rfl) ?_
  refine lv_bipush (v := 63) hx hb dJ6_bitCount_0f7a4_49 (by decide) ?_
  refine lv_iand hx hb dJ6_bitCount_0f7a4_51 ?_
  obtain rfl := Option.some.inj hf
  exact ow_retI C0 hP hD hS dJ6_bitCount_0f7a4_52
abbrev rm_X0_leftAtWorst : Room := { frames := 1, cells := 0, slots := 0, locals := 21 }
def f_X0_leftAtWorst_b26     (t0 : Int32) (t1 : Int32) : Option (Int32) := some (if t0 < t1 then t1 else t0)
set_option maxHeartbeats 4000000 in
set_option maxRecDepth 100000 in
theorem w_X0_leftAtWorst_b26 {p : Program} {l : Launch} {e : Env} {s : State} {m : MethodId} {below : List Frame} {meth : Method} {c : Code} {D : va_G} {cs : Nat → ClassId} {av : Array Value} {w0 : va_W} (C0 : Cx p s m meth c av wsX0_leftAtWorst cX0_leftAtWorst 4 (some .int) RX0 D cs w0)   (res : Int32)  : ∀ (t0 : Int32) (t1 : Int32), f_X0_leftAtWorst_b26 t0 t1 = some res → ∀ (H : Heap) (locs : List Loc) (ls : Array Slot), va_P D vwCl ([] : va_W) H → va_D (va_A w0 s.heap.size) ([] : va_W) → va_S (va_A w0 s.heap.size) s.heap H locs → lv_has ls 4 [] → W p l e rm_X0_leftAtWorst s m av below meth c H locs 0 0 (MQ below (oI D cs w0 ([] : va_W) res s.heap.size) av s 0 0 (va_A w0 s.heap.size)) (F0 m 26 ls [.int t1, .int t0]) := by
  obtain ⟨hx, hb, hr, hlk, hml, hown, hts, hK, hG, hE⟩ := id C0
  intro t0 t1 hf H locs ls hP hD hS hl
  rw [f_X0_leftAtWorst_b26] at hf
  refine va_mmax hx hb (hml.trans hl.1.symm) hown (hts (.methodLink RX0 84 Lib.Math.max.name) (by decide +kernel)) (hts (.static Lib.Math.max.name) (by decide +kernel)) (hts (.initialized "java/lang/Math") (by decide +kernel)) (hts (.code Lib.Math.max.name Lib.Math.max.code 2 (some .int)) (by decide +kernel)) (Nat.le_of_ble_eq_true rfl) (Nat.le_of_ble_eq_true rfl) (Nat.zero_le _) (Nat.zero_le _) dX0_leftAtWorst_26 ?_
  obtain rfl := Option.some.inj hf
  exact ow_retI C0 hP hD hS dX0_leftAtWorst_29
def f_X0_leftAtWorst   (x0 : Int32) (x1 : Int32) : Option (Int32) := (f_J6_bitCount_0f7a4 (x0 &&& (-(((1 : Int32)) <<< (x1 &&& 31))))).bind fun q14 => if (x0 &&& ((x0 &&& (-(((1 : Int32)) <<< (x1 &&& 31)))) ^^^ ((-1)))) = 0 then (f_X0_leftAtWorst_b26 q14 (0)) else (f_X0_leftAtWorst_b26 q14 (1))
set_option maxHeartbeats 4000000 in
set_option maxRecDepth 100000 in
theorem c_X0_leftAtWorst (l : Launch) (D : va_G) (cs : Nat → ClassId)  (sz : Nat)  (x0 : Int32) (x1 : Int32) (res : Int32) (hf : f_X0_leftAtWorst   x0 x1 = some res) : MI l D cs yX0_leftAtWorst wsX0_leftAtWorst rm_X0_leftAtWorst [.int x0, .int x1] sz ([] : va_W) ([] : va_W) res := by
  rw [f_X0_leftAtWorst] at hf
  refine ow_enter (cc := cX0_leftAtWorst) (nL := 4) (ret := (some .int)) (by decide) rfl (Nat.le_of_ble_eq_true rfl) (fun p e s m below meth c ls H locs C0 hP hD hS hA hl => ?_)
  obtain ⟨hx, hb, hr, hlk, hml, hown, hts, hK, hG, hE⟩ := id C0
  have hl : lv_has ls 4 [(0, .int x0), (1, .int x1)] := hl
  refine lv_iload_n hx hb dX0_leftAtWorst_0 rfl (lv_at hl 0 rfl) ?_
  refine lv_iconst (v := 1) hx hb dX0_leftAtWorst_1 (by decide) ?_
  refine lv_iload_n hx hb dX0_leftAtWorst_2 rfl (lv_at hl 1 rfl) ?_
  refine lv_ishl hx hb dX0_leftAtWorst_3 ?_
  refine lv_ineg hx hb dX0_leftAtWorst_4 ?_
  refine lv_iand hx hb dX0_leftAtWorst_5 ?_
  refine lv_istore_n (lv' := [(2, .int (x0 &&& (-(((1 : Int32)) <<< (x1 &&& 31))))), (0, .int x0), (1, .int x1)]) hx hb dX0_leftAtWorst_6 rfl hl (by decide) rfl (fun ls hl => ?_)
  refine lv_iload_n hx hb dX0_leftAtWorst_7 rfl (lv_at hl 1 rfl) ?_
  refine lv_iload_n hx hb dX0_leftAtWorst_8 rfl (lv_at hl 0 rfl) ?_
  refine lv_iconst (v := (-1)) hx hb dX0_leftAtWorst_9 (by decide) ?_
  refine lv_ixor hx hb dX0_leftAtWorst_10 ?_
  refine lv_iand hx hb dX0_leftAtWorst_11 ?_
  refine lv_istore_n (lv' := [(3, .int (x0 &&& ((x0 &&& (-(((1 : Int32)) <<< (x1 &&& 31)))) ^^^ ((-1))))), (2, .int (x0 &&& (-(((1 : Int32)) <<< (x1 &&& 31))))), (0, .int x0), (1, .int x1)]) hx hb dX0_leftAtWorst_12 rfl hl (by decide) rfl (fun ls hl => ?_)
  refine lv_iload_n hx hb dX0_leftAtWorst_13 rfl (lv_at hl 1 rfl) ?_
  obtain ⟨q14, hq, hf⟩ := bd_some hf
  refine ow_callSI (As := [.int (x0 &&& (-(((1 : Int32)) <<< (x1 &&& 31))))]) (rest := []) (wr := ow_pk ([] : va_W) []) (wf := ([] : va_W)) (r := q14) C0 (c_J6_bitCount_0f7a4 l D cs H.size  (x0 &&& (-(((1 : Int32)) <<< (x1 &&& 31)))) q14 hq) (va_cwS 1 hts gX0_leftAtWorst_J6_bitCount_0f7a4 rfl rfl rfl (by decide +kernel) ⟨Nat.le_of_ble_eq_true rfl, Nat.le_of_ble_eq_true rfl⟩) hP hD hS (fun q h => Or.inr h) [] [] [] rfl (by decide) rfl (by decide) (by decide) rfl (by decide) rfl hl.1 rfl (Nat.le_of_ble_eq_true rfl) ⟨Nat.zero_le _, Nat.zero_le _⟩ dX0_leftAtWorst_14 (fun H locs hP hD hS => ?_)
  refine lv_iload_n hx hb dX0_leftAtWorst_17 rfl (lv_at hl 0 rfl) ?_
  refine lv_if_ne (tgt := 25) hx hb dX0_leftAtWorst_18 (by decide) (fun hc => ?_) (fun hc => ?_)
  · replace hf := ow_f hc hf
    refine lv_iconst (v := 1) hx hb dX0_leftAtWorst_25 (by decide) ?_
    exact w_X0_leftAtWorst_b26 C0 res q14 (1) hf _ _ _ hP hD hS (lv_sub hl [] rfl)
  · replace hf := ow_t hc hf
    refine lv_iconst (v := 0) hx hb dX0_leftAtWorst_21 (by decide) ?_
    refine lv_goto (tgt := 26) hx hb dX0_leftAtWorst_22 (by decide) ?_
    exact w_X0_leftAtWorst_b26 C0 res q14 (0) hf _ _ _ hP hD hS (lv_sub hl [] rfl)
theorem in_X0_depthsShowing_X2 : ∀ w ∈ u_ws RX2 TX2 8, w ∈ wsX0_depthsShowing := fun w h => List.mem_cons_of_mem _ (List.mem_append_right _ h)
abbrev W_X0_depthsShowing (cs : Nat → ClassId) (a0 : Nat) (p0 : Nat → Nat) (i0_3 : Int32) (i0_4 : Int32) (i0_5 : Int32) (i0_6 : Int32) (i0_7 : Int32) (v0_0 : Nat → Int32) (v0_1 : Nat → Int32) (v0_2 : Nat → Int32) : va_W := wX2 cs a0 p0 i0_3 i0_4 i0_5 i0_6 i0_7 v0_0 v0_1 v0_2
abbrev rm_X0_depthsShowing : Room := { frames := 2, cells := 0, slots := 0, locals := 45 }
def f_X0_depthsShowing  (v0_0 : Nat → Int32) (v0_1 : Nat → Int32) (x1 : Int32) (x2 : Int32) : Option (Int32) := if x2 = 0 then (ck x1 80 (some (2147483647 &&& (-(((1 : Int32)) <<< ((v0_1 (x1).toNatClampNeg) &&& 31)))))) else ((f_X2_outsideOf v0_0 v0_1 x1 x2).bind fun q20 => if q20 = ((-1)) then (some (0)) else (some (((1 : Int32)) <<< (q20 &&& 31))))
set_option maxHeartbeats 4000000 in
set_option maxRecDepth 100000 in
theorem c_X0_depthsShowing (l : Launch) (D : va_G) (cs : Nat → ClassId)  (sz : Nat) (a0 : Nat) (p0 : Nat → Nat) (i0_3 : Int32) (i0_4 : Int32) (i0_5 : Int32) (i0_6 : Int32) (i0_7 : Int32) (v0_0 : Nat → Int32) (v0_1 : Nat → Int32) (v0_2 : Nat → Int32) (x1 : Int32) (x2 : Int32) (res : Int32) (hf : f_X0_depthsShowing  v0_0 v0_1 x1 x2 = some res) : MI l D cs yX0_depthsShowing wsX0_depthsShowing rm_X0_depthsShowing [.ref a0, .int x1, .int x2] sz (W_X0_depthsShowing cs a0 p0 i0_3 i0_4 i0_5 i0_6 i0_7 v0_0 v0_1 v0_2) (W_X0_depthsShowing cs a0 p0 i0_3 i0_4 i0_5 i0_6 i0_7 v0_0 v0_1 v0_2) res := by
  rw [f_X0_depthsShowing] at hf
  refine ow_enter (cc := cX0_depthsShowing) (nL := 4) (ret := (some .int)) (by decide) rfl (Nat.le_of_ble_eq_true rfl) (fun p e s m below meth c ls H locs C0 hP hD hS hA hl => ?_)
  obtain ⟨hx, hb, hr, hlk, hml, hown, hts, hK, hG, hE⟩ := id C0
  have hl : lv_has ls 4 [(0, .ref a0), (1, .int x1), (2, .int x2)] := hl
  refine lv_iload_n hx hb dX0_depthsShowing_0 rfl (lv_at hl 2 rfl) ?_
  refine lv_if_ne (tgt := 17) hx hb dX0_depthsShowing_1 (by decide) (fun hc => ?_) (fun hc => ?_)
  · replace hf := ow_f hc hf
    refine lv_aload_n hx hb dX0_depthsShowing_17 rfl (lv_at hl 0 rfl) ?_
    refine lv_iload_n hx hb dX0_depthsShowing_18 rfl (lv_at hl 1 rfl) ?_
    refine lv_iload_n hx hb dX0_depthsShowing_19 rfl (lv_at hl 2 rfl) ?_
    obtain ⟨q20, hq, hf⟩ := bd_some hf
    refine ow_callVI (As := [.int x1, .int x2]) (rest := []) (wr := ow_pk (W_X0_depthsShowing cs a0 p0 i0_3 i0_4 i0_5 i0_6 i0_7 v0_0 v0_1 v0_2) []) (wf := (W_X0_depthsShowing cs a0 p0 i0_3 i0_4 i0_5 i0_6 i0_7 v0_0 v0_1 v0_2)) (r := q20) C0 (c_X2_outsideOf l D cs H.size a0 p0 i0_3 i0_4 i0_5 i0_6 i0_7 v0_0 v0_1 v0_2 x1 x2 q20 hq) (cwV 2 hts gX0_depthsShowing_X2_outsideOf rfl rfl rfl (by decide +kernel) ⟨Nat.le_of_ble_eq_true rfl, Nat.le_of_ble_eq_true rfl⟩) 2 rfl rfl hP hD hS (fun q h => Or.inr h) [0, 1, 2, 3] [] [0, 1, 2, 3] rfl (by decide) rfl (by decide) (by decide) rfl (by decide) rfl hl.1 rfl (Nat.le_of_ble_eq_true rfl) ⟨Nat.zero_le _, Nat.zero_le _⟩ dX0_depthsShowing_20 (fun H locs hP hD hS => ?_)
    refine lv_istore_n (lv' := [(3, .int q20), (0, .ref a0), (1, .int x1), (2, .int x2)]) hx hb dX0_depthsShowing_23 rfl hl (by decide) rfl (fun ls hl => ?_)
    refine lv_iload_n hx hb dX0_depthsShowing_24 rfl (lv_at hl 0 rfl) ?_
    refine lv_iconst (v := (-1)) hx hb dX0_depthsShowing_25 (by decide) ?_
    refine lv_icmp_ne (tgt := 33) hx hb dX0_depthsShowing_26 (by decide) (fun hc => ?_) (fun hc => ?_)
    · replace hf := ow_f hc hf
      refine lv_iconst (v := 1) hx hb dX0_depthsShowing_33 (by decide) ?_
      refine lv_iload_n hx hb dX0_depthsShowing_34 rfl (lv_at hl 0 rfl) ?_
      refine lv_ishl hx hb dX0_depthsShowing_35 ?_
      obtain rfl := Option.some.inj hf
      exact ow_retI C0 hP hD hS dX0_depthsShowing_36
    · replace hf := ow_t hc hf
      refine lv_iconst (v := 0) hx hb dX0_depthsShowing_29 (by decide) ?_
      refine lv_goto (tgt := 36) hx hb dX0_depthsShowing_30 (by decide) ?_
      obtain rfl := Option.some.inj hf
      exact ow_retI C0 hP hD hS dX0_depthsShowing_36
  · replace hf := ow_t hc hf
    refine lv_ldc (own := RX0) (v := 2147483647) hx hb hown (hts (.constant RX0 59 (2147483647)) (List.mem_of_getElem? (i := 1) rfl)) dX0_depthsShowing_4 ?_
    refine lv_iconst (v := 1) hx hb dX0_depthsShowing_6 (by decide) ?_
    refine lv_aload_n hx hb dX0_depthsShowing_7 rfl (lv_at hl 0 rfl) ?_
    refine va_get (D := D) (ci := 2) (v := .ref (p0 1)) (C := RX2) (T := TX2) (N := 8) hx hb hts in_X0_depthsShowing_X2 hown hK hP 0 rfl rfl 1 (by decide) (hts (.fieldLink RX0 64 "PaneDays$Glass" "depth" "[I") (List.mem_of_getElem? (i := 2) rfl)) (fun _ h9 => h9) rfl dX0_depthsShowing_8 ?_
    refine lv_iload_n hx hb dX0_depthsShowing_11 rfl (lv_at hl 1 rfl) ?_
    obtain ⟨hin, hf⟩ := ck_some hf
    refine va_iald (f := v0_1) hx hb hK hP 2 0 rfl rfl hin dX0_depthsShowing_12 ?_
    refine lv_ishl hx hb dX0_depthsShowing_13 ?_
    refine lv_ineg hx hb dX0_depthsShowing_14 ?_
    refine lv_iand hx hb dX0_depthsShowing_15 ?_
    obtain rfl := Option.some.inj hf
    exact ow_retI C0 hP hD hS dX0_depthsShowing_16
theorem in_X0_depths_X0 : ∀ w ∈ u_ws RX0 TX0 4, w ∈ wsX0_depths := fun w h => List.mem_cons_of_mem _ (List.mem_append_left _ (List.mem_append_right _ h))
abbrev W_X0_depths (cs : Nat → ClassId) (a0 : Nat) (p0 : Nat → Nat) (i0_0 : Int32) (i0_1 : Int32) (v0_2 : Nat → Int32) (v0_3 : Nat → Int32) (a1 : Nat) (p1 : Nat → Nat) (i1_3 : Int32) (i1_4 : Int32) (i1_5 : Int32) (i1_6 : Int32) (i1_7 : Int32) (v1_0 : Nat → Int32) (v1_1 : Nat → Int32) (v1_2 : Nat → Int32) : va_W := wX0 cs a0 p0 i0_0 i0_1 v0_2 v0_3 ++ wX2 cs a1 p1 i1_3 i1_4 i1_5 i1_6 i1_7 v1_0 v1_1 v1_2
abbrev rm_X0_depths : Room := { frames := 3, cells := 0, slots := 0, locals := 68 }
def f_X0_depths_b20  (i0_0 : Int32) (i0_1 : Int32) (v0_2 : Nat → Int32) (v0_3 : Nat → Int32) (v1_0 : Nat → Int32) (v1_1 : Nat → Int32)  : Nat → Int32 → Int32 → Int32 → Option (Int32)
  | 0, _, _, _ => none
  | n + 1, x2, x4, x5 => if i0_0 ≤ x5 then (some (x4)) else (ck x5 8 (ck x5 8 ((f_X0_depthsShowing v1_0 v1_1 ((16 * x2) + (v0_2 (x5).toNatClampNeg)) (v0_3 (x5).toNatClampNeg)).bind fun q51 => f_X0_depths_b20 i0_0 i0_1 v0_2 v0_3 v1_0 v1_1 n x2 (x4 &&& q51) (x5 + 1))))
set_option maxHeartbeats 4000000 in
set_option maxRecDepth 100000 in
theorem w_X0_depths_b20 {p : Program} {l : Launch} {e : Env} {s : State} {m : MethodId} {below : List Frame} {meth : Method} {c : Code} {D : va_G} {cs : Nat → ClassId} {av : Array Value} {w0 : va_W} (C0 : Cx p s m meth c av wsX0_depths cX0_depths 6 (some .int) RX0 D cs w0)  (a0 : Nat) (p0 : Nat → Nat) (i0_0 : Int32) (i0_1 : Int32) (v0_2 : Nat → Int32) (v0_3 : Nat → Int32) (a1 : Nat) (p1 : Nat → Nat) (i1_3 : Int32) (i1_4 : Int32) (i1_5 : Int32) (i1_6 : Int32) (i1_7 : Int32) (v1_0 : Nat → Int32) (v1_1 : Nat → Int32) (v1_2 : Nat → Int32) (res : Int32)  : ∀ (n : Nat) (x2 : Int32) (x4 : Int32) (x5 : Int32), f_X0_depths_b20 i0_0 i0_1 v0_2 v0_3 v1_0 v1_1 n x2 x4 x5 = some res → ∀ (H : Heap) (locs : List Loc) (ls : Array Slot), va_P D vwCl (W_X0_depths cs a0 p0 i0_0 i0_1 v0_2 v0_3 a1 p1 i1_3 i1_4 i1_5 i1_6 i1_7 v1_0 v1_1 v1_2) H → va_D (va_A w0 s.heap.size) (W_X0_depths cs a0 p0 i0_0 i0_1 v0_2 v0_3 a1 p1 i1_3 i1_4 i1_5 i1_6 i1_7 v1_0 v1_1 v1_2) → va_S (va_A w0 s.heap.size) s.heap H locs → lv_has ls 6 [(0, .ref a0), (1, .ref a1), (2, .int x2), (4, .int x4), (5, .int x5)] → W p l e rm_X0_depths s m av below meth c H locs 0 0 (MQ below (oI D cs w0 (W_X0_depths cs a0 p0 i0_0 i0_1 v0_2 v0_3 a1 p1 i1_3 i1_4 i1_5 i1_6 i1_7 v1_0 v1_1 v1_2) res s.heap.size) av s 0 0 (va_A w0 s.heap.size)) (F0 m 20 ls []) := by
  obtain ⟨hx, hb, hr, hlk, hml, hown, hts, hK, hG, hE⟩ := id C0
  intro n
  induction n with
  | zero =>
    intro x2 x4 x5 hf
    rw [f_X0_depths_b20] at hf
    cases hf
  | succ n ih =>
    intro x2 x4 x5 hf H locs ls hP hD hS hl
    rw [f_X0_depths_b20] at hf
    refine lv_iload hx hb dX0_depths_20 (lv_at hl 4 rfl) ?_
    refine lv_aload_n hx hb dX0_depths_22 rfl (lv_at hl 0 rfl) ?_
    refine va_get (D := D) (ci := 0) (v := .int i0_0) (C := RX0) (T := TX0) (N := 4) hx hb hts in_X0_depths_X0 hown hK hP 0 rfl rfl 0 (by decide) (hts (.fieldLink RX0 18 "PaneDays$Book" "lines" "I") (List.mem_of_getElem? (i := 3) rfl)) (fun _ h9 => h9) rfl dX0_depths_23 ?_
    refine lv_icmp_ge (tgt := 63) hx hb dX0_depths_26 (by decide) (fun hc => ?_) (fun hc => ?_)
    · replace hf := ow_t hc hf
      refine lv_iload hx hb dX0_depths_63 (lv_at hl 3 rfl) ?_
      obtain rfl := Option.some.inj hf
      exact ow_retI C0 hP hD hS dX0_depths_65
    · replace hf := ow_f hc hf
      refine lv_iload hx hb dX0_depths_29 (lv_at hl 3 rfl) ?_
      refine lv_aload_n hx hb dX0_depths_31 rfl (lv_at hl 1 rfl) ?_
      refine lv_bipush (v := 16) hx hb dX0_depths_32 (by decide) ?_
      refine lv_iload_n hx hb dX0_depths_34 rfl (lv_at hl 2 rfl) ?_
      refine lv_imul hx hb dX0_depths_35 ?_
      refine lv_aload_n hx hb dX0_depths_36 rfl (lv_at hl 0 rfl) ?_
      refine va_get (D := D) (ci := 0) (v := .ref (p0 2)) (C := RX0) (T := TX0) (N := 4) hx hb hts in_X0_depths_X0 hown hK hP 0 rfl rfl 2 (by decide) (hts (.fieldLink RX0 9 "PaneDays$Book" "cell" "[I") (List.mem_of_getElem? (i := 4) rfl)) (fun _ h9 => h9) rfl dX0_depths_37 ?_
      refine lv_iload hx hb dX0_depths_40 (lv_at hl 4 rfl) ?_
      obtain ⟨hin, hf⟩ := ck_some hf
      refine va_iald (f := v0_2) hx hb hK hP 1 0 rfl rfl hin dX0_depths_42 ?_
      refine lv_iadd hx hb dX0_depths_43 ?_
      refine lv_aload_n hx hb dX0_depths_44 rfl (lv_at hl 0 rfl) ?_
      refine va_get (D := D) (ci := 0) (v := .ref (p0 3)) (C := RX0) (T := TX0) (N := 4) hx hb hts in_X0_depths_X0 hown hK hP 0 rfl rfl 3 (by decide) (hts (.fieldLink RX0 15 "PaneDays$Book" "day" "[I") (List.mem_of_getElem? (i := 5) rfl)) (fun _ h9 => h9) rfl dX0_depths_45 ?_
      refine lv_iload hx hb dX0_depths_48 (lv_at hl 4 rfl) ?_
      obtain ⟨hin, hf⟩ := ck_some hf
      refine va_iald (f := v0_3) hx hb hK hP 2 0 rfl rfl hin dX0_depths_50 ?_
      obtain ⟨q51, hq, hf⟩ := bd_some hf
      refine ow_callSI (As := [.ref a1, .int ((16 * x2) + (v0_2 (x5).toNatClampNeg)), .int (v0_3 (x5).toNatClampNeg)]) (rest := [.int x4]) (wr := ow_pk (W_X0_depths cs a0 p0 i0_0 i0_1 v0_2 v0_3 a1 p1 i1_3 i1_4 i1_5 i1_6 i1_7 v1_0 v1_1 v1_2) [0, 1, 2]) (wf := (W_X0_depths cs a0 p0 i0_0 i0_1 v0_2 v0_3 a1 p1 i1_3 i1_4 i1_5 i1_6 i1_7 v1_0 v1_1 v1_2)) (r := q51) C0 (c_X0_depthsShowing l D cs H.size a1 p1 i1_3 i1_4 i1_5 i1_6 i1_7 v1_0 v1_1 v1_2 ((16 * x2) + (v0_2 (x5).toNatClampNeg)) (v0_3 (x5).toNatClampNeg) q51 hq) (va_cwS 3 hts gX0_depths_X0_depthsShowing rfl rfl rfl (by decide +kernel) ⟨Nat.le_of_ble_eq_true rfl, Nat.le_of_ble_eq_true rfl⟩) hP hD hS (fun q h => Or.inr h) [3, 4, 5, 6] [0, 1, 2] [0, 1, 2, 3, 4, 5, 6] rfl (by decide) rfl (by decide) (by decide) rfl (by decide) rfl hl.1 rfl (Nat.le_of_ble_eq_true rfl) ⟨Nat.zero_le _, Nat.zero_le _⟩ dX0_depths_51 (fun H locs hP hD hS => ?_)
      refine lv_iand hx hb dX0_depths_54 ?_
      refine lv_istore (lv' := [(4, .int (x4 &&& q51)), (0, .ref a0), (1, .ref a1), (2, .int x2), (5, .int x5)]) hx hb dX0_depths_55 hl (by decide) rfl (fun ls hl => ?_)
      refine lv_iinc (v := x5 + 1) (lv' := [(5, .int (x5 + 1)), (4, .int (x4 &&& q51)), (0, .ref a0), (1, .ref a1), (2, .int x2)]) hx hb dX0_depths_57 hl (k := 4) rfl (ow_inc (by decide)) (by decide) rfl (fun ls hl => ?_)
      refine lv_goto (tgt := 20) hx hb dX0_depths_60 (by decide) ?_
      exact ih x2 (x4 &&& q51) (x5 + 1) hf _ _ _ hP hD hS (lv_sub hl [2, 3, 4, 1, 0] rfl)
def f_X0_depths  (i0_0 : Int32) (i0_1 : Int32) (v0_2 : Nat → Int32) (v0_3 : Nat → Int32) (v1_0 : Nat → Int32) (v1_1 : Nat → Int32) (x2 : Int32) (x3 : Int32) : Option (Int32) := if (i0_1 &&& (x3 ^^^ ((-1)))) = 0 then (f_X0_depths_b20 i0_0 i0_1 v0_2 v0_3 v1_0 v1_1 4000 x2 (2147483647) (0)) else (some (0))
set_option maxHeartbeats 4000000 in
set_option maxRecDepth 100000 in
theorem c_X0_depths (l : Launch) (D : va_G) (cs : Nat → ClassId)  (sz : Nat) (a0 : Nat) (p0 : Nat → Nat) (i0_0 : Int32) (i0_1 : Int32) (v0_2 : Nat → Int32) (v0_3 : Nat → Int32) (a1 : Nat) (p1 : Nat → Nat) (i1_3 : Int32) (i1_4 : Int32) (i1_5 : Int32) (i1_6 : Int32) (i1_7 : Int32) (v1_0 : Nat → Int32) (v1_1 : Nat → Int32) (v1_2 : Nat → Int32) (x2 : Int32) (x3 : Int32) (res : Int32) (hf : f_X0_depths  i0_0 i0_1 v0_2 v0_3 v1_0 v1_1 x2 x3 = some res) : MI l D cs yX0_depths wsX0_depths rm_X0_depths [.ref a0, .ref a1, .int x2, .int x3] sz (W_X0_depths cs a0 p0 i0_0 i0_1 v0_2 v0_3 a1 p1 i1_3 i1_4 i1_5 i1_6 i1_7 v1_0 v1_1 v1_2) (W_X0_depths cs a0 p0 i0_0 i0_1 v0_2 v0_3 a1 p1 i1_3 i1_4 i1_5 i1_6 i1_7 v1_0 v1_1 v1_2) res := by
  rw [f_X0_depths] at hf
  refine ow_enter (cc := cX0_depths) (nL := 6) (ret := (some .int)) (by decide) rfl (Nat.le_of_ble_eq_true rfl) (fun p e s m below meth c ls H locs C0 hP hD hS hA hl => ?_)
  obtain ⟨hx, hb, hr, hlk, hml, hown, hts, hK, hG, hE⟩ := id C0
  have hl : lv_has ls 6 [(0, .ref a0), (1, .ref a1), (2, .int x2), (3, .int x3)] := hl
  refine lv_aload_n hx hb dX0_depths_0 rfl (lv_at hl 0 rfl) ?_
  refine va_get (D := D) (ci := 0) (v := .int i0_1) (C := RX0) (T := TX0) (N := 4) hx hb hts in_X0_depths_X0 hown hK hP 0 rfl rfl 1 (by decide) (hts (.fieldLink RX0 22 "PaneDays$Book" "cells" "I") (List.mem_of_getElem? (i := 1) rfl)) (fun _ h9 => h9) rfl dX0_depths_1 ?_
  refine lv_iload_n hx hb dX0_depths_4 rfl (lv_at hl 3 rfl) ?_
  refine lv_iconst (v := (-1)) hx hb dX0_depths_5 (by decide) ?_
  refine lv_ixor hx hb dX0_depths_6 ?_
  refine lv_iand hx hb dX0_depths_7 ?_
  refine lv_if_eq (tgt := 13) hx hb dX0_depths_8 (by decide) (fun hc => ?_) (fun hc => ?_)
  · replace hf := ow_t hc hf
    refine lv_ldc (own := RX0) (v := 2147483647) hx hb hown (hts (.constant RX0 59 (2147483647)) (List.mem_of_getElem? (i := 2) rfl)) dX0_depths_13 ?_
    refine lv_istore (lv' := [(4, .int 2147483647), (0, .ref a0), (1, .ref a1), (2, .int x2), (3, .int x3)]) hx hb dX0_depths_15 hl (by decide) rfl (fun ls hl => ?_)
    refine lv_iconst (v := 0) hx hb dX0_depths_17 (by decide) ?_
    refine lv_istore (lv' := [(5, .int 0), (4, .int 2147483647), (0, .ref a0), (1, .ref a1), (2, .int x2), (3, .int x3)]) hx hb dX0_depths_18 hl (by decide) rfl (fun ls hl => ?_)
    exact w_X0_depths_b20 C0 a0 p0 i0_0 i0_1 v0_2 v0_3 a1 p1 i1_3 i1_4 i1_5 i1_6 i1_7 v1_0 v1_1 v1_2 res 4000 x2 (2147483647) (0) hf _ _ _ hP hD hS (lv_sub hl [2, 3, 4, 1, 0] rfl)
  · replace hf := ow_f hc hf
    refine lv_iconst (v := 0) hx hb dX0_depths_11 (by decide) ?_
    obtain rfl := Option.some.inj hf
    exact ow_retI C0 hP hD hS dX0_depths_12
theorem in_X0_nextLook_X0 : ∀ w ∈ u_ws RX0 TX0 4, w ∈ wsX0_nextLook := fun w h => List.mem_cons_of_mem _ (List.mem_append_left _ (List.mem_append_right _ h))
theorem in_X0_nextLook_X2 : ∀ w ∈ u_ws RX2 TX2 8, w ∈ wsX0_nextLook := fun w h => List.mem_cons_of_mem _ (List.mem_append_right _ h)
abbrev W_X0_nextLook (cs : Nat → ClassId) (a0 : Nat) (p0 : Nat → Nat) (i0_0 : Int32) (i0_1 : Int32) (v0_2 : Nat → Int32) (v0_3 : Nat → Int32) (a1 : Nat) (p1 : Nat → Nat) (i1_3 : Int32) (i1_4 : Int32) (i1_5 : Int32) (i1_6 : Int32) (i1_7 : Int32) (v1_0 : Nat → Int32) (v1_1 : Nat → Int32) (v1_2 : Nat → Int32) : va_W := wX0 cs a0 p0 i0_0 i0_1 v0_2 v0_3 ++ wX2 cs a1 p1 i1_3 i1_4 i1_5 i1_6 i1_7 v1_0 v1_1 v1_2
abbrev rm_X0_nextLook : Room := { frames := 4, cells := 0, slots := 0, locals := 93 }
def f_X0_nextLook_b86  (i0_0 : Int32) (i0_1 : Int32) (v0_2 : Nat → Int32) (v0_3 : Nat → Int32) (v1_0 : Nat → Int32) (v1_1 : Nat → Int32) (k28 : Int32 → Int32 → Int32 → Int32 → Int32 → Int32 → Int32 → Option (Int32))  (x2 : Int32) (x4 : Int32) (x5 : Int32) (x6 : Int32) (x7 : Int32) (x8 : Int32) (x9 : Int32) : Option (Int32) := k28 x2 x4 x5 x6 x7 x8 (x9 + 1)
set_option maxHeartbeats 4000000 in
set_option maxRecDepth 100000 in
theorem w_X0_nextLook_b86 {p : Program} {l : Launch} {e : Env} {s : State} {m : MethodId} {below : List Frame} {meth : Method} {c : Code} {D : va_G} {cs : Nat → ClassId} {av : Array Value} {w0 : va_W} (C0 : Cx p s m meth c av wsX0_nextLook cX0_nextLook 11 (some .int) RX0 D cs w0)  (a0 : Nat) (p0 : Nat → Nat) (i0_0 : Int32) (i0_1 : Int32) (v0_2 : Nat → Int32) (v0_3 : Nat → Int32) (a1 : Nat) (p1 : Nat → Nat) (i1_3 : Int32) (i1_4 : Int32) (i1_5 : Int32) (i1_6 : Int32) (i1_7 : Int32) (v1_0 : Nat → Int32) (v1_1 : Nat → Int32) (v1_2 : Nat → Int32) (res : Int32) (k28 : Int32 → Int32 → Int32 → Int32 → Int32 → Int32 → Int32 → Option (Int32)) (hk28 : ∀ (x2 : Int32) (x4 : Int32) (x5 : Int32) (x6 : Int32) (x7 : Int32) (x8 : Int32) (x9 : Int32), k28 x2 x4 x5 x6 x7 x8 x9 = some res → ∀ (H : Heap) (locs : List Loc) (ls : Array Slot), va_P D vwCl (W_X0_nextLook cs a0 p0 i0_0 i0_1 v0_2 v0_3 a1 p1 i1_3 i1_4 i1_5 i1_6 i1_7 v1_0 v1_1 v1_2) H → va_D (va_A w0 s.heap.size) (W_X0_nextLook cs a0 p0 i0_0 i0_1 v0_2 v0_3 a1 p1 i1_3 i1_4 i1_5 i1_6 i1_7 v1_0 v1_1 v1_2) → va_S (va_A w0 s.heap.size) s.heap H locs → lv_has ls 11 [(1, .ref a1), (2, .int x2), (4, .int x4), (5, .int x5), (6, .int x6), (7, .int x7), (8, .int x8), (9, .int x9)] → W p l e rm_X0_nextLook s m av below meth c H locs 0 0 (MQ below (oI D cs w0 (W_X0_nextLook cs a0 p0 i0_0 i0_1 v0_2 v0_3 a1 p1 i1_3 i1_4 i1_5 i1_6 i1_7 v1_0 v1_1 v1_2) res s.heap.size) av s 0 0 (va_A w0 s.heap.size)) (F0 m 28 ls [])) : ∀ (x2 : Int32) (x4 : Int32) (x5 : Int32) (x6 : Int32) (x7 : Int32) (x8 : Int32) (x9 : Int32), f_X0_nextLook_b86 i0_0 i0_1 v0_2 v0_3 v1_0 v1_1 k28 x2 x4 x5 x6 x7 x8 x9 = some res → ∀ (H : Heap) (locs : List Loc) (ls : Array Slot), va_P D vwCl (W_X0_nextLook cs a0 p0 i0_0 i0_1 v0_2 v0_3 a1 p1 i1_3 i1_4 i1_5 i1_6 i1_7 v1_0 v1_1 v1_2) H → va_D (va_A w0 s.heap.size) (W_X0_nextLook cs a0 p0 i0_0 i0_1 v0_2 v0_3 a1 p1 i1_3 i1_4 i1_5 i1_6 i1_7 v1_0 v1_1 v1_2) → va_S (va_A w0 s.heap.size) s.heap H locs → lv_has ls 11 [(1, .ref a1), (2, .int x2), (4, .int x4), (5, .int x5), (6, .int x6), (7, .int x7), (8, .int x8), (9, .int x9)] → W p l e rm_X0_nextLook s m av below meth c H locs 0 0 (MQ below (oI D cs w0 (W_X0_nextLook cs a0 p0 i0_0 i0_1 v0_2 v0_3 a1 p1 i1_3 i1_4 i1_5 i1_6 i1_7 v1_0 v1_1 v1_2) res s.heap.size) av s 0 0 (va_A w0 s.heap.size)) (F0 m 86 ls []) := by
  obtain ⟨hx, hb, hr, hlk, hml, hown, hts, hK, hG, hE⟩ := id C0
  intro x2 x4 x5 x6 x7 x8 x9 hf H locs ls hP hD hS hl
  rw [f_X0_nextLook_b86] at hf
  refine lv_iinc (v := x9 + 1) (lv' := [(9, .int (x9 + 1)), (1, .ref a1), (2, .int x2), (4, .int x4), (5, .int x5), (6, .int x6), (7, .int x7), (8, .int x8)]) hx hb dX0_nextLook_86 hl (k := 7) rfl (ow_inc (by decide)) (by decide) rfl (fun ls hl => ?_)
  refine lv_goto (tgt := 28) hx hb dX0_nextLook_89 (by decide) ?_
  exact hk28 x2 x4 x5 x6 x7 x8 (x9 + 1) hf _ _ _ hP hD hS (lv_sub hl [1, 2, 3, 4, 5, 6, 7, 0] rfl)
def f_X0_nextLook_b78  (i0_0 : Int32) (i0_1 : Int32) (v0_2 : Nat → Int32) (v0_3 : Nat → Int32) (v1_0 : Nat → Int32) (v1_1 : Nat → Int32) (k28 : Int32 → Int32 → Int32 → Int32 → Int32 → Int32 → Int32 → Option (Int32))  (x2 : Int32) (x4 : Int32) (x5 : Int32) (x6 : Int32) (x9 : Int32) (x10 : Int32) : Option (Int32) := f_X0_nextLook_b86 i0_0 i0_1 v0_2 v0_3 v1_0 v1_1 k28 x2 x4 x5 x6 x9 x10 x9
set_option maxHeartbeats 4000000 in
set_option maxRecDepth 100000 in
theorem w_X0_nextLook_b78 {p : Program} {l : Launch} {e : Env} {s : State} {m : MethodId} {below : List Frame} {meth : Method} {c : Code} {D : va_G} {cs : Nat → ClassId} {av : Array Value} {w0 : va_W} (C0 : Cx p s m meth c av wsX0_nextLook cX0_nextLook 11 (some .int) RX0 D cs w0)  (a0 : Nat) (p0 : Nat → Nat) (i0_0 : Int32) (i0_1 : Int32) (v0_2 : Nat → Int32) (v0_3 : Nat → Int32) (a1 : Nat) (p1 : Nat → Nat) (i1_3 : Int32) (i1_4 : Int32) (i1_5 : Int32) (i1_6 : Int32) (i1_7 : Int32) (v1_0 : Nat → Int32) (v1_1 : Nat → Int32) (v1_2 : Nat → Int32) (res : Int32) (k28 : Int32 → Int32 → Int32 → Int32 → Int32 → Int32 → Int32 → Option (Int32)) (hk28 : ∀ (x2 : Int32) (x4 : Int32) (x5 : Int32) (x6 : Int32) (x7 : Int32) (x8 : Int32) (x9 : Int32), k28 x2 x4 x5 x6 x7 x8 x9 = some res → ∀ (H : Heap) (locs : List Loc) (ls : Array Slot), va_P D vwCl (W_X0_nextLook cs a0 p0 i0_0 i0_1 v0_2 v0_3 a1 p1 i1_3 i1_4 i1_5 i1_6 i1_7 v1_0 v1_1 v1_2) H → va_D (va_A w0 s.heap.size) (W_X0_nextLook cs a0 p0 i0_0 i0_1 v0_2 v0_3 a1 p1 i1_3 i1_4 i1_5 i1_6 i1_7 v1_0 v1_1 v1_2) → va_S (va_A w0 s.heap.size) s.heap H locs → lv_has ls 11 [(1, .ref a1), (2, .int x2), (4, .int x4), (5, .int x5), (6, .int x6), (7, .int x7), (8, .int x8), (9, .int x9)] → W p l e rm_X0_nextLook s m av below meth c H locs 0 0 (MQ below (oI D cs w0 (W_X0_nextLook cs a0 p0 i0_0 i0_1 v0_2 v0_3 a1 p1 i1_3 i1_4 i1_5 i1_6 i1_7 v1_0 v1_1 v1_2) res s.heap.size) av s 0 0 (va_A w0 s.heap.size)) (F0 m 28 ls [])) : ∀ (x2 : Int32) (x4 : Int32) (x5 : Int32) (x6 : Int32) (x9 : Int32) (x10 : Int32), f_X0_nextLook_b78 i0_0 i0_1 v0_2 v0_3 v1_0 v1_1 k28 x2 x4 x5 x6 x9 x10 = some res → ∀ (H : Heap) (locs : List Loc) (ls : Array Slot), va_P D vwCl (W_X0_nextLook cs a0 p0 i0_0 i0_1 v0_2 v0_3 a1 p1 i1_3 i1_4 i1_5 i1_6 i1_7 v1_0 v1_1 v1_2) H → va_D (va_A w0 s.heap.size) (W_X0_nextLook cs a0 p0 i0_0 i0_1 v0_2 v0_3 a1 p1 i1_3 i1_4 i1_5 i1_6 i1_7 v1_0 v1_1 v1_2) → va_S (va_A w0 s.heap.size) s.heap H locs → lv_has ls 11 [(1, .ref a1), (2, .int x2), (4, .int x4), (5, .int x5), (6, .int x6), (9, .int x9), (10, .int x10)] → W p l e rm_X0_nextLook s m av below meth c H locs 0 0 (MQ below (oI D cs w0 (W_X0_nextLook cs a0 p0 i0_0 i0_1 v0_2 v0_3 a1 p1 i1_3 i1_4 i1_5 i1_6 i1_7 v1_0 v1_1 v1_2) res s.heap.size) av s 0 0 (va_A w0 s.heap.size)) (F0 m 78 ls []) := by
  obtain ⟨hx, hb, hr, hlk, hml, hown, hts, hK, hG, hE⟩ := id C0
  intro x2 x4 x5 x6 x9 x10 hf H locs ls hP hD hS hl
  rw [f_X0_nextLook_b78] at hf
  refine lv_iload hx hb dX0_nextLook_78 (lv_at hl 5 rfl) ?_
  refine lv_istore (lv' := [(7, .int x9), (1, .ref a1), (2, .int x2), (4, .int x4), (5, .int x5), (6, .int x6), (9, .int x9), (10, .int x10)]) hx hb dX0_nextLook_80 hl (by decide) rfl (fun ls hl => ?_)
  refine lv_iload hx hb dX0_nextLook_82 (lv_at hl 7 rfl) ?_
  refine lv_istore (lv' := [(8, .int x10), (7, .int x9), (1, .ref a1), (2, .int x2), (4, .int x4), (5, .int x5), (6, .int x6), (9, .int x9), (10, .int x10)]) hx hb dX0_nextLook_84 hl (by decide) rfl (fun ls hl => ?_)
  exact w_X0_nextLook_b86 C0 a0 p0 i0_0 i0_1 v0_2 v0_3 a1 p1 i1_3 i1_4 i1_5 i1_6 i1_7 v1_0 v1_1 v1_2 res k28 hk28 x2 x4 x5 x6 x9 x10 x9 hf _ _ _ hP hD hS (lv_sub hl [2, 3, 4, 5, 6, 1, 0, 7] rfl)
def f_X0_nextLook_b28  (i0_0 : Int32) (i0_1 : Int32) (v0_2 : Nat → Int32) (v0_3 : Nat → Int32) (v1_0 : Nat → Int32) (v1_1 : Nat → Int32)  : Nat → Int32 → Int32 → Int32 → Int32 → Int32 → Int32 → Int32 → Option (Int32)
  | 0, _, _, _, _, _, _, _ => none
  | n + 1, x2, x4, x5, x6, x7, x8, x9 => if 16 ≤ x9 then (if x4 = 0 then (some (x7)) else (some (x8))) else (if ((x6 >>> (x9 &&& 31)) &&& 1) = 1 then (ck ((16 * x2) + x9) 80 ((f_X0_leftAtWorst x5 (v1_1 ((16 * x2) + x9).toNatClampNeg)).bind fun q60 => if x7 = ((-1)) then (f_X0_nextLook_b78 i0_0 i0_1 v0_2 v0_3 v1_0 v1_1 (f_X0_nextLook_b28 i0_0 i0_1 v0_2 v0_3 v1_0 v1_1 n) x2 x4 x5 x6 x9 q60) else (if x8 ≤ q60 then (f_X0_nextLook_b86 i0_0 i0_1 v0_2 v0_3 v1_0 v1_1 (f_X0_nextLook_b28 i0_0 i0_1 v0_2 v0_3 v1_0 v1_1 n) x2 x4 x5 x6 x7 x8 x9) else (f_X0_nextLook_b78 i0_0 i0_1 v0_2 v0_3 v1_0 v1_1 (f_X0_nextLook_b28 i0_0 i0_1 v0_2 v0_3 v1_0 v1_1 n) x2 x4 x5 x6 x9 q60)))) else (f_X0_nextLook_b86 i0_0 i0_1 v0_2 v0_3 v1_0 v1_1 (f_X0_nextLook_b28 i0_0 i0_1 v0_2 v0_3 v1_0 v1_1 n) x2 x4 x5 x6 x7 x8 x9))
set_option maxHeartbeats 4000000 in
set_option maxRecDepth 100000 in
theorem w_X0_nextLook_b28 {p : Program} {l : Launch} {e : Env} {s : State} {m : MethodId} {below : List Frame} {meth : Method} {c : Code} {D : va_G} {cs : Nat → ClassId} {av : Array Value} {w0 : va_W} (C0 : Cx p s m meth c av wsX0_nextLook cX0_nextLook 11 (some .int) RX0 D cs w0)  (a0 : Nat) (p0 : Nat → Nat) (i0_0 : Int32) (i0_1 : Int32) (v0_2 : Nat → Int32) (v0_3 : Nat → Int32) (a1 : Nat) (p1 : Nat → Nat) (i1_3 : Int32) (i1_4 : Int32) (i1_5 : Int32) (i1_6 : Int32) (i1_7 : Int32) (v1_0 : Nat → Int32) (v1_1 : Nat → Int32) (v1_2 : Nat → Int32) (res : Int32)  : ∀ (n : Nat) (x2 : Int32) (x4 : Int32) (x5 : Int32) (x6 : Int32) (x7 : Int32) (x8 : Int32) (x9 : Int32), f_X0_nextLook_b28 i0_0 i0_1 v0_2 v0_3 v1_0 v1_1 n x2 x4 x5 x6 x7 x8 x9 = some res → ∀ (H : Heap) (locs : List Loc) (ls : Array Slot), va_P D vwCl (W_X0_nextLook cs a0 p0 i0_0 i0_1 v0_2 v0_3 a1 p1 i1_3 i1_4 i1_5 i1_6 i1_7 v1_0 v1_1 v1_2) H → va_D (va_A w0 s.heap.size) (W_X0_nextLook cs a0 p0 i0_0 i0_1 v0_2 v0_3 a1 p1 i1_3 i1_4 i1_5 i1_6 i1_7 v1_0 v1_1 v1_2) → va_S (va_A w0 s.heap.size) s.heap H locs → lv_has ls 11 [(1, .ref a1), (2, .int x2), (4, .int x4), (5, .int x5), (6, .int x6), (7, .int x7), (8, .int x8), (9, .int x9)] → W p l e rm_X0_nextLook s m av below meth c H locs 0 0 (MQ below (oI D cs w0 (W_X0_nextLook cs a0 p0 i0_0 i0_1 v0_2 v0_3 a1 p1 i1_3 i1_4 i1_5 i1_6 i1_7 v1_0 v1_1 v1_2) res s.heap.size) av s 0 0 (va_A w0 s.heap.size)) (F0 m 28 ls []) := by
  obtain ⟨hx, hb, hr, hlk, hml, hown, hts, hK, hG, hE⟩ := id C0
  intro n
  induction n with
  | zero =>
    intro x2 x4 x5 x6 x7 x8 x9 hf
    rw [f_X0_nextLook_b28] at hf
    cases hf
  | succ n ih =>
    intro x2 x4 x5 x6 x7 x8 x9 hf H locs ls hP hD hS hl
    rw [f_X0_nextLook_b28] at hf
    refine lv_iload hx hb dX0_nextLook_28 (lv_at hl 7 rfl) ?_
    refine lv_bipush (v := 16) hx hb dX0_nextLook_30 (by decide) ?_
    refine lv_icmp_ge (tgt := 92) hx hb dX0_nextLook_32 (by decide) (fun hc => ?_) (fun hc => ?_)
    · replace hf := ow_t hc hf
      refine lv_iload hx hb dX0_nextLook_92 (lv_at hl 2 rfl) ?_
      refine lv_if_eq (tgt := 102) hx hb dX0_nextLook_94 (by decide) (fun hc => ?_) (fun hc => ?_)
      · replace hf := ow_t hc hf
        refine lv_iload hx hb dX0_nextLook_102 (lv_at hl 5 rfl) ?_
        obtain rfl := Option.some.inj hf
        exact ow_retI C0 hP hD hS dX0_nextLook_104
      · replace hf := ow_f hc hf
        refine lv_iload hx hb dX0_nextLook_97 (lv_at hl 6 rfl) ?_
        refine lv_goto (tgt := 104) hx hb dX0_nextLook_99 (by decide) ?_
        obtain rfl := Option.some.inj hf
        exact ow_retI C0 hP hD hS dX0_nextLook_104
    · replace hf := ow_f hc hf
      refine lv_iload hx hb dX0_nextLook_35 (lv_at hl 4 rfl) ?_
      refine lv_iload hx hb dX0_nextLook_37 (lv_at hl 7 rfl) ?_
      refine lv_ishr hx hb dX0_nextLook_39 ?_
      refine lv_iconst (v := 1) hx hb dX0_nextLook_40 (by decide) ?_
      refine lv_iand hx hb dX0_nextLook_41 ?_
      refine lv_iconst (v := 1) hx hb dX0_nextLook_42 (by decide) ?_
      refine lv_icmp_ne (tgt := 86) hx hb dX0_nextLook_43 (by decide) (fun hc => ?_) (fun hc => ?_)
      · replace hf := ow_f hc hf
        exact w_X0_nextLook_b86 C0 a0 p0 i0_0 i0_1 v0_2 v0_3 a1 p1 i1_3 i1_4 i1_5 i1_6 i1_7 v1_0 v1_1 v1_2 res (f_X0_nextLook_b28 i0_0 i0_1 v0_2 v0_3 v1_0 v1_1 n) ih x2 x4 x5 x6 x7 x8 x9 hf _ _ _ hP hD hS (lv_sub hl [0, 1, 2, 3, 4, 5, 6, 7] rfl)
      · replace hf := ow_t hc hf
        refine lv_iload hx hb dX0_nextLook_46 (lv_at hl 3 rfl) ?_
        refine lv_aload_n hx hb dX0_nextLook_48 rfl (lv_at hl 0 rfl) ?_
        refine va_get (D := D) (ci := 2) (v := .ref (p1 1)) (C := RX2) (T := TX2) (N := 8) hx hb hts in_X0_nextLook_X2 hown hK hP 3 rfl rfl 1 (by decide) (hts (.fieldLink RX0 64 "PaneDays$Glass" "depth" "[I") (List.mem_of_getElem? (i := 2) rfl)) (fun _ h9 => h9) rfl dX0_nextLook_49 ?_
        refine lv_bipush (v := 16) hx hb dX0_nextLook_52 (by decide) ?_
        refine lv_iload_n hx hb dX0_nextLook_54 rfl (lv_at hl 1 rfl) ?_
        refine lv_imul hx hb dX0_nextLook_55 ?_
        refine lv_iload hx hb dX0_nextLook_56 (lv_at hl 7 rfl) ?_
        refine lv_iadd hx hb dX0_nextLook_58 ?_
        obtain ⟨hin, hf⟩ := ck_some hf
        refine va_iald (f := v1_1) hx hb hK hP 5 0 rfl rfl hin dX0_nextLook_59 ?_
        obtain ⟨q60, hq, hf⟩ := bd_some hf
        refine ow_callSI (As := [.int x5, .int (v1_1 ((16 * x2) + x9).toNatClampNeg)]) (rest := []) (wr := ow_pk (W_X0_nextLook cs a0 p0 i0_0 i0_1 v0_2 v0_3 a1 p1 i1_3 i1_4 i1_5 i1_6 i1_7 v1_0 v1_1 v1_2) [0, 1, 2, 3, 4, 5, 6]) (wf := (W_X0_nextLook cs a0 p0 i0_0 i0_1 v0_2 v0_3 a1 p1 i1_3 i1_4 i1_5 i1_6 i1_7 v1_0 v1_1 v1_2)) (r := q60) C0 (c_X0_leftAtWorst l D cs H.size  x5 (v1_1 ((16 * x2) + x9).toNatClampNeg) q60 hq) (va_cwS 2 hts gX0_nextLook_X0_leftAtWorst rfl rfl rfl (by decide +kernel) ⟨Nat.le_of_ble_eq_true rfl, Nat.le_of_ble_eq_true rfl⟩) hP hD hS (fun q h => Or.inr h) [] [0, 1, 2, 3, 4, 5, 6] [0, 1, 2, 3, 4, 5, 6] rfl (by decide) rfl (by decide) (by decide) rfl (by decide) rfl hl.1 rfl (Nat.le_of_ble_eq_true rfl) ⟨Nat.zero_le _, Nat.zero_le _⟩ dX0_nextLook_60 (fun H locs hP hD hS => ?_)
        refine lv_istore (lv' := [(10, .int q60), (1, .ref a1), (2, .int x2), (4, .int x4), (5, .int x5), (6, .int x6), (7, .int x7), (8, .int x8), (9, .int x9)]) hx hb dX0_nextLook_63 hl (by decide) rfl (fun ls hl => ?_)
        refine lv_iload hx hb dX0_nextLook_65 (lv_at hl 6 rfl) ?_
        refine lv_iconst (v := (-1)) hx hb dX0_nextLook_67 (by decide) ?_
        refine lv_icmp_eq (tgt := 78) hx hb dX0_nextLook_68 (by decide) (fun hc => ?_) (fun hc => ?_)
        · replace hf := ow_t hc hf
          exact w_X0_nextLook_b78 C0 a0 p0 i0_0 i0_1 v0_2 v0_3 a1 p1 i1_3 i1_4 i1_5 i1_6 i1_7 v1_0 v1_1 v1_2 res (f_X0_nextLook_b28 i0_0 i0_1 v0_2 v0_3 v1_0 v1_1 n) ih x2 x4 x5 x6 x9 q60 hf _ _ _ hP hD hS (lv_sub hl [1, 2, 3, 4, 5, 8, 0] rfl)
        · replace hf := ow_f hc hf
          refine lv_iload hx hb dX0_nextLook_71 (lv_at hl 0 rfl) ?_
          refine lv_iload hx hb dX0_nextLook_73 (lv_at hl 7 rfl) ?_
          refine lv_icmp_ge (tgt := 86) hx hb dX0_nextLook_75 (by decide) (fun hc => ?_) (fun hc => ?_)
          · replace hf := ow_t hc hf
            exact w_X0_nextLook_b86 C0 a0 p0 i0_0 i0_1 v0_2 v0_3 a1 p1 i1_3 i1_4 i1_5 i1_6 i1_7 v1_0 v1_1 v1_2 res (f_X0_nextLook_b28 i0_0 i0_1 v0_2 v0_3 v1_0 v1_1 n) ih x2 x4 x5 x6 x7 x8 x9 hf _ _ _ hP hD hS (lv_sub hl [1, 2, 3, 4, 5, 6, 7, 8] rfl)
          · replace hf := ow_f hc hf
            exact w_X0_nextLook_b78 C0 a0 p0 i0_0 i0_1 v0_2 v0_3 a1 p1 i1_3 i1_4 i1_5 i1_6 i1_7 v1_0 v1_1 v1_2 res (f_X0_nextLook_b28 i0_0 i0_1 v0_2 v0_3 v1_0 v1_1 n) ih x2 x4 x5 x6 x9 q60 hf _ _ _ hP hD hS (lv_sub hl [1, 2, 3, 4, 5, 8, 0] rfl)
def f_X0_nextLook  (i0_0 : Int32) (i0_1 : Int32) (v0_2 : Nat → Int32) (v0_3 : Nat → Int32) (v1_0 : Nat → Int32) (v1_1 : Nat → Int32) (x2 : Int32) (x3 : Int32) (x4 : Int32) : Option (Int32) := (f_X0_depths i0_0 i0_1 v0_2 v0_3 v1_0 v1_1 x2 x3).bind fun q4 => f_X0_nextLook_b28 i0_0 i0_1 v0_2 v0_3 v1_0 v1_1 4000 x2 x4 q4 (x3 &&& (i0_1 ^^^ ((-1)))) ((-1)) ((-1)) (0)
set_option maxHeartbeats 4000000 in
set_option maxRecDepth 100000 in
theorem c_X0_nextLook (l : Launch) (D : va_G) (cs : Nat → ClassId)  (sz : Nat) (a0 : Nat) (p0 : Nat → Nat) (i0_0 : Int32) (i0_1 : Int32) (v0_2 : Nat → Int32) (v0_3 : Nat → Int32) (a1 : Nat) (p1 : Nat → Nat) (i1_3 : Int32) (i1_4 : Int32) (i1_5 : Int32) (i1_6 : Int32) (i1_7 : Int32) (v1_0 : Nat → Int32) (v1_1 : Nat → Int32) (v1_2 : Nat → Int32) (x2 : Int32) (x3 : Int32) (x4 : Int32) (res : Int32) (hf : f_X0_nextLook  i0_0 i0_1 v0_2 v0_3 v1_0 v1_1 x2 x3 x4 = some res) : MI l D cs yX0_nextLook wsX0_nextLook rm_X0_nextLook [.ref a0, .ref a1, .int x2, .int x3, .int x4] sz (W_X0_nextLook cs a0 p0 i0_0 i0_1 v0_2 v0_3 a1 p1 i1_3 i1_4 i1_5 i1_6 i1_7 v1_0 v1_1 v1_2) (W_X0_nextLook cs a0 p0 i0_0 i0_1 v0_2 v0_3 a1 p1 i1_3 i1_4 i1_5 i1_6 i1_7 v1_0 v1_1 v1_2) res := by
  rw [f_X0_nextLook] at hf
  refine ow_enter (cc := cX0_nextLook) (nL := 11) (ret := (some .int)) (by decide) rfl (Nat.le_of_ble_eq_true rfl) (fun p e s m below meth c ls H locs C0 hP hD hS hA hl => ?_)
  obtain ⟨hx, hb, hr, hlk, hml, hown, hts, hK, hG, hE⟩ := id C0
  have hl : lv_has ls 11 [(0, .ref a0), (1, .ref a1), (2, .int x2), (3, .int x3), (4, .int x4)] := hl
  refine lv_aload_n hx hb dX0_nextLook_0 rfl (lv_at hl 0 rfl) ?_
  refine lv_aload_n hx hb dX0_nextLook_1 rfl (lv_at hl 1 rfl) ?_
  refine lv_iload_n hx hb dX0_nextLook_2 rfl (lv_at hl 2 rfl) ?_
  refine lv_iload_n hx hb dX0_nextLook_3 rfl (lv_at hl 3 rfl) ?_
  obtain ⟨q4, hq, hf⟩ := bd_some hf
  refine ow_callVI (As := [.ref a1, .int x2, .int x3]) (rest := []) (wr := ow_pk (W_X0_nextLook cs a0 p0 i0_0 i0_1 v0_2 v0_3 a1 p1 i1_3 i1_4 i1_5 i1_6 i1_7 v1_0 v1_1 v1_2) []) (wf := (W_X0_nextLook cs a0 p0 i0_0 i0_1 v0_2 v0_3 a1 p1 i1_3 i1_4 i1_5 i1_6 i1_7 v1_0 v1_1 v1_2)) (r := q4) C0 (c_X0_depths l D cs H.size a0 p0 i0_0 i0_1 v0_2 v0_3 a1 p1 i1_3 i1_4 i1_5 i1_6 i1_7 v1_0 v1_1 v1_2 x2 x3 q4 hq) (cwV 3 hts gX0_nextLook_X0_depths rfl rfl rfl (by decide +kernel) ⟨Nat.le_of_ble_eq_true rfl, Nat.le_of_ble_eq_true rfl⟩) 0 rfl rfl hP hD hS (fun q h => Or.inr h) [0, 1, 2, 3, 4, 5, 6] [] [0, 1, 2, 3, 4, 5, 6] rfl (by decide) rfl (by decide) (by decide) rfl (by decide) rfl hl.1 rfl (Nat.le_of_ble_eq_true rfl) ⟨Nat.zero_le _, Nat.zero_le _⟩ dX0_nextLook_4 (fun H locs hP hD hS => ?_)
  refine lv_istore (lv' := [(5, .int q4), (0, .ref a0), (1, .ref a1), (2, .int x2), (3, .int x3), (4, .int x4)]) hx hb dX0_nextLook_7 hl (by decide) rfl (fun ls hl => ?_)
  refine lv_iload_n hx hb dX0_nextLook_9 rfl (lv_at hl 4 rfl) ?_
  refine lv_aload_n hx hb dX0_nextLook_10 rfl (lv_at hl 1 rfl) ?_
  refine va_get (D := D) (ci := 0) (v := .int i0_1) (C := RX0) (T := TX0) (N := 4) hx hb hts in_X0_nextLook_X0 hown hK hP 0 rfl rfl 1 (by decide) (hts (.fieldLink RX0 22 "PaneDays$Book" "cells" "I") (List.mem_of_getElem? (i := 1) rfl)) (fun _ h9 => h9) rfl dX0_nextLook_11 ?_
  refine lv_iconst (v := (-1)) hx hb dX0_nextLook_14 (by decide) ?_
  refine lv_ixor hx hb dX0_nextLook_15 ?_
  refine lv_iand hx hb dX0_nextLook_16 ?_
  refine lv_istore (lv' := [(6, .int (x3 &&& (i0_1 ^^^ ((-1))))), (5, .int q4), (0, .ref a0), (1, .ref a1), (2, .int x2), (3, .int x3), (4, .int x4)]) hx hb dX0_nextLook_17 hl (by decide) rfl (fun ls hl => ?_)
  refine lv_iconst (v := (-1)) hx hb dX0_nextLook_19 (by decide) ?_
  refine lv_istore (lv' := [(7, .int ((-1))), (6, .int (x3 &&& (i0_1 ^^^ ((-1))))), (5, .int q4), (0, .ref a0), (1, .ref a1), (2, .int x2), (3, .int x3), (4, .int x4)]) hx hb dX0_nextLook_20 hl (by decide) rfl (fun ls hl => ?_)
  refine lv_iconst (v := (-1)) hx hb dX0_nextLook_22 (by decide) ?_
  refine lv_istore (lv' := [(8, .int ((-1))), (7, .int ((-1))), (6, .int (x3 &&& (i0_1 ^^^ ((-1))))), (5, .int q4), (0, .ref a0), (1, .ref a1), (2, .int x2), (3, .int x3), (4, .int x4)]) hx hb dX0_nextLook_23 hl (by decide) rfl (fun ls hl => ?_)
  refine lv_iconst (v := 0) hx hb dX0_nextLook_25 (by decide) ?_
  refine lv_istore (lv' := [(9, .int 0), (8, .int ((-1))), (7, .int ((-1))), (6, .int (x3 &&& (i0_1 ^^^ ((-1))))), (5, .int q4), (0, .ref a0), (1, .ref a1), (2, .int x2), (3, .int x3), (4, .int x4)]) hx hb dX0_nextLook_26 hl (by decide) rfl (fun ls hl => ?_)
  exact w_X0_nextLook_b28 C0 a0 p0 i0_0 i0_1 v0_2 v0_3 a1 p1 i1_3 i1_4 i1_5 i1_6 i1_7 v1_0 v1_1 v1_2 res 4000 x2 x4 q4 (x3 &&& (i0_1 ^^^ ((-1)))) ((-1)) ((-1)) (0) hf _ _ _ hP hD hS (lv_sub hl [6, 7, 9, 4, 3, 2, 1, 0] rfl)
theorem in_X0_readLine_X0 : ∀ w ∈ u_ws RX0 TX0 4, w ∈ wsX0_readLine := fun w h => List.mem_cons_of_mem _ (List.mem_append_right _ h)
theorem in_X0_readLine_X7 : ∀ w ∈ u_ws RX7 TX7 9, w ∈ wsX0_readLine := fun w h => List.mem_cons_of_mem _ (List.mem_append_left _ (List.mem_append_right _ h))
abbrev W_X0_readLine (cs : Nat → ClassId) (a0 : Nat) (p0 : Nat → Nat) (i0_0 : Int32) (i0_1 : Int32) (v0_2 : Nat → Int32) (v0_3 : Nat → Int32) (a1 : Nat) (p1 : Nat → Nat) (i1_1 : Int32) (i1_2 : Int32) (i1_3 : Int32) (i1_4 : Int32) (i1_5 : Int32) (i1_6 : Int32) (i1_7 : Int32) (i1_8 : Int32) (v1_0 : Nat → Int32) : va_W := wX0 cs a0 p0 i0_0 i0_1 v0_2 v0_3 ++ wX7 cs a1 p1 i1_1 i1_2 i1_3 i1_4 i1_5 i1_6 i1_7 i1_8 v1_0
abbrev rm_X0_readLine : Room := { frames := 3, cells := 0, slots := 0, locals := 64 }
def f_X0_readLine_b88  (i1_2 : Int32) (v1_0 : Nat → Int32)  (i0_0 : Int32) (i0_1 : Int32) (v0_2 : Nat → Int32) (v0_3 : Nat → Int32) (i1_3 : Int32) (i1_4 : Int32) (i1_5 : Int32) (i1_6 : Int32) (i1_7 : Int32) (i1_8 : Int32) (x2 : Int32) : Option (Int32 × Int32 × (Nat → Int32) × (Nat → Int32) × Int32 × Int32 × Int32 × Int32 × Int32 × Int32) := (f_X7_takeNumber i1_2 i1_3 i1_4 i1_5 i1_6 i1_7 i1_8 v1_0 (0) (3)).bind fun q92 => (f_X7_takeNumber i1_2 q92.2.1 q92.2.2.1 q92.2.2.2.1 q92.2.2.2.2.1 q92.2.2.2.2.2.1 q92.2.2.2.2.2.2 v1_0 (0) (200)).bind fun q105 => (f_X7_takeSign i1_2 q105.2.1 q105.2.2.1 q105.2.2.2.1 q105.2.2.2.2.1 q105.2.2.2.2.2.1 q105.2.2.2.2.2.2 v1_0 (59)).bind fun q113 => if q113.2.2.2.2.1 = 0 then (ck i0_0 8 (ck i0_0 8 (some (i0_0 + 1, i0_1 ||| (((1 : Int32)) <<< (((4 * q92.1) + x2) &&& 31)), upd v0_2 (i0_0).toNatClampNeg ((4 * q92.1) + x2), upd v0_3 (i0_0).toNatClampNeg q105.1, q113.1, q113.2.1, q113.2.2.1, q113.2.2.2.1, q113.2.2.2.2.1, q113.2.2.2.2.2)))) else (some (i0_0, i0_1, v0_2, v0_3, q113.1, q113.2.1, q113.2.2.1, q113.2.2.2.1, q113.2.2.2.2.1, q113.2.2.2.2.2))
set_option maxHeartbeats 4000000 in
set_option maxRecDepth 100000 in
theorem w_X0_readLine_b88 {p : Program} {l : Launch} {e : Env} {s : State} {m : MethodId} {below : List Frame} {meth : Method} {c : Code} {D : va_G} {cs : Nat → ClassId} {av : Array Value} {w0 : va_W} (C0 : Cx p s m meth c av wsX0_readLine cX0_readLine 6 none RX0 D cs w0)  (a0 : Nat) (p0 : Nat → Nat) (a1 : Nat) (p1 : Nat → Nat) (i1_1 : Int32) (i1_2 : Int32) (v1_0 : Nat → Int32) (res : Int32 × Int32 × (Nat → Int32) × (Nat → Int32) × Int32 × Int32 × Int32 × Int32 × Int32 × Int32)  : ∀ (i0_0 : Int32) (i0_1 : Int32) (v0_2 : Nat → Int32) (v0_3 : Nat → Int32) (i1_3 : Int32) (i1_4 : Int32) (i1_5 : Int32) (i1_6 : Int32) (i1_7 : Int32) (i1_8 : Int32) (x2 : Int32), f_X0_readLine_b88 i1_2 v1_0 i0_0 i0_1 v0_2 v0_3 i1_3 i1_4 i1_5 i1_6 i1_7 i1_8 x2 = some res → ∀ (H : Heap) (locs : List Loc) (ls : Array Slot), va_P D vwCl (W_X0_readLine cs a0 p0 i0_0 i0_1 v0_2 v0_3 a1 p1 i1_1 i1_2 i1_3 i1_4 i1_5 i1_6 i1_7 i1_8 v1_0) H → va_D (va_A w0 s.heap.size) (W_X0_readLine cs a0 p0 i0_0 i0_1 v0_2 v0_3 a1 p1 i1_1 i1_2 i1_3 i1_4 i1_5 i1_6 i1_7 i1_8 v1_0) → va_S (va_A w0 s.heap.size) s.heap H locs → lv_has ls 6 [(0, .ref a0), (1, .ref a1), (2, .int x2)] → W p l e rm_X0_readLine s m av below meth c H locs 0 0 (MQ below (oV D cs w0 (W_X0_readLine cs a0 p0 res.1 res.2.1 res.2.2.1 res.2.2.2.1 a1 p1 i1_1 i1_2 res.2.2.2.2.1 res.2.2.2.2.2.1 res.2.2.2.2.2.2.1 res.2.2.2.2.2.2.2.1 res.2.2.2.2.2.2.2.2.1 res.2.2.2.2.2.2.2.2.2 v1_0) s.heap.size) av s 0 0 (va_A w0 s.heap.size)) (F0 m 88 ls []) := by
  obtain ⟨hx, hb, hr, hlk, hml, hown, hts, hK, hG, hE⟩ := id C0
  intro i0_0 i0_1 v0_2 v0_3 i1_3 i1_4 i1_5 i1_6 i1_7 i1_8 x2 hf H locs ls hP hD hS hl
  rw [f_X0_readLine_b88] at hf
  refine lv_iconst (v := 4) hx hb dX0_readLine_88 (by decide) ?_
  refine lv_aload_n hx hb dX0_readLine_89 rfl (lv_at hl 1 rfl) ?_
  refine lv_iconst (v := 0) hx hb dX0_readLine_90 (by decide) ?_
  refine lv_iconst (v := 3) hx hb dX0_readLine_91 (by decide) ?_
  obtain ⟨q92, hq, hf⟩ := bd_some hf
  refine ow_callVI (As := [.int 0, .int 3]) (rest := [.int 4]) (wr := ow_pk (W_X0_readLine cs a0 p0 i0_0 i0_1 v0_2 v0_3 a1 p1 i1_1 i1_2 i1_3 i1_4 i1_5 i1_6 i1_7 i1_8 v1_0) [0, 1, 2]) (wf := (W_X0_readLine cs a0 p0 i0_0 i0_1 v0_2 v0_3 a1 p1 i1_1 i1_2 q92.2.1 q92.2.2.1 q92.2.2.2.1 q92.2.2.2.2.1 q92.2.2.2.2.2.1 q92.2.2.2.2.2.2 v1_0)) (r := q92.1) C0 (c_X7_takeNumber l D cs H.size a1 p1 i1_1 i1_2 i1_3 i1_4 i1_5 i1_6 i1_7 i1_8 v1_0 (0) (3) q92 hq) (cwV 2 hts gX0_readLine_X7_takeNumber rfl rfl rfl (by decide +kernel) ⟨Nat.le_of_ble_eq_true rfl, Nat.le_of_ble_eq_true rfl⟩) 7 rfl rfl hP hD hS (fun q h => Or.inr h) [3, 4] [0, 1, 2] [0, 1, 2, 3, 4] rfl (by decide) rfl (by decide) (by decide) rfl (by decide) rfl hl.1 rfl (Nat.le_of_ble_eq_true rfl) ⟨Nat.zero_le _, Nat.zero_le _⟩ dX0_readLine_92 (fun H locs hP hD hS => ?_)
  refine lv_imul hx hb dX0_readLine_95 ?_
  refine lv_iload_n hx hb dX0_readLine_96 rfl (lv_at hl 2 rfl) ?_
  refine lv_iadd hx hb dX0_readLine_97 ?_
  refine lv_istore (lv' := [(4, .int ((4 * q92.1) + x2)), (0, .ref a0), (1, .ref a1), (2, .int x2)]) hx hb dX0_readLine_98 hl (by decide) rfl (fun ls hl => ?_)
  refine lv_aload_n hx hb dX0_readLine_100 rfl (lv_at hl 2 rfl) ?_
  refine lv_iconst (v := 0) hx hb dX0_readLine_101 (by decide) ?_
  refine lv_sipush (v := 200) hx hb dX0_readLine_102 (by decide) ?_
  obtain ⟨q105, hq, hf⟩ := bd_some hf
  refine ow_callVI (As := [.int 0, .int 200]) (rest := []) (wr := ow_pk (W_X0_readLine cs a0 p0 i0_0 i0_1 v0_2 v0_3 a1 p1 i1_1 i1_2 q92.2.1 q92.2.2.1 q92.2.2.2.1 q92.2.2.2.2.1 q92.2.2.2.2.2.1 q92.2.2.2.2.2.2 v1_0) [0, 1, 2]) (wf := (W_X0_readLine cs a0 p0 i0_0 i0_1 v0_2 v0_3 a1 p1 i1_1 i1_2 q105.2.1 q105.2.2.1 q105.2.2.2.1 q105.2.2.2.2.1 q105.2.2.2.2.2.1 q105.2.2.2.2.2.2 v1_0)) (r := q105.1) C0 (c_X7_takeNumber l D cs H.size a1 p1 i1_1 i1_2 q92.2.1 q92.2.2.1 q92.2.2.2.1 q92.2.2.2.2.1 q92.2.2.2.2.2.1 q92.2.2.2.2.2.2 v1_0 (0) (200) q105 hq) (cwV 2 hts gX0_readLine_X7_takeNumber rfl rfl rfl (by decide +kernel) ⟨Nat.le_of_ble_eq_true rfl, Nat.le_of_ble_eq_true rfl⟩) 7 rfl rfl hP hD hS (fun q h => Or.inr h) [3, 4] [0, 1, 2] [0, 1, 2, 3, 4] rfl (by decide) rfl (by decide) (by decide) rfl (by decide) rfl hl.1 rfl (Nat.le_of_ble_eq_true rfl) ⟨Nat.zero_le _, Nat.zero_le _⟩ dX0_readLine_105 (fun H locs hP hD hS => ?_)
  refine lv_istore (lv' := [(5, .int q105.1), (4, .int ((4 * q92.1) + x2)), (0, .ref a0), (1, .ref a1), (2, .int x2)]) hx hb dX0_readLine_108 hl (by decide) rfl (fun ls hl => ?_)
  refine lv_aload_n hx hb dX0_readLine_110 rfl (lv_at hl 3 rfl) ?_
  refine lv_bipush (v := 59) hx hb dX0_readLine_111 (by decide) ?_
  obtain ⟨q113, hq, hf⟩ := bd_some hf
  refine ow_callVV (As := [.int 59]) (rest := []) (wr := ow_pk (W_X0_readLine cs a0 p0 i0_0 i0_1 v0_2 v0_3 a1 p1 i1_1 i1_2 q105.2.1 q105.2.2.1 q105.2.2.2.1 q105.2.2.2.2.1 q105.2.2.2.2.2.1 q105.2.2.2.2.2.2 v1_0) [0, 1, 2]) (wf := (W_X0_readLine cs a0 p0 i0_0 i0_1 v0_2 v0_3 a1 p1 i1_1 i1_2 q113.1 q113.2.1 q113.2.2.1 q113.2.2.2.1 q113.2.2.2.2.1 q113.2.2.2.2.2 v1_0)) C0 (c_X7_takeSign l D cs H.size a1 p1 i1_1 i1_2 q105.2.1 q105.2.2.1 q105.2.2.2.1 q105.2.2.2.2.1 q105.2.2.2.2.2.1 q105.2.2.2.2.2.2 v1_0 (59) q113 hq) (cwV 1 hts gX0_readLine_X7_takeSign rfl rfl rfl (by decide +kernel) ⟨Nat.le_of_ble_eq_true rfl, Nat.le_of_ble_eq_true rfl⟩) 7 rfl rfl hP hD hS (fun q h => Or.inr h) [3, 4] [0, 1, 2] [0, 1, 2, 3, 4] rfl (by decide) rfl (by decide) (by decide) rfl (by decide) rfl hl.1 rfl (Nat.le_of_ble_eq_true rfl) ⟨Nat.zero_le _, Nat.zero_le _⟩ dX0_readLine_113 (fun H locs hP hD hS => ?_)
  refine lv_aload_n hx hb dX0_readLine_116 rfl (lv_at hl 3 rfl) ?_
  refine va_get (D := D) (ci := 7) (v := .int q113.2.2.2.2.1) (C := RX7) (T := TX7) (N := 9) hx hb hts in_X0_readLine_X7 hown hK hP 3 rfl rfl 7 (by decide) (hts (.fieldLink RX0 28 "PaneDays$Tape" "fault" "I") (List.mem_of_getElem? (i := 5) rfl)) (fun _ h9 => h9) rfl dX0_readLine_117 ?_
  refine lv_if_ne (tgt := 168) hx hb dX0_readLine_120 (by decide) (fun hc => ?_) (fun hc => ?_)
  · replace hf := ow_f hc hf
    obtain rfl := Option.some.inj hf
    exact ow_retV C0 hP hD hS dX0_readLine_168
  · replace hf := ow_t hc hf
    refine lv_aload_n hx hb dX0_readLine_123 rfl (lv_at hl 2 rfl) ?_
    refine va_get (D := D) (ci := 0) (v := .ref (p0 2)) (C := RX0) (T := TX0) (N := 4) hx hb hts in_X0_readLine_X0 hown hK hP 0 rfl rfl 2 (by decide) (hts (.fieldLink RX0 9 "PaneDays$Book" "cell" "[I") (List.mem_of_getElem? (i := 6) rfl)) (fun _ h9 => h9) rfl dX0_readLine_124 ?_
    refine lv_aload_n hx hb dX0_readLine_127 rfl (lv_at hl 2 rfl) ?_
    refine va_get (D := D) (ci := 0) (v := .int i0_0) (C := RX0) (T := TX0) (N := 4) hx hb hts in_X0_readLine_X0 hown hK hP 0 rfl rfl 0 (by decide) (hts (.fieldLink RX0 18 "PaneDays$Book" "lines" "I") (List.mem_of_getElem? (i := 3) rfl)) (fun _ h9 => h9) rfl dX0_readLine_128 ?_
    refine lv_iload hx hb dX0_readLine_131 (lv_at hl 1 rfl) ?_
    obtain ⟨hin, hf⟩ := ck_some hf
    refine va_iast (f := v0_2) hx hb hK hP hD hS 1 0 rfl rfl hin dX0_readLine_133 (fun H locs (hP : va_P D vwCl (W_X0_readLine cs a0 p0 i0_0 i0_1 (upd v0_2 (i0_0).toNatClampNeg ((4 * q92.1) + x2)) v0_3 a1 p1 i1_1 i1_2 q113.1 q113.2.1 q113.2.2.1 q113.2.2.2.1 q113.2.2.2.2.1 q113.2.2.2.2.2 v1_0) H) (hD : va_D _ (W_X0_readLine cs a0 p0 i0_0 i0_1 (upd v0_2 (i0_0).toNatClampNeg ((4 * q92.1) + x2)) v0_3 a1 p1 i1_1 i1_2 q113.1 q113.2.1 q113.2.2.1 q113.2.2.2.1 q113.2.2.2.2.1 q113.2.2.2.2.2 v1_0)) hS => ?_)
    refine lv_aload_n hx hb dX0_readLine_134 rfl (lv_at hl 2 rfl) ?_
    refine va_get (D := D) (ci := 0) (v := .ref (p0 3)) (C := RX0) (T := TX0) (N := 4) hx hb hts in_X0_readLine_X0 hown hK hP 0 rfl rfl 3 (by decide) (hts (.fieldLink RX0 15 "PaneDays$Book" "day" "[I") (List.mem_of_getElem? (i := 7) rfl)) (fun _ h9 => h9) rfl dX0_readLine_135 ?_
    refine lv_aload_n hx hb dX0_readLine_138 rfl (lv_at hl 2 rfl) ?_
    refine va_get (D := D) (ci := 0) (v := .int i0_0) (C := RX0) (T := TX0) (N := 4) hx hb hts in_X0_readLine_X0 hown hK hP 0 rfl rfl 0 (by decide) (hts (.fieldLink RX0 18 "PaneDays$Book" "lines" "I") (List.mem_of_getElem? (i := 3) rfl)) (fun _ h9 => h9) rfl dX0_readLine_139 ?_
    refine lv_iload hx hb dX0_readLine_142 (lv_at hl 0 rfl) ?_
    obtain ⟨hin, hf⟩ := ck_some hf
    refine va_iast (f := v0_3) hx hb hK hP hD hS 2 0 rfl rfl hin dX0_readLine_144 (fun H locs (hP : va_P D vwCl (W_X0_readLine cs a0 p0 i0_0 i0_1 (upd v0_2 (i0_0).toNatClampNeg ((4 * q92.1) + x2)) (upd v0_3 (i0_0).toNatClampNeg q105.1) a1 p1 i1_1 i1_2 q113.1 q113.2.1 q113.2.2.1 q113.2.2.2.1 q113.2.2.2.2.1 q113.2.2.2.2.2 v1_0) H) (hD : va_D _ (W_X0_readLine cs a0 p0 i0_0 i0_1 (upd v0_2 (i0_0).toNatClampNeg ((4 * q92.1) + x2)) (upd v0_3 (i0_0).toNatClampNeg q105.1) a1 p1 i1_1 i1_2 q113.1 q113.2.1 q113.2.2.1 q113.2.2.2.1 q113.2.2.2.2.1 q113.2.2.2.2.2 v1_0)) hS => ?_)
    refine lv_aload_n hx hb dX0_readLine_145 rfl (lv_at hl 2 rfl) ?_
    refine lv_dup hx hb dX0_readLine_146 rfl ?_
    refine va_get (D := D) (ci := 0) (v := .int i0_1) (C := RX0) (T := TX0) (N := 4) hx hb hts in_X0_readLine_X0 hown hK hP 0 rfl rfl 1 (by decide) (hts (.fieldLink RX0 22 "PaneDays$Book" "cells" "I") (List.mem_of_getElem? (i := 4) rfl)) (fun _ h9 => h9) rfl dX0_readLine_147 ?_
    refine lv_iconst (v := 1) hx hb dX0_readLine_150 (by decide) ?_
    refine lv_iload hx hb dX0_readLine_151 (lv_at hl 1 rfl) ?_
    refine lv_ishl hx hb dX0_readLine_153 ?_
    refine lv_ior hx hb dX0_readLine_154 ?_
    refine va_put (D := D) (ci := 0) (v := .int (i0_1 ||| (((1 : Int32)) <<< (((4 * q92.1) + x2) &&& 31)))) (ty := .int) (C := RX0) (T := TX0) (N := 4) hx hb hts in_X0_readLine_X0 tyX0 tyX0_ok nmX0 hown hK hP hD hS 0 rfl rfl 1 (by decide) (hts (.fieldLink RX0 22 "PaneDays$Book" "cells" "I") (List.mem_of_getElem? (i := 4) rfl)) (fun _ h9 => h9) rfl (by decide +kernel) rfl rfl (Nat.le_of_ble_eq_true rfl) dX0_readLine_155 (fun H locs (hP : va_P D vwCl (W_X0_readLine cs a0 p0 i0_0 (i0_1 ||| (((1 : Int32)) <<< (((4 * q92.1) + x2) &&& 31))) (upd v0_2 (i0_0).toNatClampNeg ((4 * q92.1) + x2)) (upd v0_3 (i0_0).toNatClampNeg q105.1) a1 p1 i1_1 i1_2 q113.1 q113.2.1 q113.2.2.1 q113.2.2.2.1 q113.2.2.2.2.1 q113.2.2.2.2.2 v1_0) H) (hD : va_D _ (W_X0_readLine cs a0 p0 i0_0 (i0_1 ||| (((1 : Int32)) <<< (((4 * q92.1) + x2) &&& 31))) (upd v0_2 (i0_0).toNatClampNeg ((4 * q92.1) + x2)) (upd v0_3 (i0_0).toNatClampNeg q105.1) a1 p1 i1_1 i1_2 q113.1 q113.2.1 q113.2.2.1 q113.2.2.2.1 q113.2.2.2.2.1 q113.2.2.2.2.2 v1_0)) hS => ?_)
    refine lv_aload_n hx hb dX0_readLine_158 rfl (lv_at hl 2 rfl) ?_
    refine lv_dup hx hb dX0_readLine_159 rfl ?_
    refine va_get (D := D) (ci := 0) (v := .int i0_0) (C := RX0) (T := TX0) (N := 4) hx hb hts in_X0_readLine_X0 hown hK hP 0 rfl rfl 0 (by decide) (hts (.fieldLink RX0 18 "PaneDays$Book" "lines" "I") (List.mem_of_getElem? (i := 3) rfl)) (fun _ h9 => h9) rfl dX0_readLine_160 ?_
    refine lv_iconst (v := 1) hx hb dX0_readLine_163 (by decide) ?_
    refine lv_iadd hx hb dX0_readLine_164 ?_
    refine va_put (D := D) (ci := 0) (v := .int (i0_0 + 1)) (ty := .int) (C := RX0) (T := TX0) (N := 4) hx hb hts in_X0_readLine_X0 tyX0 tyX0_ok nmX0 hown hK hP hD hS 0 rfl rfl 0 (by decide) (hts (.fieldLink RX0 18 "PaneDays$Book" "lines" "I") (List.mem_of_getElem? (i := 3) rfl)) (fun _ h9 => h9) rfl (by decide +kernel) rfl rfl (Nat.le_of_ble_eq_true rfl) dX0_readLine_165 (fun H locs (hP : va_P D vwCl (W_X0_readLine cs a0 p0 (i0_0 + 1) (i0_1 ||| (((1 : Int32)) <<< (((4 * q92.1) + x2) &&& 31))) (upd v0_2 (i0_0).toNatClampNeg ((4 * q92.1) + x2)) (upd v0_3 (i0_0).toNatClampNeg q105.1) a1 p1 i1_1 i1_2 q113.1 q113.2.1 q113.2.2.1 q113.2.2.2.1 q113.2.2.2.2.1 q113.2.2.2.2.2 v1_0) H) (hD : va_D _ (W_X0_readLine cs a0 p0 (i0_0 + 1) (i0_1 ||| (((1 : Int32)) <<< (((4 * q92.1) + x2) &&& 31))) (upd v0_2 (i0_0).toNatClampNeg ((4 * q92.1) + x2)) (upd v0_3 (i0_0).toNatClampNeg q105.1) a1 p1 i1_1 i1_2 q113.1 q113.2.1 q113.2.2.1 q113.2.2.2.1 q113.2.2.2.2.1 q113.2.2.2.2.2 v1_0)) hS => ?_)
    obtain rfl := Option.some.inj hf
    exact ow_retV C0 hP hD hS dX0_readLine_168
def f_X0_readLine_b78  (i1_2 : Int32) (v1_0 : Nat → Int32)  (i0_0 : Int32) (i0_1 : Int32) (v0_2 : Nat → Int32) (v0_3 : Nat → Int32) (i1_3 : Int32) (i1_4 : Int32) (i1_5 : Int32) (i1_6 : Int32) (i1_7 : Int32) (i1_8 : Int32) (x2 : Int32) (t0 : Int32) : Option (Int32 × Int32 × (Nat → Int32) × (Nat → Int32) × Int32 × Int32 × Int32 × Int32 × Int32 × Int32) := if t0 = 0 then (f_X0_readLine_b88 i1_2 v1_0 i0_0 i0_1 v0_2 v0_3 i1_3 i1_4 i1_5 i1_6 i1_7 i1_8 x2) else ((f_X7_wrong i1_3 i1_4 i1_7 i1_8 (2)).bind fun q85 => f_X0_readLine_b88 i1_2 v1_0 i0_0 i0_1 v0_2 v0_3 q85.1 i1_4 i1_5 i1_6 q85.2.1 q85.2.2 x2)
set_option maxHeartbeats 4000000 in
set_option maxRecDepth 100000 in
theorem w_X0_readLine_b78 {p : Program} {l : Launch} {e : Env} {s : State} {m : MethodId} {below : List Frame} {meth : Method} {c : Code} {D : va_G} {cs : Nat → ClassId} {av : Array Value} {w0 : va_W} (C0 : Cx p s m meth c av wsX0_readLine cX0_readLine 6 none RX0 D cs w0)  (a0 : Nat) (p0 : Nat → Nat) (a1 : Nat) (p1 : Nat → Nat) (i1_1 : Int32) (i1_2 : Int32) (v1_0 : Nat → Int32) (res : Int32 × Int32 × (Nat → Int32) × (Nat → Int32) × Int32 × Int32 × Int32 × Int32 × Int32 × Int32)  : ∀ (i0_0 : Int32) (i0_1 : Int32) (v0_2 : Nat → Int32) (v0_3 : Nat → Int32) (i1_3 : Int32) (i1_4 : Int32) (i1_5 : Int32) (i1_6 : Int32) (i1_7 : Int32) (i1_8 : Int32) (x2 : Int32) (t0 : Int32), f_X0_readLine_b78 i1_2 v1_0 i0_0 i0_1 v0_2 v0_3 i1_3 i1_4 i1_5 i1_6 i1_7 i1_8 x2 t0 = some res → ∀ (H : Heap) (locs : List Loc) (ls : Array Slot), va_P D vwCl (W_X0_readLine cs a0 p0 i0_0 i0_1 v0_2 v0_3 a1 p1 i1_1 i1_2 i1_3 i1_4 i1_5 i1_6 i1_7 i1_8 v1_0) H → va_D (va_A w0 s.heap.size) (W_X0_readLine cs a0 p0 i0_0 i0_1 v0_2 v0_3 a1 p1 i1_1 i1_2 i1_3 i1_4 i1_5 i1_6 i1_7 i1_8 v1_0) → va_S (va_A w0 s.heap.size) s.heap H locs → lv_has ls 6 [(0, .ref a0), (1, .ref a1), (2, .int x2)] → W p l e rm_X0_readLine s m av below meth c H locs 0 0 (MQ below (oV D cs w0 (W_X0_readLine cs a0 p0 res.1 res.2.1 res.2.2.1 res.2.2.2.1 a1 p1 i1_1 i1_2 res.2.2.2.2.1 res.2.2.2.2.2.1 res.2.2.2.2.2.2.1 res.2.2.2.2.2.2.2.1 res.2.2.2.2.2.2.2.2.1 res.2.2.2.2.2.2.2.2.2 v1_0) s.heap.size) av s 0 0 (va_A w0 s.heap.size)) (F0 m 78 ls [.int t0]) := by
  obtain ⟨hx, hb, hr, hlk, hml, hown, hts, hK, hG, hE⟩ := id C0
  intro i0_0 i0_1 v0_2 v0_3 i1_3 i1_4 i1_5 i1_6 i1_7 i1_8 x2 t0 hf H locs ls hP hD hS hl
  rw [f_X0_readLine_b78] at hf
  refine lv_istore_n (lv' := [(3, .int t0), (0, .ref a0), (1, .ref a1), (2, .int x2)]) hx hb dX0_readLine_78 rfl hl (by decide) rfl (fun ls hl => ?_)
  refine lv_iload_n hx hb dX0_readLine_79 rfl (lv_at hl 0 rfl) ?_
  refine lv_if_eq (tgt := 88) hx hb dX0_readLine_80 (by decide) (fun hc => ?_) (fun hc => ?_)
  · replace hf := ow_t hc hf
    exact w_X0_readLine_b88 C0 a0 p0 a1 p1 i1_1 i1_2 v1_0 res i0_0 i0_1 v0_2 v0_3 i1_3 i1_4 i1_5 i1_6 i1_7 i1_8 x2 hf _ _ _ hP hD hS (lv_sub hl [1, 2, 3] rfl)
  · replace hf := ow_f hc hf
    refine lv_aload_n hx hb dX0_readLine_83 rfl (lv_at hl 2 rfl) ?_
    refine lv_iconst (v := 2) hx hb dX0_readLine_84 (by decide) ?_
    obtain ⟨q85, hq, hf⟩ := bd_some hf
    refine ow_callVV (As := [.int 2]) (rest := []) (wr := ow_pk (W_X0_readLine cs a0 p0 i0_0 i0_1 v0_2 v0_3 a1 p1 i1_1 i1_2 i1_3 i1_4 i1_5 i1_6 i1_7 i1_8 v1_0) [0, 1, 2]) (wf := (W_X0_readLine cs a0 p0 i0_0 i0_1 v0_2 v0_3 a1 p1 i1_1 i1_2 q85.1 i1_4 i1_5 i1_6 q85.2.1 q85.2.2 v1_0)) C0 (c_X7_wrong l D cs H.size a1 p1 i1_1 i1_2 i1_3 i1_4 i1_5 i1_6 i1_7 i1_8 v1_0 (2) q85 hq) (cwV 1 hts gX0_readLine_X7_wrong rfl rfl rfl (by decide +kernel) ⟨Nat.le_of_ble_eq_true rfl, Nat.le_of_ble_eq_true rfl⟩) 7 rfl rfl hP hD hS (fun q h => Or.inr h) [3, 4] [0, 1, 2] [0, 1, 2, 3, 4] rfl (by decide) rfl (by decide) (by decide) rfl (by decide) rfl hl.1 rfl (Nat.le_of_ble_eq_true rfl) ⟨Nat.zero_le _, Nat.zero_le _⟩ dX0_readLine_85 (fun H locs hP hD hS => ?_)
    exact w_X0_readLine_b88 C0 a0 p0 a1 p1 i1_1 i1_2 v1_0 res i0_0 i0_1 v0_2 v0_3 q85.1 i1_4 i1_5 i1_6 q85.2.1 q85.2.2 x2 hf _ _ _ hP hD hS (lv_sub hl [1, 2, 3] rfl)
def f_X0_readLine_b77  (i1_2 : Int32) (v1_0 : Nat → Int32)  (i0_0 : Int32) (i0_1 : Int32) (v0_2 : Nat → Int32) (v0_3 : Nat → Int32) (i1_3 : Int32) (i1_4 : Int32) (i1_5 : Int32) (i1_6 : Int32) (i1_7 : Int32) (i1_8 : Int32) (x2 : Int32) : Option (Int32 × Int32 × (Nat → Int32) × (Nat → Int32) × Int32 × Int32 × Int32 × Int32 × Int32 × Int32) := f_X0_readLine_b78 i1_2 v1_0 i0_0 i0_1 v0_2 v0_3 i1_3 i1_4 i1_5 i1_6 i1_7 i1_8 x2 (0)
set_option maxHeartbeats 4000000 in
set_option maxRecDepth 100000 in
theorem w_X0_readLine_b77 {p : Program} {l : Launch} {e : Env} {s : State} {m : MethodId} {below : List Frame} {meth : Method} {c : Code} {D : va_G} {cs : Nat → ClassId} {av : Array Value} {w0 : va_W} (C0 : Cx p s m meth c av wsX0_readLine cX0_readLine 6 none RX0 D cs w0)  (a0 : Nat) (p0 : Nat → Nat) (a1 : Nat) (p1 : Nat → Nat) (i1_1 : Int32) (i1_2 : Int32) (v1_0 : Nat → Int32) (res : Int32 × Int32 × (Nat → Int32) × (Nat → Int32) × Int32 × Int32 × Int32 × Int32 × Int32 × Int32)  : ∀ (i0_0 : Int32) (i0_1 : Int32) (v0_2 : Nat → Int32) (v0_3 : Nat → Int32) (i1_3 : Int32) (i1_4 : Int32) (i1_5 : Int32) (i1_6 : Int32) (i1_7 : Int32) (i1_8 : Int32) (x2 : Int32), f_X0_readLine_b77 i1_2 v1_0 i0_0 i0_1 v0_2 v0_3 i1_3 i1_4 i1_5 i1_6 i1_7 i1_8 x2 = some res → ∀ (H : Heap) (locs : List Loc) (ls : Array Slot), va_P D vwCl (W_X0_readLine cs a0 p0 i0_0 i0_1 v0_2 v0_3 a1 p1 i1_1 i1_2 i1_3 i1_4 i1_5 i1_6 i1_7 i1_8 v1_0) H → va_D (va_A w0 s.heap.size) (W_X0_readLine cs a0 p0 i0_0 i0_1 v0_2 v0_3 a1 p1 i1_1 i1_2 i1_3 i1_4 i1_5 i1_6 i1_7 i1_8 v1_0) → va_S (va_A w0 s.heap.size) s.heap H locs → lv_has ls 6 [(0, .ref a0), (1, .ref a1), (2, .int x2)] → W p l e rm_X0_readLine s m av below meth c H locs 0 0 (MQ below (oV D cs w0 (W_X0_readLine cs a0 p0 res.1 res.2.1 res.2.2.1 res.2.2.2.1 a1 p1 i1_1 i1_2 res.2.2.2.2.1 res.2.2.2.2.2.1 res.2.2.2.2.2.2.1 res.2.2.2.2.2.2.2.1 res.2.2.2.2.2.2.2.2.1 res.2.2.2.2.2.2.2.2.2 v1_0) s.heap.size) av s 0 0 (va_A w0 s.heap.size)) (F0 m 77 ls []) := by
  obtain ⟨hx, hb, hr, hlk, hml, hown, hts, hK, hG, hE⟩ := id C0
  intro i0_0 i0_1 v0_2 v0_3 i1_3 i1_4 i1_5 i1_6 i1_7 i1_8 x2 hf H locs ls hP hD hS hl
  rw [f_X0_readLine_b77] at hf
  refine lv_iconst (v := 0) hx hb dX0_readLine_77 (by decide) ?_
  exact w_X0_readLine_b78 C0 a0 p0 a1 p1 i1_1 i1_2 v1_0 res i0_0 i0_1 v0_2 v0_3 i1_3 i1_4 i1_5 i1_6 i1_7 i1_8 x2 (0) hf _ _ _ hP hD hS (lv_sub hl [0, 1, 2] rfl)
def f_X0_readLine_b31  (i1_2 : Int32) (v1_0 : Nat → Int32)  (i0_0 : Int32) (i0_1 : Int32) (v0_2 : Nat → Int32) (v0_3 : Nat → Int32) (i1_3 : Int32) (i1_4 : Int32) (i1_5 : Int32) (i1_6 : Int32) (i1_7 : Int32) (i1_8 : Int32)  : Option (Int32 × Int32 × (Nat → Int32) × (Nat → Int32) × Int32 × Int32 × Int32 × Int32 × Int32 × Int32) := (f_X7_takeNumber i1_2 i1_3 i1_4 i1_5 i1_6 i1_7 i1_8 v1_0 (0) (3)).bind fun q34 => if q34.2.1 = 1 then (if 3 < q34.2.2.2.2.1 then (f_X0_readLine_b77 i1_2 v1_0 i0_0 i0_1 v0_2 v0_3 q34.2.1 q34.2.2.1 q34.2.2.2.1 q34.2.2.2.2.1 q34.2.2.2.2.2.1 q34.2.2.2.2.2.2 q34.1) else (if ((i0_1 >>> (((4 * q34.2.2.2.2.1) + q34.1) &&& 31)) &&& 1) = 1 then (f_X0_readLine_b78 i1_2 v1_0 i0_0 i0_1 v0_2 v0_3 q34.2.1 q34.2.2.1 q34.2.2.2.1 q34.2.2.2.2.1 q34.2.2.2.2.2.1 q34.2.2.2.2.2.2 q34.1 (1)) else (f_X0_readLine_b77 i1_2 v1_0 i0_0 i0_1 v0_2 v0_3 q34.2.1 q34.2.2.1 q34.2.2.2.1 q34.2.2.2.2.1 q34.2.2.2.2.2.1 q34.2.2.2.2.2.2 q34.1))) else (f_X0_readLine_b77 i1_2 v1_0 i0_0 i0_1 v0_2 v0_3 q34.2.1 q34.2.2.1 q34.2.2.2.1 q34.2.2.2.2.1 q34.2.2.2.2.2.1 q34.2.2.2.2.2.2 q34.1)
set_option maxHeartbeats 4000000 in
set_option maxRecDepth 100000 in
theorem w_X0_readLine_b31 {p : Program} {l : Launch} {e : Env} {s : State} {m : MethodId} {below : List Frame} {meth : Method} {c : Code} {D : va_G} {cs : Nat → ClassId} {av : Array Value} {w0 : va_W} (C0 : Cx p s m meth c av wsX0_readLine cX0_readLine 6 none RX0 D cs w0)  (a0 : Nat) (p0 : Nat → Nat) (a1 : Nat) (p1 : Nat → Nat) (i1_1 : Int32) (i1_2 : Int32) (v1_0 : Nat → Int32) (res : Int32 × Int32 × (Nat → Int32) × (Nat → Int32) × Int32 × Int32 × Int32 × Int32 × Int32 × Int32)  : ∀ (i0_0 : Int32) (i0_1 : Int32) (v0_2 : Nat → Int32) (v0_3 : Nat → Int32) (i1_3 : Int32) (i1_4 : Int32) (i1_5 : Int32) (i1_6 : Int32) (i1_7 : Int32) (i1_8 : Int32), f_X0_readLine_b31 i1_2 v1_0 i0_0 i0_1 v0_2 v0_3 i1_3 i1_4 i1_5 i1_6 i1_7 i1_8 = some res → ∀ (H : Heap) (locs : List Loc) (ls : Array Slot), va_P D vwCl (W_X0_readLine cs a0 p0 i0_0 i0_1 v0_2 v0_3 a1 p1 i1_1 i1_2 i1_3 i1_4 i1_5 i1_6 i1_7 i1_8 v1_0) H → va_D (va_A w0 s.heap.size) (W_X0_readLine cs a0 p0 i0_0 i0_1 v0_2 v0_3 a1 p1 i1_1 i1_2 i1_3 i1_4 i1_5 i1_6 i1_7 i1_8 v1_0) → va_S (va_A w0 s.heap.size) s.heap H locs → lv_has ls 6 [(0, .ref a0), (1, .ref a1)] → W p l e rm_X0_readLine s m av below meth c H locs 0 0 (MQ below (oV D cs w0 (W_X0_readLine cs a0 p0 res.1 res.2.1 res.2.2.1 res.2.2.2.1 a1 p1 i1_1 i1_2 res.2.2.2.2.1 res.2.2.2.2.2.1 res.2.2.2.2.2.2.1 res.2.2.2.2.2.2.2.1 res.2.2.2.2.2.2.2.2.1 res.2.2.2.2.2.2.2.2.2 v1_0) s.heap.size) av s 0 0 (va_A w0 s.heap.size)) (F0 m 31 ls []) := by
  obtain ⟨hx, hb, hr, hlk, hml, hown, hts, hK, hG, hE⟩ := id C0
  intro i0_0 i0_1 v0_2 v0_3 i1_3 i1_4 i1_5 i1_6 i1_7 i1_8 hf H locs ls hP hD hS hl
  rw [f_X0_readLine_b31] at hf
  refine lv_aload_n hx hb dX0_readLine_31 rfl (lv_at hl 1 rfl) ?_
  refine lv_iconst (v := 0) hx hb dX0_readLine_32 (by decide) ?_
  refine lv_iconst (v := 3) hx hb dX0_readLine_33 (by decide) ?_
  obtain ⟨q34, hq, hf⟩ := bd_some hf
  refine ow_callVI (As := [.int 0, .int 3]) (rest := []) (wr := ow_pk (W_X0_readLine cs a0 p0 i0_0 i0_1 v0_2 v0_3 a1 p1 i1_1 i1_2 i1_3 i1_4 i1_5 i1_6 i1_7 i1_8 v1_0) [0, 1, 2]) (wf := (W_X0_readLine cs a0 p0 i0_0 i0_1 v0_2 v0_3 a1 p1 i1_1 i1_2 q34.2.1 q34.2.2.1 q34.2.2.2.1 q34.2.2.2.2.1 q34.2.2.2.2.2.1 q34.2.2.2.2.2.2 v1_0)) (r := q34.1) C0 (c_X7_takeNumber l D cs H.size a1 p1 i1_1 i1_2 i1_3 i1_4 i1_5 i1_6 i1_7 i1_8 v1_0 (0) (3) q34 hq) (cwV 2 hts gX0_readLine_X7_takeNumber rfl rfl rfl (by decide +kernel) ⟨Nat.le_of_ble_eq_true rfl, Nat.le_of_ble_eq_true rfl⟩) 7 rfl rfl hP hD hS (fun q h => Or.inr h) [3, 4] [0, 1, 2] [0, 1, 2, 3, 4] rfl (by decide) rfl (by decide) (by decide) rfl (by decide) rfl hl.1 rfl (Nat.le_of_ble_eq_true rfl) ⟨Nat.zero_le _, Nat.zero_le _⟩ dX0_readLine_34 (fun H locs hP hD hS => ?_)
  refine lv_istore_n (lv' := [(2, .int q34.1), (0, .ref a0), (1, .ref a1)]) hx hb dX0_readLine_37 rfl hl (by decide) rfl (fun ls hl => ?_)
  refine lv_aload_n hx hb dX0_readLine_38 rfl (lv_at hl 2 rfl) ?_
  refine va_get (D := D) (ci := 7) (v := .int q34.2.1) (C := RX7) (T := TX7) (N := 9) hx hb hts in_X0_readLine_X7 hown hK hP 3 rfl rfl 3 (by decide) (hts (.fieldLink RX0 33 "PaneDays$Tape" "kind" "I") (List.mem_of_getElem? (i := 1) rfl)) (fun _ h9 => h9) rfl dX0_readLine_39 ?_
  refine lv_iconst (v := 1) hx hb dX0_readLine_42 (by decide) ?_
  refine lv_icmp_ne (tgt := 77) hx hb dX0_readLine_43 (by decide) (fun hc => ?_) (fun hc => ?_)
  · replace hf := ow_f hc hf
    exact w_X0_readLine_b77 C0 a0 p0 a1 p1 i1_1 i1_2 v1_0 res i0_0 i0_1 v0_2 v0_3 q34.2.1 q34.2.2.1 q34.2.2.2.1 q34.2.2.2.2.1 q34.2.2.2.2.2.1 q34.2.2.2.2.2.2 q34.1 hf _ _ _ hP hD hS (lv_sub hl [1, 2, 0] rfl)
  · replace hf := ow_t hc hf
    refine lv_aload_n hx hb dX0_readLine_46 rfl (lv_at hl 2 rfl) ?_
    refine va_get (D := D) (ci := 7) (v := .int q34.2.2.2.2.1) (C := RX7) (T := TX7) (N := 9) hx hb hts in_X0_readLine_X7 hown hK hP 3 rfl rfl 6 (by decide) (hts (.fieldLink RX0 44 "PaneDays$Tape" "value" "I") (List.mem_of_getElem? (i := 2) rfl)) (fun _ h9 => h9) rfl dX0_readLine_47 ?_
    refine lv_iconst (v := 3) hx hb dX0_readLine_50 (by decide) ?_
    refine lv_icmp_gt (tgt := 77) hx hb dX0_readLine_51 (by decide) (fun hc => ?_) (fun hc => ?_)
    · replace hf := ow_t hc hf
      exact w_X0_readLine_b77 C0 a0 p0 a1 p1 i1_1 i1_2 v1_0 res i0_0 i0_1 v0_2 v0_3 q34.2.1 q34.2.2.1 q34.2.2.2.1 q34.2.2.2.2.1 q34.2.2.2.2.2.1 q34.2.2.2.2.2.2 q34.1 hf _ _ _ hP hD hS (lv_sub hl [1, 2, 0] rfl)
    · replace hf := ow_f hc hf
      refine lv_aload_n hx hb dX0_readLine_54 rfl (lv_at hl 1 rfl) ?_
      refine va_get (D := D) (ci := 0) (v := .int i0_1) (C := RX0) (T := TX0) (N := 4) hx hb hts in_X0_readLine_X0 hown hK hP 0 rfl rfl 1 (by decide) (hts (.fieldLink RX0 22 "PaneDays$Book" "cells" "I") (List.mem_of_getElem? (i := 4) rfl)) (fun _ h9 => h9) rfl dX0_readLine_55 ?_
      refine lv_iconst (v := 4) hx hb dX0_readLine_58 (by decide) ?_
      refine lv_aload_n hx hb dX0_readLine_59 rfl (lv_at hl 2 rfl) ?_
      refine va_get (D := D) (ci := 7) (v := .int q34.2.2.2.2.1) (C := RX7) (T := TX7) (N := 9) hx hb hts in_X0_readLine_X7 hown hK hP 3 rfl rfl 6 (by decide) (hts (.fieldLink RX0 44 "PaneDays$Tape" "value" "I") (List.mem_of_getElem? (i := 2) rfl)) (fun _ h9 => h9) rfl dX0_readLine_60 ?_
      refine lv_imul hx hb dX0_readLine_63 ?_
      refine lv_iload_n hx hb dX0_readLine_64 rfl (lv_at hl 0 rfl) ?_
      refine lv_iadd hx hb dX0_readLine_65 ?_
      refine lv_ishr hx hb dX0_readLine_66 ?_
      refine lv_iconst (v := 1) hx hb dX0_readLine_67 (by decide) ?_
      refine lv_iand hx hb dX0_readLine_68 ?_
      refine lv_iconst (v := 1) hx hb dX0_readLine_69 (by decide) ?_
      refine lv_icmp_ne (tgt := 77) hx hb dX0_readLine_70 (by decide) (fun hc => ?_) (fun hc => ?_)
      · replace hf := ow_f hc hf
        exact w_X0_readLine_b77 C0 a0 p0 a1 p1 i1_1 i1_2 v1_0 res i0_0 i0_1 v0_2 v0_3 q34.2.1 q34.2.2.1 q34.2.2.2.1 q34.2.2.2.2.1 q34.2.2.2.2.2.1 q34.2.2.2.2.2.2 q34.1 hf _ _ _ hP hD hS (lv_sub hl [1, 2, 0] rfl)
      · replace hf := ow_t hc hf
        refine lv_iconst (v := 1) hx hb dX0_readLine_73 (by decide) ?_
        refine lv_goto (tgt := 78) hx hb dX0_readLine_74 (by decide) ?_
        exact w_X0_readLine_b78 C0 a0 p0 a1 p1 i1_1 i1_2 v1_0 res i0_0 i0_1 v0_2 v0_3 q34.2.1 q34.2.2.1 q34.2.2.2.1 q34.2.2.2.2.1 q34.2.2.2.2.2.1 q34.2.2.2.2.2.2 q34.1 (1) hf _ _ _ hP hD hS (lv_sub hl [1, 2, 0] rfl)
def f_X0_readLine  (i0_0 : Int32) (i0_1 : Int32) (v0_2 : Nat → Int32) (v0_3 : Nat → Int32) (i1_2 : Int32) (i1_3 : Int32) (i1_4 : Int32) (i1_5 : Int32) (i1_6 : Int32) (i1_7 : Int32) (i1_8 : Int32) (v1_0 : Nat → Int32)  : Option (Int32 × Int32 × (Nat → Int32) × (Nat → Int32) × Int32 × Int32 × Int32 × Int32 × Int32 × Int32) := if i1_3 = 1 then (if 3 < i1_6 then (f_X0_readLine_b31 i1_2 v1_0 i0_0 i0_1 v0_2 v0_3 i1_3 i1_4 i1_5 i1_6 i1_7 i1_8) else (if i0_0 < 8 then (f_X0_readLine_b31 i1_2 v1_0 i0_0 i0_1 v0_2 v0_3 i1_3 i1_4 i1_5 i1_6 i1_7 i1_8) else ((f_X7_wrong i1_3 i1_4 i1_7 i1_8 (3)).bind fun q27 => some (i0_0, i0_1, v0_2, v0_3, q27.1, i1_4, i1_5, i1_6, q27.2.1, q27.2.2)))) else (f_X0_readLine_b31 i1_2 v1_0 i0_0 i0_1 v0_2 v0_3 i1_3 i1_4 i1_5 i1_6 i1_7 i1_8)
set_option maxHeartbeats 4000000 in
set_option maxRecDepth 100000 in
theorem c_X0_readLine (l : Launch) (D : va_G) (cs : Nat → ClassId)  (sz : Nat) (a0 : Nat) (p0 : Nat → Nat) (i0_0 : Int32) (i0_1 : Int32) (v0_2 : Nat → Int32) (v0_3 : Nat → Int32) (a1 : Nat) (p1 : Nat → Nat) (i1_1 : Int32) (i1_2 : Int32) (i1_3 : Int32) (i1_4 : Int32) (i1_5 : Int32) (i1_6 : Int32) (i1_7 : Int32) (i1_8 : Int32) (v1_0 : Nat → Int32)  (res : Int32 × Int32 × (Nat → Int32) × (Nat → Int32) × Int32 × Int32 × Int32 × Int32 × Int32 × Int32) (hf : f_X0_readLine  i0_0 i0_1 v0_2 v0_3 i1_2 i1_3 i1_4 i1_5 i1_6 i1_7 i1_8 v1_0  = some res) : MV l D cs yX0_readLine wsX0_readLine rm_X0_readLine [.ref a0, .ref a1] sz (W_X0_readLine cs a0 p0 i0_0 i0_1 v0_2 v0_3 a1 p1 i1_1 i1_2 i1_3 i1_4 i1_5 i1_6 i1_7 i1_8 v1_0) (W_X0_readLine cs a0 p0 res.1 res.2.1 res.2.2.1 res.2.2.2.1 a1 p1 i1_1 i1_2 res.2.2.2.2.1 res.2.2.2.2.2.1 res.2.2.2.2.2.2.1 res.2.2.2.2.2.2.2.1 res.2.2.2.2.2.2.2.2.1 res.2.2.2.2.2.2.2.2.2 v1_0) := by
  rw [f_X0_readLine] at hf
  refine ow_enter (cc := cX0_readLine) (nL := 6) (ret := none) (by decide) rfl (Nat.le_of_ble_eq_true rfl) (fun p e s m below meth c ls H locs C0 hP hD hS hA hl => ?_)
  obtain ⟨hx, hb, hr, hlk, hml, hown, hts, hK, hG, hE⟩ := id C0
  have hl : lv_has ls 6 [(0, .ref a0), (1, .ref a1)] := hl
  refine lv_aload_n hx hb dX0_readLine_0 rfl (lv_at hl 1 rfl) ?_
  refine va_get (D := D) (ci := 7) (v := .int i1_3) (C := RX7) (T := TX7) (N := 9) hx hb hts in_X0_readLine_X7 hown hK hP 3 rfl rfl 3 (by decide) (hts (.fieldLink RX0 33 "PaneDays$Tape" "kind" "I") (List.mem_of_getElem? (i := 1) rfl)) (fun _ h9 => h9) rfl dX0_readLine_1 ?_
  refine lv_iconst (v := 1) hx hb dX0_readLine_4 (by decide) ?_
  refine lv_icmp_ne (tgt := 31) hx hb dX0_readLine_5 (by decide) (fun hc => ?_) (fun hc => ?_)
  · replace hf := ow_f hc hf
    exact w_X0_readLine_b31 C0 a0 p0 a1 p1 i1_1 i1_2 v1_0 res i0_0 i0_1 v0_2 v0_3 i1_3 i1_4 i1_5 i1_6 i1_7 i1_8 hf _ _ _ hP hD hS (lv_sub hl [0, 1] rfl)
  · replace hf := ow_t hc hf
    refine lv_aload_n hx hb dX0_readLine_8 rfl (lv_at hl 1 rfl) ?_
    refine va_get (D := D) (ci := 7) (v := .int i1_6) (C := RX7) (T := TX7) (N := 9) hx hb hts in_X0_readLine_X7 hown hK hP 3 rfl rfl 6 (by decide) (hts (.fieldLink RX0 44 "PaneDays$Tape" "value" "I") (List.mem_of_getElem? (i := 2) rfl)) (fun _ h9 => h9) rfl dX0_readLine_9 ?_
    refine lv_iconst (v := 3) hx hb dX0_readLine_12 (by decide) ?_
    refine lv_icmp_gt (tgt := 31) hx hb dX0_readLine_13 (by decide) (fun hc => ?_) (fun hc => ?_)
    · replace hf := ow_t hc hf
      exact w_X0_readLine_b31 C0 a0 p0 a1 p1 i1_1 i1_2 v1_0 res i0_0 i0_1 v0_2 v0_3 i1_3 i1_4 i1_5 i1_6 i1_7 i1_8 hf _ _ _ hP hD hS (lv_sub hl [0, 1] rfl)
    · replace hf := ow_f hc hf
      refine lv_aload_n hx hb dX0_readLine_16 rfl (lv_at hl 0 rfl) ?_
      refine va_get (D := D) (ci := 0) (v := .int i0_0) (C := RX0) (T := TX0) (N := 4) hx hb hts in_X0_readLine_X0 hown hK hP 0 rfl rfl 0 (by decide) (hts (.fieldLink RX0 18 "PaneDays$Book" "lines" "I") (List.mem_of_getElem? (i := 3) rfl)) (fun _ h9 => h9) rfl dX0_readLine_17 ?_
      refine lv_bipush (v := 8) hx hb dX0_readLine_20 (by decide) ?_
      refine lv_icmp_lt (tgt := 31) hx hb dX0_readLine_22 (by decide) (fun hc => ?_) (fun hc => ?_)
      · replace hf := ow_t hc hf
        exact w_X0_readLine_b31 C0 a0 p0 a1 p1 i1_1 i1_2 v1_0 res i0_0 i0_1 v0_2 v0_3 i1_3 i1_4 i1_5 i1_6 i1_7 i1_8 hf _ _ _ hP hD hS (lv_sub hl [0, 1] rfl)
      · replace hf := ow_f hc hf
        refine lv_aload_n hx hb dX0_readLine_25 rfl (lv_at hl 1 rfl) ?_
        refine lv_iconst (v := 3) hx hb dX0_readLine_26 (by decide) ?_
        obtain ⟨q27, hq, hf⟩ := bd_some hf
        refine ow_callVV (As := [.int 3]) (rest := []) (wr := ow_pk (W_X0_readLine cs a0 p0 i0_0 i0_1 v0_2 v0_3 a1 p1 i1_1 i1_2 i1_3 i1_4 i1_5 i1_6 i1_7 i1_8 v1_0) [0, 1, 2]) (wf := (W_X0_readLine cs a0 p0 i0_0 i0_1 v0_2 v0_3 a1 p1 i1_1 i1_2 q27.1 i1_4 i1_5 i1_6 q27.2.1 q27.2.2 v1_0)) C0 (c_X7_wrong l D cs H.size a1 p1 i1_1 i1_2 i1_3 i1_4 i1_5 i1_6 i1_7 i1_8 v1_0 (3) q27 hq) (cwV 1 hts gX0_readLine_X7_wrong rfl rfl rfl (by decide +kernel) ⟨Nat.le_of_ble_eq_true rfl, Nat.le_of_ble_eq_true rfl⟩) 7 rfl rfl hP hD hS (fun q h => Or.inr h) [3, 4] [0, 1, 2] [0, 1, 2, 3, 4] rfl (by decide) rfl (by decide) (by decide) rfl (by decide) rfl hl.1 rfl (Nat.le_of_ble_eq_true rfl) ⟨Nat.zero_le _, Nat.zero_le _⟩ dX0_readLine_27 (fun H locs hP hD hS => ?_)
        obtain rfl := Option.some.inj hf
        exact ow_retV C0 hP hD hS dX0_readLine_30
theorem in_X0_forget_X0 : ∀ w ∈ u_ws RX0 TX0 4, w ∈ wsX0_forget := fun w h => List.mem_cons_of_mem _ (List.mem_append_right _ h)
abbrev W_X0_forget (cs : Nat → ClassId) (a0 : Nat) (p0 : Nat → Nat) (i0_0 : Int32) (i0_1 : Int32) (v0_2 : Nat → Int32) (v0_3 : Nat → Int32) : va_W := wX0 cs a0 p0 i0_0 i0_1 v0_2 v0_3
abbrev rm_X0_forget : Room := { frames := 0, cells := 0, slots := 0, locals := 0 }
def f_X0_forget  (i0_0 : Int32) (i0_1 : Int32)  : Option (Int32 × Int32) := some (0, 0)
set_option maxHeartbeats 4000000 in
set_option maxRecDepth 100000 in
theorem c_X0_forget (l : Launch) (D : va_G) (cs : Nat → ClassId)  (sz : Nat) (a0 : Nat) (p0 : Nat → Nat) (i0_0 : Int32) (i0_1 : Int32) (v0_2 : Nat → Int32) (v0_3 : Nat → Int32)  (res : Int32 × Int32) (hf : f_X0_forget  i0_0 i0_1  = some res) : MV l D cs yX0_forget wsX0_forget rm_X0_forget [.ref a0] sz (W_X0_forget cs a0 p0 i0_0 i0_1 v0_2 v0_3) (W_X0_forget cs a0 p0 res.1 res.2 v0_2 v0_3) := by
  rw [f_X0_forget] at hf
  refine ow_enter (cc := cX0_forget) (nL := 1) (ret := none) (by decide) rfl (Nat.le_of_ble_eq_true rfl) (fun p e s m below meth c ls H locs C0 hP hD hS hA hl => ?_)
  obtain ⟨hx, hb, hr, hlk, hml, hown, hts, hK, hG, hE⟩ := id C0
  have hl : lv_has ls 1 [(0, .ref a0)] := hl
  refine lv_aload_n hx hb dX0_forget_0 rfl (lv_at hl 0 rfl) ?_
  refine lv_iconst (v := 0) hx hb dX0_forget_1 (by decide) ?_
  refine va_put (D := D) (ci := 0) (v := .int 0) (ty := .int) (C := RX0) (T := TX0) (N := 4) hx hb hts in_X0_forget_X0 tyX0 tyX0_ok nmX0 hown hK hP hD hS 0 rfl rfl 0 (by decide) (hts (.fieldLink RX0 18 "PaneDays$Book" "lines" "I") (List.mem_of_getElem? (i := 1) rfl)) (fun _ h9 => h9) rfl (by decide +kernel) rfl rfl (Nat.le_of_ble_eq_true rfl) dX0_forget_2 (fun H locs (hP : va_P D vwCl (W_X0_forget cs a0 p0 (0) i0_1 v0_2 v0_3) H) (hD : va_D _ (W_X0_forget cs a0 p0 (0) i0_1 v0_2 v0_3)) hS => ?_)
  refine lv_aload_n hx hb dX0_forget_5 rfl (lv_at hl 0 rfl) ?_
  refine lv_iconst (v := 0) hx hb dX0_forget_6 (by decide) ?_
  refine va_put (D := D) (ci := 0) (v := .int 0) (ty := .int) (C := RX0) (T := TX0) (N := 4) hx hb hts in_X0_forget_X0 tyX0 tyX0_ok nmX0 hown hK hP hD hS 0 rfl rfl 1 (by decide) (hts (.fieldLink RX0 22 "PaneDays$Book" "cells" "I") (List.mem_of_getElem? (i := 2) rfl)) (fun _ h9 => h9) rfl (by decide +kernel) rfl rfl (Nat.le_of_ble_eq_true rfl) dX0_forget_7 (fun H locs (hP : va_P D vwCl (W_X0_forget cs a0 p0 (0) (0) v0_2 v0_3) H) (hD : va_D _ (W_X0_forget cs a0 p0 (0) (0) v0_2 v0_3)) hS => ?_)
  obtain rfl := Option.some.inj hf
  exact ow_retV C0 hP hD hS dX0_forget_10
theorem in_X0_read_X7 : ∀ w ∈ u_ws RX7 TX7 9, w ∈ wsX0_read := fun w h => List.mem_cons_of_mem _ (List.mem_append_left _ (List.mem_append_right _ h))
abbrev W_X0_read (cs : Nat → ClassId) (a0 : Nat) (p0 : Nat → Nat) (i0_0 : Int32) (i0_1 : Int32) (v0_2 : Nat → Int32) (v0_3 : Nat → Int32) (a1 : Nat) (p1 : Nat → Nat) (i1_1 : Int32) (i1_2 : Int32) (i1_3 : Int32) (i1_4 : Int32) (i1_5 : Int32) (i1_6 : Int32) (i1_7 : Int32) (i1_8 : Int32) (v1_0 : Nat → Int32) : va_W := wX0 cs a0 p0 i0_0 i0_1 v0_2 v0_3 ++ wX7 cs a1 p1 i1_1 i1_2 i1_3 i1_4 i1_5 i1_6 i1_7 i1_8 v1_0
abbrev rm_X0_read : Room := { frames := 4, cells := 0, slots := 0, locals := 89 }
def f_X0_read_b37  (i1_2 : Int32) (v1_0 : Nat → Int32)  (i0_0 : Int32) (i0_1 : Int32) (v0_2 : Nat → Int32) (v0_3 : Nat → Int32) (i1_3 : Int32) (i1_4 : Int32) (i1_5 : Int32) (i1_6 : Int32) (i1_7 : Int32) (i1_8 : Int32)  : Option (Int32 × Int32 × Int32 × (Nat → Int32) × (Nat → Int32) × Int32 × Int32 × Int32 × Int32 × Int32 × Int32) := (f_X7_takeEnd i1_3 i1_4 i1_7 i1_8).bind fun q38 => cz q38.1 (some (q38.1, i0_0, i0_1, v0_2, v0_3, q38.2.1, i1_4, i1_5, i1_6, q38.2.2.1, q38.2.2.2))
set_option maxHeartbeats 4000000 in
set_option maxRecDepth 100000 in
theorem w_X0_read_b37 {p : Program} {l : Launch} {e : Env} {s : State} {m : MethodId} {below : List Frame} {meth : Method} {c : Code} {D : va_G} {cs : Nat → ClassId} {av : Array Value} {w0 : va_W} (C0 : Cx p s m meth c av wsX0_read cX0_read 3 (some .boolean) RX0 D cs w0)  (a0 : Nat) (p0 : Nat → Nat) (a1 : Nat) (p1 : Nat → Nat) (i1_1 : Int32) (i1_2 : Int32) (v1_0 : Nat → Int32) (res : Int32 × Int32 × Int32 × (Nat → Int32) × (Nat → Int32) × Int32 × Int32 × Int32 × Int32 × Int32 × Int32)  : ∀ (i0_0 : Int32) (i0_1 : Int32) (v0_2 : Nat → Int32) (v0_3 : Nat → Int32) (i1_3 : Int32) (i1_4 : Int32) (i1_5 : Int32) (i1_6 : Int32) (i1_7 : Int32) (i1_8 : Int32), f_X0_read_b37 i1_2 v1_0 i0_0 i0_1 v0_2 v0_3 i1_3 i1_4 i1_5 i1_6 i1_7 i1_8 = some res → ∀ (H : Heap) (locs : List Loc) (ls : Array Slot), va_P D vwCl (W_X0_read cs a0 p0 i0_0 i0_1 v0_2 v0_3 a1 p1 i1_1 i1_2 i1_3 i1_4 i1_5 i1_6 i1_7 i1_8 v1_0) H → va_D (va_A w0 s.heap.size) (W_X0_read cs a0 p0 i0_0 i0_1 v0_2 v0_3 a1 p1 i1_1 i1_2 i1_3 i1_4 i1_5 i1_6 i1_7 i1_8 v1_0) → va_S (va_A w0 s.heap.size) s.heap H locs → lv_has ls 3 [(1, .ref a1)] → W p l e rm_X0_read s m av below meth c H locs 0 0 (MQ below (oI D cs w0 (W_X0_read cs a0 p0 res.2.1 res.2.2.1 res.2.2.2.1 res.2.2.2.2.1 a1 p1 i1_1 i1_2 res.2.2.2.2.2.1 res.2.2.2.2.2.2.1 res.2.2.2.2.2.2.2.1 res.2.2.2.2.2.2.2.2.1 res.2.2.2.2.2.2.2.2.2.1 res.2.2.2.2.2.2.2.2.2.2 v1_0) res.1 s.heap.size) av s 0 0 (va_A w0 s.heap.size)) (F0 m 37 ls []) := by
  obtain ⟨hx, hb, hr, hlk, hml, hown, hts, hK, hG, hE⟩ := id C0
  intro i0_0 i0_1 v0_2 v0_3 i1_3 i1_4 i1_5 i1_6 i1_7 i1_8 hf H locs ls hP hD hS hl
  rw [f_X0_read_b37] at hf
  refine lv_aload_n hx hb dX0_read_37 rfl (lv_at hl 0 rfl) ?_
  obtain ⟨q38, hq, hf⟩ := bd_some hf
  refine ow_callVI (As := []) (rest := []) (wr := ow_pk (W_X0_read cs a0 p0 i0_0 i0_1 v0_2 v0_3 a1 p1 i1_1 i1_2 i1_3 i1_4 i1_5 i1_6 i1_7 i1_8 v1_0) [0, 1, 2]) (wf := (W_X0_read cs a0 p0 i0_0 i0_1 v0_2 v0_3 a1 p1 i1_1 i1_2 q38.2.1 i1_4 i1_5 i1_6 q38.2.2.1 q38.2.2.2 v1_0)) (r := q38.1) C0 (c_X7_takeEnd l D cs H.size a1 p1 i1_1 i1_2 i1_3 i1_4 i1_5 i1_6 i1_7 i1_8 v1_0  q38 hq) (cwV 0 hts gX0_read_X7_takeEnd rfl rfl rfl (by decide +kernel) ⟨Nat.le_of_ble_eq_true rfl, Nat.le_of_ble_eq_true rfl⟩) 7 rfl rfl hP hD hS (fun q h => Or.inr h) [3, 4] [0, 1, 2] [0, 1, 2, 3, 4] rfl (by decide) rfl (by decide) (by decide) rfl (by decide) rfl hl.1 rfl (Nat.le_of_ble_eq_true rfl) ⟨Nat.zero_le _, Nat.zero_le _⟩ dX0_read_38 (fun H locs hP hD hS => ?_)
  obtain ⟨hz, hf⟩ := cz_some hf
  obtain rfl := Option.some.inj hf
  exact ow_retZ C0 hz hP hD hS dX0_read_41
def f_X0_read_b6  (i1_2 : Int32) (v1_0 : Nat → Int32)  : Nat → (Int32) → (Int32) → (Nat → Int32) → (Nat → Int32) → (Int32) → (Int32) → (Int32) → (Int32) → (Int32) → (Int32) → Int32 → Option (Int32 × Int32 × Int32 × (Nat → Int32) × (Nat → Int32) × Int32 × Int32 × Int32 × Int32 × Int32 × Int32)
  | 0, _, _, _, _, _, _, _, _, _, _, _ => none
  | n + 1, i0_0, i0_1, v0_2, v0_3, i1_3, i1_4, i1_5, i1_6, i1_7, i1_8, x2 => if 8 < x2 then (f_X0_read_b37 i1_2 v1_0 i0_0 i0_1 v0_2 v0_3 i1_3 i1_4 i1_5 i1_6 i1_7 i1_8) else (if i1_7 = 0 then (if i1_3 = 0 then (f_X0_read_b37 i1_2 v1_0 i0_0 i0_1 v0_2 v0_3 i1_3 i1_4 i1_5 i1_6 i1_7 i1_8) else ((f_X0_readLine i0_0 i0_1 v0_2 v0_3 i1_2 i1_3 i1_4 i1_5 i1_6 i1_7 i1_8 v1_0).bind fun q28 => f_X0_read_b6 i1_2 v1_0 n q28.1 q28.2.1 q28.2.2.1 q28.2.2.2.1 q28.2.2.2.2.1 q28.2.2.2.2.2.1 q28.2.2.2.2.2.2.1 q28.2.2.2.2.2.2.2.1 q28.2.2.2.2.2.2.2.2.1 q28.2.2.2.2.2.2.2.2.2 (x2 + 1))) else (f_X0_read_b37 i1_2 v1_0 i0_0 i0_1 v0_2 v0_3 i1_3 i1_4 i1_5 i1_6 i1_7 i1_8))
set_option maxHeartbeats 4000000 in
set_option maxRecDepth 100000 in
theorem w_X0_read_b6 {p : Program} {l : Launch} {e : Env} {s : State} {m : MethodId} {below : List Frame} {meth : Method} {c : Code} {D : va_G} {cs : Nat → ClassId} {av : Array Value} {w0 : va_W} (C0 : Cx p s m meth c av wsX0_read cX0_read 3 (some .boolean) RX0 D cs w0)  (a0 : Nat) (p0 : Nat → Nat) (a1 : Nat) (p1 : Nat → Nat) (i1_1 : Int32) (i1_2 : Int32) (v1_0 : Nat → Int32) (res : Int32 × Int32 × Int32 × (Nat → Int32) × (Nat → Int32) × Int32 × Int32 × Int32 × Int32 × Int32 × Int32)  : ∀ (n : Nat) (i0_0 : Int32) (i0_1 : Int32) (v0_2 : Nat → Int32) (v0_3 : Nat → Int32) (i1_3 : Int32) (i1_4 : Int32) (i1_5 : Int32) (i1_6 : Int32) (i1_7 : Int32) (i1_8 : Int32) (x2 : Int32), f_X0_read_b6 i1_2 v1_0 n i0_0 i0_1 v0_2 v0_3 i1_3 i1_4 i1_5 i1_6 i1_7 i1_8 x2 = some res → ∀ (H : Heap) (locs : List Loc) (ls : Array Slot), va_P D vwCl (W_X0_read cs a0 p0 i0_0 i0_1 v0_2 v0_3 a1 p1 i1_1 i1_2 i1_3 i1_4 i1_5 i1_6 i1_7 i1_8 v1_0) H → va_D (va_A w0 s.heap.size) (W_X0_read cs a0 p0 i0_0 i0_1 v0_2 v0_3 a1 p1 i1_1 i1_2 i1_3 i1_4 i1_5 i1_6 i1_7 i1_8 v1_0) → va_S (va_A w0 s.heap.size) s.heap H locs → lv_has ls 3 [(0, .ref a0), (1, .ref a1), (2, .int x2)] → W p l e rm_X0_read s m av below meth c H locs 0 0 (MQ below (oI D cs w0 (W_X0_read cs a0 p0 res.2.1 res.2.2.1 res.2.2.2.1 res.2.2.2.2.1 a1 p1 i1_1 i1_2 res.2.2.2.2.2.1 res.2.2.2.2.2.2.1 res.2.2.2.2.2.2.2.1 res.2.2.2.2.2.2.2.2.1 res.2.2.2.2.2.2.2.2.2.1 res.2.2.2.2.2.2.2.2.2.2 v1_0) res.1 s.heap.size) av s 0 0 (va_A w0 s.heap.size)) (F0 m 6 ls []) := by
  obtain ⟨hx, hb, hr, hlk, hml, hown, hts, hK, hG, hE⟩ := id C0
  intro n
  induction n with
  | zero =>
    intro i0_0 i0_1 v0_2 v0_3 i1_3 i1_4 i1_5 i1_6 i1_7 i1_8 x2 hf
    rw [f_X0_read_b6] at hf
    cases hf
  | succ n ih =>
    intro i0_0 i0_1 v0_2 v0_3 i1_3 i1_4 i1_5 i1_6 i1_7 i1_8 x2 hf H locs ls hP hD hS hl
    rw [f_X0_read_b6] at hf
    refine lv_iload_n hx hb dX0_read_6 rfl (lv_at hl 2 rfl) ?_
    refine lv_bipush (v := 8) hx hb dX0_read_7 (by decide) ?_
    refine lv_icmp_gt (tgt := 37) hx hb dX0_read_9 (by decide) (fun hc => ?_) (fun hc => ?_)
    · replace hf := ow_t hc hf
      exact w_X0_read_b37 C0 a0 p0 a1 p1 i1_1 i1_2 v1_0 res i0_0 i0_1 v0_2 v0_3 i1_3 i1_4 i1_5 i1_6 i1_7 i1_8 hf _ _ _ hP hD hS (lv_sub hl [1] rfl)
    · replace hf := ow_f hc hf
      refine lv_aload_n hx hb dX0_read_12 rfl (lv_at hl 1 rfl) ?_
      refine va_get (D := D) (ci := 7) (v := .int i1_7) (C := RX7) (T := TX7) (N := 9) hx hb hts in_X0_read_X7 hown hK hP 3 rfl rfl 7 (by decide) (hts (.fieldLink RX0 28 "PaneDays$Tape" "fault" "I") (List.mem_of_getElem? (i := 1) rfl)) (fun _ h9 => h9) rfl dX0_read_13 ?_
      refine lv_if_ne (tgt := 37) hx hb dX0_read_16 (by decide) (fun hc => ?_) (fun hc => ?_)
      · replace hf := ow_f hc hf
        exact w_X0_read_b37 C0 a0 p0 a1 p1 i1_1 i1_2 v1_0 res i0_0 i0_1 v0_2 v0_3 i1_3 i1_4 i1_5 i1_6 i1_7 i1_8 hf _ _ _ hP hD hS (lv_sub hl [1] rfl)
      · replace hf := ow_t hc hf
        refine lv_aload_n hx hb dX0_read_19 rfl (lv_at hl 1 rfl) ?_
        refine va_get (D := D) (ci := 7) (v := .int i1_3) (C := RX7) (T := TX7) (N := 9) hx hb hts in_X0_read_X7 hown hK hP 3 rfl rfl 3 (by decide) (hts (.fieldLink RX0 33 "PaneDays$Tape" "kind" "I") (List.mem_of_getElem? (i := 2) rfl)) (fun _ h9 => h9) rfl dX0_read_20 ?_
        refine lv_if_eq (tgt := 37) hx hb dX0_read_23 (by decide) (fun hc => ?_) (fun hc => ?_)
        · replace hf := ow_t hc hf
          exact w_X0_read_b37 C0 a0 p0 a1 p1 i1_1 i1_2 v1_0 res i0_0 i0_1 v0_2 v0_3 i1_3 i1_4 i1_5 i1_6 i1_7 i1_8 hf _ _ _ hP hD hS (lv_sub hl [1] rfl)
        · replace hf := ow_f hc hf
          refine lv_aload_n hx hb dX0_read_26 rfl (lv_at hl 0 rfl) ?_
          refine lv_aload_n hx hb dX0_read_27 rfl (lv_at hl 1 rfl) ?_
          obtain ⟨q28, hq, hf⟩ := bd_some hf
          refine ow_callVV (As := [.ref a1]) (rest := []) (wr := ow_pk (W_X0_read cs a0 p0 i0_0 i0_1 v0_2 v0_3 a1 p1 i1_1 i1_2 i1_3 i1_4 i1_5 i1_6 i1_7 i1_8 v1_0) []) (wf := (W_X0_read cs a0 p0 q28.1 q28.2.1 q28.2.2.1 q28.2.2.2.1 a1 p1 i1_1 i1_2 q28.2.2.2.2.1 q28.2.2.2.2.2.1 q28.2.2.2.2.2.2.1 q28.2.2.2.2.2.2.2.1 q28.2.2.2.2.2.2.2.2.1 q28.2.2.2.2.2.2.2.2.2 v1_0)) C0 (c_X0_readLine l D cs H.size a0 p0 i0_0 i0_1 v0_2 v0_3 a1 p1 i1_1 i1_2 i1_3 i1_4 i1_5 i1_6 i1_7 i1_8 v1_0  q28 hq) (cwV 1 hts gX0_read_X0_readLine rfl rfl rfl (by decide +kernel) ⟨Nat.le_of_ble_eq_true rfl, Nat.le_of_ble_eq_true rfl⟩) 0 rfl rfl hP hD hS (fun q h => Or.inr h) [0, 1, 2, 3, 4] [] [0, 1, 2, 3, 4] rfl (by decide) rfl (by decide) (by decide) rfl (by decide) rfl hl.1 rfl (Nat.le_of_ble_eq_true rfl) ⟨Nat.zero_le _, Nat.zero_le _⟩ dX0_read_28 (fun H locs hP hD hS => ?_)
          refine lv_iinc (v := x2 + 1) (lv' := [(2, .int (x2 + 1)), (0, .ref a0), (1, .ref a1)]) hx hb dX0_read_31 hl (k := 2) rfl (ow_inc (by decide)) (by decide) rfl (fun ls hl => ?_)
          refine lv_goto (tgt := 6) hx hb dX0_read_34 (by decide) ?_
          exact ih q28.1 q28.2.1 q28.2.2.1 q28.2.2.2.1 q28.2.2.2.2.1 q28.2.2.2.2.2.1 q28.2.2.2.2.2.2.1 q28.2.2.2.2.2.2.2.1 q28.2.2.2.2.2.2.2.2.1 q28.2.2.2.2.2.2.2.2.2 (x2 + 1) hf _ _ _ hP hD hS (lv_sub hl [1, 2, 0] rfl)
def f_X0_read  (i0_0 : Int32) (i0_1 : Int32) (v0_2 : Nat → Int32) (v0_3 : Nat → Int32) (i1_2 : Int32) (i1_3 : Int32) (i1_4 : Int32) (i1_5 : Int32) (i1_6 : Int32) (i1_7 : Int32) (i1_8 : Int32) (v1_0 : Nat → Int32)  : Option (Int32 × Int32 × Int32 × (Nat → Int32) × (Nat → Int32) × Int32 × Int32 × Int32 × Int32 × Int32 × Int32) := (f_X0_forget i0_0 i0_1).bind fun q1 => f_X0_read_b6 i1_2 v1_0 4000 q1.1 q1.2 v0_2 v0_3 i1_3 i1_4 i1_5 i1_6 i1_7 i1_8 (0)
set_option maxHeartbeats 4000000 in
set_option maxRecDepth 100000 in
theorem c_X0_read (l : Launch) (D : va_G) (cs : Nat → ClassId)  (sz : Nat) (a0 : Nat) (p0 : Nat → Nat) (i0_0 : Int32) (i0_1 : Int32) (v0_2 : Nat → Int32) (v0_3 : Nat → Int32) (a1 : Nat) (p1 : Nat → Nat) (i1_1 : Int32) (i1_2 : Int32) (i1_3 : Int32) (i1_4 : Int32) (i1_5 : Int32) (i1_6 : Int32) (i1_7 : Int32) (i1_8 : Int32) (v1_0 : Nat → Int32)  (res : Int32 × Int32 × Int32 × (Nat → Int32) × (Nat → Int32) × Int32 × Int32 × Int32 × Int32 × Int32 × Int32) (hf : f_X0_read  i0_0 i0_1 v0_2 v0_3 i1_2 i1_3 i1_4 i1_5 i1_6 i1_7 i1_8 v1_0  = some res) : MI l D cs yX0_read wsX0_read rm_X0_read [.ref a0, .ref a1] sz (W_X0_read cs a0 p0 i0_0 i0_1 v0_2 v0_3 a1 p1 i1_1 i1_2 i1_3 i1_4 i1_5 i1_6 i1_7 i1_8 v1_0) (W_X0_read cs a0 p0 res.2.1 res.2.2.1 res.2.2.2.1 res.2.2.2.2.1 a1 p1 i1_1 i1_2 res.2.2.2.2.2.1 res.2.2.2.2.2.2.1 res.2.2.2.2.2.2.2.1 res.2.2.2.2.2.2.2.2.1 res.2.2.2.2.2.2.2.2.2.1 res.2.2.2.2.2.2.2.2.2.2 v1_0) res.1 := by
  rw [f_X0_read] at hf
  refine ow_enter (cc := cX0_read) (nL := 3) (ret := (some .boolean)) (by decide) rfl (Nat.le_of_ble_eq_true rfl) (fun p e s m below meth c ls H locs C0 hP hD hS hA hl => ?_)
  obtain ⟨hx, hb, hr, hlk, hml, hown, hts, hK, hG, hE⟩ := id C0
  have hl : lv_has ls 3 [(0, .ref a0), (1, .ref a1)] := hl
  refine lv_aload_n hx hb dX0_read_0 rfl (lv_at hl 0 rfl) ?_
  obtain ⟨q1, hq, hf⟩ := bd_some hf
  refine ow_callVV (As := []) (rest := []) (wr := ow_pk (W_X0_read cs a0 p0 i0_0 i0_1 v0_2 v0_3 a1 p1 i1_1 i1_2 i1_3 i1_4 i1_5 i1_6 i1_7 i1_8 v1_0) [3, 4]) (wf := (W_X0_read cs a0 p0 q1.1 q1.2 v0_2 v0_3 a1 p1 i1_1 i1_2 i1_3 i1_4 i1_5 i1_6 i1_7 i1_8 v1_0)) C0 (c_X0_forget l D cs H.size a0 p0 i0_0 i0_1 v0_2 v0_3  q1 hq) (cwV 0 hts gX0_read_X0_forget rfl rfl rfl (by decide +kernel) ⟨Nat.le_of_ble_eq_true rfl, Nat.le_of_ble_eq_true rfl⟩) 0 rfl rfl hP hD hS (fun q h => Or.inr h) [0, 1, 2] [3, 4] [2, 3, 4, 0, 1] rfl (by decide) rfl (by decide) (by decide) rfl (by decide) rfl hl.1 rfl (Nat.le_of_ble_eq_true rfl) ⟨Nat.zero_le _, Nat.zero_le _⟩ dX0_read_1 (fun H locs hP hD hS => ?_)
  refine lv_iconst (v := 0) hx hb dX0_read_4 (by decide) ?_
  refine lv_istore_n (lv' := [(2, .int 0), (0, .ref a0), (1, .ref a1)]) hx hb dX0_read_5 rfl hl (by decide) rfl (fun ls hl => ?_)
  exact w_X0_read_b6 C0 a0 p0 a1 p1 i1_1 i1_2 v1_0 res 4000 q1.1 q1.2 v0_2 v0_3 i1_3 i1_4 i1_5 i1_6 i1_7 i1_8 (0) hf _ _ _ hP hD hS (lv_sub hl [1, 2, 0] rfl)

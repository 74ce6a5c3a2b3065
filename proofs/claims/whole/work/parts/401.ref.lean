abbrev W_X11_filmOf (cs : Nat → ClassId) (a0 : Nat) (n0 : Nat) (v0 : Nat → Int32) : va_W := [(a0, .inl (cs 0, n0, .inl v0))]
abbrev S_X11_filmOf (cs : Nat → ClassId) (a0 : Nat) (n0 : Nat) (v0 : Nat → Int32) : List va_W := [[(a0, .inl (cs 0, n0, .inl v0))]]
abbrev rm_X11_filmOf : Room := { frames := 0, cells := 0, slots := 0, locals := 0 }
def f_X11_filmOf  (n0 : Nat) (v0 : Nat → Int32) (x1 : Int32) (x2 : Int32) : Option (Int32) := ck (2400 + x1) n0 (if x2 < 0 then (some (0)) else (if 0 ≤ (((v0 (2400 + x1).toNatClampNeg) - 1) - x2) then (ck ((0 + (30 * x1)) + (((v0 (2400 + x1).toNatClampNeg) - 1) - x2)) n0 (some (v0 ((0 + (30 * x1)) + (((v0 (2400 + x1).toNatClampNeg) - 1) - x2)).toNatClampNeg))) else (some (0))))
set_option maxHeartbeats 4000000 in
set_option maxRecDepth 100000 in
theorem c_X11_filmOf (l : Launch) (D : va_G) (cs : Nat → ClassId)  (sz : Nat) (a0 : Nat) (n0 : Nat) (v0 : Nat → Int32) (x1 : Int32) (x2 : Int32) (res : Int32) (hf : f_X11_filmOf  n0 v0 x1 x2 = some res) : MI l D cs yX11_filmOf wsX11_filmOf rm_X11_filmOf [.ref a0, .int x1, .int x2] sz (W_X11_filmOf cs a0 n0 v0) (W_X11_filmOf cs a0 n0 v0) res := by
  rw [f_X11_filmOf] at hf
  refine ow_enter (cc := cX11_filmOf) (nL := 4) (ret := (some .int)) (by decide) rfl (Nat.le_of_ble_eq_true rfl) (fun p e s m below meth c ls H locs C0 hP hD hS hA hl => ?_)
  obtain ⟨hx, hb, hr, hlk, hml, hown, hts, hK, hG, hE⟩ := id C0
  have hl : lv_has ls 4 [(0, .ref a0), (1, .int x1), (2, .int x2)] := hl
  refine lv_aload_n hx hb dX11_filmOf_0 rfl (lv_at hl 0 rfl) ?_
  refine lv_sipush (v := 2400) hx hb dX11_filmOf_1 (by decide) ?_
  refine lv_iload_n hx hb dX11_filmOf_4 rfl (lv_at hl 1 rfl) ?_
  refine lv_iadd hx hb dX11_filmOf_5 ?_
  obtain ⟨hin, hf⟩ := ck_some hf
  refine va_iald (f := v0) hx hb hK hP 0 0 rfl rfl hin dX11_filmOf_6 ?_
  refine lv_iconst (v := 1) hx hb dX11_filmOf_7 (by decide) ?_
  refine lv_isub hx hb dX11_filmOf_8 ?_
  refine lv_iload_n hx hb dX11_filmOf_9 rfl (lv_at hl 2 rfl) ?_
  refine lv_isub hx hb dX11_filmOf_10 ?_
  refine lv_istore_n (lv' := [(3, .int (((v0 (2400 + x1).toNatClampNeg) - 1) - x2)), (0, .ref a0), (1, .int x1), (2, .int x2)]) hx hb dX11_filmOf_11 rfl hl (by decide) rfl (fun ls hl => ?_)
  refine lv_iload_n hx hb dX11_filmOf_12 rfl (lv_at hl 3 rfl) ?_
  refine lv_if_lt (tgt := 20) hx hb dX11_filmOf_13 (by decide) (fun hc => ?_) (fun hc => ?_)
  · replace hf := ow_t hc hf
    refine lv_iconst (v := 0) hx hb dX11_filmOf_20 (by decide) ?_
    refine lv_goto (tgt := 34) hx hb dX11_filmOf_21 (by decide) ?_
    obtain rfl := Option.some.inj hf
    exact ow_retI C0 hP hD hS dX11_filmOf_34
  · replace hf := ow_f hc hf
    refine lv_iload_n hx hb dX11_filmOf_16 rfl (lv_at hl 0 rfl) ?_
    refine lv_if_ge (tgt := 24) hx hb dX11_filmOf_17 (by decide) (fun hc => ?_) (fun hc => ?_)
    · replace hf := ow_t hc hf
      refine lv_aload_n hx hb dX11_filmOf_24 rfl (lv_at hl 1 rfl) ?_
      refine lv_iconst (v := 0) hx hb dX11_filmOf_25 (by decide) ?_
      refine lv_bipush (v := 30) hx hb dX11_filmOf_26 (by decide) ?_
      refine lv_iload_n hx hb dX11_filmOf_28 rfl (lv_at hl 2 rfl) ?_
      refine lv_imul hx hb dX11_filmOf_29 ?_
      refine lv_iadd hx hb dX11_filmOf_30 ?_
      refine lv_iload_n hx hb dX11_filmOf_31 rfl (lv_at hl 0 rfl) ?_
      refine lv_iadd hx hb dX11_filmOf_32 ?_
      obtain ⟨hin, hf⟩ := ck_some hf
      refine va_iald (f := v0) hx hb hK hP 0 0 rfl rfl hin dX11_filmOf_33 ?_
      obtain rfl := Option.some.inj hf
      exact ow_retI C0 hP hD hS dX11_filmOf_34
    · replace hf := ow_f hc hf
      refine lv_iconst (v := 0) hx hb dX11_filmOf_20 (by decide) ?_
      refine lv_goto (tgt := 34) hx hb dX11_filmOf_21 (by decide) ?_
      obtain rfl := Option.some.inj hf
      exact ow_retI C0 hP hD hS dX11_filmOf_34
theorem in_X11_isShown_X11 : ∀ w ∈ u_ws RX11 TX11 44, w ∈ wsX11_isShown := fun w h => List.mem_cons_of_mem _ (List.mem_append_right _ h)
noncomputable abbrev W_X11_isShown (cs : Nat → ClassId) (a0 : Nat) (p0 : Nat → Nat) (i0_0 : Int32) (i0_1 : Int32) (i0_2 : Int32) (i0_3 : Int32) (i0_4 : Int32) (i0_5 : Int32) (i0_6 : Int32) (i0_7 : Int32) (i0_8 : Int32) (i0_19 : Int32) (i0_20 : Int32) (i0_28 : Int32) (i0_33 : Int32) (i0_34 : Int32) (i0_35 : Int32) (i0_36 : Int32) (i0_37 : Int32) (i0_38 : Int32) (i0_39 : Int32) (i0_40 : Int32) (i0_41 : Int32) (i0_42 : Int32) (i0_43 : Int32) (r0_18 : Nat → Nat) (g0_18 : Nat → Nat → Int32) (a1 : Nat) (n1 : Nat) (v1 : Nat → Int32) : va_W := [(a0, .inr (11, [.int i0_0, .int i0_1, .int i0_2, .int i0_3, .int i0_4, .int i0_5, .int i0_6, .int i0_7, .int i0_8, .ref (p0 9), .ref (p0 10), .ref (p0 11), .ref (p0 12), .ref (p0 13), .ref (p0 14), .ref (p0 15), .ref (p0 16), .ref (p0 17), .ref (p0 18), .int i0_19, .int i0_20, .ref (p0 21), .ref (p0 22), .ref (p0 23), .ref (p0 24), .ref (p0 25), .ref (p0 26), .ref (p0 27), .int i0_28, .ref (p0 29), .ref (p0 30), .ref (p0 31), .ref (p0 32), .int i0_33, .int i0_34, .int i0_35, .int i0_36, .int i0_37, .int i0_38, .int i0_39, .int i0_40, .int i0_41, .int i0_42, .int i0_43])), gOut cs (p0 18) 12 r0_18, (a1, .inl (cs 0, n1, .inl v1))] ++ (gRow cs 12 5 r0_18 g0_18 ++ [])
noncomputable abbrev S_X11_isShown (cs : Nat → ClassId) (a0 : Nat) (p0 : Nat → Nat) (i0_0 : Int32) (i0_1 : Int32) (i0_2 : Int32) (i0_3 : Int32) (i0_4 : Int32) (i0_5 : Int32) (i0_6 : Int32) (i0_7 : Int32) (i0_8 : Int32) (i0_19 : Int32) (i0_20 : Int32) (i0_28 : Int32) (i0_33 : Int32) (i0_34 : Int32) (i0_35 : Int32) (i0_36 : Int32) (i0_37 : Int32) (i0_38 : Int32) (i0_39 : Int32) (i0_40 : Int32) (i0_41 : Int32) (i0_42 : Int32) (i0_43 : Int32) (r0_18 : Nat → Nat) (g0_18 : Nat → Nat → Int32) (a1 : Nat) (n1 : Nat) (v1 : Nat → Int32) : List va_W := [[(a0, .inr (11, [.int i0_0, .int i0_1, .int i0_2, .int i0_3, .int i0_4, .int i0_5, .int i0_6, .int i0_7, .int i0_8, .ref (p0 9), .ref (p0 10), .ref (p0 11), .ref (p0 12), .ref (p0 13), .ref (p0 14), .ref (p0 15), .ref (p0 16), .ref (p0 17), .ref (p0 18), .int i0_19, .int i0_20, .ref (p0 21), .ref (p0 22), .ref (p0 23), .ref (p0 24), .ref (p0 25), .ref (p0 26), .ref (p0 27), .int i0_28, .ref (p0 29), .ref (p0 30), .ref (p0 31), .ref (p0 32), .int i0_33, .int i0_34, .int i0_35, .int i0_36, .int i0_37, .int i0_38, .int i0_39, .int i0_40, .int i0_41, .int i0_42, .int i0_43]))], [gOut cs (p0 18) 12 r0_18], [(a1, .inl (cs 0, n1, .inl v1))], gRow cs 12 5 r0_18 g0_18]
abbrev rm_X11_isShown : Room := { frames := 2, cells := 0, slots := 0, locals := 42 }
def f_X11_isShown  (g0_18 : Nat → Nat → Int32) (n1 : Nat) (v1 : Nat → Int32) (x2 : Int32) : Option (Int32) := ck x2 12 ((f_X11_cellOfOrder 5 (g0_18 (x2).toNatClampNeg)).bind fun q7 => (f_X11_filmOf n1 v1 q7 (0)).bind fun q11 => ck x2 12 (if q11 = ((g0_18 (x2).toNatClampNeg) (3 : Int32).toNatClampNeg) then (some (1)) else (some (0))))
set_option maxHeartbeats 4000000 in
set_option maxRecDepth 100000 in
theorem c_X11_isShown (l : Launch) (D : va_G) (cs : Nat → ClassId)  (sz : Nat) (a0 : Nat) (p0 : Nat → Nat) (i0_0 : Int32) (i0_1 : Int32) (i0_2 : Int32) (i0_3 : Int32) (i0_4 : Int32) (i0_5 : Int32) (i0_6 : Int32) (i0_7 : Int32) (i0_8 : Int32) (i0_19 : Int32) (i0_20 : Int32) (i0_28 : Int32) (i0_33 : Int32) (i0_34 : Int32) (i0_35 : Int32) (i0_36 : Int32) (i0_37 : Int32) (i0_38 : Int32) (i0_39 : Int32) (i0_40 : Int32) (i0_41 : Int32) (i0_42 : Int32) (i0_43 : Int32) (r0_18 : Nat → Nat) (g0_18 : Nat → Nat → Int32) (a1 : Nat) (n1 : Nat) (v1 : Nat → Int32) (x2 : Int32) (res : Int32) (hf : f_X11_isShown  g0_18 n1 v1 x2 = some res) : MI l D cs yX11_isShown wsX11_isShown rm_X11_isShown [.ref a0, .ref a1, .int x2] sz (W_X11_isShown cs a0 p0 i0_0 i0_1 i0_2 i0_3 i0_4 i0_5 i0_6 i0_7 i0_8 i0_19 i0_20 i0_28 i0_33 i0_34 i0_35 i0_36 i0_37 i0_38 i0_39 i0_40 i0_41 i0_42 i0_43 r0_18 g0_18 a1 n1 v1) (W_X11_isShown cs a0 p0 i0_0 i0_1 i0_2 i0_3 i0_4 i0_5 i0_6 i0_7 i0_8 i0_19 i0_20 i0_28 i0_33 i0_34 i0_35 i0_36 i0_37 i0_38 i0_39 i0_40 i0_41 i0_42 i0_43 r0_18 g0_18 a1 n1 v1) res := by
  rw [f_X11_isShown] at hf
  refine ow_enter (cc := cX11_isShown) (nL := 3) (ret := (some .boolean)) (by decide) rfl (Nat.le_of_ble_eq_true rfl) (fun p e s m below meth c ls H locs C0 hP hD hS hA hl => ?_)
  obtain ⟨hx, hb, hr, hlk, hml, hown, hts, hK, hG, hE⟩ := id C0
  have hl : lv_has ls 3 [(0, .ref a0), (1, .ref a1), (2, .int x2)] := hl
  refine lv_aload_n hx hb dX11_isShown_0 rfl (lv_at hl 1 rfl) ?_
  refine lv_aload_n hx hb dX11_isShown_1 rfl (lv_at hl 0 rfl) ?_
  refine va_get (D := D) (ci := 11) (v := .ref (p0 18)) (C := RX11) (T := TX11) (N := 44) hx hb hts in_X11_isShown_X11 hown hK hP 0 rfl rfl 18 (by decide) (hts (.fieldLink RX11 43 "PaneDaysModel" "order" "[[I") (List.mem_of_getElem? (i := 1) rfl)) (fun _ h9 => h9) rfl dX11_isShown_2 ?_
  refine lv_iload_n hx hb dX11_isShown_5 rfl (lv_at hl 2 rfl) ?_
  obtain ⟨hr6, hf⟩ := ck_some hf
  refine ow_aald (rr := r0_18) hx hb hK hP 1 rfl hr6 dX11_isShown_6 ?_
  obtain ⟨q7, hq, hf⟩ := bd_some hf
  replace hP := sg_Pp (sg_split (sg := (S_X11_isShown cs a0 p0 i0_0 i0_1 i0_2 i0_3 i0_4 i0_5 i0_6 i0_7 i0_8 i0_19 i0_20 i0_28 i0_33 i0_34 i0_35 i0_36 i0_37 i0_38 i0_39 i0_40 i0_41 i0_42 i0_43 r0_18 g0_18 a1 n1 v1)) 3 rfl (gr_split (vp_lt hr6))) hP
  replace hD := sg_Dp (sg_split (sg := (S_X11_isShown cs a0 p0 i0_0 i0_1 i0_2 i0_3 i0_4 i0_5 i0_6 i0_7 i0_8 i0_19 i0_20 i0_28 i0_33 i0_34 i0_35 i0_36 i0_37 i0_38 i0_39 i0_40 i0_41 i0_42 i0_43 r0_18 g0_18 a1 n1 v1)) 3 rfl (gr_split (vp_lt hr6))) hD
  refine ow_gSI (As := [.ref (r0_18 (x2).toNatClampNeg)]) (rest := [.ref a1]) (sg := (List.set (S_X11_isShown cs a0 p0 i0_0 i0_1 i0_2 i0_3 i0_4 i0_5 i0_6 i0_7 i0_8 i0_19 i0_20 i0_28 i0_33 i0_34 i0_35 i0_36 i0_37 i0_38 i0_39 i0_40 i0_41 i0_42 i0_43 r0_18 g0_18 a1 n1 v1) 3 [(r0_18 (x2).toNatClampNeg, .inl (cs 0, 5, .inl (g0_18 (x2).toNatClampNeg)))] ++ [gRest cs 12 5 r0_18 g0_18 (x2).toNatClampNeg])) (sc := (S_X11_cellOfOrder cs (r0_18 (x2).toNatClampNeg) 5 (g0_18 (x2).toNatClampNeg))) (sc' := (S_X11_cellOfOrder cs (r0_18 (x2).toNatClampNeg) 5 (g0_18 (x2).toNatClampNeg))) (sr := ow_pks (List.set (S_X11_isShown cs a0 p0 i0_0 i0_1 i0_2 i0_3 i0_4 i0_5 i0_6 i0_7 i0_8 i0_19 i0_20 i0_28 i0_33 i0_34 i0_35 i0_36 i0_37 i0_38 i0_39 i0_40 i0_41 i0_42 i0_43 r0_18 g0_18 a1 n1 v1) 3 [(r0_18 (x2).toNatClampNeg, .inl (cs 0, 5, .inl (g0_18 (x2).toNatClampNeg)))] ++ [gRest cs 12 5 r0_18 g0_18 (x2).toNatClampNeg]) [0, 1, 2, 4]) (sf := (List.set (S_X11_isShown cs a0 p0 i0_0 i0_1 i0_2 i0_3 i0_4 i0_5 i0_6 i0_7 i0_8 i0_19 i0_20 i0_28 i0_33 i0_34 i0_35 i0_36 i0_37 i0_38 i0_39 i0_40 i0_41 i0_42 i0_43 r0_18 g0_18 a1 n1 v1) 3 [(r0_18 (x2).toNatClampNeg, .inl (cs 0, 5, .inl (g0_18 (x2).toNatClampNeg)))] ++ [gRest cs 12 5 r0_18 g0_18 (x2).toNatClampNeg])) (r := q7) C0 (c_X11_cellOfOrder l D cs H.size (r0_18 (x2).toNatClampNeg) 5 (g0_18 (x2).toNatClampNeg)  q7 hq) (va_cwS 1 hts gX11_isShown_X11_cellOfOrder rfl rfl rfl (by decide +kernel) ⟨Nat.le_of_ble_eq_true rfl, Nat.le_of_ble_eq_true rfl⟩) hP hD hS (sg_permL [3] [0, 1, 2, 4] 5 rfl (by decide) rfl rfl) (sg_permG [0, 1, 2, 4, 3] 5 rfl (by decide) rfl) rfl hl.1 rfl (Nat.le_of_ble_eq_true rfl) ⟨Nat.zero_le _, Nat.zero_le _⟩ dX11_isShown_7 (fun H locs hP hD hS => ?_)
  replace hP : va_P D vwCl (W_X11_isShown cs a0 p0 i0_0 i0_1 i0_2 i0_3 i0_4 i0_5 i0_6 i0_7 i0_8 i0_19 i0_20 i0_28 i0_33 i0_34 i0_35 i0_36 i0_37 i0_38 i0_39 i0_40 i0_41 i0_42 i0_43 r0_18 g0_18 a1 n1 v1) H := sg_Pp (sg_merge (sg := (S_X11_isShown cs a0 p0 i0_0 i0_1 i0_2 i0_3 i0_4 i0_5 i0_6 i0_7 i0_8 i0_19 i0_20 i0_28 i0_33 i0_34 i0_35 i0_36 i0_37 i0_38 i0_39 i0_40 i0_41 i0_42 i0_43 r0_18 g0_18 a1 n1 v1)) 3 rfl (gr_split (vp_lt hr6))) hP
  replace hD : va_D _ (W_X11_isShown cs a0 p0 i0_0 i0_1 i0_2 i0_3 i0_4 i0_5 i0_6 i0_7 i0_8 i0_19 i0_20 i0_28 i0_33 i0_34 i0_35 i0_36 i0_37 i0_38 i0_39 i0_40 i0_41 i0_42 i0_43 r0_18 g0_18 a1 n1 v1) := sg_Dp (sg_merge (sg := (S_X11_isShown cs a0 p0 i0_0 i0_1 i0_2 i0_3 i0_4 i0_5 i0_6 i0_7 i0_8 i0_19 i0_20 i0_28 i0_33 i0_34 i0_35 i0_36 i0_37 i0_38 i0_39 i0_40 i0_41 i0_42 i0_43 r0_18 g0_18 a1 n1 v1)) 3 rfl (gr_split (vp_lt hr6))) hD
  refine lv_iconst (v := 0) hx hb dX11_isShown_10 (by decide) ?_
  obtain ⟨q11, hq, hf⟩ := bd_some hf
  refine ow_gSI (As := [.ref a1, .int q7, .int 0]) (rest := []) (sg := (S_X11_isShown cs a0 p0 i0_0 i0_1 i0_2 i0_3 i0_4 i0_5 i0_6 i0_7 i0_8 i0_19 i0_20 i0_28 i0_33 i0_34 i0_35 i0_36 i0_37 i0_38 i0_39 i0_40 i0_41 i0_42 i0_43 r0_18 g0_18 a1 n1 v1)) (sc := (S_X11_filmOf cs a1 n1 v1)) (sc' := (S_X11_filmOf cs a1 n1 v1)) (sr := ow_pks (S_X11_isShown cs a0 p0 i0_0 i0_1 i0_2 i0_3 i0_4 i0_5 i0_6 i0_7 i0_8 i0_19 i0_20 i0_28 i0_33 i0_34 i0_35 i0_36 i0_37 i0_38 i0_39 i0_40 i0_41 i0_42 i0_43 r0_18 g0_18 a1 n1 v1) [0, 1, 3]) (sf := (S_X11_isShown cs a0 p0 i0_0 i0_1 i0_2 i0_3 i0_4 i0_5 i0_6 i0_7 i0_8 i0_19 i0_20 i0_28 i0_33 i0_34 i0_35 i0_36 i0_37 i0_38 i0_39 i0_40 i0_41 i0_42 i0_43 r0_18 g0_18 a1 n1 v1)) (r := q11) C0 (c_X11_filmOf l D cs H.size a1 n1 v1 q7 (0) q11 hq) (va_cwS 3 hts gX11_isShown_X11_filmOf rfl rfl rfl (by decide +kernel) ⟨Nat.le_of_ble_eq_true rfl, Nat.le_of_ble_eq_true rfl⟩) hP hD hS (sg_permL [2] [0, 1, 3] 4 rfl (by decide) rfl rfl) (sg_permG [0, 1, 3, 2] 4 rfl (by decide) rfl) rfl hl.1 rfl (Nat.le_of_ble_eq_true rfl) ⟨Nat.zero_le _, Nat.zero_le _⟩ dX11_isShown_11 (fun H locs (hP : va_P D vwCl (W_X11_isShown cs a0 p0 i0_0 i0_1 i0_2 i0_3 i0_4 i0_5 i0_6 i0_7 i0_8 i0_19 i0_20 i0_28 i0_33 i0_34 i0_35 i0_36 i0_37 i0_38 i0_39 i0_40 i0_41 i0_42 i0_43 r0_18 g0_18 a1 n1 v1) H) (hD : va_D _ (W_X11_isShown cs a0 p0 i0_0 i0_1 i0_2 i0_3 i0_4 i0_5 i0_6 i0_7 i0_8 i0_19 i0_20 i0_28 i0_33 i0_34 i0_35 i0_36 i0_37 i0_38 i0_39 i0_40 i0_41 i0_42 i0_43 r0_18 g0_18 a1 n1 v1)) hS => ?_)
  refine lv_aload_n hx hb dX11_isShown_14 rfl (lv_at hl 0 rfl) ?_
  refine va_get (D := D) (ci := 11) (v := .ref (p0 18)) (C := RX11) (T := TX11) (N := 44) hx hb hts in_X11_isShown_X11 hown hK hP 0 rfl rfl 18 (by decide) (hts (.fieldLink RX11 43 "PaneDaysModel" "order" "[[I") (List.mem_of_getElem? (i := 1) rfl)) (fun _ h9 => h9) rfl dX11_isShown_15 ?_
  refine lv_iload_n hx hb dX11_isShown_18 rfl (lv_at hl 2 rfl) ?_
  obtain ⟨hr19, hf⟩ := ck_some hf
  refine ow_aald (rr := r0_18) hx hb hK hP 1 rfl hr19 dX11_isShown_19 ?_
  refine lv_iconst (v := 3) hx hb dX11_isShown_20 (by decide) ?_
  refine va_iald (f := g0_18 (x2).toNatClampNeg) hx hb hK hP (3 + (x2).toNatClampNeg) 0 (gr_skip rfl (gr_head (vp_lt hr19))) rfl (vp_in_nI (n := 3) (by decide) (by decide)) dX11_isShown_21 ?_
  refine lv_icmp_ne (tgt := 29) hx hb dX11_isShown_22 (by decide) (fun hc => ?_) (fun hc => ?_)
  · replace hf := ow_f hc hf
    refine lv_iconst (v := 0) hx hb dX11_isShown_29 (by decide) ?_
    obtain rfl := Option.some.inj hf
    exact ow_retZ C0 (Or.inl rfl) hP hD hS dX11_isShown_30
  · replace hf := ow_t hc hf
    refine lv_iconst (v := 1) hx hb dX11_isShown_25 (by decide) ?_
    refine lv_goto (tgt := 30) hx hb dX11_isShown_26 (by decide) ?_
    obtain rfl := Option.some.inj hf
    exact ow_retZ C0 (Or.inr rfl) hP hD hS dX11_isShown_30
theorem in_X11_rainOn_X11 : ∀ w ∈ u_ws RX11 TX11 44, w ∈ wsX11_rainOn := fun w h => List.mem_cons_of_mem _ (List.mem_append_right _ h)
noncomputable abbrev W_X11_rainOn (cs : Nat → ClassId) (a0 : Nat) (p0 : Nat → Nat) (i0_0 : Int32) (i0_1 : Int32) (i0_2 : Int32) (i0_3 : Int32) (i0_4 : Int32) (i0_5 : Int32) (i0_6 : Int32) (i0_7 : Int32) (i0_8 : Int32) (i0_19 : Int32) (i0_20 : Int32) (i0_28 : Int32) (i0_33 : Int32) (i0_34 : Int32) (i0_35 : Int32) (i0_36 : Int32) (i0_37 : Int32) (i0_38 : Int32) (i0_39 : Int32) (i0_40 : Int32) (i0_41 : Int32) (i0_42 : Int32) (i0_43 : Int32) (v0_12 : Nat → Int32) (r0_16 : Nat → Nat) (g0_16 : Nat → Nat → Int32) : va_W := [(a0, .inr (11, [.int i0_0, .int i0_1, .int i0_2, .int i0_3, .int i0_4, .int i0_5, .int i0_6, .int i0_7, .int i0_8, .ref (p0 9), .ref (p0 10), .ref (p0 11), .ref (p0 12), .ref (p0 13), .ref (p0 14), .ref (p0 15), .ref (p0 16), .ref (p0 17), .ref (p0 18), .int i0_19, .int i0_20, .ref (p0 21), .ref (p0 22), .ref (p0 23), .ref (p0 24), .ref (p0 25), .ref (p0 26), .ref (p0 27), .int i0_28, .ref (p0 29), .ref (p0 30), .ref (p0 31), .ref (p0 32), .int i0_33, .int i0_34, .int i0_35, .int i0_36, .int i0_37, .int i0_38, .int i0_39, .int i0_40, .int i0_41, .int i0_42, .int i0_43])), (p0 12, .inl (cs 0, 6, .inl v0_12)), gOut cs (p0 16) 12 r0_16] ++ (gRow cs 12 2 r0_16 g0_16 ++ [])
noncomputable abbrev S_X11_rainOn (cs : Nat → ClassId) (a0 : Nat) (p0 : Nat → Nat) (i0_0 : Int32) (i0_1 : Int32) (i0_2 : Int32) (i0_3 : Int32) (i0_4 : Int32) (i0_5 : Int32) (i0_6 : Int32) (i0_7 : Int32) (i0_8 : Int32) (i0_19 : Int32) (i0_20 : Int32) (i0_28 : Int32) (i0_33 : Int32) (i0_34 : Int32) (i0_35 : Int32) (i0_36 : Int32) (i0_37 : Int32) (i0_38 : Int32) (i0_39 : Int32) (i0_40 : Int32) (i0_41 : Int32) (i0_42 : Int32) (i0_43 : Int32) (v0_12 : Nat → Int32) (r0_16 : Nat → Nat) (g0_16 : Nat → Nat → Int32) : List va_W := [[(a0, .inr (11, [.int i0_0, .int i0_1, .int i0_2, .int i0_3, .int i0_4, .int i0_5, .int i0_6, .int i0_7, .int i0_8, .ref (p0 9), .ref (p0 10), .ref (p0 11), .ref (p0 12), .ref (p0 13), .ref (p0 14), .ref (p0 15), .ref (p0 16), .ref (p0 17), .ref (p0 18), .int i0_19, .int i0_20, .ref (p0 21), .ref (p0 22), .ref (p0 23), .ref (p0 24), .ref (p0 25), .ref (p0 26), .ref (p0 27), .int i0_28, .ref (p0 29), .ref (p0 30), .ref (p0 31), .ref (p0 32), .int i0_33, .int i0_34, .int i0_35, .int i0_36, .int i0_37, .int i0_38, .int i0_39, .int i0_40, .int i0_41, .int i0_42, .int i0_43]))], [(p0 12, .inl (cs 0, 6, .inl v0_12))], [gOut cs (p0 16) 12 r0_16], gRow cs 12 2 r0_16 g0_16]
abbrev rm_X11_rainOn : Room := { frames := 0, cells := 0, slots := 0, locals := 0 }
def f_X11_rainOn_b39  (v0_12 : Nat → Int32) (g0_16 : Nat → Nat → Int32) (k4 : Int32 → Int32 → Int32 → Option (Int32))  (x1 : Int32) (x3 : Int32) (t0 : Int32) (t1 : Int32) : Option (Int32) := k4 x1 (t0 + t1) (x3 + 1)
set_option maxHeartbeats 4000000 in
set_option maxRecDepth 100000 in
theorem w_X11_rainOn_b39 {p : Program} {l : Launch} {e : Env} {s : State} {m : MethodId} {below : List Frame} {meth : Method} {c : Code} {D : va_G} {cs : Nat → ClassId} {av : Array Value} {w0 : va_W} (C0 : Cx p s m meth c av wsX11_rainOn cX11_rainOn 4 (some .int) RX11 D cs w0)  (a0 : Nat) (p0 : Nat → Nat) (i0_0 : Int32) (i0_1 : Int32) (i0_2 : Int32) (i0_3 : Int32) (i0_4 : Int32) (i0_5 : Int32) (i0_6 : Int32) (i0_7 : Int32) (i0_8 : Int32) (i0_19 : Int32) (i0_20 : Int32) (i0_28 : Int32) (i0_33 : Int32) (i0_34 : Int32) (i0_35 : Int32) (i0_36 : Int32) (i0_37 : Int32) (i0_38 : Int32) (i0_39 : Int32) (i0_40 : Int32) (i0_41 : Int32) (i0_42 : Int32) (i0_43 : Int32) (v0_12 : Nat → Int32) (r0_16 : Nat → Nat) (g0_16 : Nat → Nat → Int32) (res : Int32) (k4 : Int32 → Int32 → Int32 → Option (Int32)) (hk4 : ∀ (x1 : Int32) (x2 : Int32) (x3 : Int32), k4 x1 x2 x3 = some res → ∀ (H : Heap) (locs : List Loc) (ls : Array Slot), va_P D vwCl (W_X11_rainOn cs a0 p0 i0_0 i0_1 i0_2 i0_3 i0_4 i0_5 i0_6 i0_7 i0_8 i0_19 i0_20 i0_28 i0_33 i0_34 i0_35 i0_36 i0_37 i0_38 i0_39 i0_40 i0_41 i0_42 i0_43 v0_12 r0_16 g0_16) H → va_D (va_A w0 s.heap.size) (W_X11_rainOn cs a0 p0 i0_0 i0_1 i0_2 i0_3 i0_4 i0_5 i0_6 i0_7 i0_8 i0_19 i0_20 i0_28 i0_33 i0_34 i0_35 i0_36 i0_37 i0_38 i0_39 i0_40 i0_41 i0_42 i0_43 v0_12 r0_16 g0_16) → va_S (va_A w0 s.heap.size) s.heap H locs → lv_has ls 4 [(0, .ref a0), (1, .int x1), (2, .int x2), (3, .int x3)] → W p l e rm_X11_rainOn s m av below meth c H locs 0 0 (MQ below (oI D cs w0 (W_X11_rainOn cs a0 p0 i0_0 i0_1 i0_2 i0_3 i0_4 i0_5 i0_6 i0_7 i0_8 i0_19 i0_20 i0_28 i0_33 i0_34 i0_35 i0_36 i0_37 i0_38 i0_39 i0_40 i0_41 i0_42 i0_43 v0_12 r0_16 g0_16) res s.heap.size) av s 0 0 (va_A w0 s.heap.size)) (F0 m 4 ls [])) : ∀ (x1 : Int32) (x3 : Int32) (t0 : Int32) (t1 : Int32), f_X11_rainOn_b39 v0_12 g0_16 k4 x1 x3 t0 t1 = some res → ∀ (H : Heap) (locs : List Loc) (ls : Array Slot), va_P D vwCl (W_X11_rainOn cs a0 p0 i0_0 i0_1 i0_2 i0_3 i0_4 i0_5 i0_6 i0_7 i0_8 i0_19 i0_20 i0_28 i0_33 i0_34 i0_35 i0_36 i0_37 i0_38 i0_39 i0_40 i0_41 i0_42 i0_43 v0_12 r0_16 g0_16) H → va_D (va_A w0 s.heap.size) (W_X11_rainOn cs a0 p0 i0_0 i0_1 i0_2 i0_3 i0_4 i0_5 i0_6 i0_7 i0_8 i0_19 i0_20 i0_28 i0_33 i0_34 i0_35 i0_36 i0_37 i0_38 i0_39 i0_40 i0_41 i0_42 i0_43 v0_12 r0_16 g0_16) → va_S (va_A w0 s.heap.size) s.heap H locs → lv_has ls 4 [(0, .ref a0), (1, .int x1), (3, .int x3)] → W p l e rm_X11_rainOn s m av below meth c H locs 0 0 (MQ below (oI D cs w0 (W_X11_rainOn cs a0 p0 i0_0 i0_1 i0_2 i0_3 i0_4 i0_5 i0_6 i0_7 i0_8 i0_19 i0_20 i0_28 i0_33 i0_34 i0_35 i0_36 i0_37 i0_38 i0_39 i0_40 i0_41 i0_42 i0_43 v0_12 r0_16 g0_16) res s.heap.size) av s 0 0 (va_A w0 s.heap.size)) (F0 m 39 ls [.int t1, .int t0]) := by
  obtain ⟨hx, hb, hr, hlk, hml, hown, hts, hK, hG, hE⟩ := id C0
  intro x1 x3 t0 t1 hf H locs ls hP hD hS hl
  rw [f_X11_rainOn_b39] at hf
  refine lv_iadd hx hb dX11_rainOn_39 ?_
  refine lv_istore_n (lv' := [(2, .int (t0 + t1)), (0, .ref a0), (1, .int x1), (3, .int x3)]) hx hb dX11_rainOn_40 rfl hl (by decide) rfl (fun ls hl => ?_)
  refine lv_iinc (v := x3 + 1) (lv' := [(3, .int (x3 + 1)), (2, .int (t0 + t1)), (0, .ref a0), (1, .int x1)]) hx hb dX11_rainOn_41 hl (k := 3) rfl (ow_inc (by decide)) (by decide) rfl (fun ls hl => ?_)
  refine lv_goto (tgt := 4) hx hb dX11_rainOn_44 (by decide) ?_
  exact hk4 x1 (t0 + t1) (x3 + 1)  hf _ _ _ hP hD hS (lv_sub hl [2, 3, 1, 0] rfl)
def f_X11_rainOn_b4  (v0_12 : Nat → Int32) (g0_16 : Nat → Nat → Int32)  : Nat → Int32 → Int32 → Int32 → Option (Int32)
  | 0, _, _, _ => none
  | n + 1, x1, x2, x3 => if (v0_12 (2 : Int32).toNatClampNeg) ≤ x3 then (some (x2)) else (ck x3 12 (if ((g0_16 (x3).toNatClampNeg) (0 : Int32).toNatClampNeg) = x1 then (ck x3 12 (f_X11_rainOn_b39 v0_12 g0_16 (f_X11_rainOn_b4 v0_12 g0_16 n) x1 x3 x2 ((g0_16 (x3).toNatClampNeg) (1 : Int32).toNatClampNeg))) else (f_X11_rainOn_b39 v0_12 g0_16 (f_X11_rainOn_b4 v0_12 g0_16 n) x1 x3 x2 (0))))
set_option maxHeartbeats 4000000 in
set_option maxRecDepth 100000 in
theorem w_X11_rainOn_b4 {p : Program} {l : Launch} {e : Env} {s : State} {m : MethodId} {below : List Frame} {meth : Method} {c : Code} {D : va_G} {cs : Nat → ClassId} {av : Array Value} {w0 : va_W} (C0 : Cx p s m meth c av wsX11_rainOn cX11_rainOn 4 (some .int) RX11 D cs w0)  (a0 : Nat) (p0 : Nat → Nat) (i0_0 : Int32) (i0_1 : Int32) (i0_2 : Int32) (i0_3 : Int32) (i0_4 : Int32) (i0_5 : Int32) (i0_6 : Int32) (i0_7 : Int32) (i0_8 : Int32) (i0_19 : Int32) (i0_20 : Int32) (i0_28 : Int32) (i0_33 : Int32) (i0_34 : Int32) (i0_35 : Int32) (i0_36 : Int32) (i0_37 : Int32) (i0_38 : Int32) (i0_39 : Int32) (i0_40 : Int32) (i0_41 : Int32) (i0_42 : Int32) (i0_43 : Int32) (v0_12 : Nat → Int32) (r0_16 : Nat → Nat) (g0_16 : Nat → Nat → Int32) (res : Int32)  : ∀ (n : Nat) (x1 : Int32) (x2 : Int32) (x3 : Int32), f_X11_rainOn_b4 v0_12 g0_16 n x1 x2 x3 = some res → ∀ (H : Heap) (locs : List Loc) (ls : Array Slot), va_P D vwCl (W_X11_rainOn cs a0 p0 i0_0 i0_1 i0_2 i0_3 i0_4 i0_5 i0_6 i0_7 i0_8 i0_19 i0_20 i0_28 i0_33 i0_34 i0_35 i0_36 i0_37 i0_38 i0_39 i0_40 i0_41 i0_42 i0_43 v0_12 r0_16 g0_16) H → va_D (va_A w0 s.heap.size) (W_X11_rainOn cs a0 p0 i0_0 i0_1 i0_2 i0_3 i0_4 i0_5 i0_6 i0_7 i0_8 i0_19 i0_20 i0_28 i0_33 i0_34 i0_35 i0_36 i0_37 i0_38 i0_39 i0_40 i0_41 i0_42 i0_43 v0_12 r0_16 g0_16) → va_S (va_A w0 s.heap.size) s.heap H locs → lv_has ls 4 [(0, .ref a0), (1, .int x1), (2, .int x2), (3, .int x3)] → W p l e rm_X11_rainOn s m av below meth c H locs 0 0 (MQ below (oI D cs w0 (W_X11_rainOn cs a0 p0 i0_0 i0_1 i0_2 i0_3 i0_4 i0_5 i0_6 i0_7 i0_8 i0_19 i0_20 i0_28 i0_33 i0_34 i0_35 i0_36 i0_37 i0_38 i0_39 i0_40 i0_41 i0_42 i0_43 v0_12 r0_16 g0_16) res s.heap.size) av s 0 0 (va_A w0 s.heap.size)) (F0 m 4 ls []) := by
  obtain ⟨hx, hb, hr, hlk, hml, hown, hts, hK, hG, hE⟩ := id C0
  intro n
  induction n with
  | zero =>
    intro x1 x2 x3 hf
    rw [f_X11_rainOn_b4] at hf
    cases hf
  | succ n ih =>
    intro x1 x2 x3 hf H locs ls hP hD hS hl
    rw [f_X11_rainOn_b4] at hf
    refine lv_iload_n hx hb dX11_rainOn_4 rfl (lv_at hl 3 rfl) ?_
    refine lv_aload_n hx hb dX11_rainOn_5 rfl (lv_at hl 0 rfl) ?_
    refine va_get (D := D) (ci := 11) (v := .ref (p0 12)) (C := RX11) (T := TX11) (N := 44) hx hb hts in_X11_rainOn_X11 hown hK hP 0 rfl rfl 12 (by decide) (hts (.fieldLink RX11 23 "PaneDaysModel" "told" "[I") (List.mem_of_getElem? (i := 1) rfl)) (fun _ h9 => h9) rfl dX11_rainOn_6 ?_
    refine lv_iconst (v := 2) hx hb dX11_rainOn_9 (by decide) ?_
    refine va_iald (f := v0_12) hx hb hK hP 1 0 rfl rfl (vp_in_nI (n := 2) (by decide) (by decide)) dX11_rainOn_10 ?_
    refine lv_icmp_ge (tgt := 47) hx hb dX11_rainOn_11 (by decide) (fun hc => ?_) (fun hc => ?_)
    · replace hf := ow_t hc hf
      refine lv_iload_n hx hb dX11_rainOn_47 rfl (lv_at hl 2 rfl) ?_
      obtain rfl := Option.some.inj hf
      exact ow_retI C0 hP hD hS dX11_rainOn_48
    · replace hf := ow_f hc hf
      refine lv_iload_n hx hb dX11_rainOn_14 rfl (lv_at hl 2 rfl) ?_
      refine lv_aload_n hx hb dX11_rainOn_15 rfl (lv_at hl 0 rfl) ?_
      refine va_get (D := D) (ci := 11) (v := .ref (p0 16)) (C := RX11) (T := TX11) (N := 44) hx hb hts in_X11_rainOn_X11 hown hK hP 0 rfl rfl 16 (by decide) (hts (.fieldLink RX11 37 "PaneDaysModel" "rain" "[[I") (List.mem_of_getElem? (i := 2) rfl)) (fun _ h9 => h9) rfl dX11_rainOn_16 ?_
      refine lv_iload_n hx hb dX11_rainOn_19 rfl (lv_at hl 3 rfl) ?_
      obtain ⟨hr20, hf⟩ := ck_some hf
      refine ow_aald (rr := r0_16) hx hb hK hP 2 rfl hr20 dX11_rainOn_20 ?_
      refine lv_iconst (v := 0) hx hb dX11_rainOn_21 (by decide) ?_
      refine va_iald (f := g0_16 (x3).toNatClampNeg) hx hb hK hP (3 + (x3).toNatClampNeg) 0 (gr_skip rfl (gr_head (vp_lt hr20))) rfl (vp_in_nI (n := 0) (by decide) (by decide)) dX11_rainOn_22 ?_
      refine lv_iload_n hx hb dX11_rainOn_23 rfl (lv_at hl 1 rfl) ?_
      refine lv_icmp_ne (tgt := 38) hx hb dX11_rainOn_24 (by decide) (fun hc => ?_) (fun hc => ?_)
      · replace hf := ow_f hc hf
        refine lv_iconst (v := 0) hx hb dX11_rainOn_38 (by decide) ?_
        exact w_X11_rainOn_b39 C0 a0 p0 i0_0 i0_1 i0_2 i0_3 i0_4 i0_5 i0_6 i0_7 i0_8 i0_19 i0_20 i0_28 i0_33 i0_34 i0_35 i0_36 i0_37 i0_38 i0_39 i0_40 i0_41 i0_42 i0_43 v0_12 r0_16 g0_16 res (f_X11_rainOn_b4 v0_12 g0_16 n) ih x1 x3 x2 (0)  hf _ _ _ hP hD hS (lv_sub hl [0, 1, 3] rfl)
      · replace hf := ow_t hc hf
        refine lv_aload_n hx hb dX11_rainOn_27 rfl (lv_at hl 0 rfl) ?_
        refine va_get (D := D) (ci := 11) (v := .ref (p0 16)) (C := RX11) (T := TX11) (N := 44) hx hb hts in_X11_rainOn_X11 hown hK hP 0 rfl rfl 16 (by decide) (hts (.fieldLink RX11 37 "PaneDaysModel" "rain" "[[I") (List.mem_of_getElem? (i := 2) rfl)) (fun _ h9 => h9) rfl dX11_rainOn_28 ?_
        refine lv_iload_n hx hb dX11_rainOn_31 rfl (lv_at hl 3 rfl) ?_
        obtain ⟨hr32, hf⟩ := ck_some hf
        refine ow_aald (rr := r0_16) hx hb hK hP 2 rfl hr32 dX11_rainOn_32 ?_
        refine lv_iconst (v := 1) hx hb dX11_rainOn_33 (by decide) ?_
        refine va_iald (f := g0_16 (x3).toNatClampNeg) hx hb hK hP (3 + (x3).toNatClampNeg) 0 (gr_skip rfl (gr_head (vp_lt hr32))) rfl (vp_in_nI (n := 1) (by decide) (by decide)) dX11_rainOn_34 ?_
        refine lv_goto (tgt := 39) hx hb dX11_rainOn_35 (by decide) ?_
        exact w_X11_rainOn_b39 C0 a0 p0 i0_0 i0_1 i0_2 i0_3 i0_4 i0_5 i0_6 i0_7 i0_8 i0_19 i0_20 i0_28 i0_33 i0_34 i0_35 i0_36 i0_37 i0_38 i0_39 i0_40 i0_41 i0_42 i0_43 v0_12 r0_16 g0_16 res (f_X11_rainOn_b4 v0_12 g0_16 n) ih x1 x3 x2 ((g0_16 (x3).toNatClampNeg) (1 : Int32).toNatClampNeg)  hf _ _ _ hP hD hS (lv_sub hl [0, 1, 3] rfl)
def f_X11_rainOn  (v0_12 : Nat → Int32) (g0_16 : Nat → Nat → Int32) (x1 : Int32) : Option (Int32) := f_X11_rainOn_b4 v0_12 g0_16 4000 x1 (0) (0)
set_option maxHeartbeats 4000000 in
set_option maxRecDepth 100000 in
theorem c_X11_rainOn (l : Launch) (D : va_G) (cs : Nat → ClassId)  (sz : Nat) (a0 : Nat) (p0 : Nat → Nat) (i0_0 : Int32) (i0_1 : Int32) (i0_2 : Int32) (i0_3 : Int32) (i0_4 : Int32) (i0_5 : Int32) (i0_6 : Int32) (i0_7 : Int32) (i0_8 : Int32) (i0_19 : Int32) (i0_20 : Int32) (i0_28 : Int32) (i0_33 : Int32) (i0_34 : Int32) (i0_35 : Int32) (i0_36 : Int32) (i0_37 : Int32) (i0_38 : Int32) (i0_39 : Int32) (i0_40 : Int32) (i0_41 : Int32) (i0_42 : Int32) (i0_43 : Int32) (v0_12 : Nat → Int32) (r0_16 : Nat → Nat) (g0_16 : Nat → Nat → Int32) (x1 : Int32) (res : Int32) (hf : f_X11_rainOn  v0_12 g0_16 x1 = some res) : MI l D cs yX11_rainOn wsX11_rainOn rm_X11_rainOn [.ref a0, .int x1] sz (W_X11_rainOn cs a0 p0 i0_0 i0_1 i0_2 i0_3 i0_4 i0_5 i0_6 i0_7 i0_8 i0_19 i0_20 i0_28 i0_33 i0_34 i0_35 i0_36 i0_37 i0_38 i0_39 i0_40 i0_41 i0_42 i0_43 v0_12 r0_16 g0_16) (W_X11_rainOn cs a0 p0 i0_0 i0_1 i0_2 i0_3 i0_4 i0_5 i0_6 i0_7 i0_8 i0_19 i0_20 i0_28 i0_33 i0_34 i0_35 i0_36 i0_37 i0_38 i0_39 i0_40 i0_41 i0_42 i0_43 v0_12 r0_16 g0_16) res := by
  rw [f_X11_rainOn] at hf
  refine ow_enter (cc := cX11_rainOn) (nL := 4) (ret := (some .int)) (by decide) rfl (Nat.le_of_ble_eq_true rfl) (fun p e s m below meth c ls H locs C0 hP hD hS hA hl => ?_)
  obtain ⟨hx, hb, hr, hlk, hml, hown, hts, hK, hG, hE⟩ := id C0
  have hl : lv_has ls 4 [(0, .ref a0), (1, .int x1)] := hl
  refine lv_iconst (v := 0) hx hb dX11_rainOn_0 (by decide) ?_
  refine lv_istore_n (lv' := [(2, .int 0), (0, .ref a0), (1, .int x1)]) hx hb dX11_rainOn_1 rfl hl (by decide) rfl (fun ls hl => ?_)
  refine lv_iconst (v := 0) hx hb dX11_rainOn_2 (by decide) ?_
  refine lv_istore_n (lv' := [(3, .int 0), (2, .int 0), (0, .ref a0), (1, .int x1)]) hx hb dX11_rainOn_3 rfl hl (by decide) rfl (fun ls hl => ?_)
  exact w_X11_rainOn_b4 C0 a0 p0 i0_0 i0_1 i0_2 i0_3 i0_4 i0_5 i0_6 i0_7 i0_8 i0_19 i0_20 i0_28 i0_33 i0_34 i0_35 i0_36 i0_37 i0_38 i0_39 i0_40 i0_41 i0_42 i0_43 v0_12 r0_16 g0_16 res 4000 x1 (0) (0)  hf _ _ _ hP hD hS (lv_sub hl [2, 3, 1, 0] rfl)
abbrev rm_X11_less : Room := { frames := 0, cells := 0, slots := 0, locals := 0 }
def f_X11_less   (x0 : Int32) (x1 : Int32) : Option (Int32) := if x1 ≤ x0 then (some (x1)) else (some (x0))
set_option maxHeartbeats 4000000 in
set_option maxRecDepth 100000 in
theorem c_X11_less (l : Launch) (D : va_G) (cs : Nat → ClassId)  (sz : Nat)  (x0 : Int32) (x1 : Int32) (res : Int32) (hf : f_X11_less   x0 x1 = some res) : MI l D cs yX11_less wsX11_less rm_X11_less [.int x0, .int x1] sz ([] : va_W) ([] : va_W) res := by
  rw [f_X11_less] at hf
  refine ow_enter (cc := cX11_less) (nL := 2) (ret := (some .int)) (by decide) rfl (Nat.le_of_ble_eq_true rfl) (fun p e s m below meth c ls H locs C0 hP hD hS hA hl => ?_)
  obtain ⟨hx, hb, hr, hlk, hml, hown, hts, hK, hG, hE⟩ := id C0
  have hl : lv_has ls 2 [(0, .int x0), (1, .int x1)] := hl
  refine lv_iload_n hx hb dX11_less_0 rfl (lv_at hl 0 rfl) ?_
  refine lv_iload_n hx hb dX11_less_1 rfl (lv_at hl 1 rfl) ?_
  refine lv_icmp_ge (tgt := 9) hx hb dX11_less_2 (by decide) (fun hc => ?_) (fun hc => ?_)
  · replace hf := ow_t hc hf
    refine lv_iload_n hx hb dX11_less_9 rfl (lv_at hl 1 rfl) ?_
    obtain rfl := Option.some.inj hf
    exact ow_retI C0 hP hD hS dX11_less_10
  · replace hf := ow_f hc hf
    refine lv_iload_n hx hb dX11_less_5 rfl (lv_at hl 0 rfl) ?_
    refine lv_goto (tgt := 10) hx hb dX11_less_6 (by decide) ?_
    obtain rfl := Option.some.inj hf
    exact ow_retI C0 hP hD hS dX11_less_10
abbrev W_X11_takesOff (cs : Nat → ClassId) (a0 : Nat) (n0 : Nat) (v0 : Nat → Int32) : va_W := [(a0, .inl (cs 0, n0, .inl v0))]
abbrev S_X11_takesOff (cs : Nat → ClassId) (a0 : Nat) (n0 : Nat) (v0 : Nat → Int32) : List va_W := [[(a0, .inl (cs 0, n0, .inl v0))]]
abbrev rm_X11_takesOff : Room := { frames := 1, cells := 0, slots := 0, locals := 23 }
def f_X11_takesOff_b43  (n0 : Nat) (k16 : (Nat → Int32) → Int32 → Int32 → Int32 → Int32 → Option (Int32 × (Nat → Int32))) (v0 : Nat → Int32) (x1 : Int32) (x3 : Int32) (x4 : Int32) (x5 : Int32) : Option (Int32 × (Nat → Int32)) := ck (2400 + x1) n0 (ck (2400 + x1) n0 (k16 (upd v0 (2400 + x1).toNatClampNeg ((v0 (2400 + x1).toNatClampNeg) - 1)) x1 x3 x4 (x5 + 1)))
set_option maxHeartbeats 4000000 in
set_option maxRecDepth 100000 in
theorem w_X11_takesOff_b43 {p : Program} {l : Launch} {e : Env} {s : State} {m : MethodId} {below : List Frame} {meth : Method} {c : Code} {D : va_G} {cs : Nat → ClassId} {av : Array Value} {w0 : va_W} (C0 : Cx p s m meth c av wsX11_takesOff cX11_takesOff 6 (some .int) RX11 D cs w0)  (a0 : Nat) (n0 : Nat) (res : Int32 × (Nat → Int32)) (k16 : (Nat → Int32) → Int32 → Int32 → Int32 → Int32 → Option (Int32 × (Nat → Int32))) (hk16 : ∀ (v0 : Nat → Int32) (x1 : Int32) (x3 : Int32) (x4 : Int32) (x5 : Int32), k16 v0 x1 x3 x4 x5 = some res → ∀ (H : Heap) (locs : List Loc) (ls : Array Slot), va_P D vwCl (W_X11_takesOff cs a0 n0 v0) H → va_D (va_A w0 s.heap.size) (W_X11_takesOff cs a0 n0 v0) → va_S (va_A w0 s.heap.size) s.heap H locs → lv_has ls 6 [(0, .ref a0), (1, .int x1), (3, .int x3), (4, .int x4), (5, .int x5)] → W p l e rm_X11_takesOff s m av below meth c H locs 0 0 (MQ below (oI D cs w0 (W_X11_takesOff cs a0 n0 res.2) res.1 s.heap.size) av s 0 0 (va_A w0 s.heap.size)) (F0 m 16 ls [])) : ∀ (v0 : Nat → Int32) (x1 : Int32) (x3 : Int32) (x4 : Int32) (x5 : Int32), f_X11_takesOff_b43 n0 k16 v0 x1 x3 x4 x5 = some res → ∀ (H : Heap) (locs : List Loc) (ls : Array Slot), va_P D vwCl (W_X11_takesOff cs a0 n0 v0) H → va_D (va_A w0 s.heap.size) (W_X11_takesOff cs a0 n0 v0) → va_S (va_A w0 s.heap.size) s.heap H locs → lv_has ls 6 [(0, .ref a0), (1, .int x1), (3, .int x3), (4, .int x4), (5, .int x5)] → W p l e rm_X11_takesOff s m av below meth c H locs 0 0 (MQ below (oI D cs w0 (W_X11_takesOff cs a0 n0 res.2) res.1 s.heap.size) av s 0 0 (va_A w0 s.heap.size)) (F0 m 43 ls []) := by
  obtain ⟨hx, hb, hr, hlk, hml, hown, hts, hK, hG, hE⟩ := id C0
  intro v0 x1 x3 x4 x5 hf H locs ls hP hD hS hl
  rw [f_X11_takesOff_b43] at hf
  refine lv_aload_n hx hb dX11_takesOff_43 rfl (lv_at hl 0 rfl) ?_
  refine lv_sipush (v := 2400) hx hb dX11_takesOff_44 (by decide) ?_
  refine lv_iload_n hx hb dX11_takesOff_47 rfl (lv_at hl 1 rfl) ?_
  refine lv_iadd hx hb dX11_takesOff_48 ?_
  refine lv_dup2_11 hx hb dX11_takesOff_49 rfl rfl ?_
  obtain ⟨hin, hf⟩ := ck_some hf
  refine va_iald (f := v0) hx hb hK hP 0 0 rfl rfl hin dX11_takesOff_50 ?_
  refine lv_iconst (v := 1) hx hb dX11_takesOff_51 (by decide) ?_
  refine lv_isub hx hb dX11_takesOff_52 ?_
  obtain ⟨hin, hf⟩ := ck_some hf
  refine va_iast (f := v0) hx hb hK hP hD hS 0 0 rfl rfl hin dX11_takesOff_53 (fun H locs (hP : va_P D vwCl (W_X11_takesOff cs a0 n0 (upd v0 (2400 + x1).toNatClampNeg ((v0 (2400 + x1).toNatClampNeg) - 1))) H) (hD : va_D _ (W_X11_takesOff cs a0 n0 (upd v0 (2400 + x1).toNatClampNeg ((v0 (2400 + x1).toNatClampNeg) - 1)))) hS => ?_)
  refine lv_iinc (v := x5 + 1) (lv' := [(5, .int (x5 + 1)), (0, .ref a0), (1, .int x1), (3, .int x3), (4, .int x4)]) hx hb dX11_takesOff_54 hl (k := 4) rfl (ow_inc (by decide)) (by decide) rfl (fun ls hl => ?_)
  refine lv_goto (tgt := 16) hx hb dX11_takesOff_57 (by decide) ?_
  exact hk16 (upd v0 (2400 + x1).toNatClampNeg ((v0 (2400 + x1).toNatClampNeg) - 1)) x1 x3 x4 (x5 + 1)  hf _ _ _ hP hD hS (lv_sub hl [1, 2, 3, 4, 0] rfl)
def f_X11_takesOff_b16  (n0 : Nat)  : Nat → (Nat → Int32) → Int32 → Int32 → Int32 → Int32 → Option (Int32 × (Nat → Int32))
  | 0, _, _, _, _, _ => none
  | n + 1, v0, x1, x3, x4, x5 => if x4 ≤ x5 then (some (x4, v0)) else (if x3 = 0 then (f_X11_takesOff_b43 n0 (f_X11_takesOff_b16 n0 n) v0 x1 x3 x4 x5) else ((f_X11_filmOf n0 v0 x1 (0)).bind fun q34 => ck (2480 + q34) n0 (ck (2480 + q34) n0 (f_X11_takesOff_b43 n0 (f_X11_takesOff_b16 n0 n) (upd v0 (2480 + q34).toNatClampNeg ((v0 (2480 + q34).toNatClampNeg) + 1)) x1 x3 x4 x5))))
set_option maxHeartbeats 4000000 in
set_option maxRecDepth 100000 in
theorem w_X11_takesOff_b16 {p : Program} {l : Launch} {e : Env} {s : State} {m : MethodId} {below : List Frame} {meth : Method} {c : Code} {D : va_G} {cs : Nat → ClassId} {av : Array Value} {w0 : va_W} (C0 : Cx p s m meth c av wsX11_takesOff cX11_takesOff 6 (some .int) RX11 D cs w0)  (a0 : Nat) (n0 : Nat) (res : Int32 × (Nat → Int32))  : ∀ (n : Nat) (v0 : Nat → Int32) (x1 : Int32) (x3 : Int32) (x4 : Int32) (x5 : Int32), f_X11_takesOff_b16 n0 n v0 x1 x3 x4 x5 = some res → ∀ (H : Heap) (locs : List Loc) (ls : Array Slot), va_P D vwCl (W_X11_takesOff cs a0 n0 v0) H → va_D (va_A w0 s.heap.size) (W_X11_takesOff cs a0 n0 v0) → va_S (va_A w0 s.heap.size) s.heap H locs → lv_has ls 6 [(0, .ref a0), (1, .int x1), (3, .int x3), (4, .int x4), (5, .int x5)] → W p l e rm_X11_takesOff s m av below meth c H locs 0 0 (MQ below (oI D cs w0 (W_X11_takesOff cs a0 n0 res.2) res.1 s.heap.size) av s 0 0 (va_A w0 s.heap.size)) (F0 m 16 ls []) := by
  obtain ⟨hx, hb, hr, hlk, hml, hown, hts, hK, hG, hE⟩ := id C0
  intro n
  induction n with
  | zero =>
    intro v0 x1 x3 x4 x5 hf
    rw [f_X11_takesOff_b16] at hf
    cases hf
  | succ n ih =>
    intro v0 x1 x3 x4 x5 hf H locs ls hP hD hS hl
    rw [f_X11_takesOff_b16] at hf
    refine lv_iload hx hb dX11_takesOff_16 (lv_at hl 4 rfl) ?_
    refine lv_iload hx hb dX11_takesOff_18 (lv_at hl 3 rfl) ?_
    refine lv_icmp_ge (tgt := 60) hx hb dX11_takesOff_20 (by decide) (fun hc => ?_) (fun hc => ?_)
    · replace hf := ow_t hc hf
      refine lv_iload hx hb dX11_takesOff_60 (lv_at hl 3 rfl) ?_
      obtain rfl := Option.some.inj hf
      exact ow_retI C0 hP hD hS dX11_takesOff_62
    · replace hf := ow_f hc hf
      refine lv_iload_n hx hb dX11_takesOff_23 rfl (lv_at hl 2 rfl) ?_
      refine lv_if_eq (tgt := 43) hx hb dX11_takesOff_24 (by decide) (fun hc => ?_) (fun hc => ?_)
      · replace hf := ow_t hc hf
        exact w_X11_takesOff_b43 C0 a0 n0 res (f_X11_takesOff_b16 n0 n) ih v0 x1 x3 x4 x5  hf _ _ _ hP hD hS (lv_sub hl [0, 1, 2, 3, 4] rfl)
      · replace hf := ow_f hc hf
        refine lv_aload_n hx hb dX11_takesOff_27 rfl (lv_at hl 0 rfl) ?_
        refine lv_sipush (v := 2480) hx hb dX11_takesOff_28 (by decide) ?_
        refine lv_aload_n hx hb dX11_takesOff_31 rfl (lv_at hl 0 rfl) ?_
        refine lv_iload_n hx hb dX11_takesOff_32 rfl (lv_at hl 1 rfl) ?_
        refine lv_iconst (v := 0) hx hb dX11_takesOff_33 (by decide) ?_
        obtain ⟨q34, hq, hf⟩ := bd_some hf
        refine ow_gSI (As := [.ref a0, .int x1, .int 0]) (rest := [.int 2480, .ref a0]) (sg := (S_X11_takesOff cs a0 n0 v0)) (sc := (S_X11_filmOf cs a0 n0 v0)) (sc' := (S_X11_filmOf cs a0 n0 v0)) (sr := ow_pks (S_X11_takesOff cs a0 n0 v0) []) (sf := (S_X11_takesOff cs a0 n0 v0)) (r := q34) C0 (c_X11_filmOf l D cs H.size a0 n0 v0 x1 (0) q34 hq) (va_cwS 3 hts gX11_takesOff_X11_filmOf rfl rfl rfl (by decide +kernel) ⟨Nat.le_of_ble_eq_true rfl, Nat.le_of_ble_eq_true rfl⟩) hP hD hS (sg_permL [0] [] 1 rfl (by decide) rfl rfl) (sg_permG [0] 1 rfl (by decide) rfl) rfl hl.1 rfl (Nat.le_of_ble_eq_true rfl) ⟨Nat.zero_le _, Nat.zero_le _⟩ dX11_takesOff_34 (fun H locs (hP : va_P D vwCl (W_X11_takesOff cs a0 n0 v0) H) (hD : va_D _ (W_X11_takesOff cs a0 n0 v0)) hS => ?_)
        refine lv_iadd hx hb dX11_takesOff_37 ?_
        refine lv_dup2_11 hx hb dX11_takesOff_38 rfl rfl ?_
        obtain ⟨hin, hf⟩ := ck_some hf
        refine va_iald (f := v0) hx hb hK hP 0 0 rfl rfl hin dX11_takesOff_39 ?_
        refine lv_iconst (v := 1) hx hb dX11_takesOff_40 (by decide) ?_
        refine lv_iadd hx hb dX11_takesOff_41 ?_
        obtain ⟨hin, hf⟩ := ck_some hf
        refine va_iast (f := v0) hx hb hK hP hD hS 0 0 rfl rfl hin dX11_takesOff_42 (fun H locs (hP : va_P D vwCl (W_X11_takesOff cs a0 n0 (upd v0 (2480 + q34).toNatClampNeg ((v0 (2480 + q34).toNatClampNeg) + 1))) H) (hD : va_D _ (W_X11_takesOff cs a0 n0 (upd v0 (2480 + q34).toNatClampNeg ((v0 (2480 + q34).toNatClampNeg) + 1)))) hS => ?_)
        exact w_X11_takesOff_b43 C0 a0 n0 res (f_X11_takesOff_b16 n0 n) ih (upd v0 (2480 + q34).toNatClampNeg ((v0 (2480 + q34).toNatClampNeg) + 1)) x1 x3 x4 x5  hf _ _ _ hP hD hS (lv_sub hl [0, 1, 2, 3, 4] rfl)
def f_X11_takesOff  (n0 : Nat) (v0 : Nat → Int32) (x1 : Int32) (x2 : Int32) (x3 : Int32) : Option (Int32 × (Nat → Int32)) := ck (2400 + x1) n0 ((f_X11_less x2 (v0 (2400 + x1).toNatClampNeg)).bind fun q8 => f_X11_takesOff_b16 n0 4000 v0 x1 x3 q8 (0))
set_option maxHeartbeats 4000000 in
set_option maxRecDepth 100000 in
theorem c_X11_takesOff (l : Launch) (D : va_G) (cs : Nat → ClassId)  (sz : Nat) (a0 : Nat) (n0 : Nat) (v0 : Nat → Int32) (x1 : Int32) (x2 : Int32) (x3 : Int32) (res : Int32 × (Nat → Int32)) (hf : f_X11_takesOff  n0 v0 x1 x2 x3 = some res) : MI l D cs yX11_takesOff wsX11_takesOff rm_X11_takesOff [.ref a0, .int x1, .int x2, .int x3] sz (W_X11_takesOff cs a0 n0 v0) (W_X11_takesOff cs a0 n0 res.2) res.1 := by
  rw [f_X11_takesOff] at hf
  refine ow_enter (cc := cX11_takesOff) (nL := 6) (ret := (some .int)) (by decide) rfl (Nat.le_of_ble_eq_true rfl) (fun p e s m below meth c ls H locs C0 hP hD hS hA hl => ?_)
  obtain ⟨hx, hb, hr, hlk, hml, hown, hts, hK, hG, hE⟩ := id C0
  have hl : lv_has ls 6 [(0, .ref a0), (1, .int x1), (2, .int x2), (3, .int x3)] := hl
  refine lv_iload_n hx hb dX11_takesOff_0 rfl (lv_at hl 2 rfl) ?_
  refine lv_aload_n hx hb dX11_takesOff_1 rfl (lv_at hl 0 rfl) ?_
  refine lv_sipush (v := 2400) hx hb dX11_takesOff_2 (by decide) ?_
  refine lv_iload_n hx hb dX11_takesOff_5 rfl (lv_at hl 1 rfl) ?_
  refine lv_iadd hx hb dX11_takesOff_6 ?_
  obtain ⟨hin, hf⟩ := ck_some hf
  refine va_iald (f := v0) hx hb hK hP 0 0 rfl rfl hin dX11_takesOff_7 ?_
  obtain ⟨q8, hq, hf⟩ := bd_some hf
  refine ow_gSI (As := [.int x2, .int (v0 (2400 + x1).toNatClampNeg)]) (rest := []) (sg := (S_X11_takesOff cs a0 n0 v0)) (sc := ([] : List va_W)) (sc' := ([] : List va_W)) (sr := ow_pks (S_X11_takesOff cs a0 n0 v0) [0]) (sf := (S_X11_takesOff cs a0 n0 v0)) (r := q8) C0 (c_X11_less l D cs H.size  x2 (v0 (2400 + x1).toNatClampNeg) q8 hq) (va_cwS 2 hts gX11_takesOff_X11_less rfl rfl rfl (by decide +kernel) ⟨Nat.le_of_ble_eq_true rfl, Nat.le_of_ble_eq_true rfl⟩) hP hD hS (sg_permL [] [0] 1 rfl (by decide) rfl rfl) (sg_permG [0] 1 rfl (by decide) rfl) rfl hl.1 rfl (Nat.le_of_ble_eq_true rfl) ⟨Nat.zero_le _, Nat.zero_le _⟩ dX11_takesOff_8 (fun H locs (hP : va_P D vwCl (W_X11_takesOff cs a0 n0 v0) H) (hD : va_D _ (W_X11_takesOff cs a0 n0 v0)) hS => ?_)
  refine lv_istore (lv' := [(4, .int q8), (0, .ref a0), (1, .int x1), (2, .int x2), (3, .int x3)]) hx hb dX11_takesOff_11 hl (by decide) rfl (fun ls hl => ?_)
  refine lv_iconst (v := 0) hx hb dX11_takesOff_13 (by decide) ?_
  refine lv_istore (lv' := [(5, .int 0), (4, .int q8), (0, .ref a0), (1, .int x1), (2, .int x2), (3, .int x3)]) hx hb dX11_takesOff_14 hl (by decide) rfl (fun ls hl => ?_)
  exact w_X11_takesOff_b16 C0 a0 n0 res 4000 v0 x1 x3 q8 (0)  hf _ _ _ hP hD hS (lv_sub hl [2, 3, 5, 1, 0] rfl)
theorem in_X11_isCell_X11 : ∀ w ∈ u_ws RX11 TX11 44, w ∈ wsX11_isCell := fun w h => List.mem_cons_of_mem _ (List.mem_append_right _ h)
noncomputable abbrev W_X11_isCell (cs : Nat → ClassId) (a0 : Nat) (p0 : Nat → Nat) (i0_0 : Int32) (i0_1 : Int32) (i0_2 : Int32) (i0_3 : Int32) (i0_4 : Int32) (i0_5 : Int32) (i0_6 : Int32) (i0_7 : Int32) (i0_8 : Int32) (i0_19 : Int32) (i0_20 : Int32) (i0_28 : Int32) (i0_33 : Int32) (i0_34 : Int32) (i0_35 : Int32) (i0_36 : Int32) (i0_37 : Int32) (i0_38 : Int32) (i0_39 : Int32) (i0_40 : Int32) (i0_41 : Int32) (i0_42 : Int32) (i0_43 : Int32) (r0_14 : Nat → Nat) (g0_14 : Nat → Nat → Int32) : va_W := [(a0, .inr (11, [.int i0_0, .int i0_1, .int i0_2, .int i0_3, .int i0_4, .int i0_5, .int i0_6, .int i0_7, .int i0_8, .ref (p0 9), .ref (p0 10), .ref (p0 11), .ref (p0 12), .ref (p0 13), .ref (p0 14), .ref (p0 15), .ref (p0 16), .ref (p0 17), .ref (p0 18), .int i0_19, .int i0_20, .ref (p0 21), .ref (p0 22), .ref (p0 23), .ref (p0 24), .ref (p0 25), .ref (p0 26), .ref (p0 27), .int i0_28, .ref (p0 29), .ref (p0 30), .ref (p0 31), .ref (p0 32), .int i0_33, .int i0_34, .int i0_35, .int i0_36, .int i0_37, .int i0_38, .int i0_39, .int i0_40, .int i0_41, .int i0_42, .int i0_43])), gOut cs (p0 14) 5 r0_14] ++ (gRow cs 5 4 r0_14 g0_14 ++ [])
noncomputable abbrev S_X11_isCell (cs : Nat → ClassId) (a0 : Nat) (p0 : Nat → Nat) (i0_0 : Int32) (i0_1 : Int32) (i0_2 : Int32) (i0_3 : Int32) (i0_4 : Int32) (i0_5 : Int32) (i0_6 : Int32) (i0_7 : Int32) (i0_8 : Int32) (i0_19 : Int32) (i0_20 : Int32) (i0_28 : Int32) (i0_33 : Int32) (i0_34 : Int32) (i0_35 : Int32) (i0_36 : Int32) (i0_37 : Int32) (i0_38 : Int32) (i0_39 : Int32) (i0_40 : Int32) (i0_41 : Int32) (i0_42 : Int32) (i0_43 : Int32) (r0_14 : Nat → Nat) (g0_14 : Nat → Nat → Int32) : List va_W := [[(a0, .inr (11, [.int i0_0, .int i0_1, .int i0_2, .int i0_3, .int i0_4, .int i0_5, .int i0_6, .int i0_7, .int i0_8, .ref (p0 9), .ref (p0 10), .ref (p0 11), .ref (p0 12), .ref (p0 13), .ref (p0 14), .ref (p0 15), .ref (p0 16), .ref (p0 17), .ref (p0 18), .int i0_19, .int i0_20, .ref (p0 21), .ref (p0 22), .ref (p0 23), .ref (p0 24), .ref (p0 25), .ref (p0 26), .ref (p0 27), .int i0_28, .ref (p0 29), .ref (p0 30), .ref (p0 31), .ref (p0 32), .int i0_33, .int i0_34, .int i0_35, .int i0_36, .int i0_37, .int i0_38, .int i0_39, .int i0_40, .int i0_41, .int i0_42, .int i0_43]))], [gOut cs (p0 14) 5 r0_14], gRow cs 5 4 r0_14 g0_14]
abbrev rm_X11_isCell : Room := { frames := 1, cells := 0, slots := 0, locals := 22 }
def f_X11_isCell  (g0_14 : Nat → Nat → Int32) (x1 : Int32) (x2 : Int32) (x3 : Int32) : Option (Int32) := ck x1 5 ((f_X11_in x2 (0) (((g0_14 (x1).toNatClampNeg) (0 : Int32).toNatClampNeg) - 1)).bind fun q12 => if q12 = 0 then (some (0)) else (ck x1 5 ((f_X11_in x3 (0) (((g0_14 (x1).toNatClampNeg) (1 : Int32).toNatClampNeg) - 1)).bind fun q30 => if q30 = 0 then (some (0)) else (some (1)))))
set_option maxHeartbeats 4000000 in
set_option maxRecDepth 100000 in
theorem c_X11_isCell (l : Launch) (D : va_G) (cs : Nat → ClassId)  (sz : Nat) (a0 : Nat) (p0 : Nat → Nat) (i0_0 : Int32) (i0_1 : Int32) (i0_2 : Int32) (i0_3 : Int32) (i0_4 : Int32) (i0_5 : Int32) (i0_6 : Int32) (i0_7 : Int32) (i0_8 : Int32) (i0_19 : Int32) (i0_20 : Int32) (i0_28 : Int32) (i0_33 : Int32) (i0_34 : Int32) (i0_35 : Int32) (i0_36 : Int32) (i0_37 : Int32) (i0_38 : Int32) (i0_39 : Int32) (i0_40 : Int32) (i0_41 : Int32) (i0_42 : Int32) (i0_43 : Int32) (r0_14 : Nat → Nat) (g0_14 : Nat → Nat → Int32) (x1 : Int32) (x2 : Int32) (x3 : Int32) (res : Int32) (hf : f_X11_isCell  g0_14 x1 x2 x3 = some res) : MI l D cs yX11_isCell wsX11_isCell rm_X11_isCell [.ref a0, .int x1, .int x2, .int x3] sz (W_X11_isCell cs a0 p0 i0_0 i0_1 i0_2 i0_3 i0_4 i0_5 i0_6 i0_7 i0_8 i0_19 i0_20 i0_28 i0_33 i0_34 i0_35 i0_36 i0_37 i0_38 i0_39 i0_40 i0_41 i0_42 i0_43 r0_14 g0_14) (W_X11_isCell cs a0 p0 i0_0 i0_1 i0_2 i0_3 i0_4 i0_5 i0_6 i0_7 i0_8 i0_19 i0_20 i0_28 i0_33 i0_34 i0_35 i0_36 i0_37 i0_38 i0_39 i0_40 i0_41 i0_42 i0_43 r0_14 g0_14) res := by
  rw [f_X11_isCell] at hf
  refine ow_enter (cc := cX11_isCell) (nL := 4) (ret := (some .boolean)) (by decide) rfl (Nat.le_of_ble_eq_true rfl) (fun p e s m below meth c ls H locs C0 hP hD hS hA hl => ?_)
  obtain ⟨hx, hb, hr, hlk, hml, hown, hts, hK, hG, hE⟩ := id C0
  have hl : lv_has ls 4 [(0, .ref a0), (1, .int x1), (2, .int x2), (3, .int x3)] := hl
  refine lv_iload_n hx hb dX11_isCell_0 rfl (lv_at hl 2 rfl) ?_
  refine lv_iconst (v := 0) hx hb dX11_isCell_1 (by decide) ?_
  refine lv_aload_n hx hb dX11_isCell_2 rfl (lv_at hl 0 rfl) ?_
  refine va_get (D := D) (ci := 11) (v := .ref (p0 14)) (C := RX11) (T := TX11) (N := 44) hx hb hts in_X11_isCell_X11 hown hK hP 0 rfl rfl 14 (by decide) (hts (.fieldLink RX11 31 "PaneDaysModel" "pane" "[[I") (List.mem_of_getElem? (i := 1) rfl)) (fun _ h9 => h9) rfl dX11_isCell_3 ?_
  refine lv_iload_n hx hb dX11_isCell_6 rfl (lv_at hl 1 rfl) ?_
  obtain ⟨hr7, hf⟩ := ck_some hf
  refine ow_aald (rr := r0_14) hx hb hK hP 1 rfl hr7 dX11_isCell_7 ?_
  refine lv_iconst (v := 0) hx hb dX11_isCell_8 (by decide) ?_
  refine va_iald (f := g0_14 (x1).toNatClampNeg) hx hb hK hP (2 + (x1).toNatClampNeg) 0 (gr_skip rfl (gr_head (vp_lt hr7))) rfl (vp_in_nI (n := 0) (by decide) (by decide)) dX11_isCell_9 ?_
  refine lv_iconst (v := 1) hx hb dX11_isCell_10 (by decide) ?_
  refine lv_isub hx hb dX11_isCell_11 ?_
  obtain ⟨q12, hq, hf⟩ := bd_some hf
  refine ow_gSI (As := [.int x2, .int 0, .int (((g0_14 (x1).toNatClampNeg) (0 : Int32).toNatClampNeg) - 1)]) (rest := []) (sg := (S_X11_isCell cs a0 p0 i0_0 i0_1 i0_2 i0_3 i0_4 i0_5 i0_6 i0_7 i0_8 i0_19 i0_20 i0_28 i0_33 i0_34 i0_35 i0_36 i0_37 i0_38 i0_39 i0_40 i0_41 i0_42 i0_43 r0_14 g0_14)) (sc := ([] : List va_W)) (sc' := ([] : List va_W)) (sr := ow_pks (S_X11_isCell cs a0 p0 i0_0 i0_1 i0_2 i0_3 i0_4 i0_5 i0_6 i0_7 i0_8 i0_19 i0_20 i0_28 i0_33 i0_34 i0_35 i0_36 i0_37 i0_38 i0_39 i0_40 i0_41 i0_42 i0_43 r0_14 g0_14) [0, 1, 2]) (sf := (S_X11_isCell cs a0 p0 i0_0 i0_1 i0_2 i0_3 i0_4 i0_5 i0_6 i0_7 i0_8 i0_19 i0_20 i0_28 i0_33 i0_34 i0_35 i0_36 i0_37 i0_38 i0_39 i0_40 i0_41 i0_42 i0_43 r0_14 g0_14)) (r := q12) C0 (c_X11_in l D cs H.size  x2 (0) (((g0_14 (x1).toNatClampNeg) (0 : Int32).toNatClampNeg) - 1) q12 hq) (va_cwS 3 hts gX11_isCell_X11_in rfl rfl rfl (by decide +kernel) ⟨Nat.le_of_ble_eq_true rfl, Nat.le_of_ble_eq_true rfl⟩) hP hD hS (sg_permL [] [0, 1, 2] 3 rfl (by decide) rfl rfl) (sg_permG [0, 1, 2] 3 rfl (by decide) rfl) rfl hl.1 rfl (Nat.le_of_ble_eq_true rfl) ⟨Nat.zero_le _, Nat.zero_le _⟩ dX11_isCell_12 (fun H locs (hP : va_P D vwCl (W_X11_isCell cs a0 p0 i0_0 i0_1 i0_2 i0_3 i0_4 i0_5 i0_6 i0_7 i0_8 i0_19 i0_20 i0_28 i0_33 i0_34 i0_35 i0_36 i0_37 i0_38 i0_39 i0_40 i0_41 i0_42 i0_43 r0_14 g0_14) H) (hD : va_D _ (W_X11_isCell cs a0 p0 i0_0 i0_1 i0_2 i0_3 i0_4 i0_5 i0_6 i0_7 i0_8 i0_19 i0_20 i0_28 i0_33 i0_34 i0_35 i0_36 i0_37 i0_38 i0_39 i0_40 i0_41 i0_42 i0_43 r0_14 g0_14)) hS => ?_)
  refine lv_if_eq (tgt := 40) hx hb dX11_isCell_15 (by decide) (fun hc => ?_) (fun hc => ?_)
  · replace hf := ow_t hc hf
    refine lv_iconst (v := 0) hx hb dX11_isCell_40 (by decide) ?_
    obtain rfl := Option.some.inj hf
    exact ow_retZ C0 (Or.inl rfl) hP hD hS dX11_isCell_41
  · replace hf := ow_f hc hf
    refine lv_iload_n hx hb dX11_isCell_18 rfl (lv_at hl 3 rfl) ?_
    refine lv_iconst (v := 0) hx hb dX11_isCell_19 (by decide) ?_
    refine lv_aload_n hx hb dX11_isCell_20 rfl (lv_at hl 0 rfl) ?_
    refine va_get (D := D) (ci := 11) (v := .ref (p0 14)) (C := RX11) (T := TX11) (N := 44) hx hb hts in_X11_isCell_X11 hown hK hP 0 rfl rfl 14 (by decide) (hts (.fieldLink RX11 31 "PaneDaysModel" "pane" "[[I") (List.mem_of_getElem? (i := 1) rfl)) (fun _ h9 => h9) rfl dX11_isCell_21 ?_
    refine lv_iload_n hx hb dX11_isCell_24 rfl (lv_at hl 1 rfl) ?_
    obtain ⟨hr25, hf⟩ := ck_some hf
    refine ow_aald (rr := r0_14) hx hb hK hP 1 rfl hr25 dX11_isCell_25 ?_
    refine lv_iconst (v := 1) hx hb dX11_isCell_26 (by decide) ?_
    refine va_iald (f := g0_14 (x1).toNatClampNeg) hx hb hK hP (2 + (x1).toNatClampNeg) 0 (gr_skip rfl (gr_head (vp_lt hr25))) rfl (vp_in_nI (n := 1) (by decide) (by decide)) dX11_isCell_27 ?_
    refine lv_iconst (v := 1) hx hb dX11_isCell_28 (by decide) ?_
    refine lv_isub hx hb dX11_isCell_29 ?_
    obtain ⟨q30, hq, hf⟩ := bd_some hf
    refine ow_gSI (As := [.int x3, .int 0, .int (((g0_14 (x1).toNatClampNeg) (1 : Int32).toNatClampNeg) - 1)]) (rest := []) (sg := (S_X11_isCell cs a0 p0 i0_0 i0_1 i0_2 i0_3 i0_4 i0_5 i0_6 i0_7 i0_8 i0_19 i0_20 i0_28 i0_33 i0_34 i0_35 i0_36 i0_37 i0_38 i0_39 i0_40 i0_41 i0_42 i0_43 r0_14 g0_14)) (sc := ([] : List va_W)) (sc' := ([] : List va_W)) (sr := ow_pks (S_X11_isCell cs a0 p0 i0_0 i0_1 i0_2 i0_3 i0_4 i0_5 i0_6 i0_7 i0_8 i0_19 i0_20 i0_28 i0_33 i0_34 i0_35 i0_36 i0_37 i0_38 i0_39 i0_40 i0_41 i0_42 i0_43 r0_14 g0_14) [0, 1, 2]) (sf := (S_X11_isCell cs a0 p0 i0_0 i0_1 i0_2 i0_3 i0_4 i0_5 i0_6 i0_7 i0_8 i0_19 i0_20 i0_28 i0_33 i0_34 i0_35 i0_36 i0_37 i0_38 i0_39 i0_40 i0_41 i0_42 i0_43 r0_14 g0_14)) (r := q30) C0 (c_X11_in l D cs H.size  x3 (0) (((g0_14 (x1).toNatClampNeg) (1 : Int32).toNatClampNeg) - 1) q30 hq) (va_cwS 3 hts gX11_isCell_X11_in rfl rfl rfl (by decide +kernel) ⟨Nat.le_of_ble_eq_true rfl, Nat.le_of_ble_eq_true rfl⟩) hP hD hS (sg_permL [] [0, 1, 2] 3 rfl (by decide) rfl rfl) (sg_permG [0, 1, 2] 3 rfl (by decide) rfl) rfl hl.1 rfl (Nat.le_of_ble_eq_true rfl) ⟨Nat.zero_le _, Nat.zero_le _⟩ dX11_isCell_30 (fun H locs (hP : va_P D vwCl (W_X11_isCell cs a0 p0 i0_0 i0_1 i0_2 i0_3 i0_4 i0_5 i0_6 i0_7 i0_8 i0_19 i0_20 i0_28 i0_33 i0_34 i0_35 i0_36 i0_37 i0_38 i0_39 i0_40 i0_41 i0_42 i0_43 r0_14 g0_14) H) (hD : va_D _ (W_X11_isCell cs a0 p0 i0_0 i0_1 i0_2 i0_3 i0_4 i0_5 i0_6 i0_7 i0_8 i0_19 i0_20 i0_28 i0_33 i0_34 i0_35 i0_36 i0_37 i0_38 i0_39 i0_40 i0_41 i0_42 i0_43 r0_14 g0_14)) hS => ?_)
    refine lv_if_eq (tgt := 40) hx hb dX11_isCell_33 (by decide) (fun hc => ?_) (fun hc => ?_)
    · replace hf := ow_t hc hf
      refine lv_iconst (v := 0) hx hb dX11_isCell_40 (by decide) ?_
      obtain rfl := Option.some.inj hf
      exact ow_retZ C0 (Or.inl rfl) hP hD hS dX11_isCell_41
    · replace hf := ow_f hc hf
      refine lv_iconst (v := 1) hx hb dX11_isCell_36 (by decide) ?_
      refine lv_goto (tgt := 41) hx hb dX11_isCell_37 (by decide) ?_
      obtain rfl := Option.some.inj hf
      exact ow_retZ C0 (Or.inr rfl) hP hD hS dX11_isCell_41
noncomputable abbrev W_X11_isOf (cs : Nat → ClassId) (a0 : Nat) (p0 : Nat → Nat) (i0_0 : Int32) (i0_1 : Int32) (i0_2 : Int32) (i0_3 : Int32) (i0_4 : Int32) (i0_5 : Int32) (i0_6 : Int32) (i0_7 : Int32) (i0_8 : Int32) (i0_19 : Int32) (i0_20 : Int32) (i0_28 : Int32) (i0_33 : Int32) (i0_34 : Int32) (i0_35 : Int32) (i0_36 : Int32) (i0_37 : Int32) (i0_38 : Int32) (i0_39 : Int32) (i0_40 : Int32) (i0_41 : Int32) (i0_42 : Int32) (i0_43 : Int32) (r0_14 : Nat → Nat) (g0_14 : Nat → Nat → Int32) : va_W := [(a0, .inr (11, [.int i0_0, .int i0_1, .int i0_2, .int i0_3, .int i0_4, .int i0_5, .int i0_6, .int i0_7, .int i0_8, .ref (p0 9), .ref (p0 10), .ref (p0 11), .ref (p0 12), .ref (p0 13), .ref (p0 14), .ref (p0 15), .ref (p0 16), .ref (p0 17), .ref (p0 18), .int i0_19, .int i0_20, .ref (p0 21), .ref (p0 22), .ref (p0 23), .ref (p0 24), .ref (p0 25), .ref (p0 26), .ref (p0 27), .int i0_28, .ref (p0 29), .ref (p0 30), .ref (p0 31), .ref (p0 32), .int i0_33, .int i0_34, .int i0_35, .int i0_36, .int i0_37, .int i0_38, .int i0_39, .int i0_40, .int i0_41, .int i0_42, .int i0_43])), gOut cs (p0 14) 5 r0_14] ++ (gRow cs 5 4 r0_14 g0_14 ++ [])
noncomputable abbrev S_X11_isOf (cs : Nat → ClassId) (a0 : Nat) (p0 : Nat → Nat) (i0_0 : Int32) (i0_1 : Int32) (i0_2 : Int32) (i0_3 : Int32) (i0_4 : Int32) (i0_5 : Int32) (i0_6 : Int32) (i0_7 : Int32) (i0_8 : Int32) (i0_19 : Int32) (i0_20 : Int32) (i0_28 : Int32) (i0_33 : Int32) (i0_34 : Int32) (i0_35 : Int32) (i0_36 : Int32) (i0_37 : Int32) (i0_38 : Int32) (i0_39 : Int32) (i0_40 : Int32) (i0_41 : Int32) (i0_42 : Int32) (i0_43 : Int32) (r0_14 : Nat → Nat) (g0_14 : Nat → Nat → Int32) : List va_W := [[(a0, .inr (11, [.int i0_0, .int i0_1, .int i0_2, .int i0_3, .int i0_4, .int i0_5, .int i0_6, .int i0_7, .int i0_8, .ref (p0 9), .ref (p0 10), .ref (p0 11), .ref (p0 12), .ref (p0 13), .ref (p0 14), .ref (p0 15), .ref (p0 16), .ref (p0 17), .ref (p0 18), .int i0_19, .int i0_20, .ref (p0 21), .ref (p0 22), .ref (p0 23), .ref (p0 24), .ref (p0 25), .ref (p0 26), .ref (p0 27), .int i0_28, .ref (p0 29), .ref (p0 30), .ref (p0 31), .ref (p0 32), .int i0_33, .int i0_34, .int i0_35, .int i0_36, .int i0_37, .int i0_38, .int i0_39, .int i0_40, .int i0_41, .int i0_42, .int i0_43]))], [gOut cs (p0 14) 5 r0_14], gRow cs 5 4 r0_14 g0_14]
abbrev rm_X11_isOf : Room := { frames := 2, cells := 0, slots := 0, locals := 45 }
def f_X11_isOf  (g0_14 : Nat → Nat → Int32) (x1 : Int32) (x2 : Int32) : Option (Int32) := (f_X11_isCell g0_14 x1 (x2 - x2 / 4 * 4) (x2 / 4)).bind fun q8 => cz q8 (some (q8))
set_option maxHeartbeats 4000000 in
set_option maxRecDepth 100000 in
theorem c_X11_isOf (l : Launch) (D : va_G) (cs : Nat → ClassId)  (sz : Nat) (a0 : Nat) (p0 : Nat → Nat) (i0_0 : Int32) (i0_1 : Int32) (i0_2 : Int32) (i0_3 : Int32) (i0_4 : Int32) (i0_5 : Int32) (i0_6 : Int32) (i0_7 : Int32) (i0_8 : Int32) (i0_19 : Int32) (i0_20 : Int32) (i0_28 : Int32) (i0_33 : Int32) (i0_34 : Int32) (i0_35 : Int32) (i0_36 : Int32) (i0_37 : Int32) (i0_38 : Int32) (i0_39 : Int32) (i0_40 : Int32) (i0_41 : Int32) (i0_42 : Int32) (i0_43 : Int32) (r0_14 : Nat → Nat) (g0_14 : Nat → Nat → Int32) (x1 : Int32) (x2 : Int32) (res : Int32) (hf : f_X11_isOf  g0_14 x1 x2 = some res) : MI l D cs yX11_isOf wsX11_isOf rm_X11_isOf [.ref a0, .int x1, .int x2] sz (W_X11_isOf cs a0 p0 i0_0 i0_1 i0_2 i0_3 i0_4 i0_5 i0_6 i0_7 i0_8 i0_19 i0_20 i0_28 i0_33 i0_34 i0_35 i0_36 i0_37 i0_38 i0_39 i0_40 i0_41 i0_42 i0_43 r0_14 g0_14) (W_X11_isOf cs a0 p0 i0_0 i0_1 i0_2 i0_3 i0_4 i0_5 i0_6 i0_7 i0_8 i0_19 i0_20 i0_28 i0_33 i0_34 i0_35 i0_36 i0_37 i0_38 i0_39 i0_40 i0_41 i0_42 i0_43 r0_14 g0_14) res := by
  rw [f_X11_isOf] at hf
  refine ow_enter (cc := cX11_isOf) (nL := 3) (ret := (some .boolean)) (by decide) rfl (Nat.le_of_ble_eq_true rfl) (fun p e s m below meth c ls H locs C0 hP hD hS hA hl => ?_)
  obtain ⟨hx, hb, hr, hlk, hml, hown, hts, hK, hG, hE⟩ := id C0
  have hl : lv_has ls 3 [(0, .ref a0), (1, .int x1), (2, .int x2)] := hl
  refine lv_aload_n hx hb dX11_isOf_0 rfl (lv_at hl 0 rfl) ?_
  refine lv_iload_n hx hb dX11_isOf_1 rfl (lv_at hl 1 rfl) ?_
  refine lv_iload_n hx hb dX11_isOf_2 rfl (lv_at hl 2 rfl) ?_
  refine lv_iconst (v := 4) hx hb dX11_isOf_3 (by decide) ?_
  refine lv_irem hx hb dX11_isOf_4 (by decide) ?_
  refine lv_iload_n hx hb dX11_isOf_5 rfl (lv_at hl 2 rfl) ?_
  refine lv_iconst (v := 4) hx hb dX11_isOf_6 (by decide) ?_
  refine lv_idiv hx hb dX11_isOf_7 (by decide) ?_
  obtain ⟨q8, hq, hf⟩ := bd_some hf
  refine ow_gVI (As := [.int x1, .int (x2 - x2 / 4 * 4), .int (x2 / 4)]) (rest := []) (sg := (S_X11_isOf cs a0 p0 i0_0 i0_1 i0_2 i0_3 i0_4 i0_5 i0_6 i0_7 i0_8 i0_19 i0_20 i0_28 i0_33 i0_34 i0_35 i0_36 i0_37 i0_38 i0_39 i0_40 i0_41 i0_42 i0_43 r0_14 g0_14)) (sc := (S_X11_isCell cs a0 p0 i0_0 i0_1 i0_2 i0_3 i0_4 i0_5 i0_6 i0_7 i0_8 i0_19 i0_20 i0_28 i0_33 i0_34 i0_35 i0_36 i0_37 i0_38 i0_39 i0_40 i0_41 i0_42 i0_43 r0_14 g0_14)) (sc' := (S_X11_isCell cs a0 p0 i0_0 i0_1 i0_2 i0_3 i0_4 i0_5 i0_6 i0_7 i0_8 i0_19 i0_20 i0_28 i0_33 i0_34 i0_35 i0_36 i0_37 i0_38 i0_39 i0_40 i0_41 i0_42 i0_43 r0_14 g0_14)) (sr := ow_pks (S_X11_isOf cs a0 p0 i0_0 i0_1 i0_2 i0_3 i0_4 i0_5 i0_6 i0_7 i0_8 i0_19 i0_20 i0_28 i0_33 i0_34 i0_35 i0_36 i0_37 i0_38 i0_39 i0_40 i0_41 i0_42 i0_43 r0_14 g0_14) []) (sf := (S_X11_isOf cs a0 p0 i0_0 i0_1 i0_2 i0_3 i0_4 i0_5 i0_6 i0_7 i0_8 i0_19 i0_20 i0_28 i0_33 i0_34 i0_35 i0_36 i0_37 i0_38 i0_39 i0_40 i0_41 i0_42 i0_43 r0_14 g0_14)) (r := q8) C0 (c_X11_isCell l D cs H.size a0 p0 i0_0 i0_1 i0_2 i0_3 i0_4 i0_5 i0_6 i0_7 i0_8 i0_19 i0_20 i0_28 i0_33 i0_34 i0_35 i0_36 i0_37 i0_38 i0_39 i0_40 i0_41 i0_42 i0_43 r0_14 g0_14 x1 (x2 - x2 / 4 * 4) (x2 / 4) q8 hq) (cwV 3 hts gX11_isOf_X11_isCell rfl rfl rfl (by decide +kernel) ⟨Nat.le_of_ble_eq_true rfl, Nat.le_of_ble_eq_true rfl⟩) 11 rfl rfl hP hD hS (sg_permL [0, 1, 2] [] 3 rfl (by decide) rfl rfl) (sg_permG [0, 1, 2] 3 rfl (by decide) rfl) rfl hl.1 rfl (Nat.le_of_ble_eq_true rfl) ⟨Nat.zero_le _, Nat.zero_le _⟩ dX11_isOf_8 (fun H locs (hP : va_P D vwCl (W_X11_isOf cs a0 p0 i0_0 i0_1 i0_2 i0_3 i0_4 i0_5 i0_6 i0_7 i0_8 i0_19 i0_20 i0_28 i0_33 i0_34 i0_35 i0_36 i0_37 i0_38 i0_39 i0_40 i0_41 i0_42 i0_43 r0_14 g0_14) H) (hD : va_D _ (W_X11_isOf cs a0 p0 i0_0 i0_1 i0_2 i0_3 i0_4 i0_5 i0_6 i0_7 i0_8 i0_19 i0_20 i0_28 i0_33 i0_34 i0_35 i0_36 i0_37 i0_38 i0_39 i0_40 i0_41 i0_42 i0_43 r0_14 g0_14)) hS => ?_)
  obtain ⟨hz, hf⟩ := cz_some hf
  obtain rfl := Option.some.inj hf
  exact ow_retZ C0 hz hP hD hS dX11_isOf_11
abbrev rm_X11_more : Room := { frames := 0, cells := 0, slots := 0, locals := 0 }
def f_X11_more   (x0 : Int32) (x1 : Int32) : Option (Int32) := if x0 ≤ x1 then (some (x1)) else (some (x0))
set_option maxHeartbeats 4000000 in
set_option maxRecDepth 100000 in
theorem c_X11_more (l : Launch) (D : va_G) (cs : Nat → ClassId)  (sz : Nat)  (x0 : Int32) (x1 : Int32) (res : Int32) (hf : f_X11_more   x0 x1 = some res) : MI l D cs yX11_more wsX11_more rm_X11_more [.int x0, .int x1] sz ([] : va_W) ([] : va_W) res := by
  rw [f_X11_more] at hf
  refine ow_enter (cc := cX11_more) (nL := 2) (ret := (some .int)) (by decide) rfl (Nat.le_of_ble_eq_true rfl) (fun p e s m below meth c ls H locs C0 hP hD hS hA hl => ?_)
  obtain ⟨hx, hb, hr, hlk, hml, hown, hts, hK, hG, hE⟩ := id C0
  have hl : lv_has ls 2 [(0, .int x0), (1, .int x1)] := hl
  refine lv_iload_n hx hb dX11_more_0 rfl (lv_at hl 0 rfl) ?_
  refine lv_iload_n hx hb dX11_more_1 rfl (lv_at hl 1 rfl) ?_
  refine lv_icmp_le (tgt := 9) hx hb dX11_more_2 (by decide) (fun hc => ?_) (fun hc => ?_)
  · replace hf := ow_t hc hf
    refine lv_iload_n hx hb dX11_more_9 rfl (lv_at hl 1 rfl) ?_
    obtain rfl := Option.some.inj hf
    exact ow_retI C0 hP hD hS dX11_more_10
  · replace hf := ow_f hc hf
    refine lv_iload_n hx hb dX11_more_5 rfl (lv_at hl 0 rfl) ?_
    refine lv_goto (tgt := 10) hx hb dX11_more_6 (by decide) ?_
    obtain rfl := Option.some.inj hf
    exact ow_retI C0 hP hD hS dX11_more_10
abbrev rm_X11_worked : Room := { frames := 1, cells := 0, slots := 0, locals := 21 }
def f_X11_worked   (x0 : Int32) (x1 : Int32) (x2 : Int32) : Option (Int32) := if x0 = 2 then (some (x1 + x2)) else (if x0 = 3 then (some (x1 - x2)) else (if x0 = 4 then (some (x1 * x2)) else (if x0 = 5 then (if x2 = 0 then (some (0)) else (if x2 = ((-1)) then (some (-x1)) else (cd x2 (some (x1 / x2))))) else (if x0 = 6 then (if x2 = 0 then (some (0)) else (if x2 = ((-1)) then (some (0)) else (cd x2 (some (x1 - x1 / x2 * x2))))) else (if x0 = 7 then ((f_X11_less x1 x2).bind fun q93 => some (q93)) else ((f_X11_more x1 x2).bind fun q99 => some (q99)))))))
set_option maxHeartbeats 4000000 in
set_option maxRecDepth 100000 in
theorem c_X11_worked (l : Launch) (D : va_G) (cs : Nat → ClassId)  (sz : Nat)  (x0 : Int32) (x1 : Int32) (x2 : Int32) (res : Int32) (hf : f_X11_worked   x0 x1 x2 = some res) : MI l D cs yX11_worked wsX11_worked rm_X11_worked [.int x0, .int x1, .int x2] sz ([] : va_W) ([] : va_W) res := by
  rw [f_X11_worked] at hf
  refine ow_enter (cc := cX11_worked) (nL := 3) (ret := (some .int)) (by decide) rfl (Nat.le_of_ble_eq_true rfl) (fun p e s m below meth c ls H locs C0 hP hD hS hA hl => ?_)
  obtain ⟨hx, hb, hr, hlk, hml, hown, hts, hK, hG, hE⟩ := id C0
  have hl : lv_has ls 3 [(0, .int x0), (1, .int x1), (2, .int x2)] := hl
  refine lv_iload_n hx hb dX11_worked_0 rfl (lv_at hl 0 rfl) ?_
  rcases Decidable.em (x0 = 2) with hc | hc
  · replace hf := ow_t hc hf
    refine lv_tableIn (tgt := 40) hx hb dX11_worked_1 (by rw [hc]; decide) (by rw [hc]; decide) (by rw [hc]; rfl) (by decide) ?_
    refine lv_iload_n hx hb dX11_worked_40 rfl (lv_at hl 1 rfl) ?_
    refine lv_iload_n hx hb dX11_worked_41 rfl (lv_at hl 2 rfl) ?_
    refine lv_iadd hx hb dX11_worked_42 ?_
    obtain rfl := Option.some.inj hf
    exact ow_retI C0 hP hD hS dX11_worked_43
  replace hf := ow_f hc hf
  have hn0 := hc
  rcases Decidable.em (x0 = 3) with hc | hc
  · replace hf := ow_t hc hf
    refine lv_tableIn (tgt := 44) hx hb dX11_worked_1 (by rw [hc]; decide) (by rw [hc]; decide) (by rw [hc]; rfl) (by decide) ?_
    refine lv_iload_n hx hb dX11_worked_44 rfl (lv_at hl 1 rfl) ?_
    refine lv_iload_n hx hb dX11_worked_45 rfl (lv_at hl 2 rfl) ?_
    refine lv_isub hx hb dX11_worked_46 ?_
    obtain rfl := Option.some.inj hf
    exact ow_retI C0 hP hD hS dX11_worked_47
  replace hf := ow_f hc hf
  have hn1 := hc
  rcases Decidable.em (x0 = 4) with hc | hc
  · replace hf := ow_t hc hf
    refine lv_tableIn (tgt := 48) hx hb dX11_worked_1 (by rw [hc]; decide) (by rw [hc]; decide) (by rw [hc]; rfl) (by decide) ?_
    refine lv_iload_n hx hb dX11_worked_48 rfl (lv_at hl 1 rfl) ?_
    refine lv_iload_n hx hb dX11_worked_49 rfl (lv_at hl 2 rfl) ?_
    refine lv_imul hx hb dX11_worked_50 ?_
    obtain rfl := Option.some.inj hf
    exact ow_retI C0 hP hD hS dX11_worked_51
  replace hf := ow_f hc hf
  have hn2 := hc
  rcases Decidable.em (x0 = 5) with hc | hc
  · replace hf := ow_t hc hf
    refine lv_tableIn (tgt := 52) hx hb dX11_worked_1 (by rw [hc]; decide) (by rw [hc]; decide) (by rw [hc]; rfl) (by decide) ?_
    refine lv_iload_n hx hb dX11_worked_52 rfl (lv_at hl 2 rfl) ?_
    refine lv_if_ne (tgt := 60) hx hb dX11_worked_53 (by decide) (fun hc => ?_) (fun hc => ?_)
    · replace hf := ow_f hc hf
      refine lv_iload_n hx hb dX11_worked_60 rfl (lv_at hl 2 rfl) ?_
      refine lv_iconst (v := (-1)) hx hb dX11_worked_61 (by decide) ?_
      refine lv_icmp_ne (tgt := 70) hx hb dX11_worked_62 (by decide) (fun hc => ?_) (fun hc => ?_)
      · replace hf := ow_f hc hf
        refine lv_iload_n hx hb dX11_worked_70 rfl (lv_at hl 1 rfl) ?_
        refine lv_iload_n hx hb dX11_worked_71 rfl (lv_at hl 2 rfl) ?_
        obtain ⟨hnz, hf⟩ := cd_some hf
        refine lv_idiv hx hb dX11_worked_72 hnz ?_
        obtain rfl := Option.some.inj hf
        exact ow_retI C0 hP hD hS dX11_worked_73
      · replace hf := ow_t hc hf
        refine lv_iload_n hx hb dX11_worked_65 rfl (lv_at hl 1 rfl) ?_
        refine lv_ineg hx hb dX11_worked_66 ?_
        refine lv_goto (tgt := 73) hx hb dX11_worked_67 (by decide) ?_
        obtain rfl := Option.some.inj hf
        exact ow_retI C0 hP hD hS dX11_worked_73
    · replace hf := ow_t hc hf
      refine lv_iconst (v := 0) hx hb dX11_worked_56 (by decide) ?_
      refine lv_goto (tgt := 73) hx hb dX11_worked_57 (by decide) ?_
      obtain rfl := Option.some.inj hf
      exact ow_retI C0 hP hD hS dX11_worked_73
  replace hf := ow_f hc hf
  have hn3 := hc
  rcases Decidable.em (x0 = 6) with hc | hc
  · replace hf := ow_t hc hf
    refine lv_tableIn (tgt := 74) hx hb dX11_worked_1 (by rw [hc]; decide) (by rw [hc]; decide) (by rw [hc]; rfl) (by decide) ?_
    refine lv_iload_n hx hb dX11_worked_74 rfl (lv_at hl 2 rfl) ?_
    refine lv_if_eq (tgt := 83) hx hb dX11_worked_75 (by decide) (fun hc => ?_) (fun hc => ?_)
    · replace hf := ow_t hc hf
      refine lv_iconst (v := 0) hx hb dX11_worked_83 (by decide) ?_
      refine lv_goto (tgt := 90) hx hb dX11_worked_84 (by decide) ?_
      obtain rfl := Option.some.inj hf
      exact ow_retI C0 hP hD hS dX11_worked_90
    · replace hf := ow_f hc hf
      refine lv_iload_n hx hb dX11_worked_78 rfl (lv_at hl 2 rfl) ?_
      refine lv_iconst (v := (-1)) hx hb dX11_worked_79 (by decide) ?_
      refine lv_icmp_ne (tgt := 87) hx hb dX11_worked_80 (by decide) (fun hc => ?_) (fun hc => ?_)
      · replace hf := ow_f hc hf
        refine lv_iload_n hx hb dX11_worked_87 rfl (lv_at hl 1 rfl) ?_
        refine lv_iload_n hx hb dX11_worked_88 rfl (lv_at hl 2 rfl) ?_
        obtain ⟨hnz, hf⟩ := cd_some hf
        refine lv_irem hx hb dX11_worked_89 hnz ?_
        obtain rfl := Option.some.inj hf
        exact ow_retI C0 hP hD hS dX11_worked_90
      · replace hf := ow_t hc hf
        refine lv_iconst (v := 0) hx hb dX11_worked_83 (by decide) ?_
        refine lv_goto (tgt := 90) hx hb dX11_worked_84 (by decide) ?_
        obtain rfl := Option.some.inj hf
        exact ow_retI C0 hP hD hS dX11_worked_90
  replace hf := ow_f hc hf
  have hn4 := hc
  rcases Decidable.em (x0 = 7) with hc | hc
  · replace hf := ow_t hc hf
    refine lv_tableIn (tgt := 91) hx hb dX11_worked_1 (by rw [hc]; decide) (by rw [hc]; decide) (by rw [hc]; rfl) (by decide) ?_
    refine lv_iload_n hx hb dX11_worked_91 rfl (lv_at hl 1 rfl) ?_
    refine lv_iload_n hx hb dX11_worked_92 rfl (lv_at hl 2 rfl) ?_
    obtain ⟨q93, hq, hf⟩ := bd_some hf
    refine ow_gSI (As := [.int x1, .int x2]) (rest := []) (sg := ([] : List va_W)) (sc := ([] : List va_W)) (sc' := ([] : List va_W)) (sr := ow_pks ([] : List va_W) []) (sf := ([] : List va_W)) (r := q93) C0 (c_X11_less l D cs H.size  x1 x2 q93 hq) (va_cwS 2 hts gX11_worked_X11_less rfl rfl rfl (by decide +kernel) ⟨Nat.le_of_ble_eq_true rfl, Nat.le_of_ble_eq_true rfl⟩) hP hD hS (sg_permL [] [] 0 rfl (by decide) rfl rfl) (sg_permG [] 0 rfl (by decide) rfl) rfl hl.1 rfl (Nat.le_of_ble_eq_true rfl) ⟨Nat.zero_le _, Nat.zero_le _⟩ dX11_worked_93 (fun H locs (hP : va_P D vwCl ([] : va_W) H) (hD : va_D _ ([] : va_W)) hS => ?_)
    obtain rfl := Option.some.inj hf
    exact ow_retI C0 hP hD hS dX11_worked_96
  replace hf := ow_f hc hf
  have hn5 := hc
  refine lv_tableOut (x := x0) (tgt := 97) hx hb dX11_worked_1 (ow_out (fun z h1 h2 => by rcases (show z = 2 ∨ z = 3 ∨ z = 4 ∨ z = 5 ∨ z = 6 ∨ z = 7 by omega) with rfl | rfl | rfl | rfl | rfl | rfl <;> first | exact lv_neT hn0 (by decide) | exact lv_neT hn1 (by decide) | exact lv_neT hn2 (by decide) | exact lv_neT hn3 (by decide) | exact lv_neT hn4 (by decide) | exact lv_neT hn5 (by decide))) (by decide) ?_
  refine lv_iload_n hx hb dX11_worked_97 rfl (lv_at hl 1 rfl) ?_
  refine lv_iload_n hx hb dX11_worked_98 rfl (lv_at hl 2 rfl) ?_
  obtain ⟨q99, hq, hf⟩ := bd_some hf
  refine ow_gSI (As := [.int x1, .int x2]) (rest := []) (sg := ([] : List va_W)) (sc := ([] : List va_W)) (sc' := ([] : List va_W)) (sr := ow_pks ([] : List va_W) []) (sf := ([] : List va_W)) (r := q99) C0 (c_X11_more l D cs H.size  x1 x2 q99 hq) (va_cwS 2 hts gX11_worked_X11_more rfl rfl rfl (by decide +kernel) ⟨Nat.le_of_ble_eq_true rfl, Nat.le_of_ble_eq_true rfl⟩) hP hD hS (sg_permL [] [] 0 rfl (by decide) rfl rfl) (sg_permG [] 0 rfl (by decide) rfl) rfl hl.1 rfl (Nat.le_of_ble_eq_true rfl) ⟨Nat.zero_le _, Nat.zero_le _⟩ dX11_worked_99 (fun H locs (hP : va_P D vwCl ([] : va_W) H) (hD : va_D _ ([] : va_W)) hS => ?_)
  obtain rfl := Option.some.inj hf
  exact ow_retI C0 hP hD hS dX11_worked_102
theorem in_X11_byLaw_X11 : ∀ w ∈ u_ws RX11 TX11 44, w ∈ wsX11_byLaw := fun w h => List.mem_cons_of_mem _ (List.mem_append_right _ h)
noncomputable abbrev W_X11_byLaw (cs : Nat → ClassId) (a0 : Nat) (p0 : Nat → Nat) (i0_0 : Int32) (i0_1 : Int32) (i0_2 : Int32) (i0_3 : Int32) (i0_4 : Int32) (i0_5 : Int32) (i0_6 : Int32) (i0_7 : Int32) (i0_8 : Int32) (i0_19 : Int32) (i0_20 : Int32) (i0_28 : Int32) (i0_33 : Int32) (i0_34 : Int32) (i0_35 : Int32) (i0_36 : Int32) (i0_37 : Int32) (i0_38 : Int32) (i0_39 : Int32) (i0_40 : Int32) (i0_41 : Int32) (i0_42 : Int32) (i0_43 : Int32) (v0_25 : Nat → Int32) (v0_26 : Nat → Int32) (r0_21 : Nat → Nat) (g0_21 : Nat → Nat → Int32) : va_W := [(a0, .inr (11, [.int i0_0, .int i0_1, .int i0_2, .int i0_3, .int i0_4, .int i0_5, .int i0_6, .int i0_7, .int i0_8, .ref (p0 9), .ref (p0 10), .ref (p0 11), .ref (p0 12), .ref (p0 13), .ref (p0 14), .ref (p0 15), .ref (p0 16), .ref (p0 17), .ref (p0 18), .int i0_19, .int i0_20, .ref (p0 21), .ref (p0 22), .ref (p0 23), .ref (p0 24), .ref (p0 25), .ref (p0 26), .ref (p0 27), .int i0_28, .ref (p0 29), .ref (p0 30), .ref (p0 31), .ref (p0 32), .int i0_33, .int i0_34, .int i0_35, .int i0_36, .int i0_37, .int i0_38, .int i0_39, .int i0_40, .int i0_41, .int i0_42, .int i0_43])), (p0 25, .inl (cs 0, 160, .inl v0_25)), (p0 26, .inl (cs 0, 8, .inl v0_26)), gOut cs (p0 21) 160 r0_21] ++ (gRow cs 160 2 r0_21 g0_21 ++ [])
noncomputable abbrev S_X11_byLaw (cs : Nat → ClassId) (a0 : Nat) (p0 : Nat → Nat) (i0_0 : Int32) (i0_1 : Int32) (i0_2 : Int32) (i0_3 : Int32) (i0_4 : Int32) (i0_5 : Int32) (i0_6 : Int32) (i0_7 : Int32) (i0_8 : Int32) (i0_19 : Int32) (i0_20 : Int32) (i0_28 : Int32) (i0_33 : Int32) (i0_34 : Int32) (i0_35 : Int32) (i0_36 : Int32) (i0_37 : Int32) (i0_38 : Int32) (i0_39 : Int32) (i0_40 : Int32) (i0_41 : Int32) (i0_42 : Int32) (i0_43 : Int32) (v0_25 : Nat → Int32) (v0_26 : Nat → Int32) (r0_21 : Nat → Nat) (g0_21 : Nat → Nat → Int32) : List va_W := [[(a0, .inr (11, [.int i0_0, .int i0_1, .int i0_2, .int i0_3, .int i0_4, .int i0_5, .int i0_6, .int i0_7, .int i0_8, .ref (p0 9), .ref (p0 10), .ref (p0 11), .ref (p0 12), .ref (p0 13), .ref (p0 14), .ref (p0 15), .ref (p0 16), .ref (p0 17), .ref (p0 18), .int i0_19, .int i0_20, .ref (p0 21), .ref (p0 22), .ref (p0 23), .ref (p0 24), .ref (p0 25), .ref (p0 26), .ref (p0 27), .int i0_28, .ref (p0 29), .ref (p0 30), .ref (p0 31), .ref (p0 32), .int i0_33, .int i0_34, .int i0_35, .int i0_36, .int i0_37, .int i0_38, .int i0_39, .int i0_40, .int i0_41, .int i0_42, .int i0_43]))], [(p0 25, .inl (cs 0, 160, .inl v0_25))], [(p0 26, .inl (cs 0, 8, .inl v0_26))], [gOut cs (p0 21) 160 r0_21], gRow cs 160 2 r0_21 g0_21]
abbrev rm_X11_byLaw : Room := { frames := 2, cells := 0, slots := 0, locals := 43 }
def f_X11_byLaw_b116  (i0_19 : Int32) (v0_26 : Nat → Int32) (g0_21 : Nat → Nat → Int32) (k13 : (Nat → Int32) → Int32 → Int32 → Option (Int32 × (Nat → Int32))) (v0_25 : Nat → Int32) (x1 : Int32) (x2 : Int32) : Option (Int32 × (Nat → Int32)) := k13 v0_25 x1 (x2 + 1)
set_option maxHeartbeats 4000000 in
set_option maxRecDepth 100000 in
theorem w_X11_byLaw_b116 {p : Program} {l : Launch} {e : Env} {s : State} {m : MethodId} {below : List Frame} {meth : Method} {c : Code} {D : va_G} {cs : Nat → ClassId} {av : Array Value} {w0 : va_W} (C0 : Cx p s m meth c av wsX11_byLaw cX11_byLaw 3 (some .int) RX11 D cs w0)  (a0 : Nat) (p0 : Nat → Nat) (i0_0 : Int32) (i0_1 : Int32) (i0_2 : Int32) (i0_3 : Int32) (i0_4 : Int32) (i0_5 : Int32) (i0_6 : Int32) (i0_7 : Int32) (i0_8 : Int32) (i0_19 : Int32) (i0_20 : Int32) (i0_28 : Int32) (i0_33 : Int32) (i0_34 : Int32) (i0_35 : Int32) (i0_36 : Int32) (i0_37 : Int32) (i0_38 : Int32) (i0_39 : Int32) (i0_40 : Int32) (i0_41 : Int32) (i0_42 : Int32) (i0_43 : Int32) (v0_26 : Nat → Int32) (r0_21 : Nat → Nat) (g0_21 : Nat → Nat → Int32) (res : Int32 × (Nat → Int32)) (k13 : (Nat → Int32) → Int32 → Int32 → Option (Int32 × (Nat → Int32))) (hk13 : ∀ (v0_25 : Nat → Int32) (x1 : Int32) (x2 : Int32), k13 v0_25 x1 x2 = some res → ∀ (H : Heap) (locs : List Loc) (ls : Array Slot), va_P D vwCl (W_X11_byLaw cs a0 p0 i0_0 i0_1 i0_2 i0_3 i0_4 i0_5 i0_6 i0_7 i0_8 i0_19 i0_20 i0_28 i0_33 i0_34 i0_35 i0_36 i0_37 i0_38 i0_39 i0_40 i0_41 i0_42 i0_43 v0_25 v0_26 r0_21 g0_21) H → va_D (va_A w0 s.heap.size) (W_X11_byLaw cs a0 p0 i0_0 i0_1 i0_2 i0_3 i0_4 i0_5 i0_6 i0_7 i0_8 i0_19 i0_20 i0_28 i0_33 i0_34 i0_35 i0_36 i0_37 i0_38 i0_39 i0_40 i0_41 i0_42 i0_43 v0_25 v0_26 r0_21 g0_21) → va_S (va_A w0 s.heap.size) s.heap H locs → lv_has ls 3 [(0, .ref a0), (1, .int x1), (2, .int x2)] → W p l e rm_X11_byLaw s m av below meth c H locs 0 0 (MQ below (oI D cs w0 (W_X11_byLaw cs a0 p0 i0_0 i0_1 i0_2 i0_3 i0_4 i0_5 i0_6 i0_7 i0_8 i0_19 i0_20 i0_28 i0_33 i0_34 i0_35 i0_36 i0_37 i0_38 i0_39 i0_40 i0_41 i0_42 i0_43 res.2 v0_26 r0_21 g0_21) res.1 s.heap.size) av s 0 0 (va_A w0 s.heap.size)) (F0 m 13 ls [])) : ∀ (v0_25 : Nat → Int32) (x1 : Int32) (x2 : Int32), f_X11_byLaw_b116 i0_19 v0_26 g0_21 k13 v0_25 x1 x2 = some res → ∀ (H : Heap) (locs : List Loc) (ls : Array Slot), va_P D vwCl (W_X11_byLaw cs a0 p0 i0_0 i0_1 i0_2 i0_3 i0_4 i0_5 i0_6 i0_7 i0_8 i0_19 i0_20 i0_28 i0_33 i0_34 i0_35 i0_36 i0_37 i0_38 i0_39 i0_40 i0_41 i0_42 i0_43 v0_25 v0_26 r0_21 g0_21) H → va_D (va_A w0 s.heap.size) (W_X11_byLaw cs a0 p0 i0_0 i0_1 i0_2 i0_3 i0_4 i0_5 i0_6 i0_7 i0_8 i0_19 i0_20 i0_28 i0_33 i0_34 i0_35 i0_36 i0_37 i0_38 i0_39 i0_40 i0_41 i0_42 i0_43 v0_25 v0_26 r0_21 g0_21) → va_S (va_A w0 s.heap.size) s.heap H locs → lv_has ls 3 [(0, .ref a0), (1, .int x1), (2, .int x2)] → W p l e rm_X11_byLaw s m av below meth c H locs 0 0 (MQ below (oI D cs w0 (W_X11_byLaw cs a0 p0 i0_0 i0_1 i0_2 i0_3 i0_4 i0_5 i0_6 i0_7 i0_8 i0_19 i0_20 i0_28 i0_33 i0_34 i0_35 i0_36 i0_37 i0_38 i0_39 i0_40 i0_41 i0_42 i0_43 res.2 v0_26 r0_21 g0_21) res.1 s.heap.size) av s 0 0 (va_A w0 s.heap.size)) (F0 m 116 ls []) := by
  obtain ⟨hx, hb, hr, hlk, hml, hown, hts, hK, hG, hE⟩ := id C0
  intro v0_25 x1 x2 hf H locs ls hP hD hS hl
  rw [f_X11_byLaw_b116] at hf
  refine lv_iinc (v := x2 + 1) (lv' := [(2, .int (x2 + 1)), (0, .ref a0), (1, .int x1)]) hx hb dX11_byLaw_116 hl (k := 2) rfl (ow_inc (by decide)) (by decide) rfl (fun ls hl => ?_)
  refine lv_goto (tgt := 13) hx hb dX11_byLaw_119 (by decide) ?_
  exact hk13 v0_25 x1 (x2 + 1)  hf _ _ _ hP hD hS (lv_sub hl [1, 2, 0] rfl)
def f_X11_byLaw_b73  (i0_19 : Int32) (v0_26 : Nat → Int32) (g0_21 : Nat → Nat → Int32) (k13 : (Nat → Int32) → Int32 → Int32 → Option (Int32 × (Nat → Int32))) (v0_25 : Nat → Int32) (x1 : Int32) (x2 : Int32) (t1 : Int32) (t2 : Int32) : Option (Int32 × (Nat → Int32)) := ck t1 160 (f_X11_byLaw_b116 i0_19 v0_26 g0_21 k13 (upd v0_25 (t1).toNatClampNeg t2) (x1 + 1) x2)
set_option maxHeartbeats 4000000 in
set_option maxRecDepth 100000 in
theorem w_X11_byLaw_b73 {p : Program} {l : Launch} {e : Env} {s : State} {m : MethodId} {below : List Frame} {meth : Method} {c : Code} {D : va_G} {cs : Nat → ClassId} {av : Array Value} {w0 : va_W} (C0 : Cx p s m meth c av wsX11_byLaw cX11_byLaw 3 (some .int) RX11 D cs w0)  (a0 : Nat) (p0 : Nat → Nat) (i0_0 : Int32) (i0_1 : Int32) (i0_2 : Int32) (i0_3 : Int32) (i0_4 : Int32) (i0_5 : Int32) (i0_6 : Int32) (i0_7 : Int32) (i0_8 : Int32) (i0_19 : Int32) (i0_20 : Int32) (i0_28 : Int32) (i0_33 : Int32) (i0_34 : Int32) (i0_35 : Int32) (i0_36 : Int32) (i0_37 : Int32) (i0_38 : Int32) (i0_39 : Int32) (i0_40 : Int32) (i0_41 : Int32) (i0_42 : Int32) (i0_43 : Int32) (v0_26 : Nat → Int32) (r0_21 : Nat → Nat) (g0_21 : Nat → Nat → Int32) (res : Int32 × (Nat → Int32)) (k13 : (Nat → Int32) → Int32 → Int32 → Option (Int32 × (Nat → Int32))) (hk13 : ∀ (v0_25 : Nat → Int32) (x1 : Int32) (x2 : Int32), k13 v0_25 x1 x2 = some res → ∀ (H : Heap) (locs : List Loc) (ls : Array Slot), va_P D vwCl (W_X11_byLaw cs a0 p0 i0_0 i0_1 i0_2 i0_3 i0_4 i0_5 i0_6 i0_7 i0_8 i0_19 i0_20 i0_28 i0_33 i0_34 i0_35 i0_36 i0_37 i0_38 i0_39 i0_40 i0_41 i0_42 i0_43 v0_25 v0_26 r0_21 g0_21) H → va_D (va_A w0 s.heap.size) (W_X11_byLaw cs a0 p0 i0_0 i0_1 i0_2 i0_3 i0_4 i0_5 i0_6 i0_7 i0_8 i0_19 i0_20 i0_28 i0_33 i0_34 i0_35 i0_36 i0_37 i0_38 i0_39 i0_40 i0_41 i0_42 i0_43 v0_25 v0_26 r0_21 g0_21) → va_S (va_A w0 s.heap.size) s.heap H locs → lv_has ls 3 [(0, .ref a0), (1, .int x1), (2, .int x2)] → W p l e rm_X11_byLaw s m av below meth c H locs 0 0 (MQ below (oI D cs w0 (W_X11_byLaw cs a0 p0 i0_0 i0_1 i0_2 i0_3 i0_4 i0_5 i0_6 i0_7 i0_8 i0_19 i0_20 i0_28 i0_33 i0_34 i0_35 i0_36 i0_37 i0_38 i0_39 i0_40 i0_41 i0_42 i0_43 res.2 v0_26 r0_21 g0_21) res.1 s.heap.size) av s 0 0 (va_A w0 s.heap.size)) (F0 m 13 ls [])) : ∀ (v0_25 : Nat → Int32) (x1 : Int32) (x2 : Int32) (t1 : Int32) (t2 : Int32), f_X11_byLaw_b73 i0_19 v0_26 g0_21 k13 v0_25 x1 x2 t1 t2 = some res → ∀ (H : Heap) (locs : List Loc) (ls : Array Slot), va_P D vwCl (W_X11_byLaw cs a0 p0 i0_0 i0_1 i0_2 i0_3 i0_4 i0_5 i0_6 i0_7 i0_8 i0_19 i0_20 i0_28 i0_33 i0_34 i0_35 i0_36 i0_37 i0_38 i0_39 i0_40 i0_41 i0_42 i0_43 v0_25 v0_26 r0_21 g0_21) H → va_D (va_A w0 s.heap.size) (W_X11_byLaw cs a0 p0 i0_0 i0_1 i0_2 i0_3 i0_4 i0_5 i0_6 i0_7 i0_8 i0_19 i0_20 i0_28 i0_33 i0_34 i0_35 i0_36 i0_37 i0_38 i0_39 i0_40 i0_41 i0_42 i0_43 v0_25 v0_26 r0_21 g0_21) → va_S (va_A w0 s.heap.size) s.heap H locs → lv_has ls 3 [(0, .ref a0), (1, .int x1), (2, .int x2)] → W p l e rm_X11_byLaw s m av below meth c H locs 0 0 (MQ below (oI D cs w0 (W_X11_byLaw cs a0 p0 i0_0 i0_1 i0_2 i0_3 i0_4 i0_5 i0_6 i0_7 i0_8 i0_19 i0_20 i0_28 i0_33 i0_34 i0_35 i0_36 i0_37 i0_38 i0_39 i0_40 i0_41 i0_42 i0_43 res.2 v0_26 r0_21 g0_21) res.1 s.heap.size) av s 0 0 (va_A w0 s.heap.size)) (F0 m 73 ls [.int t2, .int t1, .ref (p0 25)]) := by
  obtain ⟨hx, hb, hr, hlk, hml, hown, hts, hK, hG, hE⟩ := id C0
  intro v0_25 x1 x2 t1 t2 hf H locs ls hP hD hS hl
  rw [f_X11_byLaw_b73] at hf
  obtain ⟨hin, hf⟩ := ck_some hf
  refine va_iast (f := v0_25) hx hb hK hP hD hS 1 0 rfl rfl hin dX11_byLaw_73 (fun H locs (hP : va_P D vwCl (W_X11_byLaw cs a0 p0 i0_0 i0_1 i0_2 i0_3 i0_4 i0_5 i0_6 i0_7 i0_8 i0_19 i0_20 i0_28 i0_33 i0_34 i0_35 i0_36 i0_37 i0_38 i0_39 i0_40 i0_41 i0_42 i0_43 (upd v0_25 (t1).toNatClampNeg t2) v0_26 r0_21 g0_21) H) (hD : va_D _ (W_X11_byLaw cs a0 p0 i0_0 i0_1 i0_2 i0_3 i0_4 i0_5 i0_6 i0_7 i0_8 i0_19 i0_20 i0_28 i0_33 i0_34 i0_35 i0_36 i0_37 i0_38 i0_39 i0_40 i0_41 i0_42 i0_43 (upd v0_25 (t1).toNatClampNeg t2) v0_26 r0_21 g0_21)) hS => ?_)
  refine lv_iinc (v := x1 + 1) (lv' := [(1, .int (x1 + 1)), (0, .ref a0), (2, .int x2)]) hx hb dX11_byLaw_74 hl (k := 1) rfl (ow_inc (by decide)) (by decide) rfl (fun ls hl => ?_)
  refine lv_goto (tgt := 116) hx hb dX11_byLaw_77 (by decide) ?_
  exact w_X11_byLaw_b116 C0 a0 p0 i0_0 i0_1 i0_2 i0_3 i0_4 i0_5 i0_6 i0_7 i0_8 i0_19 i0_20 i0_28 i0_33 i0_34 i0_35 i0_36 i0_37 i0_38 i0_39 i0_40 i0_41 i0_42 i0_43 v0_26 r0_21 g0_21 res k13 hk13 (upd v0_25 (t1).toNatClampNeg t2) (x1 + 1) x2  hf _ _ _ hP hD hS (lv_sub hl [1, 0, 2] rfl)
def f_X11_byLaw_b13  (i0_19 : Int32) (v0_26 : Nat → Int32) (g0_21 : Nat → Nat → Int32)  : Nat → (Nat → Int32) → Int32 → Int32 → Option (Int32 × (Nat → Int32))
  | 0, _, _, _ => none
  | n + 1, v0_25, x1, x2 => if i0_19 ≤ x2 then (some (v0_25 (0 : Int32).toNatClampNeg, v0_25)) else (ck x2 160 (if 2 ≤ ((g0_21 (x2).toNatClampNeg) (0 : Int32).toNatClampNeg) then (ck x2 160 (ck ((x1 + (-1)) - 1) 160 (ck (x1 + (-1)) 160 ((f_X11_worked ((g0_21 (x2).toNatClampNeg) (0 : Int32).toNatClampNeg) (v0_25 ((x1 + (-1)) - 1).toNatClampNeg) (v0_25 (x1 + (-1)).toNatClampNeg)).bind fun q112 => ck ((x1 + (-1)) - 1) 160 (f_X11_byLaw_b116 i0_19 v0_26 g0_21 (f_X11_byLaw_b13 i0_19 v0_26 g0_21 n) (upd v0_25 ((x1 + (-1)) - 1).toNatClampNeg q112) (x1 + (-1)) x2))))) else (ck x2 160 (if ((g0_21 (x2).toNatClampNeg) (0 : Int32).toNatClampNeg) = 0 then (ck x2 160 (f_X11_byLaw_b73 i0_19 v0_26 g0_21 (f_X11_byLaw_b13 i0_19 v0_26 g0_21 n) v0_25 x1 x2 x1 ((g0_21 (x2).toNatClampNeg) (1 : Int32).toNatClampNeg))) else (ck x2 160 (ck ((g0_21 (x2).toNatClampNeg) (1 : Int32).toNatClampNeg) 8 (f_X11_byLaw_b73 i0_19 v0_26 g0_21 (f_X11_byLaw_b13 i0_19 v0_26 g0_21 n) v0_25 x1 x2 x1 (v0_26 ((g0_21 (x2).toNatClampNeg) (1 : Int32).toNatClampNeg).toNatClampNeg))))))))
set_option maxHeartbeats 4000000 in
set_option maxRecDepth 100000 in
theorem w_X11_byLaw_b13 {p : Program} {l : Launch} {e : Env} {s : State} {m : MethodId} {below : List Frame} {meth : Method} {c : Code} {D : va_G} {cs : Nat → ClassId} {av : Array Value} {w0 : va_W} (C0 : Cx p s m meth c av wsX11_byLaw cX11_byLaw 3 (some .int) RX11 D cs w0)  (a0 : Nat) (p0 : Nat → Nat) (i0_0 : Int32) (i0_1 : Int32) (i0_2 : Int32) (i0_3 : Int32) (i0_4 : Int32) (i0_5 : Int32) (i0_6 : Int32) (i0_7 : Int32) (i0_8 : Int32) (i0_19 : Int32) (i0_20 : Int32) (i0_28 : Int32) (i0_33 : Int32) (i0_34 : Int32) (i0_35 : Int32) (i0_36 : Int32) (i0_37 : Int32) (i0_38 : Int32) (i0_39 : Int32) (i0_40 : Int32) (i0_41 : Int32) (i0_42 : Int32) (i0_43 : Int32) (v0_26 : Nat → Int32) (r0_21 : Nat → Nat) (g0_21 : Nat → Nat → Int32) (res : Int32 × (Nat → Int32))  : ∀ (n : Nat) (v0_25 : Nat → Int32) (x1 : Int32) (x2 : Int32), f_X11_byLaw_b13 i0_19 v0_26 g0_21 n v0_25 x1 x2 = some res → ∀ (H : Heap) (locs : List Loc) (ls : Array Slot), va_P D vwCl (W_X11_byLaw cs a0 p0 i0_0 i0_1 i0_2 i0_3 i0_4 i0_5 i0_6 i0_7 i0_8 i0_19 i0_20 i0_28 i0_33 i0_34 i0_35 i0_36 i0_37 i0_38 i0_39 i0_40 i0_41 i0_42 i0_43 v0_25 v0_26 r0_21 g0_21) H → va_D (va_A w0 s.heap.size) (W_X11_byLaw cs a0 p0 i0_0 i0_1 i0_2 i0_3 i0_4 i0_5 i0_6 i0_7 i0_8 i0_19 i0_20 i0_28 i0_33 i0_34 i0_35 i0_36 i0_37 i0_38 i0_39 i0_40 i0_41 i0_42 i0_43 v0_25 v0_26 r0_21 g0_21) → va_S (va_A w0 s.heap.size) s.heap H locs → lv_has ls 3 [(0, .ref a0), (1, .int x1), (2, .int x2)] → W p l e rm_X11_byLaw s m av below meth c H locs 0 0 (MQ below (oI D cs w0 (W_X11_byLaw cs a0 p0 i0_0 i0_1 i0_2 i0_3 i0_4 i0_5 i0_6 i0_7 i0_8 i0_19 i0_20 i0_28 i0_33 i0_34 i0_35 i0_36 i0_37 i0_38 i0_39 i0_40 i0_41 i0_42 i0_43 res.2 v0_26 r0_21 g0_21) res.1 s.heap.size) av s 0 0 (va_A w0 s.heap.size)) (F0 m 13 ls []) := by
  obtain ⟨hx, hb, hr, hlk, hml, hown, hts, hK, hG, hE⟩ := id C0
  intro n
  induction n with
  | zero =>
    intro v0_25 x1 x2 hf
    rw [f_X11_byLaw_b13] at hf
    cases hf
  | succ n ih =>
    intro v0_25 x1 x2 hf H locs ls hP hD hS hl
    rw [f_X11_byLaw_b13] at hf
    refine lv_iload_n hx hb dX11_byLaw_13 rfl (lv_at hl 2 rfl) ?_
    refine lv_aload_n hx hb dX11_byLaw_14 rfl (lv_at hl 0 rfl) ?_
    refine va_get (D := D) (ci := 11) (v := .int i0_19) (C := RX11) (T := TX11) (N := 44) hx hb hts in_X11_byLaw_X11 hown hK hP 0 rfl rfl 19 (by decide) (hts (.fieldLink RX11 175 "PaneDaysModel" "lawMany" "I") (List.mem_of_getElem? (i := 1) rfl)) (fun _ h9 => h9) rfl dX11_byLaw_15 ?_
    refine lv_icmp_ge (tgt := 122) hx hb dX11_byLaw_18 (by decide) (fun hc => ?_) (fun hc => ?_)
    · replace hf := ow_t hc hf
      refine lv_aload_n hx hb dX11_byLaw_122 rfl (lv_at hl 0 rfl) ?_
      refine va_get (D := D) (ci := 11) (v := .ref (p0 25)) (C := RX11) (T := TX11) (N := 44) hx hb hts in_X11_byLaw_X11 hown hK hP 0 rfl rfl 25 (by decide) (hts (.fieldLink RX11 58 "PaneDaysModel" "stack" "[I") (List.mem_of_getElem? (i := 3) rfl)) (fun _ h9 => h9) rfl dX11_byLaw_123 ?_
      refine lv_iconst (v := 0) hx hb dX11_byLaw_126 (by decide) ?_
      refine va_iald (f := v0_25) hx hb hK hP 1 0 rfl rfl (vp_in_nI (n := 0) (by decide) (by decide)) dX11_byLaw_127 ?_
      obtain rfl := Option.some.inj hf
      exact ow_retI C0 hP hD hS dX11_byLaw_128
    · replace hf := ow_f hc hf
      refine lv_aload_n hx hb dX11_byLaw_21 rfl (lv_at hl 0 rfl) ?_
      refine va_get (D := D) (ci := 11) (v := .ref (p0 21)) (C := RX11) (T := TX11) (N := 44) hx hb hts in_X11_byLaw_X11 hown hK hP 0 rfl rfl 21 (by decide) (hts (.fieldLink RX11 46 "PaneDaysModel" "law" "[[I") (List.mem_of_getElem? (i := 2) rfl)) (fun _ h9 => h9) rfl dX11_byLaw_22 ?_
      refine lv_iload_n hx hb dX11_byLaw_25 rfl (lv_at hl 2 rfl) ?_
      obtain ⟨hr26, hf⟩ := ck_some hf
      refine ow_aald (rr := r0_21) hx hb hK hP 3 rfl hr26 dX11_byLaw_26 ?_
      refine lv_iconst (v := 0) hx hb dX11_byLaw_27 (by decide) ?_
      refine va_iald (f := g0_21 (x2).toNatClampNeg) hx hb hK hP (4 + (x2).toNatClampNeg) 0 (gr_skip rfl (gr_head (vp_lt hr26))) rfl (vp_in_nI (n := 0) (by decide) (by decide)) dX11_byLaw_28 ?_
      refine lv_iconst (v := 2) hx hb dX11_byLaw_29 (by decide) ?_
      refine lv_icmp_ge (tgt := 80) hx hb dX11_byLaw_30 (by decide) (fun hc => ?_) (fun hc => ?_)
      · replace hf := ow_t hc hf
        refine lv_iinc (v := x1 + (-1)) (lv' := [(1, .int (x1 + (-1))), (0, .ref a0), (2, .int x2)]) hx hb dX11_byLaw_80 hl (k := 1) rfl (ow_inc (by decide)) (by decide) rfl (fun ls hl => ?_)
        refine lv_aload_n hx hb dX11_byLaw_83 rfl (lv_at hl 1 rfl) ?_
        refine va_get (D := D) (ci := 11) (v := .ref (p0 25)) (C := RX11) (T := TX11) (N := 44) hx hb hts in_X11_byLaw_X11 hown hK hP 0 rfl rfl 25 (by decide) (hts (.fieldLink RX11 58 "PaneDaysModel" "stack" "[I") (List.mem_of_getElem? (i := 3) rfl)) (fun _ h9 => h9) rfl dX11_byLaw_84 ?_
        refine lv_iload_n hx hb dX11_byLaw_87 rfl (lv_at hl 0 rfl) ?_
        refine lv_iconst (v := 1) hx hb dX11_byLaw_88 (by decide) ?_
        refine lv_isub hx hb dX11_byLaw_89 ?_
        refine lv_aload_n hx hb dX11_byLaw_90 rfl (lv_at hl 1 rfl) ?_
        refine va_get (D := D) (ci := 11) (v := .ref (p0 21)) (C := RX11) (T := TX11) (N := 44) hx hb hts in_X11_byLaw_X11 hown hK hP 0 rfl rfl 21 (by decide) (hts (.fieldLink RX11 46 "PaneDaysModel" "law" "[[I") (List.mem_of_getElem? (i := 2) rfl)) (fun _ h9 => h9) rfl dX11_byLaw_91 ?_
        refine lv_iload_n hx hb dX11_byLaw_94 rfl (lv_at hl 2 rfl) ?_
        obtain ⟨hr95, hf⟩ := ck_some hf
        refine ow_aald (rr := r0_21) hx hb hK hP 3 rfl hr95 dX11_byLaw_95 ?_
        refine lv_iconst (v := 0) hx hb dX11_byLaw_96 (by decide) ?_
        refine va_iald (f := g0_21 (x2).toNatClampNeg) hx hb hK hP (4 + (x2).toNatClampNeg) 0 (gr_skip rfl (gr_head (vp_lt hr95))) rfl (vp_in_nI (n := 0) (by decide) (by decide)) dX11_byLaw_97 ?_
        refine lv_aload_n hx hb dX11_byLaw_98 rfl (lv_at hl 1 rfl) ?_
        refine va_get (D := D) (ci := 11) (v := .ref (p0 25)) (C := RX11) (T := TX11) (N := 44) hx hb hts in_X11_byLaw_X11 hown hK hP 0 rfl rfl 25 (by decide) (hts (.fieldLink RX11 58 "PaneDaysModel" "stack" "[I") (List.mem_of_getElem? (i := 3) rfl)) (fun _ h9 => h9) rfl dX11_byLaw_99 ?_
        refine lv_iload_n hx hb dX11_byLaw_102 rfl (lv_at hl 0 rfl) ?_
        refine lv_iconst (v := 1) hx hb dX11_byLaw_103 (by decide) ?_
        refine lv_isub hx hb dX11_byLaw_104 ?_
        obtain ⟨hin, hf⟩ := ck_some hf
        refine va_iald (f := v0_25) hx hb hK hP 1 0 rfl rfl hin dX11_byLaw_105 ?_
        refine lv_aload_n hx hb dX11_byLaw_106 rfl (lv_at hl 1 rfl) ?_
        refine va_get (D := D) (ci := 11) (v := .ref (p0 25)) (C := RX11) (T := TX11) (N := 44) hx hb hts in_X11_byLaw_X11 hown hK hP 0 rfl rfl 25 (by decide) (hts (.fieldLink RX11 58 "PaneDaysModel" "stack" "[I") (List.mem_of_getElem? (i := 3) rfl)) (fun _ h9 => h9) rfl dX11_byLaw_107 ?_
        refine lv_iload_n hx hb dX11_byLaw_110 rfl (lv_at hl 0 rfl) ?_
        obtain ⟨hin, hf⟩ := ck_some hf
        refine va_iald (f := v0_25) hx hb hK hP 1 0 rfl rfl hin dX11_byLaw_111 ?_
        obtain ⟨q112, hq, hf⟩ := bd_some hf
        refine ow_gSI (As := [.int ((g0_21 (x2).toNatClampNeg) (0 : Int32).toNatClampNeg), .int (v0_25 ((x1 + (-1)) - 1).toNatClampNeg), .int (v0_25 (x1 + (-1)).toNatClampNeg)]) (rest := [.int ((x1 + (-1)) - 1), .ref (p0 25)]) (sg := (S_X11_byLaw cs a0 p0 i0_0 i0_1 i0_2 i0_3 i0_4 i0_5 i0_6 i0_7 i0_8 i0_19 i0_20 i0_28 i0_33 i0_34 i0_35 i0_36 i0_37 i0_38 i0_39 i0_40 i0_41 i0_42 i0_43 v0_25 v0_26 r0_21 g0_21)) (sc := ([] : List va_W)) (sc' := ([] : List va_W)) (sr := ow_pks (S_X11_byLaw cs a0 p0 i0_0 i0_1 i0_2 i0_3 i0_4 i0_5 i0_6 i0_7 i0_8 i0_19 i0_20 i0_28 i0_33 i0_34 i0_35 i0_36 i0_37 i0_38 i0_39 i0_40 i0_41 i0_42 i0_43 v0_25 v0_26 r0_21 g0_21) [0, 1, 2, 3, 4]) (sf := (S_X11_byLaw cs a0 p0 i0_0 i0_1 i0_2 i0_3 i0_4 i0_5 i0_6 i0_7 i0_8 i0_19 i0_20 i0_28 i0_33 i0_34 i0_35 i0_36 i0_37 i0_38 i0_39 i0_40 i0_41 i0_42 i0_43 v0_25 v0_26 r0_21 g0_21)) (r := q112) C0 (c_X11_worked l D cs H.size  ((g0_21 (x2).toNatClampNeg) (0 : Int32).toNatClampNeg) (v0_25 ((x1 + (-1)) - 1).toNatClampNeg) (v0_25 (x1 + (-1)).toNatClampNeg) q112 hq) (va_cwS 3 hts gX11_byLaw_X11_worked rfl rfl rfl (by decide +kernel) ⟨Nat.le_of_ble_eq_true rfl, Nat.le_of_ble_eq_true rfl⟩) hP hD hS (sg_permL [] [0, 1, 2, 3, 4] 5 rfl (by decide) rfl rfl) (sg_permG [0, 1, 2, 3, 4] 5 rfl (by decide) rfl) rfl hl.1 rfl (Nat.le_of_ble_eq_true rfl) ⟨Nat.zero_le _, Nat.zero_le _⟩ dX11_byLaw_112 (fun H locs (hP : va_P D vwCl (W_X11_byLaw cs a0 p0 i0_0 i0_1 i0_2 i0_3 i0_4 i0_5 i0_6 i0_7 i0_8 i0_19 i0_20 i0_28 i0_33 i0_34 i0_35 i0_36 i0_37 i0_38 i0_39 i0_40 i0_41 i0_42 i0_43 v0_25 v0_26 r0_21 g0_21) H) (hD : va_D _ (W_X11_byLaw cs a0 p0 i0_0 i0_1 i0_2 i0_3 i0_4 i0_5 i0_6 i0_7 i0_8 i0_19 i0_20 i0_28 i0_33 i0_34 i0_35 i0_36 i0_37 i0_38 i0_39 i0_40 i0_41 i0_42 i0_43 v0_25 v0_26 r0_21 g0_21)) hS => ?_)
        obtain ⟨hin, hf⟩ := ck_some hf
        refine va_iast (f := v0_25) hx hb hK hP hD hS 1 0 rfl rfl hin dX11_byLaw_115 (fun H locs (hP : va_P D vwCl (W_X11_byLaw cs a0 p0 i0_0 i0_1 i0_2 i0_3 i0_4 i0_5 i0_6 i0_7 i0_8 i0_19 i0_20 i0_28 i0_33 i0_34 i0_35 i0_36 i0_37 i0_38 i0_39 i0_40 i0_41 i0_42 i0_43 (upd v0_25 ((x1 + (-1)) - 1).toNatClampNeg q112) v0_26 r0_21 g0_21) H) (hD : va_D _ (W_X11_byLaw cs a0 p0 i0_0 i0_1 i0_2 i0_3 i0_4 i0_5 i0_6 i0_7 i0_8 i0_19 i0_20 i0_28 i0_33 i0_34 i0_35 i0_36 i0_37 i0_38 i0_39 i0_40 i0_41 i0_42 i0_43 (upd v0_25 ((x1 + (-1)) - 1).toNatClampNeg q112) v0_26 r0_21 g0_21)) hS => ?_)
        exact w_X11_byLaw_b116 C0 a0 p0 i0_0 i0_1 i0_2 i0_3 i0_4 i0_5 i0_6 i0_7 i0_8 i0_19 i0_20 i0_28 i0_33 i0_34 i0_35 i0_36 i0_37 i0_38 i0_39 i0_40 i0_41 i0_42 i0_43 v0_26 r0_21 g0_21 res (f_X11_byLaw_b13 i0_19 v0_26 g0_21 n) ih (upd v0_25 ((x1 + (-1)) - 1).toNatClampNeg q112) (x1 + (-1)) x2  hf _ _ _ hP hD hS (lv_sub hl [1, 0, 2] rfl)
      · replace hf := ow_f hc hf
        refine lv_aload_n hx hb dX11_byLaw_33 rfl (lv_at hl 0 rfl) ?_
        refine va_get (D := D) (ci := 11) (v := .ref (p0 25)) (C := RX11) (T := TX11) (N := 44) hx hb hts in_X11_byLaw_X11 hown hK hP 0 rfl rfl 25 (by decide) (hts (.fieldLink RX11 58 "PaneDaysModel" "stack" "[I") (List.mem_of_getElem? (i := 3) rfl)) (fun _ h9 => h9) rfl dX11_byLaw_34 ?_
        refine lv_iload_n hx hb dX11_byLaw_37 rfl (lv_at hl 1 rfl) ?_
        refine lv_aload_n hx hb dX11_byLaw_38 rfl (lv_at hl 0 rfl) ?_
        refine va_get (D := D) (ci := 11) (v := .ref (p0 21)) (C := RX11) (T := TX11) (N := 44) hx hb hts in_X11_byLaw_X11 hown hK hP 0 rfl rfl 21 (by decide) (hts (.fieldLink RX11 46 "PaneDaysModel" "law" "[[I") (List.mem_of_getElem? (i := 2) rfl)) (fun _ h9 => h9) rfl dX11_byLaw_39 ?_
        refine lv_iload_n hx hb dX11_byLaw_42 rfl (lv_at hl 2 rfl) ?_
        obtain ⟨hr43, hf⟩ := ck_some hf
        refine ow_aald (rr := r0_21) hx hb hK hP 3 rfl hr43 dX11_byLaw_43 ?_
        refine lv_iconst (v := 0) hx hb dX11_byLaw_44 (by decide) ?_
        refine va_iald (f := g0_21 (x2).toNatClampNeg) hx hb hK hP (4 + (x2).toNatClampNeg) 0 (gr_skip rfl (gr_head (vp_lt hr43))) rfl (vp_in_nI (n := 0) (by decide) (by decide)) dX11_byLaw_45 ?_
        refine lv_if_ne (tgt := 60) hx hb dX11_byLaw_46 (by decide) (fun hc => ?_) (fun hc => ?_)
        · replace hf := ow_f hc hf
          refine lv_aload_n hx hb dX11_byLaw_60 rfl (lv_at hl 0 rfl) ?_
          refine va_get (D := D) (ci := 11) (v := .ref (p0 26)) (C := RX11) (T := TX11) (N := 44) hx hb hts in_X11_byLaw_X11 hown hK hP 0 rfl rfl 26 (by decide) (hts (.fieldLink RX11 61 "PaneDaysModel" "known" "[I") (List.mem_of_getElem? (i := 4) rfl)) (fun _ h9 => h9) rfl dX11_byLaw_61 ?_
          refine lv_aload_n hx hb dX11_byLaw_64 rfl (lv_at hl 0 rfl) ?_
          refine va_get (D := D) (ci := 11) (v := .ref (p0 21)) (C := RX11) (T := TX11) (N := 44) hx hb hts in_X11_byLaw_X11 hown hK hP 0 rfl rfl 21 (by decide) (hts (.fieldLink RX11 46 "PaneDaysModel" "law" "[[I") (List.mem_of_getElem? (i := 2) rfl)) (fun _ h9 => h9) rfl dX11_byLaw_65 ?_
          refine lv_iload_n hx hb dX11_byLaw_68 rfl (lv_at hl 2 rfl) ?_
          obtain ⟨hr69, hf⟩ := ck_some hf
          refine ow_aald (rr := r0_21) hx hb hK hP 3 rfl hr69 dX11_byLaw_69 ?_
          refine lv_iconst (v := 1) hx hb dX11_byLaw_70 (by decide) ?_
          refine va_iald (f := g0_21 (x2).toNatClampNeg) hx hb hK hP (4 + (x2).toNatClampNeg) 0 (gr_skip rfl (gr_head (vp_lt hr69))) rfl (vp_in_nI (n := 1) (by decide) (by decide)) dX11_byLaw_71 ?_
          obtain ⟨hin, hf⟩ := ck_some hf
          refine va_iald (f := v0_26) hx hb hK hP 2 0 rfl rfl hin dX11_byLaw_72 ?_
          exact w_X11_byLaw_b73 C0 a0 p0 i0_0 i0_1 i0_2 i0_3 i0_4 i0_5 i0_6 i0_7 i0_8 i0_19 i0_20 i0_28 i0_33 i0_34 i0_35 i0_36 i0_37 i0_38 i0_39 i0_40 i0_41 i0_42 i0_43 v0_26 r0_21 g0_21 res (f_X11_byLaw_b13 i0_19 v0_26 g0_21 n) ih v0_25 x1 x2 x1 (v0_26 ((g0_21 (x2).toNatClampNeg) (1 : Int32).toNatClampNeg).toNatClampNeg)  hf _ _ _ hP hD hS (lv_sub hl [0, 1, 2] rfl)
        · replace hf := ow_t hc hf
          refine lv_aload_n hx hb dX11_byLaw_49 rfl (lv_at hl 0 rfl) ?_
          refine va_get (D := D) (ci := 11) (v := .ref (p0 21)) (C := RX11) (T := TX11) (N := 44) hx hb hts in_X11_byLaw_X11 hown hK hP 0 rfl rfl 21 (by decide) (hts (.fieldLink RX11 46 "PaneDaysModel" "law" "[[I") (List.mem_of_getElem? (i := 2) rfl)) (fun _ h9 => h9) rfl dX11_byLaw_50 ?_
          refine lv_iload_n hx hb dX11_byLaw_53 rfl (lv_at hl 2 rfl) ?_
          obtain ⟨hr54, hf⟩ := ck_some hf
          refine ow_aald (rr := r0_21) hx hb hK hP 3 rfl hr54 dX11_byLaw_54 ?_
          refine lv_iconst (v := 1) hx hb dX11_byLaw_55 (by decide) ?_
          refine va_iald (f := g0_21 (x2).toNatClampNeg) hx hb hK hP (4 + (x2).toNatClampNeg) 0 (gr_skip rfl (gr_head (vp_lt hr54))) rfl (vp_in_nI (n := 1) (by decide) (by decide)) dX11_byLaw_56 ?_
          refine lv_goto (tgt := 73) hx hb dX11_byLaw_57 (by decide) ?_
          exact w_X11_byLaw_b73 C0 a0 p0 i0_0 i0_1 i0_2 i0_3 i0_4 i0_5 i0_6 i0_7 i0_8 i0_19 i0_20 i0_28 i0_33 i0_34 i0_35 i0_36 i0_37 i0_38 i0_39 i0_40 i0_41 i0_42 i0_43 v0_26 r0_21 g0_21 res (f_X11_byLaw_b13 i0_19 v0_26 g0_21 n) ih v0_25 x1 x2 x1 ((g0_21 (x2).toNatClampNeg) (1 : Int32).toNatClampNeg)  hf _ _ _ hP hD hS (lv_sub hl [0, 1, 2] rfl)
def f_X11_byLaw  (i0_19 : Int32) (v0_25 : Nat → Int32) (v0_26 : Nat → Int32) (g0_21 : Nat → Nat → Int32)  : Option (Int32 × (Nat → Int32)) := if i0_19 = 0 then (some (1, v0_25)) else (f_X11_byLaw_b13 i0_19 v0_26 g0_21 4000 v0_25 (0) (0))
set_option maxHeartbeats 4000000 in
set_option maxRecDepth 100000 in
theorem c_X11_byLaw (l : Launch) (D : va_G) (cs : Nat → ClassId)  (sz : Nat) (a0 : Nat) (p0 : Nat → Nat) (i0_0 : Int32) (i0_1 : Int32) (i0_2 : Int32) (i0_3 : Int32) (i0_4 : Int32) (i0_5 : Int32) (i0_6 : Int32) (i0_7 : Int32) (i0_8 : Int32) (i0_19 : Int32) (i0_20 : Int32) (i0_28 : Int32) (i0_33 : Int32) (i0_34 : Int32) (i0_35 : Int32) (i0_36 : Int32) (i0_37 : Int32) (i0_38 : Int32) (i0_39 : Int32) (i0_40 : Int32) (i0_41 : Int32) (i0_42 : Int32) (i0_43 : Int32) (v0_25 : Nat → Int32) (v0_26 : Nat → Int32) (r0_21 : Nat → Nat) (g0_21 : Nat → Nat → Int32)  (res : Int32 × (Nat → Int32)) (hf : f_X11_byLaw  i0_19 v0_25 v0_26 g0_21  = some res) : MI l D cs yX11_byLaw wsX11_byLaw rm_X11_byLaw [.ref a0] sz (W_X11_byLaw cs a0 p0 i0_0 i0_1 i0_2 i0_3 i0_4 i0_5 i0_6 i0_7 i0_8 i0_19 i0_20 i0_28 i0_33 i0_34 i0_35 i0_36 i0_37 i0_38 i0_39 i0_40 i0_41 i0_42 i0_43 v0_25 v0_26 r0_21 g0_21) (W_X11_byLaw cs a0 p0 i0_0 i0_1 i0_2 i0_3 i0_4 i0_5 i0_6 i0_7 i0_8 i0_19 i0_20 i0_28 i0_33 i0_34 i0_35 i0_36 i0_37 i0_38 i0_39 i0_40 i0_41 i0_42 i0_43 res.2 v0_26 r0_21 g0_21) res.1 := by
  rw [f_X11_byLaw] at hf
  refine ow_enter (cc := cX11_byLaw) (nL := 3) (ret := (some .int)) (by decide) rfl (Nat.le_of_ble_eq_true rfl) (fun p e s m below meth c ls H locs C0 hP hD hS hA hl => ?_)
  obtain ⟨hx, hb, hr, hlk, hml, hown, hts, hK, hG, hE⟩ := id C0
  have hl : lv_has ls 3 [(0, .ref a0)] := hl
  refine lv_aload_n hx hb dX11_byLaw_0 rfl (lv_at hl 0 rfl) ?_
  refine va_get (D := D) (ci := 11) (v := .int i0_19) (C := RX11) (T := TX11) (N := 44) hx hb hts in_X11_byLaw_X11 hown hK hP 0 rfl rfl 19 (by decide) (hts (.fieldLink RX11 175 "PaneDaysModel" "lawMany" "I") (List.mem_of_getElem? (i := 1) rfl)) (fun _ h9 => h9) rfl dX11_byLaw_1 ?_
  refine lv_if_ne (tgt := 9) hx hb dX11_byLaw_4 (by decide) (fun hc => ?_) (fun hc => ?_)
  · replace hf := ow_f hc hf
    refine lv_iconst (v := 0) hx hb dX11_byLaw_9 (by decide) ?_
    refine lv_istore_n (lv' := [(1, .int 0), (0, .ref a0)]) hx hb dX11_byLaw_10 rfl hl (by decide) rfl (fun ls hl => ?_)
    refine lv_iconst (v := 0) hx hb dX11_byLaw_11 (by decide) ?_
    refine lv_istore_n (lv' := [(2, .int 0), (1, .int 0), (0, .ref a0)]) hx hb dX11_byLaw_12 rfl hl (by decide) rfl (fun ls hl => ?_)
    exact w_X11_byLaw_b13 C0 a0 p0 i0_0 i0_1 i0_2 i0_3 i0_4 i0_5 i0_6 i0_7 i0_8 i0_19 i0_20 i0_28 i0_33 i0_34 i0_35 i0_36 i0_37 i0_38 i0_39 i0_40 i0_41 i0_42 i0_43 v0_26 r0_21 g0_21 res 4000 v0_25 (0) (0)  hf _ _ _ hP hD hS (lv_sub hl [2, 1, 0] rfl)
  · replace hf := ow_t hc hf
    refine lv_iconst (v := 1) hx hb dX11_byLaw_7 (by decide) ?_
    obtain rfl := Option.some.inj hf
    exact ow_retI C0 hP hD hS dX11_byLaw_8

theorem in_X11_count_X11 : ∀ w ∈ u_ws RX11 TX11 44, w ∈ wsX11_count := fun w h => List.mem_cons_of_mem _ (List.mem_append_right _ h)
abbrev W_X11_count (cs : Nat → ClassId) (a0 : Nat) (p0 : Nat → Nat) (i0_0 : Int32) (i0_1 : Int32) (i0_2 : Int32) (i0_3 : Int32) (i0_4 : Int32) (i0_5 : Int32) (i0_6 : Int32) (i0_7 : Int32) (i0_8 : Int32) (i0_19 : Int32) (i0_20 : Int32) (i0_28 : Int32) (i0_33 : Int32) (i0_34 : Int32) (i0_35 : Int32) (i0_36 : Int32) (i0_37 : Int32) (i0_38 : Int32) (i0_39 : Int32) (i0_40 : Int32) (i0_41 : Int32) (i0_42 : Int32) (i0_43 : Int32) : va_W := [(a0, .inr (11, [.int i0_0, .int i0_1, .int i0_2, .int i0_3, .int i0_4, .int i0_5, .int i0_6, .int i0_7, .int i0_8, .ref (p0 9), .ref (p0 10), .ref (p0 11), .ref (p0 12), .ref (p0 13), .ref (p0 14), .ref (p0 15), .ref (p0 16), .ref (p0 17), .ref (p0 18), .int i0_19, .int i0_20, .ref (p0 21), .ref (p0 22), .ref (p0 23), .ref (p0 24), .ref (p0 25), .ref (p0 26), .ref (p0 27), .int i0_28, .ref (p0 29), .ref (p0 30), .ref (p0 31), .ref (p0 32), .int i0_33, .int i0_34, .int i0_35, .int i0_36, .int i0_37, .int i0_38, .int i0_39, .int i0_40, .int i0_41, .int i0_42, .int i0_43]))]
abbrev S_X11_count (cs : Nat → ClassId) (a0 : Nat) (p0 : Nat → Nat) (i0_0 : Int32) (i0_1 : Int32) (i0_2 : Int32) (i0_3 : Int32) (i0_4 : Int32) (i0_5 : Int32) (i0_6 : Int32) (i0_7 : Int32) (i0_8 : Int32) (i0_19 : Int32) (i0_20 : Int32) (i0_28 : Int32) (i0_33 : Int32) (i0_34 : Int32) (i0_35 : Int32) (i0_36 : Int32) (i0_37 : Int32) (i0_38 : Int32) (i0_39 : Int32) (i0_40 : Int32) (i0_41 : Int32) (i0_42 : Int32) (i0_43 : Int32) : List va_W := [[(a0, .inr (11, [.int i0_0, .int i0_1, .int i0_2, .int i0_3, .int i0_4, .int i0_5, .int i0_6, .int i0_7, .int i0_8, .ref (p0 9), .ref (p0 10), .ref (p0 11), .ref (p0 12), .ref (p0 13), .ref (p0 14), .ref (p0 15), .ref (p0 16), .ref (p0 17), .ref (p0 18), .int i0_19, .int i0_20, .ref (p0 21), .ref (p0 22), .ref (p0 23), .ref (p0 24), .ref (p0 25), .ref (p0 26), .ref (p0 27), .int i0_28, .ref (p0 29), .ref (p0 30), .ref (p0 31), .ref (p0 32), .int i0_33, .int i0_34, .int i0_35, .int i0_36, .int i0_37, .int i0_38, .int i0_39, .int i0_40, .int i0_41, .int i0_42, .int i0_43]))]]
abbrev rm_X11_count : Room := { frames := 0, cells := 0, slots := 0, locals := 0 }
def f_X11_count  (i0_0 : Int32) (i0_1 : Int32) (i0_34 : Int32) (i0_36 : Int32) (x1 : Int32) : Option (Int32 × Int32) := if x1 = 0 then (some (i0_36, 0)) else (if x1 = 1 then (some (i0_1, 0)) else (if x1 = 2 then (some (i0_34, 0)) else (some ((-1), 0))))
set_option maxHeartbeats 4000000 in
set_option maxRecDepth 100000 in
theorem c_X11_count (l : Launch) (D : va_G) (cs : Nat → ClassId)  (sz : Nat) (a0 : Nat) (p0 : Nat → Nat) (i0_0 : Int32) (i0_1 : Int32) (i0_2 : Int32) (i0_3 : Int32) (i0_4 : Int32) (i0_5 : Int32) (i0_6 : Int32) (i0_7 : Int32) (i0_8 : Int32) (i0_19 : Int32) (i0_20 : Int32) (i0_28 : Int32) (i0_33 : Int32) (i0_34 : Int32) (i0_35 : Int32) (i0_36 : Int32) (i0_37 : Int32) (i0_38 : Int32) (i0_39 : Int32) (i0_40 : Int32) (i0_41 : Int32) (i0_42 : Int32) (i0_43 : Int32) (x1 : Int32) (res : Int32 × Int32) (hf : f_X11_count  i0_0 i0_1 i0_34 i0_36 x1 = some res) : MI l D cs yX11_count wsX11_count rm_X11_count [.ref a0, .int x1] sz (W_X11_count cs a0 p0 i0_0 i0_1 i0_2 i0_3 i0_4 i0_5 i0_6 i0_7 i0_8 i0_19 i0_20 i0_28 i0_33 i0_34 i0_35 i0_36 i0_37 i0_38 i0_39 i0_40 i0_41 i0_42 i0_43) (W_X11_count cs a0 p0 res.2 i0_1 i0_2 i0_3 i0_4 i0_5 i0_6 i0_7 i0_8 i0_19 i0_20 i0_28 i0_33 i0_34 i0_35 i0_36 i0_37 i0_38 i0_39 i0_40 i0_41 i0_42 i0_43) res.1 := by
  rw [f_X11_count] at hf
  refine ow_enter (cc := cX11_count) (nL := 2) (ret := (some .int)) (by decide) rfl (Nat.le_of_ble_eq_true rfl) (fun p e s m below meth c ls H locs C0 hP hD hS hA hl => ?_)
  obtain ⟨hx, hb, hr, hlk, hml, hown, hts, hK, hG, hE⟩ := id C0
  have hl : lv_has ls 2 [(0, .ref a0), (1, .int x1)] := hl
  refine lv_aload_n hx hb dX11_count_0 rfl (lv_at hl 0 rfl) ?_
  refine lv_iconst (v := 0) hx hb dX11_count_1 (by decide) ?_
  refine va_put (D := D) (ci := 11) (v := .int 0) (ty := .int) (C := RX11) (T := TX11) (N := 44) hx hb hts in_X11_count_X11 tyX11 tyX11_ok nmX11 hown hK hP hD hS 0 rfl rfl 0 (by decide) (hts (.fieldLink RX11 85 "PaneDaysModel" "thrown" "I") (List.mem_of_getElem? (i := 1) rfl)) (fun _ h9 => h9) rfl (by decide +kernel) rfl rfl (Nat.le_of_ble_eq_true rfl) dX11_count_2 (fun H locs (hP : va_P D vwCl (W_X11_count cs a0 p0 (0) i0_1 i0_2 i0_3 i0_4 i0_5 i0_6 i0_7 i0_8 i0_19 i0_20 i0_28 i0_33 i0_34 i0_35 i0_36 i0_37 i0_38 i0_39 i0_40 i0_41 i0_42 i0_43) H) (hD : va_D _ (W_X11_count cs a0 p0 (0) i0_1 i0_2 i0_3 i0_4 i0_5 i0_6 i0_7 i0_8 i0_19 i0_20 i0_28 i0_33 i0_34 i0_35 i0_36 i0_37 i0_38 i0_39 i0_40 i0_41 i0_42 i0_43)) hS => ?_)
  refine lv_iload_n hx hb dX11_count_5 rfl (lv_at hl 1 rfl) ?_
  refine lv_if_ne (tgt := 16) hx hb dX11_count_6 (by decide) (fun hc => ?_) (fun hc => ?_)
  · replace hf := ow_f hc hf
    refine lv_iload_n hx hb dX11_count_16 rfl (lv_at hl 1 rfl) ?_
    refine lv_iconst (v := 1) hx hb dX11_count_17 (by decide) ?_
    refine lv_icmp_ne (tgt := 28) hx hb dX11_count_18 (by decide) (fun hc => ?_) (fun hc => ?_)
    · replace hf := ow_f hc hf
      refine lv_iload_n hx hb dX11_count_28 rfl (lv_at hl 1 rfl) ?_
      refine lv_iconst (v := 2) hx hb dX11_count_29 (by decide) ?_
      refine lv_icmp_ne (tgt := 40) hx hb dX11_count_30 (by decide) (fun hc => ?_) (fun hc => ?_)
      · replace hf := ow_f hc hf
        refine lv_iconst (v := (-1)) hx hb dX11_count_40 (by decide) ?_
        obtain rfl := Option.some.inj hf
        exact ow_retI C0 hP hD hS dX11_count_41
      · replace hf := ow_t hc hf
        refine lv_aload_n hx hb dX11_count_33 rfl (lv_at hl 0 rfl) ?_
        refine va_get (D := D) (ci := 11) (v := .int i0_34) (C := RX11) (T := TX11) (N := 44) hx hb hts in_X11_count_X11 hown hK hP 0 rfl rfl 34 (by decide) (hts (.fieldLink RX11 181 "PaneDaysModel" "works" "I") (List.mem_of_getElem? (i := 4) rfl)) (fun _ h9 => h9) rfl dX11_count_34 ?_
        refine lv_goto (tgt := 41) hx hb dX11_count_37 (by decide) ?_
        obtain rfl := Option.some.inj hf
        exact ow_retI C0 hP hD hS dX11_count_41
    · replace hf := ow_t hc hf
      refine lv_aload_n hx hb dX11_count_21 rfl (lv_at hl 0 rfl) ?_
      refine va_get (D := D) (ci := 11) (v := .int i0_1) (C := RX11) (T := TX11) (N := 44) hx hb hts in_X11_count_X11 hown hK hP 0 rfl rfl 1 (by decide) (hts (.fieldLink RX11 88 "PaneDaysModel" "tape" "I") (List.mem_of_getElem? (i := 3) rfl)) (fun _ h9 => h9) rfl dX11_count_22 ?_
      refine lv_goto (tgt := 41) hx hb dX11_count_25 (by decide) ?_
      obtain rfl := Option.some.inj hf
      exact ow_retI C0 hP hD hS dX11_count_41
  · replace hf := ow_t hc hf
    refine lv_aload_n hx hb dX11_count_9 rfl (lv_at hl 0 rfl) ?_
    refine va_get (D := D) (ci := 11) (v := .int i0_36) (C := RX11) (T := TX11) (N := 44) hx hb hts in_X11_count_X11 hown hK hP 0 rfl rfl 36 (by decide) (hts (.fieldLink RX11 187 "PaneDaysModel" "images" "I") (List.mem_of_getElem? (i := 2) rfl)) (fun _ h9 => h9) rfl dX11_count_10 ?_
    refine lv_goto (tgt := 41) hx hb dX11_count_13 (by decide) ?_
    obtain rfl := Option.some.inj hf
    exact ow_retI C0 hP hD hS dX11_count_41
abbrev rm_X11_in : Room := { frames := 0, cells := 0, slots := 0, locals := 0 }
def f_X11_in   (x0 : Int32) (x1 : Int32) (x2 : Int32) : Option (Int32) := if x0 < x1 then (some (0)) else (if x2 < x0 then (some (0)) else (some (1)))
set_option maxHeartbeats 4000000 in
set_option maxRecDepth 100000 in
theorem c_X11_in (l : Launch) (D : va_G) (cs : Nat → ClassId)  (sz : Nat)  (x0 : Int32) (x1 : Int32) (x2 : Int32) (res : Int32) (hf : f_X11_in   x0 x1 x2 = some res) : MI l D cs yX11_in wsX11_in rm_X11_in [.int x0, .int x1, .int x2] sz ([] : va_W) ([] : va_W) res := by
  rw [f_X11_in] at hf
  refine ow_enter (cc := cX11_in) (nL := 3) (ret := (some .boolean)) (by decide) rfl (Nat.le_of_ble_eq_true rfl) (fun p e s m below meth c ls H locs C0 hP hD hS hA hl => ?_)
  obtain ⟨hx, hb, hr, hlk, hml, hown, hts, hK, hG, hE⟩ := id C0
  have hl : lv_has ls 3 [(0, .int x0), (1, .int x1), (2, .int x2)] := hl
  refine lv_iload_n hx hb dX11_in_0 rfl (lv_at hl 0 rfl) ?_
  refine lv_iload_n hx hb dX11_in_1 rfl (lv_at hl 1 rfl) ?_
  refine lv_icmp_lt (tgt := 14) hx hb dX11_in_2 (by decide) (fun hc => ?_) (fun hc => ?_)
  · replace hf := ow_t hc hf
    refine lv_iconst (v := 0) hx hb dX11_in_14 (by decide) ?_
    obtain rfl := Option.some.inj hf
    exact ow_retZ C0 (Or.inl rfl) hP hD hS dX11_in_15
  · replace hf := ow_f hc hf
    refine lv_iload_n hx hb dX11_in_5 rfl (lv_at hl 0 rfl) ?_
    refine lv_iload_n hx hb dX11_in_6 rfl (lv_at hl 2 rfl) ?_
    refine lv_icmp_gt (tgt := 14) hx hb dX11_in_7 (by decide) (fun hc => ?_) (fun hc => ?_)
    · replace hf := ow_t hc hf
      refine lv_iconst (v := 0) hx hb dX11_in_14 (by decide) ?_
      obtain rfl := Option.some.inj hf
      exact ow_retZ C0 (Or.inl rfl) hP hD hS dX11_in_15
    · replace hf := ow_f hc hf
      refine lv_iconst (v := 1) hx hb dX11_in_10 (by decide) ?_
      refine lv_goto (tgt := 15) hx hb dX11_in_11 (by decide) ?_
      obtain rfl := Option.some.inj hf
      exact ow_retZ C0 (Or.inr rfl) hP hD hS dX11_in_15
theorem in_X11_status_X11 : ∀ w ∈ u_ws RX11 TX11 44, w ∈ wsX11_status := fun w h => List.mem_cons_of_mem _ (List.mem_append_right _ h)
abbrev W_X11_status (cs : Nat → ClassId) (a0 : Nat) (p0 : Nat → Nat) (i0_0 : Int32) (i0_1 : Int32) (i0_2 : Int32) (i0_3 : Int32) (i0_4 : Int32) (i0_5 : Int32) (i0_6 : Int32) (i0_7 : Int32) (i0_8 : Int32) (i0_19 : Int32) (i0_20 : Int32) (i0_28 : Int32) (i0_33 : Int32) (i0_34 : Int32) (i0_35 : Int32) (i0_36 : Int32) (i0_37 : Int32) (i0_38 : Int32) (i0_39 : Int32) (i0_40 : Int32) (i0_41 : Int32) (i0_42 : Int32) (i0_43 : Int32) (v0_10 : Nat → Int32) : va_W := [(a0, .inr (11, [.int i0_0, .int i0_1, .int i0_2, .int i0_3, .int i0_4, .int i0_5, .int i0_6, .int i0_7, .int i0_8, .ref (p0 9), .ref (p0 10), .ref (p0 11), .ref (p0 12), .ref (p0 13), .ref (p0 14), .ref (p0 15), .ref (p0 16), .ref (p0 17), .ref (p0 18), .int i0_19, .int i0_20, .ref (p0 21), .ref (p0 22), .ref (p0 23), .ref (p0 24), .ref (p0 25), .ref (p0 26), .ref (p0 27), .int i0_28, .ref (p0 29), .ref (p0 30), .ref (p0 31), .ref (p0 32), .int i0_33, .int i0_34, .int i0_35, .int i0_36, .int i0_37, .int i0_38, .int i0_39, .int i0_40, .int i0_41, .int i0_42, .int i0_43])), (p0 10, .inl (cs 0, 3, .inl v0_10))]
abbrev S_X11_status (cs : Nat → ClassId) (a0 : Nat) (p0 : Nat → Nat) (i0_0 : Int32) (i0_1 : Int32) (i0_2 : Int32) (i0_3 : Int32) (i0_4 : Int32) (i0_5 : Int32) (i0_6 : Int32) (i0_7 : Int32) (i0_8 : Int32) (i0_19 : Int32) (i0_20 : Int32) (i0_28 : Int32) (i0_33 : Int32) (i0_34 : Int32) (i0_35 : Int32) (i0_36 : Int32) (i0_37 : Int32) (i0_38 : Int32) (i0_39 : Int32) (i0_40 : Int32) (i0_41 : Int32) (i0_42 : Int32) (i0_43 : Int32) (v0_10 : Nat → Int32) : List va_W := [[(a0, .inr (11, [.int i0_0, .int i0_1, .int i0_2, .int i0_3, .int i0_4, .int i0_5, .int i0_6, .int i0_7, .int i0_8, .ref (p0 9), .ref (p0 10), .ref (p0 11), .ref (p0 12), .ref (p0 13), .ref (p0 14), .ref (p0 15), .ref (p0 16), .ref (p0 17), .ref (p0 18), .int i0_19, .int i0_20, .ref (p0 21), .ref (p0 22), .ref (p0 23), .ref (p0 24), .ref (p0 25), .ref (p0 26), .ref (p0 27), .int i0_28, .ref (p0 29), .ref (p0 30), .ref (p0 31), .ref (p0 32), .int i0_33, .int i0_34, .int i0_35, .int i0_36, .int i0_37, .int i0_38, .int i0_39, .int i0_40, .int i0_41, .int i0_42, .int i0_43]))], [(p0 10, .inl (cs 0, 3, .inl v0_10))]]
abbrev rm_X11_status : Room := { frames := 1, cells := 0, slots := 0, locals := 22 }
def f_X11_status  (i0_0 : Int32) (v0_10 : Nat → Int32) (x1 : Int32) : Option (Int32 × Int32) := (f_X11_in x1 (0) (2)).bind fun q8 => if q8 = 0 then (some ((-1), 0)) else (ck x1 3 (some (v0_10 (x1).toNatClampNeg, 0)))
set_option maxHeartbeats 4000000 in
set_option maxRecDepth 100000 in
theorem c_X11_status (l : Launch) (D : va_G) (cs : Nat → ClassId)  (sz : Nat) (a0 : Nat) (p0 : Nat → Nat) (i0_0 : Int32) (i0_1 : Int32) (i0_2 : Int32) (i0_3 : Int32) (i0_4 : Int32) (i0_5 : Int32) (i0_6 : Int32) (i0_7 : Int32) (i0_8 : Int32) (i0_19 : Int32) (i0_20 : Int32) (i0_28 : Int32) (i0_33 : Int32) (i0_34 : Int32) (i0_35 : Int32) (i0_36 : Int32) (i0_37 : Int32) (i0_38 : Int32) (i0_39 : Int32) (i0_40 : Int32) (i0_41 : Int32) (i0_42 : Int32) (i0_43 : Int32) (v0_10 : Nat → Int32) (x1 : Int32) (res : Int32 × Int32) (hf : f_X11_status  i0_0 v0_10 x1 = some res) : MI l D cs yX11_status wsX11_status rm_X11_status [.ref a0, .int x1] sz (W_X11_status cs a0 p0 i0_0 i0_1 i0_2 i0_3 i0_4 i0_5 i0_6 i0_7 i0_8 i0_19 i0_20 i0_28 i0_33 i0_34 i0_35 i0_36 i0_37 i0_38 i0_39 i0_40 i0_41 i0_42 i0_43 v0_10) (W_X11_status cs a0 p0 res.2 i0_1 i0_2 i0_3 i0_4 i0_5 i0_6 i0_7 i0_8 i0_19 i0_20 i0_28 i0_33 i0_34 i0_35 i0_36 i0_37 i0_38 i0_39 i0_40 i0_41 i0_42 i0_43 v0_10) res.1 := by
  rw [f_X11_status] at hf
  refine ow_enter (cc := cX11_status) (nL := 2) (ret := (some .int)) (by decide) rfl (Nat.le_of_ble_eq_true rfl) (fun p e s m below meth c ls H locs C0 hP hD hS hA hl => ?_)
  obtain ⟨hx, hb, hr, hlk, hml, hown, hts, hK, hG, hE⟩ := id C0
  have hl : lv_has ls 2 [(0, .ref a0), (1, .int x1)] := hl
  refine lv_aload_n hx hb dX11_status_0 rfl (lv_at hl 0 rfl) ?_
  refine lv_iconst (v := 0) hx hb dX11_status_1 (by decide) ?_
  refine va_put (D := D) (ci := 11) (v := .int 0) (ty := .int) (C := RX11) (T := TX11) (N := 44) hx hb hts in_X11_status_X11 tyX11 tyX11_ok nmX11 hown hK hP hD hS 0 rfl rfl 0 (by decide) (hts (.fieldLink RX11 85 "PaneDaysModel" "thrown" "I") (List.mem_of_getElem? (i := 1) rfl)) (fun _ h9 => h9) rfl (by decide +kernel) rfl rfl (Nat.le_of_ble_eq_true rfl) dX11_status_2 (fun H locs (hP : va_P D vwCl (W_X11_status cs a0 p0 (0) i0_1 i0_2 i0_3 i0_4 i0_5 i0_6 i0_7 i0_8 i0_19 i0_20 i0_28 i0_33 i0_34 i0_35 i0_36 i0_37 i0_38 i0_39 i0_40 i0_41 i0_42 i0_43 v0_10) H) (hD : va_D _ (W_X11_status cs a0 p0 (0) i0_1 i0_2 i0_3 i0_4 i0_5 i0_6 i0_7 i0_8 i0_19 i0_20 i0_28 i0_33 i0_34 i0_35 i0_36 i0_37 i0_38 i0_39 i0_40 i0_41 i0_42 i0_43 v0_10)) hS => ?_)
  refine lv_iload_n hx hb dX11_status_5 rfl (lv_at hl 1 rfl) ?_
  refine lv_iconst (v := 0) hx hb dX11_status_6 (by decide) ?_
  refine lv_iconst (v := 2) hx hb dX11_status_7 (by decide) ?_
  obtain ⟨q8, hq, hf⟩ := bd_some hf
  refine ow_gSI (As := [.int x1, .int 0, .int 2]) (rest := []) (sg := (S_X11_status cs a0 p0 (0) i0_1 i0_2 i0_3 i0_4 i0_5 i0_6 i0_7 i0_8 i0_19 i0_20 i0_28 i0_33 i0_34 i0_35 i0_36 i0_37 i0_38 i0_39 i0_40 i0_41 i0_42 i0_43 v0_10)) (sc := ([] : List va_W)) (sc' := ([] : List va_W)) (sr := ow_pks (S_X11_status cs a0 p0 (0) i0_1 i0_2 i0_3 i0_4 i0_5 i0_6 i0_7 i0_8 i0_19 i0_20 i0_28 i0_33 i0_34 i0_35 i0_36 i0_37 i0_38 i0_39 i0_40 i0_41 i0_42 i0_43 v0_10) [0, 1]) (sf := (S_X11_status cs a0 p0 (0) i0_1 i0_2 i0_3 i0_4 i0_5 i0_6 i0_7 i0_8 i0_19 i0_20 i0_28 i0_33 i0_34 i0_35 i0_36 i0_37 i0_38 i0_39 i0_40 i0_41 i0_42 i0_43 v0_10)) (r := q8) C0 (c_X11_in l D cs H.size  x1 (0) (2) q8 hq) (va_cwS 3 hts gX11_status_X11_in rfl rfl rfl (by decide +kernel) ⟨Nat.le_of_ble_eq_true rfl, Nat.le_of_ble_eq_true rfl⟩) hP hD hS (sg_permL [] [0, 1] 2 rfl (by decide) rfl rfl) (sg_permG [0, 1] 2 rfl (by decide) rfl) rfl hl.1 rfl (Nat.le_of_ble_eq_true rfl) ⟨Nat.zero_le _, Nat.zero_le _⟩ dX11_status_8 (fun H locs (hP : va_P D vwCl (W_X11_status cs a0 p0 (0) i0_1 i0_2 i0_3 i0_4 i0_5 i0_6 i0_7 i0_8 i0_19 i0_20 i0_28 i0_33 i0_34 i0_35 i0_36 i0_37 i0_38 i0_39 i0_40 i0_41 i0_42 i0_43 v0_10) H) (hD : va_D _ (W_X11_status cs a0 p0 (0) i0_1 i0_2 i0_3 i0_4 i0_5 i0_6 i0_7 i0_8 i0_19 i0_20 i0_28 i0_33 i0_34 i0_35 i0_36 i0_37 i0_38 i0_39 i0_40 i0_41 i0_42 i0_43 v0_10)) hS => ?_)
  refine lv_if_eq (tgt := 23) hx hb dX11_status_11 (by decide) (fun hc => ?_) (fun hc => ?_)
  · replace hf := ow_t hc hf
    refine lv_iconst (v := (-1)) hx hb dX11_status_23 (by decide) ?_
    obtain rfl := Option.some.inj hf
    exact ow_retI C0 hP hD hS dX11_status_24
  · replace hf := ow_f hc hf
    refine lv_aload_n hx hb dX11_status_14 rfl (lv_at hl 0 rfl) ?_
    refine va_get (D := D) (ci := 11) (v := .ref (p0 10)) (C := RX11) (T := TX11) (N := 44) hx hb hts in_X11_status_X11 hown hK hP 0 rfl rfl 10 (by decide) (hts (.fieldLink RX11 17 "PaneDaysModel" "refused" "[I") (List.mem_of_getElem? (i := 2) rfl)) (fun _ h9 => h9) rfl dX11_status_15 ?_
    refine lv_iload_n hx hb dX11_status_18 rfl (lv_at hl 1 rfl) ?_
    obtain ⟨hin, hf⟩ := ck_some hf
    refine va_iald (f := v0_10) hx hb hK hP 1 0 rfl rfl hin dX11_status_19 ?_
    refine lv_goto (tgt := 24) hx hb dX11_status_20 (by decide) ?_
    obtain rfl := Option.some.inj hf
    exact ow_retI C0 hP hD hS dX11_status_24
theorem in_X11_puts_X11 : ∀ w ∈ u_ws RX11 TX11 44, w ∈ wsX11_puts := fun w h => List.mem_cons_of_mem _ (List.mem_append_right _ h)
abbrev W_X11_puts (cs : Nat → ClassId) (a0 : Nat) (p0 : Nat → Nat) (i0_0 : Int32) (i0_1 : Int32) (i0_2 : Int32) (i0_3 : Int32) (i0_4 : Int32) (i0_5 : Int32) (i0_6 : Int32) (i0_7 : Int32) (i0_8 : Int32) (i0_19 : Int32) (i0_20 : Int32) (i0_28 : Int32) (i0_33 : Int32) (i0_34 : Int32) (i0_35 : Int32) (i0_36 : Int32) (i0_37 : Int32) (i0_38 : Int32) (i0_39 : Int32) (i0_40 : Int32) (i0_41 : Int32) (i0_42 : Int32) (i0_43 : Int32) (a1 : Nat) (n1 : Nat) (v1 : Nat → Int32) : va_W := [(a0, .inr (11, [.int i0_0, .int i0_1, .int i0_2, .int i0_3, .int i0_4, .int i0_5, .int i0_6, .int i0_7, .int i0_8, .ref (p0 9), .ref (p0 10), .ref (p0 11), .ref (p0 12), .ref (p0 13), .ref (p0 14), .ref (p0 15), .ref (p0 16), .ref (p0 17), .ref (p0 18), .int i0_19, .int i0_20, .ref (p0 21), .ref (p0 22), .ref (p0 23), .ref (p0 24), .ref (p0 25), .ref (p0 26), .ref (p0 27), .int i0_28, .ref (p0 29), .ref (p0 30), .ref (p0 31), .ref (p0 32), .int i0_33, .int i0_34, .int i0_35, .int i0_36, .int i0_37, .int i0_38, .int i0_39, .int i0_40, .int i0_41, .int i0_42, .int i0_43])), (a1, .inl (cs 0, n1, .inl v1))]
abbrev S_X11_puts (cs : Nat → ClassId) (a0 : Nat) (p0 : Nat → Nat) (i0_0 : Int32) (i0_1 : Int32) (i0_2 : Int32) (i0_3 : Int32) (i0_4 : Int32) (i0_5 : Int32) (i0_6 : Int32) (i0_7 : Int32) (i0_8 : Int32) (i0_19 : Int32) (i0_20 : Int32) (i0_28 : Int32) (i0_33 : Int32) (i0_34 : Int32) (i0_35 : Int32) (i0_36 : Int32) (i0_37 : Int32) (i0_38 : Int32) (i0_39 : Int32) (i0_40 : Int32) (i0_41 : Int32) (i0_42 : Int32) (i0_43 : Int32) (a1 : Nat) (n1 : Nat) (v1 : Nat → Int32) : List va_W := [[(a0, .inr (11, [.int i0_0, .int i0_1, .int i0_2, .int i0_3, .int i0_4, .int i0_5, .int i0_6, .int i0_7, .int i0_8, .ref (p0 9), .ref (p0 10), .ref (p0 11), .ref (p0 12), .ref (p0 13), .ref (p0 14), .ref (p0 15), .ref (p0 16), .ref (p0 17), .ref (p0 18), .int i0_19, .int i0_20, .ref (p0 21), .ref (p0 22), .ref (p0 23), .ref (p0 24), .ref (p0 25), .ref (p0 26), .ref (p0 27), .int i0_28, .ref (p0 29), .ref (p0 30), .ref (p0 31), .ref (p0 32), .int i0_33, .int i0_34, .int i0_35, .int i0_36, .int i0_37, .int i0_38, .int i0_39, .int i0_40, .int i0_41, .int i0_42, .int i0_43]))], [(a1, .inl (cs 0, n1, .inl v1))]]
abbrev rm_X11_puts : Room := { frames := 0, cells := 0, slots := 0, locals := 0 }
def f_X11_puts_b11  (n1 : Nat)  (i0_37 : Int32) (v1 : Nat → Int32)  : Option (Int32 × Int32 × (Nat → Int32)) := ck ((i0_37 + 1) - 1) n1 (some (v1 ((i0_37 + 1) - 1).toNatClampNeg, i0_37 + 1, v1))
set_option maxHeartbeats 4000000 in
set_option maxRecDepth 100000 in
theorem w_X11_puts_b11 {p : Program} {l : Launch} {e : Env} {s : State} {m : MethodId} {below : List Frame} {meth : Method} {c : Code} {D : va_G} {cs : Nat → ClassId} {av : Array Value} {w0 : va_W} (C0 : Cx p s m meth c av wsX11_puts cX11_puts 4 (some .int) RX11 D cs w0)  (a0 : Nat) (p0 : Nat → Nat) (i0_0 : Int32) (i0_1 : Int32) (i0_2 : Int32) (i0_3 : Int32) (i0_4 : Int32) (i0_5 : Int32) (i0_6 : Int32) (i0_7 : Int32) (i0_8 : Int32) (i0_19 : Int32) (i0_20 : Int32) (i0_28 : Int32) (i0_33 : Int32) (i0_34 : Int32) (i0_35 : Int32) (i0_36 : Int32) (i0_38 : Int32) (i0_39 : Int32) (i0_40 : Int32) (i0_41 : Int32) (i0_42 : Int32) (i0_43 : Int32) (a1 : Nat) (n1 : Nat) (res : Int32 × Int32 × (Nat → Int32))  : ∀ (i0_37 : Int32) (v1 : Nat → Int32), f_X11_puts_b11 n1 i0_37 v1 = some res → ∀ (H : Heap) (locs : List Loc) (ls : Array Slot), va_P D vwCl (W_X11_puts cs a0 p0 i0_0 i0_1 i0_2 i0_3 i0_4 i0_5 i0_6 i0_7 i0_8 i0_19 i0_20 i0_28 i0_33 i0_34 i0_35 i0_36 i0_37 i0_38 i0_39 i0_40 i0_41 i0_42 i0_43 a1 n1 v1) H → va_D (va_A w0 s.heap.size) (W_X11_puts cs a0 p0 i0_0 i0_1 i0_2 i0_3 i0_4 i0_5 i0_6 i0_7 i0_8 i0_19 i0_20 i0_28 i0_33 i0_34 i0_35 i0_36 i0_37 i0_38 i0_39 i0_40 i0_41 i0_42 i0_43 a1 n1 v1) → va_S (va_A w0 s.heap.size) s.heap H locs → lv_has ls 4 [(0, .ref a0), (1, .ref a1)] → W p l e rm_X11_puts s m av below meth c H locs 0 0 (MQ below (oI D cs w0 (W_X11_puts cs a0 p0 i0_0 i0_1 i0_2 i0_3 i0_4 i0_5 i0_6 i0_7 i0_8 i0_19 i0_20 i0_28 i0_33 i0_34 i0_35 i0_36 res.2.1 i0_38 i0_39 i0_40 i0_41 i0_42 i0_43 a1 n1 res.2.2) res.1 s.heap.size) av s 0 0 (va_A w0 s.heap.size)) (F0 m 11 ls []) := by
  obtain ⟨hx, hb, hr, hlk, hml, hown, hts, hK, hG, hE⟩ := id C0
  intro i0_37 v1 hf H locs ls hP hD hS hl
  rw [f_X11_puts_b11] at hf
  refine lv_aload_n hx hb dX11_puts_11 rfl (lv_at hl 0 rfl) ?_
  refine lv_dup hx hb dX11_puts_12 rfl ?_
  refine va_get (D := D) (ci := 11) (v := .int i0_37) (C := RX11) (T := TX11) (N := 44) hx hb hts in_X11_puts_X11 hown hK hP 0 rfl rfl 37 (by decide) (hts (.fieldLink RX11 412 "PaneDaysModel" "spot" "I") (List.mem_of_getElem? (i := 1) rfl)) (fun _ h9 => h9) rfl dX11_puts_13 ?_
  refine lv_iconst (v := 1) hx hb dX11_puts_16 (by decide) ?_
  refine lv_iadd hx hb dX11_puts_17 ?_
  refine va_put (D := D) (ci := 11) (v := .int (i0_37 + 1)) (ty := .int) (C := RX11) (T := TX11) (N := 44) hx hb hts in_X11_puts_X11 tyX11 tyX11_ok nmX11 hown hK hP hD hS 0 rfl rfl 37 (by decide) (hts (.fieldLink RX11 412 "PaneDaysModel" "spot" "I") (List.mem_of_getElem? (i := 1) rfl)) (fun _ h9 => h9) rfl (by decide +kernel) rfl rfl (Nat.le_of_ble_eq_true rfl) dX11_puts_18 (fun H locs (hP : va_P D vwCl (W_X11_puts cs a0 p0 i0_0 i0_1 i0_2 i0_3 i0_4 i0_5 i0_6 i0_7 i0_8 i0_19 i0_20 i0_28 i0_33 i0_34 i0_35 i0_36 (i0_37 + 1) i0_38 i0_39 i0_40 i0_41 i0_42 i0_43 a1 n1 v1) H) (hD : va_D _ (W_X11_puts cs a0 p0 i0_0 i0_1 i0_2 i0_3 i0_4 i0_5 i0_6 i0_7 i0_8 i0_19 i0_20 i0_28 i0_33 i0_34 i0_35 i0_36 (i0_37 + 1) i0_38 i0_39 i0_40 i0_41 i0_42 i0_43 a1 n1 v1)) hS => ?_)
  refine lv_aload_n hx hb dX11_puts_21 rfl (lv_at hl 1 rfl) ?_
  refine lv_aload_n hx hb dX11_puts_22 rfl (lv_at hl 0 rfl) ?_
  refine va_get (D := D) (ci := 11) (v := .int (i0_37 + 1)) (C := RX11) (T := TX11) (N := 44) hx hb hts in_X11_puts_X11 hown hK hP 0 rfl rfl 37 (by decide) (hts (.fieldLink RX11 412 "PaneDaysModel" "spot" "I") (List.mem_of_getElem? (i := 1) rfl)) (fun _ h9 => h9) rfl dX11_puts_23 ?_
  refine lv_iconst (v := 1) hx hb dX11_puts_26 (by decide) ?_
  refine lv_isub hx hb dX11_puts_27 ?_
  obtain ⟨hin, hf⟩ := ck_some hf
  refine va_iald (f := v1) hx hb hK hP 1 0 rfl rfl hin dX11_puts_28 ?_
  obtain rfl := Option.some.inj hf
  exact ow_retI C0 hP hD hS dX11_puts_29
def f_X11_puts  (i0_37 : Int32) (n1 : Nat) (v1 : Nat → Int32) (x2 : Int32) (x3 : Int32) : Option (Int32 × Int32 × (Nat → Int32)) := if x3 = 0 then (ck i0_37 n1 (f_X11_puts_b11 n1 i0_37 (upd v1 (i0_37).toNatClampNeg x2))) else (f_X11_puts_b11 n1 i0_37 v1)
set_option maxHeartbeats 4000000 in
set_option maxRecDepth 100000 in
theorem c_X11_puts (l : Launch) (D : va_G) (cs : Nat → ClassId)  (sz : Nat) (a0 : Nat) (p0 : Nat → Nat) (i0_0 : Int32) (i0_1 : Int32) (i0_2 : Int32) (i0_3 : Int32) (i0_4 : Int32) (i0_5 : Int32) (i0_6 : Int32) (i0_7 : Int32) (i0_8 : Int32) (i0_19 : Int32) (i0_20 : Int32) (i0_28 : Int32) (i0_33 : Int32) (i0_34 : Int32) (i0_35 : Int32) (i0_36 : Int32) (i0_37 : Int32) (i0_38 : Int32) (i0_39 : Int32) (i0_40 : Int32) (i0_41 : Int32) (i0_42 : Int32) (i0_43 : Int32) (a1 : Nat) (n1 : Nat) (v1 : Nat → Int32) (x2 : Int32) (x3 : Int32) (res : Int32 × Int32 × (Nat → Int32)) (hf : f_X11_puts  i0_37 n1 v1 x2 x3 = some res) : MI l D cs yX11_puts wsX11_puts rm_X11_puts [.ref a0, .ref a1, .int x2, .int x3] sz (W_X11_puts cs a0 p0 i0_0 i0_1 i0_2 i0_3 i0_4 i0_5 i0_6 i0_7 i0_8 i0_19 i0_20 i0_28 i0_33 i0_34 i0_35 i0_36 i0_37 i0_38 i0_39 i0_40 i0_41 i0_42 i0_43 a1 n1 v1) (W_X11_puts cs a0 p0 i0_0 i0_1 i0_2 i0_3 i0_4 i0_5 i0_6 i0_7 i0_8 i0_19 i0_20 i0_28 i0_33 i0_34 i0_35 i0_36 res.2.1 i0_38 i0_39 i0_40 i0_41 i0_42 i0_43 a1 n1 res.2.2) res.1 := by
  rw [f_X11_puts] at hf
  refine ow_enter (cc := cX11_puts) (nL := 4) (ret := (some .int)) (by decide) rfl (Nat.le_of_ble_eq_true rfl) (fun p e s m below meth c ls H locs C0 hP hD hS hA hl => ?_)
  obtain ⟨hx, hb, hr, hlk, hml, hown, hts, hK, hG, hE⟩ := id C0
  have hl : lv_has ls 4 [(0, .ref a0), (1, .ref a1), (2, .int x2), (3, .int x3)] := hl
  refine lv_iload_n hx hb dX11_puts_0 rfl (lv_at hl 3 rfl) ?_
  refine lv_if_ne (tgt := 11) hx hb dX11_puts_1 (by decide) (fun hc => ?_) (fun hc => ?_)
  · replace hf := ow_f hc hf
    exact w_X11_puts_b11 C0 a0 p0 i0_0 i0_1 i0_2 i0_3 i0_4 i0_5 i0_6 i0_7 i0_8 i0_19 i0_20 i0_28 i0_33 i0_34 i0_35 i0_36 i0_38 i0_39 i0_40 i0_41 i0_42 i0_43 a1 n1 res i0_37 v1  hf _ _ _ hP hD hS (lv_sub hl [0, 1] rfl)
  · replace hf := ow_t hc hf
    refine lv_aload_n hx hb dX11_puts_4 rfl (lv_at hl 1 rfl) ?_
    refine lv_aload_n hx hb dX11_puts_5 rfl (lv_at hl 0 rfl) ?_
    refine va_get (D := D) (ci := 11) (v := .int i0_37) (C := RX11) (T := TX11) (N := 44) hx hb hts in_X11_puts_X11 hown hK hP 0 rfl rfl 37 (by decide) (hts (.fieldLink RX11 412 "PaneDaysModel" "spot" "I") (List.mem_of_getElem? (i := 1) rfl)) (fun _ h9 => h9) rfl dX11_puts_6 ?_
    refine lv_iload_n hx hb dX11_puts_9 rfl (lv_at hl 2 rfl) ?_
    obtain ⟨hin, hf⟩ := ck_some hf
    refine va_iast (f := v1) hx hb hK hP hD hS 1 0 rfl rfl hin dX11_puts_10 (fun H locs (hP : va_P D vwCl (W_X11_puts cs a0 p0 i0_0 i0_1 i0_2 i0_3 i0_4 i0_5 i0_6 i0_7 i0_8 i0_19 i0_20 i0_28 i0_33 i0_34 i0_35 i0_36 i0_37 i0_38 i0_39 i0_40 i0_41 i0_42 i0_43 a1 n1 (upd v1 (i0_37).toNatClampNeg x2)) H) (hD : va_D _ (W_X11_puts cs a0 p0 i0_0 i0_1 i0_2 i0_3 i0_4 i0_5 i0_6 i0_7 i0_8 i0_19 i0_20 i0_28 i0_33 i0_34 i0_35 i0_36 i0_37 i0_38 i0_39 i0_40 i0_41 i0_42 i0_43 a1 n1 (upd v1 (i0_37).toNatClampNeg x2))) hS => ?_)
    exact w_X11_puts_b11 C0 a0 p0 i0_0 i0_1 i0_2 i0_3 i0_4 i0_5 i0_6 i0_7 i0_8 i0_19 i0_20 i0_28 i0_33 i0_34 i0_35 i0_36 i0_38 i0_39 i0_40 i0_41 i0_42 i0_43 a1 n1 res i0_37 (upd v1 (i0_37).toNatClampNeg x2)  hf _ _ _ hP hD hS (lv_sub hl [0, 1] rfl)
theorem in_X11_putsAll_X11 : ∀ w ∈ u_ws RX11 TX11 44, w ∈ wsX11_putsAll := fun w h => List.mem_cons_of_mem _ (List.mem_append_right _ h)
noncomputable abbrev W_X11_putsAll (cs : Nat → ClassId) (a0 : Nat) (p0 : Nat → Nat) (i0_0 : Int32) (i0_1 : Int32) (i0_2 : Int32) (i0_3 : Int32) (i0_4 : Int32) (i0_5 : Int32) (i0_6 : Int32) (i0_7 : Int32) (i0_8 : Int32) (i0_19 : Int32) (i0_20 : Int32) (i0_28 : Int32) (i0_33 : Int32) (i0_34 : Int32) (i0_35 : Int32) (i0_36 : Int32) (i0_37 : Int32) (i0_38 : Int32) (i0_39 : Int32) (i0_40 : Int32) (i0_41 : Int32) (i0_42 : Int32) (i0_43 : Int32) (v0_29 : Nat → Int32) (r0_31 : Nat → Nat) (g0_31 : Nat → Nat → Int32) (a1 : Nat) (n1 : Nat) (v1 : Nat → Int32) : va_W := [(a0, .inr (11, [.int i0_0, .int i0_1, .int i0_2, .int i0_3, .int i0_4, .int i0_5, .int i0_6, .int i0_7, .int i0_8, .ref (p0 9), .ref (p0 10), .ref (p0 11), .ref (p0 12), .ref (p0 13), .ref (p0 14), .ref (p0 15), .ref (p0 16), .ref (p0 17), .ref (p0 18), .int i0_19, .int i0_20, .ref (p0 21), .ref (p0 22), .ref (p0 23), .ref (p0 24), .ref (p0 25), .ref (p0 26), .ref (p0 27), .int i0_28, .ref (p0 29), .ref (p0 30), .ref (p0 31), .ref (p0 32), .int i0_33, .int i0_34, .int i0_35, .int i0_36, .int i0_37, .int i0_38, .int i0_39, .int i0_40, .int i0_41, .int i0_42, .int i0_43])), (p0 29, .inl (cs 0, 2685, .inl v0_29)), gOut cs (p0 31) 8 r0_31, (a1, .inl (cs 0, n1, .inl v1))] ++ (gRow cs 8 2685 r0_31 g0_31 ++ [])
noncomputable abbrev S_X11_putsAll (cs : Nat → ClassId) (a0 : Nat) (p0 : Nat → Nat) (i0_0 : Int32) (i0_1 : Int32) (i0_2 : Int32) (i0_3 : Int32) (i0_4 : Int32) (i0_5 : Int32) (i0_6 : Int32) (i0_7 : Int32) (i0_8 : Int32) (i0_19 : Int32) (i0_20 : Int32) (i0_28 : Int32) (i0_33 : Int32) (i0_34 : Int32) (i0_35 : Int32) (i0_36 : Int32) (i0_37 : Int32) (i0_38 : Int32) (i0_39 : Int32) (i0_40 : Int32) (i0_41 : Int32) (i0_42 : Int32) (i0_43 : Int32) (v0_29 : Nat → Int32) (r0_31 : Nat → Nat) (g0_31 : Nat → Nat → Int32) (a1 : Nat) (n1 : Nat) (v1 : Nat → Int32) : List va_W := [[(a0, .inr (11, [.int i0_0, .int i0_1, .int i0_2, .int i0_3, .int i0_4, .int i0_5, .int i0_6, .int i0_7, .int i0_8, .ref (p0 9), .ref (p0 10), .ref (p0 11), .ref (p0 12), .ref (p0 13), .ref (p0 14), .ref (p0 15), .ref (p0 16), .ref (p0 17), .ref (p0 18), .int i0_19, .int i0_20, .ref (p0 21), .ref (p0 22), .ref (p0 23), .ref (p0 24), .ref (p0 25), .ref (p0 26), .ref (p0 27), .int i0_28, .ref (p0 29), .ref (p0 30), .ref (p0 31), .ref (p0 32), .int i0_33, .int i0_34, .int i0_35, .int i0_36, .int i0_37, .int i0_38, .int i0_39, .int i0_40, .int i0_41, .int i0_42, .int i0_43]))], [(p0 29, .inl (cs 0, 2685, .inl v0_29))], [gOut cs (p0 31) 8 r0_31], [(a1, .inl (cs 0, n1, .inl v1))], gRow cs 8 2685 r0_31 g0_31]
abbrev rm_X11_putsAll : Room := { frames := 1, cells := 0, slots := 0, locals := 23 }
def f_X11_putsAll_b63  (n1 : Nat) (k54 : (Int32) → (Int32) → (Nat → Int32) → (Nat → Nat → Int32) → (Nat → Int32) → Int32 → Int32 → Option (Int32 × Int32 × (Nat → Int32) × (Nat → Nat → Int32) × (Nat → Int32))) : Nat → (Int32) → (Int32) → (Nat → Int32) → (Nat → Nat → Int32) → (Nat → Int32) → Int32 → Int32 → Int32 → Option (Int32 × Int32 × (Nat → Int32) × (Nat → Nat → Int32) × (Nat → Int32))
  | 0, _, _, _, _, _, _, _, _ => none
  | n + 1, i0_34, i0_37, v0_29, g0_31, v1, x2, x3, x4 => if 2685 ≤ x4 then (k54 i0_34 i0_37 v0_29 g0_31 v1 x2 (x3 + 1)) else (ck x3 8 (ck x3 8 (ck x4 2685 ((f_X11_puts i0_37 n1 v1 ((g0_31 (x3).toNatClampNeg) (x4).toNatClampNeg) x2).bind fun q91 => ck x4 2685 (f_X11_putsAll_b63 n1 k54 n i0_34 q91.2.1 v0_29 (va_up g0_31 (x3).toNatClampNeg (upd (g0_31 (x3).toNatClampNeg) (x4).toNatClampNeg q91.1)) q91.2.2 x2 x3 (x4 + 1))))))
set_option maxHeartbeats 4000000 in
set_option maxRecDepth 100000 in
theorem w_X11_putsAll_b63 {p : Program} {l : Launch} {e : Env} {s : State} {m : MethodId} {below : List Frame} {meth : Method} {c : Code} {D : va_G} {cs : Nat → ClassId} {av : Array Value} {w0 : va_W} (C0 : Cx p s m meth c av wsX11_putsAll cX11_putsAll 5 none RX11 D cs w0)  (a0 : Nat) (p0 : Nat → Nat) (i0_0 : Int32) (i0_1 : Int32) (i0_2 : Int32) (i0_3 : Int32) (i0_4 : Int32) (i0_5 : Int32) (i0_6 : Int32) (i0_7 : Int32) (i0_8 : Int32) (i0_19 : Int32) (i0_20 : Int32) (i0_28 : Int32) (i0_33 : Int32) (i0_35 : Int32) (i0_36 : Int32) (i0_38 : Int32) (i0_39 : Int32) (i0_40 : Int32) (i0_41 : Int32) (i0_42 : Int32) (i0_43 : Int32) (r0_31 : Nat → Nat) (a1 : Nat) (n1 : Nat) (res : Int32 × Int32 × (Nat → Int32) × (Nat → Nat → Int32) × (Nat → Int32)) (k54 : (Int32) → (Int32) → (Nat → Int32) → (Nat → Nat → Int32) → (Nat → Int32) → Int32 → Int32 → Option (Int32 × Int32 × (Nat → Int32) × (Nat → Nat → Int32) × (Nat → Int32))) (hk54 : ∀ (i0_34 : Int32) (i0_37 : Int32) (v0_29 : Nat → Int32) (g0_31 : Nat → Nat → Int32) (v1 : Nat → Int32) (x2 : Int32) (x3 : Int32), k54 i0_34 i0_37 v0_29 g0_31 v1 x2 x3 = some res → ∀ (H : Heap) (locs : List Loc) (ls : Array Slot), va_P D vwCl (W_X11_putsAll cs a0 p0 i0_0 i0_1 i0_2 i0_3 i0_4 i0_5 i0_6 i0_7 i0_8 i0_19 i0_20 i0_28 i0_33 i0_34 i0_35 i0_36 i0_37 i0_38 i0_39 i0_40 i0_41 i0_42 i0_43 v0_29 r0_31 g0_31 a1 n1 v1) H → va_D (va_A w0 s.heap.size) (W_X11_putsAll cs a0 p0 i0_0 i0_1 i0_2 i0_3 i0_4 i0_5 i0_6 i0_7 i0_8 i0_19 i0_20 i0_28 i0_33 i0_34 i0_35 i0_36 i0_37 i0_38 i0_39 i0_40 i0_41 i0_42 i0_43 v0_29 r0_31 g0_31 a1 n1 v1) → va_S (va_A w0 s.heap.size) s.heap H locs → lv_has ls 5 [(0, .ref a0), (1, .ref a1), (2, .int x2), (3, .int x3)] → W p l e rm_X11_putsAll s m av below meth c H locs 0 0 (MQ below (oV D cs w0 (W_X11_putsAll cs a0 p0 i0_0 i0_1 i0_2 i0_3 i0_4 i0_5 i0_6 i0_7 i0_8 i0_19 i0_20 i0_28 i0_33 res.1 i0_35 i0_36 res.2.1 i0_38 i0_39 i0_40 i0_41 i0_42 i0_43 res.2.2.1 r0_31 res.2.2.2.1 a1 n1 res.2.2.2.2) s.heap.size) av s 0 0 (va_A w0 s.heap.size)) (F0 m 54 ls [])) : ∀ (n : Nat) (i0_34 : Int32) (i0_37 : Int32) (v0_29 : Nat → Int32) (g0_31 : Nat → Nat → Int32) (v1 : Nat → Int32) (x2 : Int32) (x3 : Int32) (x4 : Int32), f_X11_putsAll_b63 n1 k54 n i0_34 i0_37 v0_29 g0_31 v1 x2 x3 x4 = some res → ∀ (H : Heap) (locs : List Loc) (ls : Array Slot), va_P D vwCl (W_X11_putsAll cs a0 p0 i0_0 i0_1 i0_2 i0_3 i0_4 i0_5 i0_6 i0_7 i0_8 i0_19 i0_20 i0_28 i0_33 i0_34 i0_35 i0_36 i0_37 i0_38 i0_39 i0_40 i0_41 i0_42 i0_43 v0_29 r0_31 g0_31 a1 n1 v1) H → va_D (va_A w0 s.heap.size) (W_X11_putsAll cs a0 p0 i0_0 i0_1 i0_2 i0_3 i0_4 i0_5 i0_6 i0_7 i0_8 i0_19 i0_20 i0_28 i0_33 i0_34 i0_35 i0_36 i0_37 i0_38 i0_39 i0_40 i0_41 i0_42 i0_43 v0_29 r0_31 g0_31 a1 n1 v1) → va_S (va_A w0 s.heap.size) s.heap H locs → lv_has ls 5 [(0, .ref a0), (1, .ref a1), (2, .int x2), (3, .int x3), (4, .int x4)] → W p l e rm_X11_putsAll s m av below meth c H locs 0 0 (MQ below (oV D cs w0 (W_X11_putsAll cs a0 p0 i0_0 i0_1 i0_2 i0_3 i0_4 i0_5 i0_6 i0_7 i0_8 i0_19 i0_20 i0_28 i0_33 res.1 i0_35 i0_36 res.2.1 i0_38 i0_39 i0_40 i0_41 i0_42 i0_43 res.2.2.1 r0_31 res.2.2.2.1 a1 n1 res.2.2.2.2) s.heap.size) av s 0 0 (va_A w0 s.heap.size)) (F0 m 63 ls []) := by
  obtain ⟨hx, hb, hr, hlk, hml, hown, hts, hK, hG, hE⟩ := id C0
  intro n
  induction n with
  | zero =>
    intro i0_34 i0_37 v0_29 g0_31 v1 x2 x3 x4 hf
    rw [f_X11_putsAll_b63] at hf
    cases hf
  | succ n ih =>
    intro i0_34 i0_37 v0_29 g0_31 v1 x2 x3 x4 hf H locs ls hP hD hS hl
    rw [f_X11_putsAll_b63] at hf
    refine lv_iload hx hb dX11_putsAll_63 (lv_at hl 4 rfl) ?_
    refine lv_sipush (v := 2685) hx hb dX11_putsAll_65 (by decide) ?_
    refine lv_icmp_ge (tgt := 101) hx hb dX11_putsAll_68 (by decide) (fun hc => ?_) (fun hc => ?_)
    · replace hf := ow_t hc hf
      refine lv_iinc (v := x3 + 1) (lv' := [(3, .int (x3 + 1)), (0, .ref a0), (1, .ref a1), (2, .int x2), (4, .int x4)]) hx hb dX11_putsAll_101 hl (k := 3) rfl (ow_inc (by decide)) (by decide) rfl (fun ls hl => ?_)
      refine lv_goto (tgt := 54) hx hb dX11_putsAll_104 (by decide) ?_
      exact hk54 i0_34 i0_37 v0_29 g0_31 v1 x2 (x3 + 1)  hf _ _ _ hP hD hS (lv_sub hl [1, 2, 3, 0] rfl)
    · replace hf := ow_f hc hf
      refine lv_aload_n hx hb dX11_putsAll_71 rfl (lv_at hl 0 rfl) ?_
      refine va_get (D := D) (ci := 11) (v := .ref (p0 31)) (C := RX11) (T := TX11) (N := 44) hx hb hts in_X11_putsAll_X11 hown hK hP 0 rfl rfl 31 (by decide) (hts (.fieldLink RX11 73 "PaneDaysModel" "before" "[[I") (List.mem_of_getElem? (i := 4) rfl)) (fun _ h9 => h9) rfl dX11_putsAll_72 ?_
      refine lv_iload_n hx hb dX11_putsAll_75 rfl (lv_at hl 3 rfl) ?_
      obtain ⟨hr76, hf⟩ := ck_some hf
      refine ow_aald (rr := r0_31) hx hb hK hP 2 rfl hr76 dX11_putsAll_76 ?_
      refine lv_iload hx hb dX11_putsAll_77 (lv_at hl 4 rfl) ?_
      refine lv_aload_n hx hb dX11_putsAll_79 rfl (lv_at hl 0 rfl) ?_
      refine lv_aload_n hx hb dX11_putsAll_80 rfl (lv_at hl 1 rfl) ?_
      refine lv_aload_n hx hb dX11_putsAll_81 rfl (lv_at hl 0 rfl) ?_
      refine va_get (D := D) (ci := 11) (v := .ref (p0 31)) (C := RX11) (T := TX11) (N := 44) hx hb hts in_X11_putsAll_X11 hown hK hP 0 rfl rfl 31 (by decide) (hts (.fieldLink RX11 73 "PaneDaysModel" "before" "[[I") (List.mem_of_getElem? (i := 4) rfl)) (fun _ h9 => h9) rfl dX11_putsAll_82 ?_
      refine lv_iload_n hx hb dX11_putsAll_85 rfl (lv_at hl 3 rfl) ?_
      obtain ⟨hr86, hf⟩ := ck_some hf
      refine ow_aald (rr := r0_31) hx hb hK hP 2 rfl hr86 dX11_putsAll_86 ?_
      refine lv_iload hx hb dX11_putsAll_87 (lv_at hl 4 rfl) ?_
      obtain ⟨hin, hf⟩ := ck_some hf
      refine va_iald (f := g0_31 (x3).toNatClampNeg) hx hb hK hP (4 + (x3).toNatClampNeg) 0 (gr_skip rfl (gr_head (vp_lt hr86))) rfl hin dX11_putsAll_89 ?_
      refine lv_iload_n hx hb dX11_putsAll_90 rfl (lv_at hl 2 rfl) ?_
      obtain ⟨q91, hq, hf⟩ := bd_some hf
      refine ow_gVI (As := [.ref a1, .int ((g0_31 (x3).toNatClampNeg) (x4).toNatClampNeg), .int x2]) (rest := [.int x4, .ref (r0_31 (x3).toNatClampNeg)]) (sg := (S_X11_putsAll cs a0 p0 i0_0 i0_1 i0_2 i0_3 i0_4 i0_5 i0_6 i0_7 i0_8 i0_19 i0_20 i0_28 i0_33 i0_34 i0_35 i0_36 i0_37 i0_38 i0_39 i0_40 i0_41 i0_42 i0_43 v0_29 r0_31 g0_31 a1 n1 v1)) (sc := (S_X11_puts cs a0 p0 i0_0 i0_1 i0_2 i0_3 i0_4 i0_5 i0_6 i0_7 i0_8 i0_19 i0_20 i0_28 i0_33 i0_34 i0_35 i0_36 i0_37 i0_38 i0_39 i0_40 i0_41 i0_42 i0_43 a1 n1 v1)) (sc' := (S_X11_puts cs a0 p0 i0_0 i0_1 i0_2 i0_3 i0_4 i0_5 i0_6 i0_7 i0_8 i0_19 i0_20 i0_28 i0_33 i0_34 i0_35 i0_36 q91.2.1 i0_38 i0_39 i0_40 i0_41 i0_42 i0_43 a1 n1 q91.2.2)) (sr := ow_pks (S_X11_putsAll cs a0 p0 i0_0 i0_1 i0_2 i0_3 i0_4 i0_5 i0_6 i0_7 i0_8 i0_19 i0_20 i0_28 i0_33 i0_34 i0_35 i0_36 i0_37 i0_38 i0_39 i0_40 i0_41 i0_42 i0_43 v0_29 r0_31 g0_31 a1 n1 v1) [1, 2, 4]) (sf := (S_X11_putsAll cs a0 p0 i0_0 i0_1 i0_2 i0_3 i0_4 i0_5 i0_6 i0_7 i0_8 i0_19 i0_20 i0_28 i0_33 i0_34 i0_35 i0_36 q91.2.1 i0_38 i0_39 i0_40 i0_41 i0_42 i0_43 v0_29 r0_31 g0_31 a1 n1 q91.2.2)) (r := q91.1) C0 (c_X11_puts l D cs H.size a0 p0 i0_0 i0_1 i0_2 i0_3 i0_4 i0_5 i0_6 i0_7 i0_8 i0_19 i0_20 i0_28 i0_33 i0_34 i0_35 i0_36 i0_37 i0_38 i0_39 i0_40 i0_41 i0_42 i0_43 a1 n1 v1 ((g0_31 (x3).toNatClampNeg) (x4).toNatClampNeg) x2 q91 hq) (cwV 3 hts gX11_putsAll_X11_puts rfl rfl rfl (by decide +kernel) ⟨Nat.le_of_ble_eq_true rfl, Nat.le_of_ble_eq_true rfl⟩) 11 rfl rfl hP hD hS (sg_permL [0, 3] [1, 2, 4] 5 rfl (by decide) rfl rfl) (sg_permG [3, 0, 1, 4, 2] 5 rfl (by decide) rfl) rfl hl.1 rfl (Nat.le_of_ble_eq_true rfl) ⟨Nat.zero_le _, Nat.zero_le _⟩ dX11_putsAll_91 (fun H locs (hP : va_P D vwCl (W_X11_putsAll cs a0 p0 i0_0 i0_1 i0_2 i0_3 i0_4 i0_5 i0_6 i0_7 i0_8 i0_19 i0_20 i0_28 i0_33 i0_34 i0_35 i0_36 q91.2.1 i0_38 i0_39 i0_40 i0_41 i0_42 i0_43 v0_29 r0_31 g0_31 a1 n1 q91.2.2) H) (hD : va_D _ (W_X11_putsAll cs a0 p0 i0_0 i0_1 i0_2 i0_3 i0_4 i0_5 i0_6 i0_7 i0_8 i0_19 i0_20 i0_28 i0_33 i0_34 i0_35 i0_36 q91.2.1 i0_38 i0_39 i0_40 i0_41 i0_42 i0_43 v0_29 r0_31 g0_31 a1 n1 q91.2.2)) hS => ?_)
      obtain ⟨hin, hf⟩ := ck_some hf
      have hset : List.set (W_X11_putsAll cs a0 p0 i0_0 i0_1 i0_2 i0_3 i0_4 i0_5 i0_6 i0_7 i0_8 i0_19 i0_20 i0_28 i0_33 i0_34 i0_35 i0_36 q91.2.1 i0_38 i0_39 i0_40 i0_41 i0_42 i0_43 v0_29 r0_31 g0_31 a1 n1 q91.2.2) (4 + (x3).toNatClampNeg) (r0_31 (x3).toNatClampNeg, .inl (cs 0, 2685, .inl (upd (g0_31 (x3).toNatClampNeg) (x4).toNatClampNeg q91.1))) = (W_X11_putsAll cs a0 p0 i0_0 i0_1 i0_2 i0_3 i0_4 i0_5 i0_6 i0_7 i0_8 i0_19 i0_20 i0_28 i0_33 i0_34 i0_35 i0_36 q91.2.1 i0_38 i0_39 i0_40 i0_41 i0_42 i0_43 v0_29 r0_31 (va_up g0_31 (x3).toNatClampNeg (upd (g0_31 (x3).toNatClampNeg) (x4).toNatClampNeg q91.1)) a1 n1 q91.2.2) := gr_skipS rfl (gr_headS (vp_lt hr76))
      refine va_iast (f := g0_31 (x3).toNatClampNeg) hx hb hK hP hD hS (4 + (x3).toNatClampNeg) 0 (gr_skip rfl (gr_head (vp_lt hr76))) rfl hin dX11_putsAll_94 (fun H locs hP hD hS => ?_)
      rw [hset] at hP hD
      refine lv_iinc (v := x4 + 1) (lv' := [(4, .int (x4 + 1)), (0, .ref a0), (1, .ref a1), (2, .int x2), (3, .int x3)]) hx hb dX11_putsAll_95 hl (k := 4) rfl (ow_inc (by decide)) (by decide) rfl (fun ls hl => ?_)
      refine lv_goto (tgt := 63) hx hb dX11_putsAll_98 (by decide) ?_
      exact ih i0_34 q91.2.1 v0_29 (va_up g0_31 (x3).toNatClampNeg (upd (g0_31 (x3).toNatClampNeg) (x4).toNatClampNeg q91.1)) q91.2.2 x2 x3 (x4 + 1)  hf _ _ _ hP hD hS (lv_sub hl [1, 2, 3, 4, 0] rfl)
def f_X11_putsAll_b54  (n1 : Nat)  : Nat → (Int32) → (Int32) → (Nat → Int32) → (Nat → Nat → Int32) → (Nat → Int32) → Int32 → Int32 → Option (Int32 × Int32 × (Nat → Int32) × (Nat → Nat → Int32) × (Nat → Int32))
  | 0, _, _, _, _, _, _, _ => none
  | n + 1, i0_34, i0_37, v0_29, g0_31, v1, x2, x3 => if 8 ≤ x3 then (some (i0_34, i0_37, v0_29, g0_31, v1)) else (f_X11_putsAll_b63 n1 (f_X11_putsAll_b54 n1 n) 4000 i0_34 i0_37 v0_29 g0_31 v1 x2 x3 (0))
set_option maxHeartbeats 4000000 in
set_option maxRecDepth 100000 in
theorem w_X11_putsAll_b54 {p : Program} {l : Launch} {e : Env} {s : State} {m : MethodId} {below : List Frame} {meth : Method} {c : Code} {D : va_G} {cs : Nat → ClassId} {av : Array Value} {w0 : va_W} (C0 : Cx p s m meth c av wsX11_putsAll cX11_putsAll 5 none RX11 D cs w0)  (a0 : Nat) (p0 : Nat → Nat) (i0_0 : Int32) (i0_1 : Int32) (i0_2 : Int32) (i0_3 : Int32) (i0_4 : Int32) (i0_5 : Int32) (i0_6 : Int32) (i0_7 : Int32) (i0_8 : Int32) (i0_19 : Int32) (i0_20 : Int32) (i0_28 : Int32) (i0_33 : Int32) (i0_35 : Int32) (i0_36 : Int32) (i0_38 : Int32) (i0_39 : Int32) (i0_40 : Int32) (i0_41 : Int32) (i0_42 : Int32) (i0_43 : Int32) (r0_31 : Nat → Nat) (a1 : Nat) (n1 : Nat) (res : Int32 × Int32 × (Nat → Int32) × (Nat → Nat → Int32) × (Nat → Int32))  : ∀ (n : Nat) (i0_34 : Int32) (i0_37 : Int32) (v0_29 : Nat → Int32) (g0_31 : Nat → Nat → Int32) (v1 : Nat → Int32) (x2 : Int32) (x3 : Int32), f_X11_putsAll_b54 n1 n i0_34 i0_37 v0_29 g0_31 v1 x2 x3 = some res → ∀ (H : Heap) (locs : List Loc) (ls : Array Slot), va_P D vwCl (W_X11_putsAll cs a0 p0 i0_0 i0_1 i0_2 i0_3 i0_4 i0_5 i0_6 i0_7 i0_8 i0_19 i0_20 i0_28 i0_33 i0_34 i0_35 i0_36 i0_37 i0_38 i0_39 i0_40 i0_41 i0_42 i0_43 v0_29 r0_31 g0_31 a1 n1 v1) H → va_D (va_A w0 s.heap.size) (W_X11_putsAll cs a0 p0 i0_0 i0_1 i0_2 i0_3 i0_4 i0_5 i0_6 i0_7 i0_8 i0_19 i0_20 i0_28 i0_33 i0_34 i0_35 i0_36 i0_37 i0_38 i0_39 i0_40 i0_41 i0_42 i0_43 v0_29 r0_31 g0_31 a1 n1 v1) → va_S (va_A w0 s.heap.size) s.heap H locs → lv_has ls 5 [(0, .ref a0), (1, .ref a1), (2, .int x2), (3, .int x3)] → W p l e rm_X11_putsAll s m av below meth c H locs 0 0 (MQ below (oV D cs w0 (W_X11_putsAll cs a0 p0 i0_0 i0_1 i0_2 i0_3 i0_4 i0_5 i0_6 i0_7 i0_8 i0_19 i0_20 i0_28 i0_33 res.1 i0_35 i0_36 res.2.1 i0_38 i0_39 i0_40 i0_41 i0_42 i0_43 res.2.2.1 r0_31 res.2.2.2.1 a1 n1 res.2.2.2.2) s.heap.size) av s 0 0 (va_A w0 s.heap.size)) (F0 m 54 ls []) := by
  obtain ⟨hx, hb, hr, hlk, hml, hown, hts, hK, hG, hE⟩ := id C0
  intro n
  induction n with
  | zero =>
    intro i0_34 i0_37 v0_29 g0_31 v1 x2 x3 hf
    rw [f_X11_putsAll_b54] at hf
    cases hf
  | succ n ih =>
    intro i0_34 i0_37 v0_29 g0_31 v1 x2 x3 hf H locs ls hP hD hS hl
    rw [f_X11_putsAll_b54] at hf
    refine lv_iload_n hx hb dX11_putsAll_54 rfl (lv_at hl 3 rfl) ?_
    refine lv_bipush (v := 8) hx hb dX11_putsAll_55 (by decide) ?_
    refine lv_icmp_ge (tgt := 107) hx hb dX11_putsAll_57 (by decide) (fun hc => ?_) (fun hc => ?_)
    · replace hf := ow_t hc hf
      obtain rfl := Option.some.inj hf
      exact ow_retV C0 hP hD hS dX11_putsAll_107
    · replace hf := ow_f hc hf
      refine lv_iconst (v := 0) hx hb dX11_putsAll_60 (by decide) ?_
      refine lv_istore (lv' := [(4, .int 0), (0, .ref a0), (1, .ref a1), (2, .int x2), (3, .int x3)]) hx hb dX11_putsAll_61 hl (by decide) rfl (fun ls hl => ?_)
      exact w_X11_putsAll_b63 C0 a0 p0 i0_0 i0_1 i0_2 i0_3 i0_4 i0_5 i0_6 i0_7 i0_8 i0_19 i0_20 i0_28 i0_33 i0_35 i0_36 i0_38 i0_39 i0_40 i0_41 i0_42 i0_43 r0_31 a1 n1 res (f_X11_putsAll_b54 n1 n) ih 4000 i0_34 i0_37 v0_29 g0_31 v1 x2 x3 (0)  hf _ _ _ hP hD hS (lv_sub hl [1, 2, 3, 4, 0] rfl)
def f_X11_putsAll_b21  (n1 : Nat)  : Nat → (Int32) → (Int32) → (Nat → Int32) → (Nat → Nat → Int32) → (Nat → Int32) → Int32 → Int32 → Option (Int32 × Int32 × (Nat → Int32) × (Nat → Nat → Int32) × (Nat → Int32))
  | 0, _, _, _, _, _, _, _ => none
  | n + 1, i0_34, i0_37, v0_29, g0_31, v1, x2, x3 => if 2685 ≤ x3 then (f_X11_putsAll_b54 n1 4000 i0_34 i0_37 v0_29 g0_31 v1 x2 (0)) else (ck x3 2685 ((f_X11_puts i0_37 n1 v1 (v0_29 (x3).toNatClampNeg) x2).bind fun q42 => ck x3 2685 (f_X11_putsAll_b21 n1 n i0_34 q42.2.1 (upd v0_29 (x3).toNatClampNeg q42.1) g0_31 q42.2.2 x2 (x3 + 1))))
set_option maxHeartbeats 4000000 in
set_option maxRecDepth 100000 in
theorem w_X11_putsAll_b21 {p : Program} {l : Launch} {e : Env} {s : State} {m : MethodId} {below : List Frame} {meth : Method} {c : Code} {D : va_G} {cs : Nat → ClassId} {av : Array Value} {w0 : va_W} (C0 : Cx p s m meth c av wsX11_putsAll cX11_putsAll 5 none RX11 D cs w0)  (a0 : Nat) (p0 : Nat → Nat) (i0_0 : Int32) (i0_1 : Int32) (i0_2 : Int32) (i0_3 : Int32) (i0_4 : Int32) (i0_5 : Int32) (i0_6 : Int32) (i0_7 : Int32) (i0_8 : Int32) (i0_19 : Int32) (i0_20 : Int32) (i0_28 : Int32) (i0_33 : Int32) (i0_35 : Int32) (i0_36 : Int32) (i0_38 : Int32) (i0_39 : Int32) (i0_40 : Int32) (i0_41 : Int32) (i0_42 : Int32) (i0_43 : Int32) (r0_31 : Nat → Nat) (a1 : Nat) (n1 : Nat) (res : Int32 × Int32 × (Nat → Int32) × (Nat → Nat → Int32) × (Nat → Int32))  : ∀ (n : Nat) (i0_34 : Int32) (i0_37 : Int32) (v0_29 : Nat → Int32) (g0_31 : Nat → Nat → Int32) (v1 : Nat → Int32) (x2 : Int32) (x3 : Int32), f_X11_putsAll_b21 n1 n i0_34 i0_37 v0_29 g0_31 v1 x2 x3 = some res → ∀ (H : Heap) (locs : List Loc) (ls : Array Slot), va_P D vwCl (W_X11_putsAll cs a0 p0 i0_0 i0_1 i0_2 i0_3 i0_4 i0_5 i0_6 i0_7 i0_8 i0_19 i0_20 i0_28 i0_33 i0_34 i0_35 i0_36 i0_37 i0_38 i0_39 i0_40 i0_41 i0_42 i0_43 v0_29 r0_31 g0_31 a1 n1 v1) H → va_D (va_A w0 s.heap.size) (W_X11_putsAll cs a0 p0 i0_0 i0_1 i0_2 i0_3 i0_4 i0_5 i0_6 i0_7 i0_8 i0_19 i0_20 i0_28 i0_33 i0_34 i0_35 i0_36 i0_37 i0_38 i0_39 i0_40 i0_41 i0_42 i0_43 v0_29 r0_31 g0_31 a1 n1 v1) → va_S (va_A w0 s.heap.size) s.heap H locs → lv_has ls 5 [(0, .ref a0), (1, .ref a1), (2, .int x2), (3, .int x3)] → W p l e rm_X11_putsAll s m av below meth c H locs 0 0 (MQ below (oV D cs w0 (W_X11_putsAll cs a0 p0 i0_0 i0_1 i0_2 i0_3 i0_4 i0_5 i0_6 i0_7 i0_8 i0_19 i0_20 i0_28 i0_33 res.1 i0_35 i0_36 res.2.1 i0_38 i0_39 i0_40 i0_41 i0_42 i0_43 res.2.2.1 r0_31 res.2.2.2.1 a1 n1 res.2.2.2.2) s.heap.size) av s 0 0 (va_A w0 s.heap.size)) (F0 m 21 ls []) := by
  obtain ⟨hx, hb, hr, hlk, hml, hown, hts, hK, hG, hE⟩ := id C0
  intro n
  induction n with
  | zero =>
    intro i0_34 i0_37 v0_29 g0_31 v1 x2 x3 hf
    rw [f_X11_putsAll_b21] at hf
    cases hf
  | succ n ih =>
    intro i0_34 i0_37 v0_29 g0_31 v1 x2 x3 hf H locs ls hP hD hS hl
    rw [f_X11_putsAll_b21] at hf
    refine lv_iload_n hx hb dX11_putsAll_21 rfl (lv_at hl 3 rfl) ?_
    refine lv_sipush (v := 2685) hx hb dX11_putsAll_22 (by decide) ?_
    refine lv_icmp_ge (tgt := 52) hx hb dX11_putsAll_25 (by decide) (fun hc => ?_) (fun hc => ?_)
    · replace hf := ow_t hc hf
      refine lv_iconst (v := 0) hx hb dX11_putsAll_52 (by decide) ?_
      refine lv_istore_n (lv' := [(3, .int 0), (0, .ref a0), (1, .ref a1), (2, .int x2)]) hx hb dX11_putsAll_53 rfl hl (by decide) rfl (fun ls hl => ?_)
      exact w_X11_putsAll_b54 C0 a0 p0 i0_0 i0_1 i0_2 i0_3 i0_4 i0_5 i0_6 i0_7 i0_8 i0_19 i0_20 i0_28 i0_33 i0_35 i0_36 i0_38 i0_39 i0_40 i0_41 i0_42 i0_43 r0_31 a1 n1 res 4000 i0_34 i0_37 v0_29 g0_31 v1 x2 (0)  hf _ _ _ hP hD hS (lv_sub hl [1, 2, 3, 0] rfl)
    · replace hf := ow_f hc hf
      refine lv_aload_n hx hb dX11_putsAll_28 rfl (lv_at hl 0 rfl) ?_
      refine va_get (D := D) (ci := 11) (v := .ref (p0 29)) (C := RX11) (T := TX11) (N := 44) hx hb hts in_X11_putsAll_X11 hown hK hP 0 rfl rfl 29 (by decide) (hts (.fieldLink RX11 67 "PaneDaysModel" "now" "[I") (List.mem_of_getElem? (i := 3) rfl)) (fun _ h9 => h9) rfl dX11_putsAll_29 ?_
      refine lv_iload_n hx hb dX11_putsAll_32 rfl (lv_at hl 3 rfl) ?_
      refine lv_aload_n hx hb dX11_putsAll_33 rfl (lv_at hl 0 rfl) ?_
      refine lv_aload_n hx hb dX11_putsAll_34 rfl (lv_at hl 1 rfl) ?_
      refine lv_aload_n hx hb dX11_putsAll_35 rfl (lv_at hl 0 rfl) ?_
      refine va_get (D := D) (ci := 11) (v := .ref (p0 29)) (C := RX11) (T := TX11) (N := 44) hx hb hts in_X11_putsAll_X11 hown hK hP 0 rfl rfl 29 (by decide) (hts (.fieldLink RX11 67 "PaneDaysModel" "now" "[I") (List.mem_of_getElem? (i := 3) rfl)) (fun _ h9 => h9) rfl dX11_putsAll_36 ?_
      refine lv_iload_n hx hb dX11_putsAll_39 rfl (lv_at hl 3 rfl) ?_
      obtain ⟨hin, hf⟩ := ck_some hf
      refine va_iald (f := v0_29) hx hb hK hP 1 0 rfl rfl hin dX11_putsAll_40 ?_
      refine lv_iload_n hx hb dX11_putsAll_41 rfl (lv_at hl 2 rfl) ?_
      obtain ⟨q42, hq, hf⟩ := bd_some hf
      refine ow_gVI (As := [.ref a1, .int (v0_29 (x3).toNatClampNeg), .int x2]) (rest := [.int x3, .ref (p0 29)]) (sg := (S_X11_putsAll cs a0 p0 i0_0 i0_1 i0_2 i0_3 i0_4 i0_5 i0_6 i0_7 i0_8 i0_19 i0_20 i0_28 i0_33 i0_34 i0_35 i0_36 i0_37 i0_38 i0_39 i0_40 i0_41 i0_42 i0_43 v0_29 r0_31 g0_31 a1 n1 v1)) (sc := (S_X11_puts cs a0 p0 i0_0 i0_1 i0_2 i0_3 i0_4 i0_5 i0_6 i0_7 i0_8 i0_19 i0_20 i0_28 i0_33 i0_34 i0_35 i0_36 i0_37 i0_38 i0_39 i0_40 i0_41 i0_42 i0_43 a1 n1 v1)) (sc' := (S_X11_puts cs a0 p0 i0_0 i0_1 i0_2 i0_3 i0_4 i0_5 i0_6 i0_7 i0_8 i0_19 i0_20 i0_28 i0_33 i0_34 i0_35 i0_36 q42.2.1 i0_38 i0_39 i0_40 i0_41 i0_42 i0_43 a1 n1 q42.2.2)) (sr := ow_pks (S_X11_putsAll cs a0 p0 i0_0 i0_1 i0_2 i0_3 i0_4 i0_5 i0_6 i0_7 i0_8 i0_19 i0_20 i0_28 i0_33 i0_34 i0_35 i0_36 i0_37 i0_38 i0_39 i0_40 i0_41 i0_42 i0_43 v0_29 r0_31 g0_31 a1 n1 v1) [1, 2, 4]) (sf := (S_X11_putsAll cs a0 p0 i0_0 i0_1 i0_2 i0_3 i0_4 i0_5 i0_6 i0_7 i0_8 i0_19 i0_20 i0_28 i0_33 i0_34 i0_35 i0_36 q42.2.1 i0_38 i0_39 i0_40 i0_41 i0_42 i0_43 v0_29 r0_31 g0_31 a1 n1 q42.2.2)) (r := q42.1) C0 (c_X11_puts l D cs H.size a0 p0 i0_0 i0_1 i0_2 i0_3 i0_4 i0_5 i0_6 i0_7 i0_8 i0_19 i0_20 i0_28 i0_33 i0_34 i0_35 i0_36 i0_37 i0_38 i0_39 i0_40 i0_41 i0_42 i0_43 a1 n1 v1 (v0_29 (x3).toNatClampNeg) x2 q42 hq) (cwV 3 hts gX11_putsAll_X11_puts rfl rfl rfl (by decide +kernel) ⟨Nat.le_of_ble_eq_true rfl, Nat.le_of_ble_eq_true rfl⟩) 11 rfl rfl hP hD hS (sg_permL [0, 3] [1, 2, 4] 5 rfl (by decide) rfl rfl) (sg_permG [3, 0, 1, 4, 2] 5 rfl (by decide) rfl) rfl hl.1 rfl (Nat.le_of_ble_eq_true rfl) ⟨Nat.zero_le _, Nat.zero_le _⟩ dX11_putsAll_42 (fun H locs (hP : va_P D vwCl (W_X11_putsAll cs a0 p0 i0_0 i0_1 i0_2 i0_3 i0_4 i0_5 i0_6 i0_7 i0_8 i0_19 i0_20 i0_28 i0_33 i0_34 i0_35 i0_36 q42.2.1 i0_38 i0_39 i0_40 i0_41 i0_42 i0_43 v0_29 r0_31 g0_31 a1 n1 q42.2.2) H) (hD : va_D _ (W_X11_putsAll cs a0 p0 i0_0 i0_1 i0_2 i0_3 i0_4 i0_5 i0_6 i0_7 i0_8 i0_19 i0_20 i0_28 i0_33 i0_34 i0_35 i0_36 q42.2.1 i0_38 i0_39 i0_40 i0_41 i0_42 i0_43 v0_29 r0_31 g0_31 a1 n1 q42.2.2)) hS => ?_)
      obtain ⟨hin, hf⟩ := ck_some hf
      refine va_iast (f := v0_29) hx hb hK hP hD hS 1 0 rfl rfl hin dX11_putsAll_45 (fun H locs (hP : va_P D vwCl (W_X11_putsAll cs a0 p0 i0_0 i0_1 i0_2 i0_3 i0_4 i0_5 i0_6 i0_7 i0_8 i0_19 i0_20 i0_28 i0_33 i0_34 i0_35 i0_36 q42.2.1 i0_38 i0_39 i0_40 i0_41 i0_42 i0_43 (upd v0_29 (x3).toNatClampNeg q42.1) r0_31 g0_31 a1 n1 q42.2.2) H) (hD : va_D _ (W_X11_putsAll cs a0 p0 i0_0 i0_1 i0_2 i0_3 i0_4 i0_5 i0_6 i0_7 i0_8 i0_19 i0_20 i0_28 i0_33 i0_34 i0_35 i0_36 q42.2.1 i0_38 i0_39 i0_40 i0_41 i0_42 i0_43 (upd v0_29 (x3).toNatClampNeg q42.1) r0_31 g0_31 a1 n1 q42.2.2)) hS => ?_)
      refine lv_iinc (v := x3 + 1) (lv' := [(3, .int (x3 + 1)), (0, .ref a0), (1, .ref a1), (2, .int x2)]) hx hb dX11_putsAll_46 hl (k := 3) rfl (ow_inc (by decide)) (by decide) rfl (fun ls hl => ?_)
      refine lv_goto (tgt := 21) hx hb dX11_putsAll_49 (by decide) ?_
      exact ih i0_34 q42.2.1 (upd v0_29 (x3).toNatClampNeg q42.1) g0_31 q42.2.2 x2 (x3 + 1)  hf _ _ _ hP hD hS (lv_sub hl [1, 2, 3, 0] rfl)
def f_X11_putsAll  (i0_34 : Int32) (i0_37 : Int32) (v0_29 : Nat → Int32) (g0_31 : Nat → Nat → Int32) (n1 : Nat) (v1 : Nat → Int32) (x2 : Int32) : Option (Int32 × Int32 × (Nat → Int32) × (Nat → Nat → Int32) × (Nat → Int32)) := (f_X11_puts (0) n1 v1 i0_34 x2).bind fun q13 => f_X11_putsAll_b21 n1 4000 q13.1 q13.2.1 v0_29 g0_31 q13.2.2 x2 (0)
set_option maxHeartbeats 4000000 in
set_option maxRecDepth 100000 in
theorem c_X11_putsAll (l : Launch) (D : va_G) (cs : Nat → ClassId)  (sz : Nat) (a0 : Nat) (p0 : Nat → Nat) (i0_0 : Int32) (i0_1 : Int32) (i0_2 : Int32) (i0_3 : Int32) (i0_4 : Int32) (i0_5 : Int32) (i0_6 : Int32) (i0_7 : Int32) (i0_8 : Int32) (i0_19 : Int32) (i0_20 : Int32) (i0_28 : Int32) (i0_33 : Int32) (i0_34 : Int32) (i0_35 : Int32) (i0_36 : Int32) (i0_37 : Int32) (i0_38 : Int32) (i0_39 : Int32) (i0_40 : Int32) (i0_41 : Int32) (i0_42 : Int32) (i0_43 : Int32) (v0_29 : Nat → Int32) (r0_31 : Nat → Nat) (g0_31 : Nat → Nat → Int32) (a1 : Nat) (n1 : Nat) (v1 : Nat → Int32) (x2 : Int32) (res : Int32 × Int32 × (Nat → Int32) × (Nat → Nat → Int32) × (Nat → Int32)) (hf : f_X11_putsAll  i0_34 i0_37 v0_29 g0_31 n1 v1 x2 = some res) : MV l D cs yX11_putsAll wsX11_putsAll rm_X11_putsAll [.ref a0, .ref a1, .int x2] sz (W_X11_putsAll cs a0 p0 i0_0 i0_1 i0_2 i0_3 i0_4 i0_5 i0_6 i0_7 i0_8 i0_19 i0_20 i0_28 i0_33 i0_34 i0_35 i0_36 i0_37 i0_38 i0_39 i0_40 i0_41 i0_42 i0_43 v0_29 r0_31 g0_31 a1 n1 v1) (W_X11_putsAll cs a0 p0 i0_0 i0_1 i0_2 i0_3 i0_4 i0_5 i0_6 i0_7 i0_8 i0_19 i0_20 i0_28 i0_33 res.1 i0_35 i0_36 res.2.1 i0_38 i0_39 i0_40 i0_41 i0_42 i0_43 res.2.2.1 r0_31 res.2.2.2.1 a1 n1 res.2.2.2.2) := by
  rw [f_X11_putsAll] at hf
  refine ow_enter (cc := cX11_putsAll) (nL := 5) (ret := none) (by decide) rfl (Nat.le_of_ble_eq_true rfl) (fun p e s m below meth c ls H locs C0 hP hD hS hA hl => ?_)
  obtain ⟨hx, hb, hr, hlk, hml, hown, hts, hK, hG, hE⟩ := id C0
  have hl : lv_has ls 5 [(0, .ref a0), (1, .ref a1), (2, .int x2)] := hl
  refine lv_aload_n hx hb dX11_putsAll_0 rfl (lv_at hl 0 rfl) ?_
  refine lv_iconst (v := 0) hx hb dX11_putsAll_1 (by decide) ?_
  refine va_put (D := D) (ci := 11) (v := .int 0) (ty := .int) (C := RX11) (T := TX11) (N := 44) hx hb hts in_X11_putsAll_X11 tyX11 tyX11_ok nmX11 hown hK hP hD hS 0 rfl rfl 37 (by decide) (hts (.fieldLink RX11 412 "PaneDaysModel" "spot" "I") (List.mem_of_getElem? (i := 1) rfl)) (fun _ h9 => h9) rfl (by decide +kernel) rfl rfl (Nat.le_of_ble_eq_true rfl) dX11_putsAll_2 (fun H locs (hP : va_P D vwCl (W_X11_putsAll cs a0 p0 i0_0 i0_1 i0_2 i0_3 i0_4 i0_5 i0_6 i0_7 i0_8 i0_19 i0_20 i0_28 i0_33 i0_34 i0_35 i0_36 (0) i0_38 i0_39 i0_40 i0_41 i0_42 i0_43 v0_29 r0_31 g0_31 a1 n1 v1) H) (hD : va_D _ (W_X11_putsAll cs a0 p0 i0_0 i0_1 i0_2 i0_3 i0_4 i0_5 i0_6 i0_7 i0_8 i0_19 i0_20 i0_28 i0_33 i0_34 i0_35 i0_36 (0) i0_38 i0_39 i0_40 i0_41 i0_42 i0_43 v0_29 r0_31 g0_31 a1 n1 v1)) hS => ?_)
  refine lv_aload_n hx hb dX11_putsAll_5 rfl (lv_at hl 0 rfl) ?_
  refine lv_aload_n hx hb dX11_putsAll_6 rfl (lv_at hl 0 rfl) ?_
  refine lv_aload_n hx hb dX11_putsAll_7 rfl (lv_at hl 1 rfl) ?_
  refine lv_aload_n hx hb dX11_putsAll_8 rfl (lv_at hl 0 rfl) ?_
  refine va_get (D := D) (ci := 11) (v := .int i0_34) (C := RX11) (T := TX11) (N := 44) hx hb hts in_X11_putsAll_X11 hown hK hP 0 rfl rfl 34 (by decide) (hts (.fieldLink RX11 181 "PaneDaysModel" "works" "I") (List.mem_of_getElem? (i := 2) rfl)) (fun _ h9 => h9) rfl dX11_putsAll_9 ?_
  refine lv_iload_n hx hb dX11_putsAll_12 rfl (lv_at hl 2 rfl) ?_
  obtain ⟨q13, hq, hf⟩ := bd_some hf
  refine ow_gVI (As := [.ref a1, .int i0_34, .int x2]) (rest := [.ref a0]) (sg := (S_X11_putsAll cs a0 p0 i0_0 i0_1 i0_2 i0_3 i0_4 i0_5 i0_6 i0_7 i0_8 i0_19 i0_20 i0_28 i0_33 i0_34 i0_35 i0_36 (0) i0_38 i0_39 i0_40 i0_41 i0_42 i0_43 v0_29 r0_31 g0_31 a1 n1 v1)) (sc := (S_X11_puts cs a0 p0 i0_0 i0_1 i0_2 i0_3 i0_4 i0_5 i0_6 i0_7 i0_8 i0_19 i0_20 i0_28 i0_33 i0_34 i0_35 i0_36 (0) i0_38 i0_39 i0_40 i0_41 i0_42 i0_43 a1 n1 v1)) (sc' := (S_X11_puts cs a0 p0 i0_0 i0_1 i0_2 i0_3 i0_4 i0_5 i0_6 i0_7 i0_8 i0_19 i0_20 i0_28 i0_33 i0_34 i0_35 i0_36 q13.2.1 i0_38 i0_39 i0_40 i0_41 i0_42 i0_43 a1 n1 q13.2.2)) (sr := ow_pks (S_X11_putsAll cs a0 p0 i0_0 i0_1 i0_2 i0_3 i0_4 i0_5 i0_6 i0_7 i0_8 i0_19 i0_20 i0_28 i0_33 i0_34 i0_35 i0_36 (0) i0_38 i0_39 i0_40 i0_41 i0_42 i0_43 v0_29 r0_31 g0_31 a1 n1 v1) [1, 2, 4]) (sf := (S_X11_putsAll cs a0 p0 i0_0 i0_1 i0_2 i0_3 i0_4 i0_5 i0_6 i0_7 i0_8 i0_19 i0_20 i0_28 i0_33 i0_34 i0_35 i0_36 q13.2.1 i0_38 i0_39 i0_40 i0_41 i0_42 i0_43 v0_29 r0_31 g0_31 a1 n1 q13.2.2)) (r := q13.1) C0 (c_X11_puts l D cs H.size a0 p0 i0_0 i0_1 i0_2 i0_3 i0_4 i0_5 i0_6 i0_7 i0_8 i0_19 i0_20 i0_28 i0_33 i0_34 i0_35 i0_36 (0) i0_38 i0_39 i0_40 i0_41 i0_42 i0_43 a1 n1 v1 i0_34 x2 q13 hq) (cwV 3 hts gX11_putsAll_X11_puts rfl rfl rfl (by decide +kernel) ⟨Nat.le_of_ble_eq_true rfl, Nat.le_of_ble_eq_true rfl⟩) 11 rfl rfl hP hD hS (sg_permL [0, 3] [1, 2, 4] 5 rfl (by decide) rfl rfl) (sg_permG [3, 0, 1, 4, 2] 5 rfl (by decide) rfl) rfl hl.1 rfl (Nat.le_of_ble_eq_true rfl) ⟨Nat.zero_le _, Nat.zero_le _⟩ dX11_putsAll_13 (fun H locs (hP : va_P D vwCl (W_X11_putsAll cs a0 p0 i0_0 i0_1 i0_2 i0_3 i0_4 i0_5 i0_6 i0_7 i0_8 i0_19 i0_20 i0_28 i0_33 i0_34 i0_35 i0_36 q13.2.1 i0_38 i0_39 i0_40 i0_41 i0_42 i0_43 v0_29 r0_31 g0_31 a1 n1 q13.2.2) H) (hD : va_D _ (W_X11_putsAll cs a0 p0 i0_0 i0_1 i0_2 i0_3 i0_4 i0_5 i0_6 i0_7 i0_8 i0_19 i0_20 i0_28 i0_33 i0_34 i0_35 i0_36 q13.2.1 i0_38 i0_39 i0_40 i0_41 i0_42 i0_43 v0_29 r0_31 g0_31 a1 n1 q13.2.2)) hS => ?_)
  refine va_put (D := D) (ci := 11) (v := .int q13.1) (ty := .int) (C := RX11) (T := TX11) (N := 44) hx hb hts in_X11_putsAll_X11 tyX11 tyX11_ok nmX11 hown hK hP hD hS 0 rfl rfl 34 (by decide) (hts (.fieldLink RX11 181 "PaneDaysModel" "works" "I") (List.mem_of_getElem? (i := 2) rfl)) (fun _ h9 => h9) rfl (by decide +kernel) rfl rfl (Nat.le_of_ble_eq_true rfl) dX11_putsAll_16 (fun H locs (hP : va_P D vwCl (W_X11_putsAll cs a0 p0 i0_0 i0_1 i0_2 i0_3 i0_4 i0_5 i0_6 i0_7 i0_8 i0_19 i0_20 i0_28 i0_33 q13.1 i0_35 i0_36 q13.2.1 i0_38 i0_39 i0_40 i0_41 i0_42 i0_43 v0_29 r0_31 g0_31 a1 n1 q13.2.2) H) (hD : va_D _ (W_X11_putsAll cs a0 p0 i0_0 i0_1 i0_2 i0_3 i0_4 i0_5 i0_6 i0_7 i0_8 i0_19 i0_20 i0_28 i0_33 q13.1 i0_35 i0_36 q13.2.1 i0_38 i0_39 i0_40 i0_41 i0_42 i0_43 v0_29 r0_31 g0_31 a1 n1 q13.2.2)) hS => ?_)
  refine lv_iconst (v := 0) hx hb dX11_putsAll_19 (by decide) ?_
  refine lv_istore_n (lv' := [(3, .int 0), (0, .ref a0), (1, .ref a1), (2, .int x2)]) hx hb dX11_putsAll_20 rfl hl (by decide) rfl (fun ls hl => ?_)
  exact w_X11_putsAll_b21 C0 a0 p0 i0_0 i0_1 i0_2 i0_3 i0_4 i0_5 i0_6 i0_7 i0_8 i0_19 i0_20 i0_28 i0_33 i0_35 i0_36 i0_38 i0_39 i0_40 i0_41 i0_42 i0_43 r0_31 a1 n1 res 4000 q13.1 q13.2.1 v0_29 g0_31 q13.2.2 x2 (0)  hf _ _ _ hP hD hS (lv_sub hl [1, 2, 3, 0] rfl)
theorem in_X11_restore_X11 : ∀ w ∈ u_ws RX11 TX11 44, w ∈ wsX11_restore := fun w h => List.mem_cons_of_mem _ (List.mem_append_right _ h)
noncomputable abbrev W_X11_restore (cs : Nat → ClassId) (a0 : Nat) (p0 : Nat → Nat) (i0_0 : Int32) (i0_1 : Int32) (i0_2 : Int32) (i0_3 : Int32) (i0_4 : Int32) (i0_5 : Int32) (i0_6 : Int32) (i0_7 : Int32) (i0_8 : Int32) (i0_19 : Int32) (i0_20 : Int32) (i0_28 : Int32) (i0_33 : Int32) (i0_34 : Int32) (i0_35 : Int32) (i0_36 : Int32) (i0_37 : Int32) (i0_38 : Int32) (i0_39 : Int32) (i0_40 : Int32) (i0_41 : Int32) (i0_42 : Int32) (i0_43 : Int32) (v0_29 : Nat → Int32) (r0_31 : Nat → Nat) (g0_31 : Nat → Nat → Int32) (r0_32 : Nat → Nat) (g0_32 : Nat → Nat → Int32) : va_W := [(a0, .inr (11, [.int i0_0, .int i0_1, .int i0_2, .int i0_3, .int i0_4, .int i0_5, .int i0_6, .int i0_7, .int i0_8, .ref (p0 9), .ref (p0 10), .ref (p0 11), .ref (p0 12), .ref (p0 13), .ref (p0 14), .ref (p0 15), .ref (p0 16), .ref (p0 17), .ref (p0 18), .int i0_19, .int i0_20, .ref (p0 21), .ref (p0 22), .ref (p0 23), .ref (p0 24), .ref (p0 25), .ref (p0 26), .ref (p0 27), .int i0_28, .ref (p0 29), .ref (p0 30), .ref (p0 31), .ref (p0 32), .int i0_33, .int i0_34, .int i0_35, .int i0_36, .int i0_37, .int i0_38, .int i0_39, .int i0_40, .int i0_41, .int i0_42, .int i0_43])), (p0 29, .inl (cs 0, 2685, .inl v0_29)), gOut cs (p0 31) 8 r0_31, gOut cs (p0 32) 2 r0_32] ++ (gRow cs 8 2685 r0_31 g0_31 ++ (gRow cs 2 24166 r0_32 g0_32 ++ []))
noncomputable abbrev S_X11_restore (cs : Nat → ClassId) (a0 : Nat) (p0 : Nat → Nat) (i0_0 : Int32) (i0_1 : Int32) (i0_2 : Int32) (i0_3 : Int32) (i0_4 : Int32) (i0_5 : Int32) (i0_6 : Int32) (i0_7 : Int32) (i0_8 : Int32) (i0_19 : Int32) (i0_20 : Int32) (i0_28 : Int32) (i0_33 : Int32) (i0_34 : Int32) (i0_35 : Int32) (i0_36 : Int32) (i0_37 : Int32) (i0_38 : Int32) (i0_39 : Int32) (i0_40 : Int32) (i0_41 : Int32) (i0_42 : Int32) (i0_43 : Int32) (v0_29 : Nat → Int32) (r0_31 : Nat → Nat) (g0_31 : Nat → Nat → Int32) (r0_32 : Nat → Nat) (g0_32 : Nat → Nat → Int32) : List va_W := [[(a0, .inr (11, [.int i0_0, .int i0_1, .int i0_2, .int i0_3, .int i0_4, .int i0_5, .int i0_6, .int i0_7, .int i0_8, .ref (p0 9), .ref (p0 10), .ref (p0 11), .ref (p0 12), .ref (p0 13), .ref (p0 14), .ref (p0 15), .ref (p0 16), .ref (p0 17), .ref (p0 18), .int i0_19, .int i0_20, .ref (p0 21), .ref (p0 22), .ref (p0 23), .ref (p0 24), .ref (p0 25), .ref (p0 26), .ref (p0 27), .int i0_28, .ref (p0 29), .ref (p0 30), .ref (p0 31), .ref (p0 32), .int i0_33, .int i0_34, .int i0_35, .int i0_36, .int i0_37, .int i0_38, .int i0_39, .int i0_40, .int i0_41, .int i0_42, .int i0_43]))], [(p0 29, .inl (cs 0, 2685, .inl v0_29))], [gOut cs (p0 31) 8 r0_31], [gOut cs (p0 32) 2 r0_32], gRow cs 8 2685 r0_31 g0_31, gRow cs 2 24166 r0_32 g0_32]
abbrev rm_X11_restore : Room := { frames := 2, cells := 0, slots := 0, locals := 47 }
def f_X11_restore  (i0_0 : Int32) (i0_34 : Int32) (i0_35 : Int32) (i0_36 : Int32) (i0_37 : Int32) (v0_29 : Nat → Int32) (g0_31 : Nat → Nat → Int32) (g0_32 : Nat → Nat → Int32)  : Option (Int32 × Int32 × Int32 × Int32 × Int32 × Int32 × (Nat → Int32) × (Nat → Nat → Int32) × (Nat → Nat → Int32)) := if i0_36 = 0 then (some ((-1), 0, i0_34, i0_35, i0_36, i0_37, v0_29, g0_31, g0_32)) else (ck (i0_36 - 1) 2 ((f_X11_putsAll i0_34 i0_37 v0_29 g0_31 24166 (g0_32 (i0_36 - 1).toNatClampNeg) (1)).bind fun q35 => some (i0_36 - 1, 0, q35.1, 0, i0_36 - 1, q35.2.1, q35.2.2.1, q35.2.2.2.1, va_up g0_32 (i0_36 - 1).toNatClampNeg q35.2.2.2.2)))
set_option maxHeartbeats 4000000 in
set_option maxRecDepth 100000 in
theorem c_X11_restore (l : Launch) (D : va_G) (cs : Nat → ClassId)  (sz : Nat) (a0 : Nat) (p0 : Nat → Nat) (i0_0 : Int32) (i0_1 : Int32) (i0_2 : Int32) (i0_3 : Int32) (i0_4 : Int32) (i0_5 : Int32) (i0_6 : Int32) (i0_7 : Int32) (i0_8 : Int32) (i0_19 : Int32) (i0_20 : Int32) (i0_28 : Int32) (i0_33 : Int32) (i0_34 : Int32) (i0_35 : Int32) (i0_36 : Int32) (i0_37 : Int32) (i0_38 : Int32) (i0_39 : Int32) (i0_40 : Int32) (i0_41 : Int32) (i0_42 : Int32) (i0_43 : Int32) (v0_29 : Nat → Int32) (r0_31 : Nat → Nat) (g0_31 : Nat → Nat → Int32) (r0_32 : Nat → Nat) (g0_32 : Nat → Nat → Int32)  (res : Int32 × Int32 × Int32 × Int32 × Int32 × Int32 × (Nat → Int32) × (Nat → Nat → Int32) × (Nat → Nat → Int32)) (hf : f_X11_restore  i0_0 i0_34 i0_35 i0_36 i0_37 v0_29 g0_31 g0_32  = some res) : MI l D cs yX11_restore wsX11_restore rm_X11_restore [.ref a0] sz (W_X11_restore cs a0 p0 i0_0 i0_1 i0_2 i0_3 i0_4 i0_5 i0_6 i0_7 i0_8 i0_19 i0_20 i0_28 i0_33 i0_34 i0_35 i0_36 i0_37 i0_38 i0_39 i0_40 i0_41 i0_42 i0_43 v0_29 r0_31 g0_31 r0_32 g0_32) (W_X11_restore cs a0 p0 res.2.1 i0_1 i0_2 i0_3 i0_4 i0_5 i0_6 i0_7 i0_8 i0_19 i0_20 i0_28 i0_33 res.2.2.1 res.2.2.2.1 res.2.2.2.2.1 res.2.2.2.2.2.1 i0_38 i0_39 i0_40 i0_41 i0_42 i0_43 res.2.2.2.2.2.2.1 r0_31 res.2.2.2.2.2.2.2.1 r0_32 res.2.2.2.2.2.2.2.2) res.1 := by
  rw [f_X11_restore] at hf
  refine ow_enter (cc := cX11_restore) (nL := 1) (ret := (some .int)) (by decide) rfl (Nat.le_of_ble_eq_true rfl) (fun p e s m below meth c ls H locs C0 hP hD hS hA hl => ?_)
  obtain ⟨hx, hb, hr, hlk, hml, hown, hts, hK, hG, hE⟩ := id C0
  have hl : lv_has ls 1 [(0, .ref a0)] := hl
  refine lv_aload_n hx hb dX11_restore_0 rfl (lv_at hl 0 rfl) ?_
  refine lv_iconst (v := 0) hx hb dX11_restore_1 (by decide) ?_
  refine va_put (D := D) (ci := 11) (v := .int 0) (ty := .int) (C := RX11) (T := TX11) (N := 44) hx hb hts in_X11_restore_X11 tyX11 tyX11_ok nmX11 hown hK hP hD hS 0 rfl rfl 0 (by decide) (hts (.fieldLink RX11 85 "PaneDaysModel" "thrown" "I") (List.mem_of_getElem? (i := 1) rfl)) (fun _ h9 => h9) rfl (by decide +kernel) rfl rfl (Nat.le_of_ble_eq_true rfl) dX11_restore_2 (fun H locs (hP : va_P D vwCl (W_X11_restore cs a0 p0 (0) i0_1 i0_2 i0_3 i0_4 i0_5 i0_6 i0_7 i0_8 i0_19 i0_20 i0_28 i0_33 i0_34 i0_35 i0_36 i0_37 i0_38 i0_39 i0_40 i0_41 i0_42 i0_43 v0_29 r0_31 g0_31 r0_32 g0_32) H) (hD : va_D _ (W_X11_restore cs a0 p0 (0) i0_1 i0_2 i0_3 i0_4 i0_5 i0_6 i0_7 i0_8 i0_19 i0_20 i0_28 i0_33 i0_34 i0_35 i0_36 i0_37 i0_38 i0_39 i0_40 i0_41 i0_42 i0_43 v0_29 r0_31 g0_31 r0_32 g0_32)) hS => ?_)
  refine lv_aload_n hx hb dX11_restore_5 rfl (lv_at hl 0 rfl) ?_
  refine va_get (D := D) (ci := 11) (v := .int i0_36) (C := RX11) (T := TX11) (N := 44) hx hb hts in_X11_restore_X11 hown hK hP 0 rfl rfl 36 (by decide) (hts (.fieldLink RX11 187 "PaneDaysModel" "images" "I") (List.mem_of_getElem? (i := 2) rfl)) (fun _ h9 => h9) rfl dX11_restore_6 ?_
  refine lv_if_ne (tgt := 14) hx hb dX11_restore_9 (by decide) (fun hc => ?_) (fun hc => ?_)
  · replace hf := ow_f hc hf
    refine lv_aload_n hx hb dX11_restore_14 rfl (lv_at hl 0 rfl) ?_
    refine lv_dup hx hb dX11_restore_15 rfl ?_
    refine va_get (D := D) (ci := 11) (v := .int i0_36) (C := RX11) (T := TX11) (N := 44) hx hb hts in_X11_restore_X11 hown hK hP 0 rfl rfl 36 (by decide) (hts (.fieldLink RX11 187 "PaneDaysModel" "images" "I") (List.mem_of_getElem? (i := 2) rfl)) (fun _ h9 => h9) rfl dX11_restore_16 ?_
    refine lv_iconst (v := 1) hx hb dX11_restore_19 (by decide) ?_
    refine lv_isub hx hb dX11_restore_20 ?_
    refine va_put (D := D) (ci := 11) (v := .int (i0_36 - 1)) (ty := .int) (C := RX11) (T := TX11) (N := 44) hx hb hts in_X11_restore_X11 tyX11 tyX11_ok nmX11 hown hK hP hD hS 0 rfl rfl 36 (by decide) (hts (.fieldLink RX11 187 "PaneDaysModel" "images" "I") (List.mem_of_getElem? (i := 2) rfl)) (fun _ h9 => h9) rfl (by decide +kernel) rfl rfl (Nat.le_of_ble_eq_true rfl) dX11_restore_21 (fun H locs (hP : va_P D vwCl (W_X11_restore cs a0 p0 (0) i0_1 i0_2 i0_3 i0_4 i0_5 i0_6 i0_7 i0_8 i0_19 i0_20 i0_28 i0_33 i0_34 i0_35 (i0_36 - 1) i0_37 i0_38 i0_39 i0_40 i0_41 i0_42 i0_43 v0_29 r0_31 g0_31 r0_32 g0_32) H) (hD : va_D _ (W_X11_restore cs a0 p0 (0) i0_1 i0_2 i0_3 i0_4 i0_5 i0_6 i0_7 i0_8 i0_19 i0_20 i0_28 i0_33 i0_34 i0_35 (i0_36 - 1) i0_37 i0_38 i0_39 i0_40 i0_41 i0_42 i0_43 v0_29 r0_31 g0_31 r0_32 g0_32)) hS => ?_)
    refine lv_aload_n hx hb dX11_restore_24 rfl (lv_at hl 0 rfl) ?_
    refine lv_aload_n hx hb dX11_restore_25 rfl (lv_at hl 0 rfl) ?_
    refine va_get (D := D) (ci := 11) (v := .ref (p0 32)) (C := RX11) (T := TX11) (N := 44) hx hb hts in_X11_restore_X11 hown hK hP 0 rfl rfl 32 (by decide) (hts (.fieldLink RX11 76 "PaneDaysModel" "kept" "[[I") (List.mem_of_getElem? (i := 3) rfl)) (fun _ h9 => h9) rfl dX11_restore_26 ?_
    refine lv_aload_n hx hb dX11_restore_29 rfl (lv_at hl 0 rfl) ?_
    refine va_get (D := D) (ci := 11) (v := .int (i0_36 - 1)) (C := RX11) (T := TX11) (N := 44) hx hb hts in_X11_restore_X11 hown hK hP 0 rfl rfl 36 (by decide) (hts (.fieldLink RX11 187 "PaneDaysModel" "images" "I") (List.mem_of_getElem? (i := 2) rfl)) (fun _ h9 => h9) rfl dX11_restore_30 ?_
    obtain ⟨hr33, hf⟩ := ck_some hf
    refine ow_aald (rr := r0_32) hx hb hK hP 3 rfl hr33 dX11_restore_33 ?_
    refine lv_iconst (v := 1) hx hb dX11_restore_34 (by decide) ?_
    obtain ⟨q35, hq, hf⟩ := bd_some hf
    replace hP := sg_Pp (sg_split (sg := (S_X11_restore cs a0 p0 (0) i0_1 i0_2 i0_3 i0_4 i0_5 i0_6 i0_7 i0_8 i0_19 i0_20 i0_28 i0_33 i0_34 i0_35 (i0_36 - 1) i0_37 i0_38 i0_39 i0_40 i0_41 i0_42 i0_43 v0_29 r0_31 g0_31 r0_32 g0_32)) 5 rfl (gr_split (vp_lt hr33))) hP
    replace hD := sg_Dp (sg_split (sg := (S_X11_restore cs a0 p0 (0) i0_1 i0_2 i0_3 i0_4 i0_5 i0_6 i0_7 i0_8 i0_19 i0_20 i0_28 i0_33 i0_34 i0_35 (i0_36 - 1) i0_37 i0_38 i0_39 i0_40 i0_41 i0_42 i0_43 v0_29 r0_31 g0_31 r0_32 g0_32)) 5 rfl (gr_split (vp_lt hr33))) hD
    refine ow_gVV (As := [.ref (r0_32 (i0_36 - 1).toNatClampNeg), .int 1]) (rest := []) (sg := (List.set (S_X11_restore cs a0 p0 (0) i0_1 i0_2 i0_3 i0_4 i0_5 i0_6 i0_7 i0_8 i0_19 i0_20 i0_28 i0_33 i0_34 i0_35 (i0_36 - 1) i0_37 i0_38 i0_39 i0_40 i0_41 i0_42 i0_43 v0_29 r0_31 g0_31 r0_32 g0_32) 5 [(r0_32 (i0_36 - 1).toNatClampNeg, .inl (cs 0, 24166, .inl (g0_32 (i0_36 - 1).toNatClampNeg)))] ++ [gRest cs 2 24166 r0_32 g0_32 (i0_36 - 1).toNatClampNeg])) (sc := (S_X11_putsAll cs a0 p0 (0) i0_1 i0_2 i0_3 i0_4 i0_5 i0_6 i0_7 i0_8 i0_19 i0_20 i0_28 i0_33 i0_34 i0_35 (i0_36 - 1) i0_37 i0_38 i0_39 i0_40 i0_41 i0_42 i0_43 v0_29 r0_31 g0_31 (r0_32 (i0_36 - 1).toNatClampNeg) 24166 (g0_32 (i0_36 - 1).toNatClampNeg))) (sc' := (S_X11_putsAll cs a0 p0 (0) i0_1 i0_2 i0_3 i0_4 i0_5 i0_6 i0_7 i0_8 i0_19 i0_20 i0_28 i0_33 q35.1 i0_35 (i0_36 - 1) q35.2.1 i0_38 i0_39 i0_40 i0_41 i0_42 i0_43 q35.2.2.1 r0_31 q35.2.2.2.1 (r0_32 (i0_36 - 1).toNatClampNeg) 24166 q35.2.2.2.2)) (sr := ow_pks (List.set (S_X11_restore cs a0 p0 (0) i0_1 i0_2 i0_3 i0_4 i0_5 i0_6 i0_7 i0_8 i0_19 i0_20 i0_28 i0_33 i0_34 i0_35 (i0_36 - 1) i0_37 i0_38 i0_39 i0_40 i0_41 i0_42 i0_43 v0_29 r0_31 g0_31 r0_32 g0_32) 5 [(r0_32 (i0_36 - 1).toNatClampNeg, .inl (cs 0, 24166, .inl (g0_32 (i0_36 - 1).toNatClampNeg)))] ++ [gRest cs 2 24166 r0_32 g0_32 (i0_36 - 1).toNatClampNeg]) [3, 6]) (sf := (List.set (S_X11_restore cs a0 p0 (0) i0_1 i0_2 i0_3 i0_4 i0_5 i0_6 i0_7 i0_8 i0_19 i0_20 i0_28 i0_33 q35.1 i0_35 (i0_36 - 1) q35.2.1 i0_38 i0_39 i0_40 i0_41 i0_42 i0_43 q35.2.2.1 r0_31 q35.2.2.2.1 r0_32 (va_up g0_32 (i0_36 - 1).toNatClampNeg q35.2.2.2.2)) 5 [(r0_32 (i0_36 - 1).toNatClampNeg, .inl (cs 0, 24166, .inl (q35.2.2.2.2)))] ++ [gRest cs 2 24166 r0_32 g0_32 (i0_36 - 1).toNatClampNeg])) C0 (c_X11_putsAll l D cs H.size a0 p0 (0) i0_1 i0_2 i0_3 i0_4 i0_5 i0_6 i0_7 i0_8 i0_19 i0_20 i0_28 i0_33 i0_34 i0_35 (i0_36 - 1) i0_37 i0_38 i0_39 i0_40 i0_41 i0_42 i0_43 v0_29 r0_31 g0_31 (r0_32 (i0_36 - 1).toNatClampNeg) 24166 (g0_32 (i0_36 - 1).toNatClampNeg) (1) q35 hq) (cwV 2 hts gX11_restore_X11_putsAll rfl rfl rfl (by decide +kernel) ⟨Nat.le_of_ble_eq_true rfl, Nat.le_of_ble_eq_true rfl⟩) 11 rfl rfl hP hD hS (sg_permL [0, 1, 2, 5, 4] [3, 6] 7 rfl (by decide) rfl rfl) (sg_permG [2, 3, 4, 0, 6, 5, 1] 7 rfl (by decide) rfl) rfl hl.1 rfl (Nat.le_of_ble_eq_true rfl) ⟨Nat.zero_le _, Nat.zero_le _⟩ dX11_restore_35 (fun H locs hP hD hS => ?_)
    replace hP : va_P D vwCl (W_X11_restore cs a0 p0 (0) i0_1 i0_2 i0_3 i0_4 i0_5 i0_6 i0_7 i0_8 i0_19 i0_20 i0_28 i0_33 q35.1 i0_35 (i0_36 - 1) q35.2.1 i0_38 i0_39 i0_40 i0_41 i0_42 i0_43 q35.2.2.1 r0_31 q35.2.2.2.1 r0_32 (va_up g0_32 (i0_36 - 1).toNatClampNeg q35.2.2.2.2)) H := sg_Pp (sg_merge (sg := (S_X11_restore cs a0 p0 (0) i0_1 i0_2 i0_3 i0_4 i0_5 i0_6 i0_7 i0_8 i0_19 i0_20 i0_28 i0_33 q35.1 i0_35 (i0_36 - 1) q35.2.1 i0_38 i0_39 i0_40 i0_41 i0_42 i0_43 q35.2.2.1 r0_31 q35.2.2.2.1 r0_32 (va_up g0_32 (i0_36 - 1).toNatClampNeg q35.2.2.2.2))) 5 rfl (gr_splitU (vp_lt hr33) (G := g0_32) (v := q35.2.2.2.2))) hP
    replace hD : va_D _ (W_X11_restore cs a0 p0 (0) i0_1 i0_2 i0_3 i0_4 i0_5 i0_6 i0_7 i0_8 i0_19 i0_20 i0_28 i0_33 q35.1 i0_35 (i0_36 - 1) q35.2.1 i0_38 i0_39 i0_40 i0_41 i0_42 i0_43 q35.2.2.1 r0_31 q35.2.2.2.1 r0_32 (va_up g0_32 (i0_36 - 1).toNatClampNeg q35.2.2.2.2)) := sg_Dp (sg_merge (sg := (S_X11_restore cs a0 p0 (0) i0_1 i0_2 i0_3 i0_4 i0_5 i0_6 i0_7 i0_8 i0_19 i0_20 i0_28 i0_33 q35.1 i0_35 (i0_36 - 1) q35.2.1 i0_38 i0_39 i0_40 i0_41 i0_42 i0_43 q35.2.2.1 r0_31 q35.2.2.2.1 r0_32 (va_up g0_32 (i0_36 - 1).toNatClampNeg q35.2.2.2.2))) 5 rfl (gr_splitU (vp_lt hr33) (G := g0_32) (v := q35.2.2.2.2))) hD
    refine lv_aload_n hx hb dX11_restore_38 rfl (lv_at hl 0 rfl) ?_
    refine lv_iconst (v := 0) hx hb dX11_restore_39 (by decide) ?_
    refine va_put (D := D) (ci := 11) (v := .int 0) (ty := .int) (C := RX11) (T := TX11) (N := 44) hx hb hts in_X11_restore_X11 tyX11 tyX11_ok nmX11 hown hK hP hD hS 0 rfl rfl 35 (by decide) (hts (.fieldLink RX11 184 "PaneDaysModel" "refusedSteps" "I") (List.mem_of_getElem? (i := 4) rfl)) (fun _ h9 => h9) rfl (by decide +kernel) rfl rfl (Nat.le_of_ble_eq_true rfl) dX11_restore_40 (fun H locs (hP : va_P D vwCl (W_X11_restore cs a0 p0 (0) i0_1 i0_2 i0_3 i0_4 i0_5 i0_6 i0_7 i0_8 i0_19 i0_20 i0_28 i0_33 q35.1 (0) (i0_36 - 1) q35.2.1 i0_38 i0_39 i0_40 i0_41 i0_42 i0_43 q35.2.2.1 r0_31 q35.2.2.2.1 r0_32 (va_up g0_32 (i0_36 - 1).toNatClampNeg q35.2.2.2.2)) H) (hD : va_D _ (W_X11_restore cs a0 p0 (0) i0_1 i0_2 i0_3 i0_4 i0_5 i0_6 i0_7 i0_8 i0_19 i0_20 i0_28 i0_33 q35.1 (0) (i0_36 - 1) q35.2.1 i0_38 i0_39 i0_40 i0_41 i0_42 i0_43 q35.2.2.1 r0_31 q35.2.2.2.1 r0_32 (va_up g0_32 (i0_36 - 1).toNatClampNeg q35.2.2.2.2))) hS => ?_)
    refine lv_aload_n hx hb dX11_restore_43 rfl (lv_at hl 0 rfl) ?_
    refine va_get (D := D) (ci := 11) (v := .int (i0_36 - 1)) (C := RX11) (T := TX11) (N := 44) hx hb hts in_X11_restore_X11 hown hK hP 0 rfl rfl 36 (by decide) (hts (.fieldLink RX11 187 "PaneDaysModel" "images" "I") (List.mem_of_getElem? (i := 2) rfl)) (fun _ h9 => h9) rfl dX11_restore_44 ?_
    obtain rfl := Option.some.inj hf
    exact ow_retI C0 hP hD hS dX11_restore_47
  · replace hf := ow_t hc hf
    refine lv_iconst (v := (-1)) hx hb dX11_restore_12 (by decide) ?_
    obtain rfl := Option.some.inj hf
    exact ow_retI C0 hP hD hS dX11_restore_13
theorem in_X11_image_X11 : ∀ w ∈ u_ws RX11 TX11 44, w ∈ wsX11_image := fun w h => List.mem_cons_of_mem _ (List.mem_append_right _ h)
noncomputable abbrev W_X11_image (cs : Nat → ClassId) (a0 : Nat) (p0 : Nat → Nat) (i0_0 : Int32) (i0_1 : Int32) (i0_2 : Int32) (i0_3 : Int32) (i0_4 : Int32) (i0_5 : Int32) (i0_6 : Int32) (i0_7 : Int32) (i0_8 : Int32) (i0_19 : Int32) (i0_20 : Int32) (i0_28 : Int32) (i0_33 : Int32) (i0_34 : Int32) (i0_35 : Int32) (i0_36 : Int32) (i0_37 : Int32) (i0_38 : Int32) (i0_39 : Int32) (i0_40 : Int32) (i0_41 : Int32) (i0_42 : Int32) (i0_43 : Int32) (v0_29 : Nat → Int32) (r0_31 : Nat → Nat) (g0_31 : Nat → Nat → Int32) (r0_32 : Nat → Nat) (g0_32 : Nat → Nat → Int32) : va_W := [(a0, .inr (11, [.int i0_0, .int i0_1, .int i0_2, .int i0_3, .int i0_4, .int i0_5, .int i0_6, .int i0_7, .int i0_8, .ref (p0 9), .ref (p0 10), .ref (p0 11), .ref (p0 12), .ref (p0 13), .ref (p0 14), .ref (p0 15), .ref (p0 16), .ref (p0 17), .ref (p0 18), .int i0_19, .int i0_20, .ref (p0 21), .ref (p0 22), .ref (p0 23), .ref (p0 24), .ref (p0 25), .ref (p0 26), .ref (p0 27), .int i0_28, .ref (p0 29), .ref (p0 30), .ref (p0 31), .ref (p0 32), .int i0_33, .int i0_34, .int i0_35, .int i0_36, .int i0_37, .int i0_38, .int i0_39, .int i0_40, .int i0_41, .int i0_42, .int i0_43])), (p0 29, .inl (cs 0, 2685, .inl v0_29)), gOut cs (p0 31) 8 r0_31, gOut cs (p0 32) 2 r0_32] ++ (gRow cs 8 2685 r0_31 g0_31 ++ (gRow cs 2 24166 r0_32 g0_32 ++ []))
noncomputable abbrev S_X11_image (cs : Nat → ClassId) (a0 : Nat) (p0 : Nat → Nat) (i0_0 : Int32) (i0_1 : Int32) (i0_2 : Int32) (i0_3 : Int32) (i0_4 : Int32) (i0_5 : Int32) (i0_6 : Int32) (i0_7 : Int32) (i0_8 : Int32) (i0_19 : Int32) (i0_20 : Int32) (i0_28 : Int32) (i0_33 : Int32) (i0_34 : Int32) (i0_35 : Int32) (i0_36 : Int32) (i0_37 : Int32) (i0_38 : Int32) (i0_39 : Int32) (i0_40 : Int32) (i0_41 : Int32) (i0_42 : Int32) (i0_43 : Int32) (v0_29 : Nat → Int32) (r0_31 : Nat → Nat) (g0_31 : Nat → Nat → Int32) (r0_32 : Nat → Nat) (g0_32 : Nat → Nat → Int32) : List va_W := [[(a0, .inr (11, [.int i0_0, .int i0_1, .int i0_2, .int i0_3, .int i0_4, .int i0_5, .int i0_6, .int i0_7, .int i0_8, .ref (p0 9), .ref (p0 10), .ref (p0 11), .ref (p0 12), .ref (p0 13), .ref (p0 14), .ref (p0 15), .ref (p0 16), .ref (p0 17), .ref (p0 18), .int i0_19, .int i0_20, .ref (p0 21), .ref (p0 22), .ref (p0 23), .ref (p0 24), .ref (p0 25), .ref (p0 26), .ref (p0 27), .int i0_28, .ref (p0 29), .ref (p0 30), .ref (p0 31), .ref (p0 32), .int i0_33, .int i0_34, .int i0_35, .int i0_36, .int i0_37, .int i0_38, .int i0_39, .int i0_40, .int i0_41, .int i0_42, .int i0_43]))], [(p0 29, .inl (cs 0, 2685, .inl v0_29))], [gOut cs (p0 31) 8 r0_31], [gOut cs (p0 32) 2 r0_32], gRow cs 8 2685 r0_31 g0_31, gRow cs 2 24166 r0_32 g0_32]
abbrev rm_X11_image : Room := { frames := 2, cells := 0, slots := 0, locals := 47 }
def f_X11_image  (i0_0 : Int32) (i0_34 : Int32) (i0_36 : Int32) (i0_37 : Int32) (v0_29 : Nat → Int32) (g0_31 : Nat → Nat → Int32) (g0_32 : Nat → Nat → Int32)  : Option (Int32 × Int32 × Int32 × Int32 × Int32 × (Nat → Int32) × (Nat → Nat → Int32) × (Nat → Nat → Int32)) := if i0_36 = 2 then (some ((-1), 0, i0_34, i0_36, i0_37, v0_29, g0_31, g0_32)) else (ck i0_36 2 ((f_X11_putsAll i0_34 i0_37 v0_29 g0_31 24166 (g0_32 (i0_36).toNatClampNeg) (0)).bind fun q26 => some (i0_36 + 1, 0, q26.1, i0_36 + 1, q26.2.1, q26.2.2.1, q26.2.2.2.1, va_up g0_32 (i0_36).toNatClampNeg q26.2.2.2.2)))
set_option maxHeartbeats 4000000 in
set_option maxRecDepth 100000 in
theorem c_X11_image (l : Launch) (D : va_G) (cs : Nat → ClassId)  (sz : Nat) (a0 : Nat) (p0 : Nat → Nat) (i0_0 : Int32) (i0_1 : Int32) (i0_2 : Int32) (i0_3 : Int32) (i0_4 : Int32) (i0_5 : Int32) (i0_6 : Int32) (i0_7 : Int32) (i0_8 : Int32) (i0_19 : Int32) (i0_20 : Int32) (i0_28 : Int32) (i0_33 : Int32) (i0_34 : Int32) (i0_35 : Int32) (i0_36 : Int32) (i0_37 : Int32) (i0_38 : Int32) (i0_39 : Int32) (i0_40 : Int32) (i0_41 : Int32) (i0_42 : Int32) (i0_43 : Int32) (v0_29 : Nat → Int32) (r0_31 : Nat → Nat) (g0_31 : Nat → Nat → Int32) (r0_32 : Nat → Nat) (g0_32 : Nat → Nat → Int32)  (res : Int32 × Int32 × Int32 × Int32 × Int32 × (Nat → Int32) × (Nat → Nat → Int32) × (Nat → Nat → Int32)) (hf : f_X11_image  i0_0 i0_34 i0_36 i0_37 v0_29 g0_31 g0_32  = some res) : MI l D cs yX11_image wsX11_image rm_X11_image [.ref a0] sz (W_X11_image cs a0 p0 i0_0 i0_1 i0_2 i0_3 i0_4 i0_5 i0_6 i0_7 i0_8 i0_19 i0_20 i0_28 i0_33 i0_34 i0_35 i0_36 i0_37 i0_38 i0_39 i0_40 i0_41 i0_42 i0_43 v0_29 r0_31 g0_31 r0_32 g0_32) (W_X11_image cs a0 p0 res.2.1 i0_1 i0_2 i0_3 i0_4 i0_5 i0_6 i0_7 i0_8 i0_19 i0_20 i0_28 i0_33 res.2.2.1 i0_35 res.2.2.2.1 res.2.2.2.2.1 i0_38 i0_39 i0_40 i0_41 i0_42 i0_43 res.2.2.2.2.2.1 r0_31 res.2.2.2.2.2.2.1 r0_32 res.2.2.2.2.2.2.2) res.1 := by
  rw [f_X11_image] at hf
  refine ow_enter (cc := cX11_image) (nL := 1) (ret := (some .int)) (by decide) rfl (Nat.le_of_ble_eq_true rfl) (fun p e s m below meth c ls H locs C0 hP hD hS hA hl => ?_)
  obtain ⟨hx, hb, hr, hlk, hml, hown, hts, hK, hG, hE⟩ := id C0
  have hl : lv_has ls 1 [(0, .ref a0)] := hl
  refine lv_aload_n hx hb dX11_image_0 rfl (lv_at hl 0 rfl) ?_
  refine lv_iconst (v := 0) hx hb dX11_image_1 (by decide) ?_
  refine va_put (D := D) (ci := 11) (v := .int 0) (ty := .int) (C := RX11) (T := TX11) (N := 44) hx hb hts in_X11_image_X11 tyX11 tyX11_ok nmX11 hown hK hP hD hS 0 rfl rfl 0 (by decide) (hts (.fieldLink RX11 85 "PaneDaysModel" "thrown" "I") (List.mem_of_getElem? (i := 1) rfl)) (fun _ h9 => h9) rfl (by decide +kernel) rfl rfl (Nat.le_of_ble_eq_true rfl) dX11_image_2 (fun H locs (hP : va_P D vwCl (W_X11_image cs a0 p0 (0) i0_1 i0_2 i0_3 i0_4 i0_5 i0_6 i0_7 i0_8 i0_19 i0_20 i0_28 i0_33 i0_34 i0_35 i0_36 i0_37 i0_38 i0_39 i0_40 i0_41 i0_42 i0_43 v0_29 r0_31 g0_31 r0_32 g0_32) H) (hD : va_D _ (W_X11_image cs a0 p0 (0) i0_1 i0_2 i0_3 i0_4 i0_5 i0_6 i0_7 i0_8 i0_19 i0_20 i0_28 i0_33 i0_34 i0_35 i0_36 i0_37 i0_38 i0_39 i0_40 i0_41 i0_42 i0_43 v0_29 r0_31 g0_31 r0_32 g0_32)) hS => ?_)
  refine lv_aload_n hx hb dX11_image_5 rfl (lv_at hl 0 rfl) ?_
  refine va_get (D := D) (ci := 11) (v := .int i0_36) (C := RX11) (T := TX11) (N := 44) hx hb hts in_X11_image_X11 hown hK hP 0 rfl rfl 36 (by decide) (hts (.fieldLink RX11 187 "PaneDaysModel" "images" "I") (List.mem_of_getElem? (i := 2) rfl)) (fun _ h9 => h9) rfl dX11_image_6 ?_
  refine lv_iconst (v := 2) hx hb dX11_image_9 (by decide) ?_
  refine lv_icmp_ne (tgt := 15) hx hb dX11_image_10 (by decide) (fun hc => ?_) (fun hc => ?_)
  · replace hf := ow_f hc hf
    refine lv_aload_n hx hb dX11_image_15 rfl (lv_at hl 0 rfl) ?_
    refine lv_aload_n hx hb dX11_image_16 rfl (lv_at hl 0 rfl) ?_
    refine va_get (D := D) (ci := 11) (v := .ref (p0 32)) (C := RX11) (T := TX11) (N := 44) hx hb hts in_X11_image_X11 hown hK hP 0 rfl rfl 32 (by decide) (hts (.fieldLink RX11 76 "PaneDaysModel" "kept" "[[I") (List.mem_of_getElem? (i := 3) rfl)) (fun _ h9 => h9) rfl dX11_image_17 ?_
    refine lv_aload_n hx hb dX11_image_20 rfl (lv_at hl 0 rfl) ?_
    refine va_get (D := D) (ci := 11) (v := .int i0_36) (C := RX11) (T := TX11) (N := 44) hx hb hts in_X11_image_X11 hown hK hP 0 rfl rfl 36 (by decide) (hts (.fieldLink RX11 187 "PaneDaysModel" "images" "I") (List.mem_of_getElem? (i := 2) rfl)) (fun _ h9 => h9) rfl dX11_image_21 ?_
    obtain ⟨hr24, hf⟩ := ck_some hf
    refine ow_aald (rr := r0_32) hx hb hK hP 3 rfl hr24 dX11_image_24 ?_
    refine lv_iconst (v := 0) hx hb dX11_image_25 (by decide) ?_
    obtain ⟨q26, hq, hf⟩ := bd_some hf
    replace hP := sg_Pp (sg_split (sg := (S_X11_image cs a0 p0 (0) i0_1 i0_2 i0_3 i0_4 i0_5 i0_6 i0_7 i0_8 i0_19 i0_20 i0_28 i0_33 i0_34 i0_35 i0_36 i0_37 i0_38 i0_39 i0_40 i0_41 i0_42 i0_43 v0_29 r0_31 g0_31 r0_32 g0_32)) 5 rfl (gr_split (vp_lt hr24))) hP
    replace hD := sg_Dp (sg_split (sg := (S_X11_image cs a0 p0 (0) i0_1 i0_2 i0_3 i0_4 i0_5 i0_6 i0_7 i0_8 i0_19 i0_20 i0_28 i0_33 i0_34 i0_35 i0_36 i0_37 i0_38 i0_39 i0_40 i0_41 i0_42 i0_43 v0_29 r0_31 g0_31 r0_32 g0_32)) 5 rfl (gr_split (vp_lt hr24))) hD
    refine ow_gVV (As := [.ref (r0_32 (i0_36).toNatClampNeg), .int 0]) (rest := []) (sg := (List.set (S_X11_image cs a0 p0 (0) i0_1 i0_2 i0_3 i0_4 i0_5 i0_6 i0_7 i0_8 i0_19 i0_20 i0_28 i0_33 i0_34 i0_35 i0_36 i0_37 i0_38 i0_39 i0_40 i0_41 i0_42 i0_43 v0_29 r0_31 g0_31 r0_32 g0_32) 5 [(r0_32 (i0_36).toNatClampNeg, .inl (cs 0, 24166, .inl (g0_32 (i0_36).toNatClampNeg)))] ++ [gRest cs 2 24166 r0_32 g0_32 (i0_36).toNatClampNeg])) (sc := (S_X11_putsAll cs a0 p0 (0) i0_1 i0_2 i0_3 i0_4 i0_5 i0_6 i0_7 i0_8 i0_19 i0_20 i0_28 i0_33 i0_34 i0_35 i0_36 i0_37 i0_38 i0_39 i0_40 i0_41 i0_42 i0_43 v0_29 r0_31 g0_31 (r0_32 (i0_36).toNatClampNeg) 24166 (g0_32 (i0_36).toNatClampNeg))) (sc' := (S_X11_putsAll cs a0 p0 (0) i0_1 i0_2 i0_3 i0_4 i0_5 i0_6 i0_7 i0_8 i0_19 i0_20 i0_28 i0_33 q26.1 i0_35 i0_36 q26.2.1 i0_38 i0_39 i0_40 i0_41 i0_42 i0_43 q26.2.2.1 r0_31 q26.2.2.2.1 (r0_32 (i0_36).toNatClampNeg) 24166 q26.2.2.2.2)) (sr := ow_pks (List.set (S_X11_image cs a0 p0 (0) i0_1 i0_2 i0_3 i0_4 i0_5 i0_6 i0_7 i0_8 i0_19 i0_20 i0_28 i0_33 i0_34 i0_35 i0_36 i0_37 i0_38 i0_39 i0_40 i0_41 i0_42 i0_43 v0_29 r0_31 g0_31 r0_32 g0_32) 5 [(r0_32 (i0_36).toNatClampNeg, .inl (cs 0, 24166, .inl (g0_32 (i0_36).toNatClampNeg)))] ++ [gRest cs 2 24166 r0_32 g0_32 (i0_36).toNatClampNeg]) [3, 6]) (sf := (List.set (S_X11_image cs a0 p0 (0) i0_1 i0_2 i0_3 i0_4 i0_5 i0_6 i0_7 i0_8 i0_19 i0_20 i0_28 i0_33 q26.1 i0_35 i0_36 q26.2.1 i0_38 i0_39 i0_40 i0_41 i0_42 i0_43 q26.2.2.1 r0_31 q26.2.2.2.1 r0_32 (va_up g0_32 (i0_36).toNatClampNeg q26.2.2.2.2)) 5 [(r0_32 (i0_36).toNatClampNeg, .inl (cs 0, 24166, .inl (q26.2.2.2.2)))] ++ [gRest cs 2 24166 r0_32 g0_32 (i0_36).toNatClampNeg])) C0 (c_X11_putsAll l D cs H.size a0 p0 (0) i0_1 i0_2 i0_3 i0_4 i0_5 i0_6 i0_7 i0_8 i0_19 i0_20 i0_28 i0_33 i0_34 i0_35 i0_36 i0_37 i0_38 i0_39 i0_40 i0_41 i0_42 i0_43 v0_29 r0_31 g0_31 (r0_32 (i0_36).toNatClampNeg) 24166 (g0_32 (i0_36).toNatClampNeg) (0) q26 hq) (cwV 2 hts gX11_image_X11_putsAll rfl rfl rfl (by decide +kernel) ⟨Nat.le_of_ble_eq_true rfl, Nat.le_of_ble_eq_true rfl⟩) 11 rfl rfl hP hD hS (sg_permL [0, 1, 2, 5, 4] [3, 6] 7 rfl (by decide) rfl rfl) (sg_permG [2, 3, 4, 0, 6, 5, 1] 7 rfl (by decide) rfl) rfl hl.1 rfl (Nat.le_of_ble_eq_true rfl) ⟨Nat.zero_le _, Nat.zero_le _⟩ dX11_image_26 (fun H locs hP hD hS => ?_)
    replace hP : va_P D vwCl (W_X11_image cs a0 p0 (0) i0_1 i0_2 i0_3 i0_4 i0_5 i0_6 i0_7 i0_8 i0_19 i0_20 i0_28 i0_33 q26.1 i0_35 i0_36 q26.2.1 i0_38 i0_39 i0_40 i0_41 i0_42 i0_43 q26.2.2.1 r0_31 q26.2.2.2.1 r0_32 (va_up g0_32 (i0_36).toNatClampNeg q26.2.2.2.2)) H := sg_Pp (sg_merge (sg := (S_X11_image cs a0 p0 (0) i0_1 i0_2 i0_3 i0_4 i0_5 i0_6 i0_7 i0_8 i0_19 i0_20 i0_28 i0_33 q26.1 i0_35 i0_36 q26.2.1 i0_38 i0_39 i0_40 i0_41 i0_42 i0_43 q26.2.2.1 r0_31 q26.2.2.2.1 r0_32 (va_up g0_32 (i0_36).toNatClampNeg q26.2.2.2.2))) 5 rfl (gr_splitU (vp_lt hr24) (G := g0_32) (v := q26.2.2.2.2))) hP
    replace hD : va_D _ (W_X11_image cs a0 p0 (0) i0_1 i0_2 i0_3 i0_4 i0_5 i0_6 i0_7 i0_8 i0_19 i0_20 i0_28 i0_33 q26.1 i0_35 i0_36 q26.2.1 i0_38 i0_39 i0_40 i0_41 i0_42 i0_43 q26.2.2.1 r0_31 q26.2.2.2.1 r0_32 (va_up g0_32 (i0_36).toNatClampNeg q26.2.2.2.2)) := sg_Dp (sg_merge (sg := (S_X11_image cs a0 p0 (0) i0_1 i0_2 i0_3 i0_4 i0_5 i0_6 i0_7 i0_8 i0_19 i0_20 i0_28 i0_33 q26.1 i0_35 i0_36 q26.2.1 i0_38 i0_39 i0_40 i0_41 i0_42 i0_43 q26.2.2.1 r0_31 q26.2.2.2.1 r0_32 (va_up g0_32 (i0_36).toNatClampNeg q26.2.2.2.2))) 5 rfl (gr_splitU (vp_lt hr24) (G := g0_32) (v := q26.2.2.2.2))) hD
    refine lv_aload_n hx hb dX11_image_29 rfl (lv_at hl 0 rfl) ?_
    refine lv_dup hx hb dX11_image_30 rfl ?_
    refine va_get (D := D) (ci := 11) (v := .int i0_36) (C := RX11) (T := TX11) (N := 44) hx hb hts in_X11_image_X11 hown hK hP 0 rfl rfl 36 (by decide) (hts (.fieldLink RX11 187 "PaneDaysModel" "images" "I") (List.mem_of_getElem? (i := 2) rfl)) (fun _ h9 => h9) rfl dX11_image_31 ?_
    refine lv_iconst (v := 1) hx hb dX11_image_34 (by decide) ?_
    refine lv_iadd hx hb dX11_image_35 ?_
    refine va_put (D := D) (ci := 11) (v := .int (i0_36 + 1)) (ty := .int) (C := RX11) (T := TX11) (N := 44) hx hb hts in_X11_image_X11 tyX11 tyX11_ok nmX11 hown hK hP hD hS 0 rfl rfl 36 (by decide) (hts (.fieldLink RX11 187 "PaneDaysModel" "images" "I") (List.mem_of_getElem? (i := 2) rfl)) (fun _ h9 => h9) rfl (by decide +kernel) rfl rfl (Nat.le_of_ble_eq_true rfl) dX11_image_36 (fun H locs (hP : va_P D vwCl (W_X11_image cs a0 p0 (0) i0_1 i0_2 i0_3 i0_4 i0_5 i0_6 i0_7 i0_8 i0_19 i0_20 i0_28 i0_33 q26.1 i0_35 (i0_36 + 1) q26.2.1 i0_38 i0_39 i0_40 i0_41 i0_42 i0_43 q26.2.2.1 r0_31 q26.2.2.2.1 r0_32 (va_up g0_32 (i0_36).toNatClampNeg q26.2.2.2.2)) H) (hD : va_D _ (W_X11_image cs a0 p0 (0) i0_1 i0_2 i0_3 i0_4 i0_5 i0_6 i0_7 i0_8 i0_19 i0_20 i0_28 i0_33 q26.1 i0_35 (i0_36 + 1) q26.2.1 i0_38 i0_39 i0_40 i0_41 i0_42 i0_43 q26.2.2.1 r0_31 q26.2.2.2.1 r0_32 (va_up g0_32 (i0_36).toNatClampNeg q26.2.2.2.2))) hS => ?_)
    refine lv_aload_n hx hb dX11_image_39 rfl (lv_at hl 0 rfl) ?_
    refine va_get (D := D) (ci := 11) (v := .int (i0_36 + 1)) (C := RX11) (T := TX11) (N := 44) hx hb hts in_X11_image_X11 hown hK hP 0 rfl rfl 36 (by decide) (hts (.fieldLink RX11 187 "PaneDaysModel" "images" "I") (List.mem_of_getElem? (i := 2) rfl)) (fun _ h9 => h9) rfl dX11_image_40 ?_
    obtain rfl := Option.some.inj hf
    exact ow_retI C0 hP hD hS dX11_image_43
  · replace hf := ow_t hc hf
    refine lv_iconst (v := (-1)) hx hb dX11_image_13 (by decide) ?_
    obtain rfl := Option.some.inj hf
    exact ow_retI C0 hP hD hS dX11_image_14
theorem in_X11_isPane_X11 : ∀ w ∈ u_ws RX11 TX11 44, w ∈ wsX11_isPane := fun w h => List.mem_cons_of_mem _ (List.mem_append_right _ h)
abbrev W_X11_isPane (cs : Nat → ClassId) (a0 : Nat) (p0 : Nat → Nat) (i0_0 : Int32) (i0_1 : Int32) (i0_2 : Int32) (i0_3 : Int32) (i0_4 : Int32) (i0_5 : Int32) (i0_6 : Int32) (i0_7 : Int32) (i0_8 : Int32) (i0_19 : Int32) (i0_20 : Int32) (i0_28 : Int32) (i0_33 : Int32) (i0_34 : Int32) (i0_35 : Int32) (i0_36 : Int32) (i0_37 : Int32) (i0_38 : Int32) (i0_39 : Int32) (i0_40 : Int32) (i0_41 : Int32) (i0_42 : Int32) (i0_43 : Int32) (v0_12 : Nat → Int32) : va_W := [(a0, .inr (11, [.int i0_0, .int i0_1, .int i0_2, .int i0_3, .int i0_4, .int i0_5, .int i0_6, .int i0_7, .int i0_8, .ref (p0 9), .ref (p0 10), .ref (p0 11), .ref (p0 12), .ref (p0 13), .ref (p0 14), .ref (p0 15), .ref (p0 16), .ref (p0 17), .ref (p0 18), .int i0_19, .int i0_20, .ref (p0 21), .ref (p0 22), .ref (p0 23), .ref (p0 24), .ref (p0 25), .ref (p0 26), .ref (p0 27), .int i0_28, .ref (p0 29), .ref (p0 30), .ref (p0 31), .ref (p0 32), .int i0_33, .int i0_34, .int i0_35, .int i0_36, .int i0_37, .int i0_38, .int i0_39, .int i0_40, .int i0_41, .int i0_42, .int i0_43])), (p0 12, .inl (cs 0, 6, .inl v0_12))]
abbrev S_X11_isPane (cs : Nat → ClassId) (a0 : Nat) (p0 : Nat → Nat) (i0_0 : Int32) (i0_1 : Int32) (i0_2 : Int32) (i0_3 : Int32) (i0_4 : Int32) (i0_5 : Int32) (i0_6 : Int32) (i0_7 : Int32) (i0_8 : Int32) (i0_19 : Int32) (i0_20 : Int32) (i0_28 : Int32) (i0_33 : Int32) (i0_34 : Int32) (i0_35 : Int32) (i0_36 : Int32) (i0_37 : Int32) (i0_38 : Int32) (i0_39 : Int32) (i0_40 : Int32) (i0_41 : Int32) (i0_42 : Int32) (i0_43 : Int32) (v0_12 : Nat → Int32) : List va_W := [[(a0, .inr (11, [.int i0_0, .int i0_1, .int i0_2, .int i0_3, .int i0_4, .int i0_5, .int i0_6, .int i0_7, .int i0_8, .ref (p0 9), .ref (p0 10), .ref (p0 11), .ref (p0 12), .ref (p0 13), .ref (p0 14), .ref (p0 15), .ref (p0 16), .ref (p0 17), .ref (p0 18), .int i0_19, .int i0_20, .ref (p0 21), .ref (p0 22), .ref (p0 23), .ref (p0 24), .ref (p0 25), .ref (p0 26), .ref (p0 27), .int i0_28, .ref (p0 29), .ref (p0 30), .ref (p0 31), .ref (p0 32), .int i0_33, .int i0_34, .int i0_35, .int i0_36, .int i0_37, .int i0_38, .int i0_39, .int i0_40, .int i0_41, .int i0_42, .int i0_43]))], [(p0 12, .inl (cs 0, 6, .inl v0_12))]]
abbrev rm_X11_isPane : Room := { frames := 1, cells := 0, slots := 0, locals := 22 }
def f_X11_isPane  (v0_12 : Nat → Int32) (x1 : Int32) : Option (Int32) := (f_X11_in x1 (0) ((v0_12 (0 : Int32).toNatClampNeg) - 1)).bind fun q10 => cz q10 (some (q10))
set_option maxHeartbeats 4000000 in
set_option maxRecDepth 100000 in
theorem c_X11_isPane (l : Launch) (D : va_G) (cs : Nat → ClassId)  (sz : Nat) (a0 : Nat) (p0 : Nat → Nat) (i0_0 : Int32) (i0_1 : Int32) (i0_2 : Int32) (i0_3 : Int32) (i0_4 : Int32) (i0_5 : Int32) (i0_6 : Int32) (i0_7 : Int32) (i0_8 : Int32) (i0_19 : Int32) (i0_20 : Int32) (i0_28 : Int32) (i0_33 : Int32) (i0_34 : Int32) (i0_35 : Int32) (i0_36 : Int32) (i0_37 : Int32) (i0_38 : Int32) (i0_39 : Int32) (i0_40 : Int32) (i0_41 : Int32) (i0_42 : Int32) (i0_43 : Int32) (v0_12 : Nat → Int32) (x1 : Int32) (res : Int32) (hf : f_X11_isPane  v0_12 x1 = some res) : MI l D cs yX11_isPane wsX11_isPane rm_X11_isPane [.ref a0, .int x1] sz (W_X11_isPane cs a0 p0 i0_0 i0_1 i0_2 i0_3 i0_4 i0_5 i0_6 i0_7 i0_8 i0_19 i0_20 i0_28 i0_33 i0_34 i0_35 i0_36 i0_37 i0_38 i0_39 i0_40 i0_41 i0_42 i0_43 v0_12) (W_X11_isPane cs a0 p0 i0_0 i0_1 i0_2 i0_3 i0_4 i0_5 i0_6 i0_7 i0_8 i0_19 i0_20 i0_28 i0_33 i0_34 i0_35 i0_36 i0_37 i0_38 i0_39 i0_40 i0_41 i0_42 i0_43 v0_12) res := by
  rw [f_X11_isPane] at hf
  refine ow_enter (cc := cX11_isPane) (nL := 2) (ret := (some .boolean)) (by decide) rfl (Nat.le_of_ble_eq_true rfl) (fun p e s m below meth c ls H locs C0 hP hD hS hA hl => ?_)
  obtain ⟨hx, hb, hr, hlk, hml, hown, hts, hK, hG, hE⟩ := id C0
  have hl : lv_has ls 2 [(0, .ref a0), (1, .int x1)] := hl
  refine lv_iload_n hx hb dX11_isPane_0 rfl (lv_at hl 1 rfl) ?_
  refine lv_iconst (v := 0) hx hb dX11_isPane_1 (by decide) ?_
  refine lv_aload_n hx hb dX11_isPane_2 rfl (lv_at hl 0 rfl) ?_
  refine va_get (D := D) (ci := 11) (v := .ref (p0 12)) (C := RX11) (T := TX11) (N := 44) hx hb hts in_X11_isPane_X11 hown hK hP 0 rfl rfl 12 (by decide) (hts (.fieldLink RX11 23 "PaneDaysModel" "told" "[I") (List.mem_of_getElem? (i := 1) rfl)) (fun _ h9 => h9) rfl dX11_isPane_3 ?_
  refine lv_iconst (v := 0) hx hb dX11_isPane_6 (by decide) ?_
  refine va_iald (f := v0_12) hx hb hK hP 1 0 rfl rfl (vp_in_nI (n := 0) (by decide) (by decide)) dX11_isPane_7 ?_
  refine lv_iconst (v := 1) hx hb dX11_isPane_8 (by decide) ?_
  refine lv_isub hx hb dX11_isPane_9 ?_
  obtain ⟨q10, hq, hf⟩ := bd_some hf
  refine ow_gSI (As := [.int x1, .int 0, .int ((v0_12 (0 : Int32).toNatClampNeg) - 1)]) (rest := []) (sg := (S_X11_isPane cs a0 p0 i0_0 i0_1 i0_2 i0_3 i0_4 i0_5 i0_6 i0_7 i0_8 i0_19 i0_20 i0_28 i0_33 i0_34 i0_35 i0_36 i0_37 i0_38 i0_39 i0_40 i0_41 i0_42 i0_43 v0_12)) (sc := ([] : List va_W)) (sc' := ([] : List va_W)) (sr := ow_pks (S_X11_isPane cs a0 p0 i0_0 i0_1 i0_2 i0_3 i0_4 i0_5 i0_6 i0_7 i0_8 i0_19 i0_20 i0_28 i0_33 i0_34 i0_35 i0_36 i0_37 i0_38 i0_39 i0_40 i0_41 i0_42 i0_43 v0_12) [0, 1]) (sf := (S_X11_isPane cs a0 p0 i0_0 i0_1 i0_2 i0_3 i0_4 i0_5 i0_6 i0_7 i0_8 i0_19 i0_20 i0_28 i0_33 i0_34 i0_35 i0_36 i0_37 i0_38 i0_39 i0_40 i0_41 i0_42 i0_43 v0_12)) (r := q10) C0 (c_X11_in l D cs H.size  x1 (0) ((v0_12 (0 : Int32).toNatClampNeg) - 1) q10 hq) (va_cwS 3 hts gX11_isPane_X11_in rfl rfl rfl (by decide +kernel) ⟨Nat.le_of_ble_eq_true rfl, Nat.le_of_ble_eq_true rfl⟩) hP hD hS (sg_permL [] [0, 1] 2 rfl (by decide) rfl rfl) (sg_permG [0, 1] 2 rfl (by decide) rfl) rfl hl.1 rfl (Nat.le_of_ble_eq_true rfl) ⟨Nat.zero_le _, Nat.zero_le _⟩ dX11_isPane_10 (fun H locs (hP : va_P D vwCl (W_X11_isPane cs a0 p0 i0_0 i0_1 i0_2 i0_3 i0_4 i0_5 i0_6 i0_7 i0_8 i0_19 i0_20 i0_28 i0_33 i0_34 i0_35 i0_36 i0_37 i0_38 i0_39 i0_40 i0_41 i0_42 i0_43 v0_12) H) (hD : va_D _ (W_X11_isPane cs a0 p0 i0_0 i0_1 i0_2 i0_3 i0_4 i0_5 i0_6 i0_7 i0_8 i0_19 i0_20 i0_28 i0_33 i0_34 i0_35 i0_36 i0_37 i0_38 i0_39 i0_40 i0_41 i0_42 i0_43 v0_12)) hS => ?_)
  obtain ⟨hz, hf⟩ := cz_some hf
  obtain rfl := Option.some.inj hf
  exact ow_retZ C0 hz hP hD hS dX11_isPane_13
theorem in_X11_bad_X11 : ∀ w ∈ u_ws RX11 TX11 44, w ∈ wsX11_bad := fun w h => List.mem_cons_of_mem _ (List.mem_append_right _ h)
abbrev W_X11_bad (cs : Nat → ClassId) (a0 : Nat) (p0 : Nat → Nat) (i0_0 : Int32) (i0_1 : Int32) (i0_2 : Int32) (i0_3 : Int32) (i0_4 : Int32) (i0_5 : Int32) (i0_6 : Int32) (i0_7 : Int32) (i0_8 : Int32) (i0_19 : Int32) (i0_20 : Int32) (i0_28 : Int32) (i0_33 : Int32) (i0_34 : Int32) (i0_35 : Int32) (i0_36 : Int32) (i0_37 : Int32) (i0_38 : Int32) (i0_39 : Int32) (i0_40 : Int32) (i0_41 : Int32) (i0_42 : Int32) (i0_43 : Int32) (v0_10 : Nat → Int32) : va_W := [(a0, .inr (11, [.int i0_0, .int i0_1, .int i0_2, .int i0_3, .int i0_4, .int i0_5, .int i0_6, .int i0_7, .int i0_8, .ref (p0 9), .ref (p0 10), .ref (p0 11), .ref (p0 12), .ref (p0 13), .ref (p0 14), .ref (p0 15), .ref (p0 16), .ref (p0 17), .ref (p0 18), .int i0_19, .int i0_20, .ref (p0 21), .ref (p0 22), .ref (p0 23), .ref (p0 24), .ref (p0 25), .ref (p0 26), .ref (p0 27), .int i0_28, .ref (p0 29), .ref (p0 30), .ref (p0 31), .ref (p0 32), .int i0_33, .int i0_34, .int i0_35, .int i0_36, .int i0_37, .int i0_38, .int i0_39, .int i0_40, .int i0_41, .int i0_42, .int i0_43])), (p0 10, .inl (cs 0, 3, .inl v0_10))]
abbrev S_X11_bad (cs : Nat → ClassId) (a0 : Nat) (p0 : Nat → Nat) (i0_0 : Int32) (i0_1 : Int32) (i0_2 : Int32) (i0_3 : Int32) (i0_4 : Int32) (i0_5 : Int32) (i0_6 : Int32) (i0_7 : Int32) (i0_8 : Int32) (i0_19 : Int32) (i0_20 : Int32) (i0_28 : Int32) (i0_33 : Int32) (i0_34 : Int32) (i0_35 : Int32) (i0_36 : Int32) (i0_37 : Int32) (i0_38 : Int32) (i0_39 : Int32) (i0_40 : Int32) (i0_41 : Int32) (i0_42 : Int32) (i0_43 : Int32) (v0_10 : Nat → Int32) : List va_W := [[(a0, .inr (11, [.int i0_0, .int i0_1, .int i0_2, .int i0_3, .int i0_4, .int i0_5, .int i0_6, .int i0_7, .int i0_8, .ref (p0 9), .ref (p0 10), .ref (p0 11), .ref (p0 12), .ref (p0 13), .ref (p0 14), .ref (p0 15), .ref (p0 16), .ref (p0 17), .ref (p0 18), .int i0_19, .int i0_20, .ref (p0 21), .ref (p0 22), .ref (p0 23), .ref (p0 24), .ref (p0 25), .ref (p0 26), .ref (p0 27), .int i0_28, .ref (p0 29), .ref (p0 30), .ref (p0 31), .ref (p0 32), .int i0_33, .int i0_34, .int i0_35, .int i0_36, .int i0_37, .int i0_38, .int i0_39, .int i0_40, .int i0_41, .int i0_42, .int i0_43]))], [(p0 10, .inl (cs 0, 3, .inl v0_10))]]
abbrev rm_X11_bad : Room := { frames := 0, cells := 0, slots := 0, locals := 0 }
def f_X11_bad_b26    (i0_0 : Int32) (v0_10 : Nat → Int32)  : Option (Int32 × Int32 × (Nat → Int32)) := if i0_0 = 0 then (some (0, i0_0, v0_10)) else (some (1, i0_0, v0_10))
set_option maxHeartbeats 4000000 in
set_option maxRecDepth 100000 in
theorem w_X11_bad_b26 {p : Program} {l : Launch} {e : Env} {s : State} {m : MethodId} {below : List Frame} {meth : Method} {c : Code} {D : va_G} {cs : Nat → ClassId} {av : Array Value} {w0 : va_W} (C0 : Cx p s m meth c av wsX11_bad cX11_bad 4 (some .boolean) RX11 D cs w0)  (a0 : Nat) (p0 : Nat → Nat) (i0_1 : Int32) (i0_2 : Int32) (i0_3 : Int32) (i0_4 : Int32) (i0_5 : Int32) (i0_6 : Int32) (i0_7 : Int32) (i0_8 : Int32) (i0_19 : Int32) (i0_20 : Int32) (i0_28 : Int32) (i0_33 : Int32) (i0_34 : Int32) (i0_35 : Int32) (i0_36 : Int32) (i0_37 : Int32) (i0_38 : Int32) (i0_39 : Int32) (i0_40 : Int32) (i0_41 : Int32) (i0_42 : Int32) (i0_43 : Int32) (res : Int32 × Int32 × (Nat → Int32))  : ∀ (i0_0 : Int32) (v0_10 : Nat → Int32), f_X11_bad_b26 i0_0 v0_10 = some res → ∀ (H : Heap) (locs : List Loc) (ls : Array Slot), va_P D vwCl (W_X11_bad cs a0 p0 i0_0 i0_1 i0_2 i0_3 i0_4 i0_5 i0_6 i0_7 i0_8 i0_19 i0_20 i0_28 i0_33 i0_34 i0_35 i0_36 i0_37 i0_38 i0_39 i0_40 i0_41 i0_42 i0_43 v0_10) H → va_D (va_A w0 s.heap.size) (W_X11_bad cs a0 p0 i0_0 i0_1 i0_2 i0_3 i0_4 i0_5 i0_6 i0_7 i0_8 i0_19 i0_20 i0_28 i0_33 i0_34 i0_35 i0_36 i0_37 i0_38 i0_39 i0_40 i0_41 i0_42 i0_43 v0_10) → va_S (va_A w0 s.heap.size) s.heap H locs → lv_has ls 4 [(0, .ref a0)] → W p l e rm_X11_bad s m av below meth c H locs 0 0 (MQ below (oI D cs w0 (W_X11_bad cs a0 p0 res.2.1 i0_1 i0_2 i0_3 i0_4 i0_5 i0_6 i0_7 i0_8 i0_19 i0_20 i0_28 i0_33 i0_34 i0_35 i0_36 i0_37 i0_38 i0_39 i0_40 i0_41 i0_42 i0_43 res.2.2) res.1 s.heap.size) av s 0 0 (va_A w0 s.heap.size)) (F0 m 26 ls []) := by
  obtain ⟨hx, hb, hr, hlk, hml, hown, hts, hK, hG, hE⟩ := id C0
  intro i0_0 v0_10 hf H locs ls hP hD hS hl
  rw [f_X11_bad_b26] at hf
  refine lv_aload_n hx hb dX11_bad_26 rfl (lv_at hl 0 rfl) ?_
  refine va_get (D := D) (ci := 11) (v := .int i0_0) (C := RX11) (T := TX11) (N := 44) hx hb hts in_X11_bad_X11 hown hK hP 0 rfl rfl 0 (by decide) (hts (.fieldLink RX11 85 "PaneDaysModel" "thrown" "I") (List.mem_of_getElem? (i := 1) rfl)) (fun _ h9 => h9) rfl dX11_bad_27 ?_
  refine lv_if_eq (tgt := 37) hx hb dX11_bad_30 (by decide) (fun hc => ?_) (fun hc => ?_)
  · replace hf := ow_t hc hf
    refine lv_iconst (v := 0) hx hb dX11_bad_37 (by decide) ?_
    obtain rfl := Option.some.inj hf
    exact ow_retZ C0 (Or.inl rfl) hP hD hS dX11_bad_38
  · replace hf := ow_f hc hf
    refine lv_iconst (v := 1) hx hb dX11_bad_33 (by decide) ?_
    refine lv_goto (tgt := 38) hx hb dX11_bad_34 (by decide) ?_
    obtain rfl := Option.some.inj hf
    exact ow_retZ C0 (Or.inr rfl) hP hD hS dX11_bad_38
def f_X11_bad  (i0_0 : Int32) (v0_10 : Nat → Int32) (x1 : Int32) (x2 : Int32) (x3 : Int32) : Option (Int32 × Int32 × (Nat → Int32)) := if x1 = 0 then (f_X11_bad_b26 i0_0 v0_10) else (if i0_0 = 0 then (ck x3 3 (ck x3 3 (f_X11_bad_b26 x2 (upd v0_10 (x3).toNatClampNeg ((v0_10 (x3).toNatClampNeg) + 1))))) else (f_X11_bad_b26 i0_0 v0_10))
set_option maxHeartbeats 4000000 in
set_option maxRecDepth 100000 in
theorem c_X11_bad (l : Launch) (D : va_G) (cs : Nat → ClassId)  (sz : Nat) (a0 : Nat) (p0 : Nat → Nat) (i0_0 : Int32) (i0_1 : Int32) (i0_2 : Int32) (i0_3 : Int32) (i0_4 : Int32) (i0_5 : Int32) (i0_6 : Int32) (i0_7 : Int32) (i0_8 : Int32) (i0_19 : Int32) (i0_20 : Int32) (i0_28 : Int32) (i0_33 : Int32) (i0_34 : Int32) (i0_35 : Int32) (i0_36 : Int32) (i0_37 : Int32) (i0_38 : Int32) (i0_39 : Int32) (i0_40 : Int32) (i0_41 : Int32) (i0_42 : Int32) (i0_43 : Int32) (v0_10 : Nat → Int32) (x1 : Int32) (x2 : Int32) (x3 : Int32) (res : Int32 × Int32 × (Nat → Int32)) (hf : f_X11_bad  i0_0 v0_10 x1 x2 x3 = some res) : MI l D cs yX11_bad wsX11_bad rm_X11_bad [.ref a0, .int x1, .int x2, .int x3] sz (W_X11_bad cs a0 p0 i0_0 i0_1 i0_2 i0_3 i0_4 i0_5 i0_6 i0_7 i0_8 i0_19 i0_20 i0_28 i0_33 i0_34 i0_35 i0_36 i0_37 i0_38 i0_39 i0_40 i0_41 i0_42 i0_43 v0_10) (W_X11_bad cs a0 p0 res.2.1 i0_1 i0_2 i0_3 i0_4 i0_5 i0_6 i0_7 i0_8 i0_19 i0_20 i0_28 i0_33 i0_34 i0_35 i0_36 i0_37 i0_38 i0_39 i0_40 i0_41 i0_42 i0_43 res.2.2) res.1 := by
  rw [f_X11_bad] at hf
  refine ow_enter (cc := cX11_bad) (nL := 4) (ret := (some .boolean)) (by decide) rfl (Nat.le_of_ble_eq_true rfl) (fun p e s m below meth c ls H locs C0 hP hD hS hA hl => ?_)
  obtain ⟨hx, hb, hr, hlk, hml, hown, hts, hK, hG, hE⟩ := id C0
  have hl : lv_has ls 4 [(0, .ref a0), (1, .int x1), (2, .int x2), (3, .int x3)] := hl
  refine lv_iload_n hx hb dX11_bad_0 rfl (lv_at hl 1 rfl) ?_
  refine lv_if_eq (tgt := 26) hx hb dX11_bad_1 (by decide) (fun hc => ?_) (fun hc => ?_)
  · replace hf := ow_t hc hf
    exact w_X11_bad_b26 C0 a0 p0 i0_1 i0_2 i0_3 i0_4 i0_5 i0_6 i0_7 i0_8 i0_19 i0_20 i0_28 i0_33 i0_34 i0_35 i0_36 i0_37 i0_38 i0_39 i0_40 i0_41 i0_42 i0_43 res i0_0 v0_10  hf _ _ _ hP hD hS (lv_sub hl [0] rfl)
  · replace hf := ow_f hc hf
    refine lv_aload_n hx hb dX11_bad_4 rfl (lv_at hl 0 rfl) ?_
    refine va_get (D := D) (ci := 11) (v := .int i0_0) (C := RX11) (T := TX11) (N := 44) hx hb hts in_X11_bad_X11 hown hK hP 0 rfl rfl 0 (by decide) (hts (.fieldLink RX11 85 "PaneDaysModel" "thrown" "I") (List.mem_of_getElem? (i := 1) rfl)) (fun _ h9 => h9) rfl dX11_bad_5 ?_
    refine lv_if_ne (tgt := 26) hx hb dX11_bad_8 (by decide) (fun hc => ?_) (fun hc => ?_)
    · replace hf := ow_f hc hf
      exact w_X11_bad_b26 C0 a0 p0 i0_1 i0_2 i0_3 i0_4 i0_5 i0_6 i0_7 i0_8 i0_19 i0_20 i0_28 i0_33 i0_34 i0_35 i0_36 i0_37 i0_38 i0_39 i0_40 i0_41 i0_42 i0_43 res i0_0 v0_10  hf _ _ _ hP hD hS (lv_sub hl [0] rfl)
    · replace hf := ow_t hc hf
      refine lv_aload_n hx hb dX11_bad_11 rfl (lv_at hl 0 rfl) ?_
      refine lv_iload_n hx hb dX11_bad_12 rfl (lv_at hl 2 rfl) ?_
      refine va_put (D := D) (ci := 11) (v := .int x2) (ty := .int) (C := RX11) (T := TX11) (N := 44) hx hb hts in_X11_bad_X11 tyX11 tyX11_ok nmX11 hown hK hP hD hS 0 rfl rfl 0 (by decide) (hts (.fieldLink RX11 85 "PaneDaysModel" "thrown" "I") (List.mem_of_getElem? (i := 1) rfl)) (fun _ h9 => h9) rfl (by decide +kernel) rfl rfl (Nat.le_of_ble_eq_true rfl) dX11_bad_13 (fun H locs (hP : va_P D vwCl (W_X11_bad cs a0 p0 x2 i0_1 i0_2 i0_3 i0_4 i0_5 i0_6 i0_7 i0_8 i0_19 i0_20 i0_28 i0_33 i0_34 i0_35 i0_36 i0_37 i0_38 i0_39 i0_40 i0_41 i0_42 i0_43 v0_10) H) (hD : va_D _ (W_X11_bad cs a0 p0 x2 i0_1 i0_2 i0_3 i0_4 i0_5 i0_6 i0_7 i0_8 i0_19 i0_20 i0_28 i0_33 i0_34 i0_35 i0_36 i0_37 i0_38 i0_39 i0_40 i0_41 i0_42 i0_43 v0_10)) hS => ?_)
      refine lv_aload_n hx hb dX11_bad_16 rfl (lv_at hl 0 rfl) ?_
      refine va_get (D := D) (ci := 11) (v := .ref (p0 10)) (C := RX11) (T := TX11) (N := 44) hx hb hts in_X11_bad_X11 hown hK hP 0 rfl rfl 10 (by decide) (hts (.fieldLink RX11 17 "PaneDaysModel" "refused" "[I") (List.mem_of_getElem? (i := 2) rfl)) (fun _ h9 => h9) rfl dX11_bad_17 ?_
      refine lv_iload_n hx hb dX11_bad_20 rfl (lv_at hl 3 rfl) ?_
      refine lv_dup2_11 hx hb dX11_bad_21 rfl rfl ?_
      obtain ⟨hin, hf⟩ := ck_some hf
      refine va_iald (f := v0_10) hx hb hK hP 1 0 rfl rfl hin dX11_bad_22 ?_
      refine lv_iconst (v := 1) hx hb dX11_bad_23 (by decide) ?_
      refine lv_iadd hx hb dX11_bad_24 ?_
      obtain ⟨hin, hf⟩ := ck_some hf
      refine va_iast (f := v0_10) hx hb hK hP hD hS 1 0 rfl rfl hin dX11_bad_25 (fun H locs (hP : va_P D vwCl (W_X11_bad cs a0 p0 x2 i0_1 i0_2 i0_3 i0_4 i0_5 i0_6 i0_7 i0_8 i0_19 i0_20 i0_28 i0_33 i0_34 i0_35 i0_36 i0_37 i0_38 i0_39 i0_40 i0_41 i0_42 i0_43 (upd v0_10 (x3).toNatClampNeg ((v0_10 (x3).toNatClampNeg) + 1))) H) (hD : va_D _ (W_X11_bad cs a0 p0 x2 i0_1 i0_2 i0_3 i0_4 i0_5 i0_6 i0_7 i0_8 i0_19 i0_20 i0_28 i0_33 i0_34 i0_35 i0_36 i0_37 i0_38 i0_39 i0_40 i0_41 i0_42 i0_43 (upd v0_10 (x3).toNatClampNeg ((v0_10 (x3).toNatClampNeg) + 1)))) hS => ?_)
      exact w_X11_bad_b26 C0 a0 p0 i0_1 i0_2 i0_3 i0_4 i0_5 i0_6 i0_7 i0_8 i0_19 i0_20 i0_28 i0_33 i0_34 i0_35 i0_36 i0_37 i0_38 i0_39 i0_40 i0_41 i0_42 i0_43 res x2 (upd v0_10 (x3).toNatClampNeg ((v0_10 (x3).toNatClampNeg) + 1))  hf _ _ _ hP hD hS (lv_sub hl [0] rfl)
abbrev W_X11_copies (cs : Nat → ClassId) (a0 : Nat) (n0 : Nat) (v0 : Nat → Int32) (a1 : Nat) (n1 : Nat) (v1 : Nat → Int32) : va_W := [(a0, .inl (cs 0, n0, .inl v0)), (a1, .inl (cs 0, n1, .inl v1))]
abbrev S_X11_copies (cs : Nat → ClassId) (a0 : Nat) (n0 : Nat) (v0 : Nat → Int32) (a1 : Nat) (n1 : Nat) (v1 : Nat → Int32) : List va_W := [[(a0, .inl (cs 0, n0, .inl v0))], [(a1, .inl (cs 0, n1, .inl v1))]]
abbrev rm_X11_copies : Room := { frames := 0, cells := 0, slots := 0, locals := 0 }
def f_X11_copies_b2  (n0 : Nat) (v0 : Nat → Int32) (n1 : Nat)  : Nat → (Nat → Int32) → Int32 → Option ((Nat → Int32))
  | 0, _, _ => none
  | n + 1, v1, x2 => if 2685 ≤ x2 then (some (v1)) else (ck x2 n0 (ck x2 n1 (f_X11_copies_b2 n0 v0 n1 n (upd v1 (x2).toNatClampNeg (v0 (x2).toNatClampNeg)) (x2 + 1))))
set_option maxHeartbeats 4000000 in
set_option maxRecDepth 100000 in
theorem w_X11_copies_b2 {p : Program} {l : Launch} {e : Env} {s : State} {m : MethodId} {below : List Frame} {meth : Method} {c : Code} {D : va_G} {cs : Nat → ClassId} {av : Array Value} {w0 : va_W} (C0 : Cx p s m meth c av wsX11_copies cX11_copies 3 none RX11 D cs w0)  (a0 : Nat) (n0 : Nat) (v0 : Nat → Int32) (a1 : Nat) (n1 : Nat) (res : (Nat → Int32))  : ∀ (n : Nat) (v1 : Nat → Int32) (x2 : Int32), f_X11_copies_b2 n0 v0 n1 n v1 x2 = some res → ∀ (H : Heap) (locs : List Loc) (ls : Array Slot), va_P D vwCl (W_X11_copies cs a0 n0 v0 a1 n1 v1) H → va_D (va_A w0 s.heap.size) (W_X11_copies cs a0 n0 v0 a1 n1 v1) → va_S (va_A w0 s.heap.size) s.heap H locs → lv_has ls 3 [(0, .ref a0), (1, .ref a1), (2, .int x2)] → W p l e rm_X11_copies s m av below meth c H locs 0 0 (MQ below (oV D cs w0 (W_X11_copies cs a0 n0 v0 a1 n1 res) s.heap.size) av s 0 0 (va_A w0 s.heap.size)) (F0 m 2 ls []) := by
  obtain ⟨hx, hb, hr, hlk, hml, hown, hts, hK, hG, hE⟩ := id C0
  intro n
  induction n with
  | zero =>
    intro v1 x2 hf
    rw [f_X11_copies_b2] at hf
    cases hf
  | succ n ih =>
    intro v1 x2 hf H locs ls hP hD hS hl
    rw [f_X11_copies_b2] at hf
    refine lv_iload_n hx hb dX11_copies_2 rfl (lv_at hl 2 rfl) ?_
    refine lv_sipush (v := 2685) hx hb dX11_copies_3 (by decide) ?_
    refine lv_icmp_ge (tgt := 21) hx hb dX11_copies_6 (by decide) (fun hc => ?_) (fun hc => ?_)
    · replace hf := ow_t hc hf
      obtain rfl := Option.some.inj hf
      exact ow_retV C0 hP hD hS dX11_copies_21
    · replace hf := ow_f hc hf
      refine lv_aload_n hx hb dX11_copies_9 rfl (lv_at hl 1 rfl) ?_
      refine lv_iload_n hx hb dX11_copies_10 rfl (lv_at hl 2 rfl) ?_
      refine lv_aload_n hx hb dX11_copies_11 rfl (lv_at hl 0 rfl) ?_
      refine lv_iload_n hx hb dX11_copies_12 rfl (lv_at hl 2 rfl) ?_
      obtain ⟨hin, hf⟩ := ck_some hf
      refine va_iald (f := v0) hx hb hK hP 0 0 rfl rfl hin dX11_copies_13 ?_
      obtain ⟨hin, hf⟩ := ck_some hf
      refine va_iast (f := v1) hx hb hK hP hD hS 1 0 rfl rfl hin dX11_copies_14 (fun H locs (hP : va_P D vwCl (W_X11_copies cs a0 n0 v0 a1 n1 (upd v1 (x2).toNatClampNeg (v0 (x2).toNatClampNeg))) H) (hD : va_D _ (W_X11_copies cs a0 n0 v0 a1 n1 (upd v1 (x2).toNatClampNeg (v0 (x2).toNatClampNeg)))) hS => ?_)
      refine lv_iinc (v := x2 + 1) (lv' := [(2, .int (x2 + 1)), (0, .ref a0), (1, .ref a1)]) hx hb dX11_copies_15 hl (k := 2) rfl (ow_inc (by decide)) (by decide) rfl (fun ls hl => ?_)
      refine lv_goto (tgt := 2) hx hb dX11_copies_18 (by decide) ?_
      exact ih (upd v1 (x2).toNatClampNeg (v0 (x2).toNatClampNeg)) (x2 + 1)  hf _ _ _ hP hD hS (lv_sub hl [1, 2, 0] rfl)
def f_X11_copies  (n0 : Nat) (v0 : Nat → Int32) (n1 : Nat) (v1 : Nat → Int32)  : Option ((Nat → Int32)) := f_X11_copies_b2 n0 v0 n1 4000 v1 (0)
set_option maxHeartbeats 4000000 in
set_option maxRecDepth 100000 in
theorem c_X11_copies (l : Launch) (D : va_G) (cs : Nat → ClassId)  (sz : Nat) (a0 : Nat) (n0 : Nat) (v0 : Nat → Int32) (a1 : Nat) (n1 : Nat) (v1 : Nat → Int32)  (res : (Nat → Int32)) (hf : f_X11_copies  n0 v0 n1 v1  = some res) : MV l D cs yX11_copies wsX11_copies rm_X11_copies [.ref a0, .ref a1] sz (W_X11_copies cs a0 n0 v0 a1 n1 v1) (W_X11_copies cs a0 n0 v0 a1 n1 res) := by
  rw [f_X11_copies] at hf
  refine ow_enter (cc := cX11_copies) (nL := 3) (ret := none) (by decide) rfl (Nat.le_of_ble_eq_true rfl) (fun p e s m below meth c ls H locs C0 hP hD hS hA hl => ?_)
  obtain ⟨hx, hb, hr, hlk, hml, hown, hts, hK, hG, hE⟩ := id C0
  have hl : lv_has ls 3 [(0, .ref a0), (1, .ref a1)] := hl
  refine lv_iconst (v := 0) hx hb dX11_copies_0 (by decide) ?_
  refine lv_istore_n (lv' := [(2, .int 0), (0, .ref a0), (1, .ref a1)]) hx hb dX11_copies_1 rfl hl (by decide) rfl (fun ls hl => ?_)
  exact w_X11_copies_b2 C0 a0 n0 v0 a1 n1 res 4000 v1 (0)  hf _ _ _ hP hD hS (lv_sub hl [1, 2, 0] rfl)
abbrev rm_X11_has : Room := { frames := 0, cells := 0, slots := 0, locals := 0 }
def f_X11_has   (x0 : Int32) (x1 : Int32) : Option (Int32) := if ((x0 >>> (x1 &&& 31)) &&& 1) = 1 then (some (1)) else (some (0))
set_option maxHeartbeats 4000000 in
set_option maxRecDepth 100000 in
theorem c_X11_has (l : Launch) (D : va_G) (cs : Nat → ClassId)  (sz : Nat)  (x0 : Int32) (x1 : Int32) (res : Int32) (hf : f_X11_has   x0 x1 = some res) : MI l D cs yX11_has wsX11_has rm_X11_has [.int x0, .int x1] sz ([] : va_W) ([] : va_W) res := by
  rw [f_X11_has] at hf
  refine ow_enter (cc := cX11_has) (nL := 2) (ret := (some .boolean)) (by decide) rfl (Nat.le_of_ble_eq_true rfl) (fun p e s m below meth c ls H locs C0 hP hD hS hA hl => ?_)
  obtain ⟨hx, hb, hr, hlk, hml, hown, hts, hK, hG, hE⟩ := id C0
  have hl : lv_has ls 2 [(0, .int x0), (1, .int x1)] := hl
  refine lv_iload_n hx hb dX11_has_0 rfl (lv_at hl 0 rfl) ?_
  refine lv_iload_n hx hb dX11_has_1 rfl (lv_at hl 1 rfl) ?_
  refine lv_ishr hx hb dX11_has_2 ?_
  refine lv_iconst (v := 1) hx hb dX11_has_3 (by decide) ?_
  refine lv_iand hx hb dX11_has_4 ?_
  refine lv_iconst (v := 1) hx hb dX11_has_5 (by decide) ?_
  refine lv_icmp_ne (tgt := 13) hx hb dX11_has_6 (by decide) (fun hc => ?_) (fun hc => ?_)
  · replace hf := ow_f hc hf
    refine lv_iconst (v := 0) hx hb dX11_has_13 (by decide) ?_
    obtain rfl := Option.some.inj hf
    exact ow_retZ C0 (Or.inl rfl) hP hD hS dX11_has_14
  · replace hf := ow_t hc hf
    refine lv_iconst (v := 1) hx hb dX11_has_9 (by decide) ?_
    refine lv_goto (tgt := 14) hx hb dX11_has_10 (by decide) ?_
    obtain rfl := Option.some.inj hf
    exact ow_retZ C0 (Or.inr rfl) hP hD hS dX11_has_14
abbrev W_X11_breaks (cs : Nat → ClassId) (a0 : Nat) (n0 : Nat) (v0 : Nat → Int32) : va_W := [(a0, .inl (cs 0, n0, .inl v0))]
abbrev S_X11_breaks (cs : Nat → ClassId) (a0 : Nat) (n0 : Nat) (v0 : Nat → Int32) : List va_W := [[(a0, .inl (cs 0, n0, .inl v0))]]
abbrev rm_X11_breaks : Room := { frames := 1, cells := 0, slots := 0, locals := 21 }
def f_X11_breaks_b27  (n0 : Nat)  : Nat → (Nat → Int32) → Int32 → Int32 → Option (Int32 × (Nat → Int32))
  | 0, _, _, _ => none
  | n + 1, v0, x1, x2 => if 16 ≤ x2 then (some (1, v0)) else (ck ((2400 + (16 * x1)) + x2) n0 (f_X11_breaks_b27 n0 n (upd v0 ((2400 + (16 * x1)) + x2).toNatClampNeg (0)) x1 (x2 + 1)))
set_option maxHeartbeats 4000000 in
set_option maxRecDepth 100000 in
theorem w_X11_breaks_b27 {p : Program} {l : Launch} {e : Env} {s : State} {m : MethodId} {below : List Frame} {meth : Method} {c : Code} {D : va_G} {cs : Nat → ClassId} {av : Array Value} {w0 : va_W} (C0 : Cx p s m meth c av wsX11_breaks cX11_breaks 3 (some .boolean) RX11 D cs w0)  (a0 : Nat) (n0 : Nat) (res : Int32 × (Nat → Int32))  : ∀ (n : Nat) (v0 : Nat → Int32) (x1 : Int32) (x2 : Int32), f_X11_breaks_b27 n0 n v0 x1 x2 = some res → ∀ (H : Heap) (locs : List Loc) (ls : Array Slot), va_P D vwCl (W_X11_breaks cs a0 n0 v0) H → va_D (va_A w0 s.heap.size) (W_X11_breaks cs a0 n0 v0) → va_S (va_A w0 s.heap.size) s.heap H locs → lv_has ls 3 [(0, .ref a0), (1, .int x1), (2, .int x2)] → W p l e rm_X11_breaks s m av below meth c H locs 0 0 (MQ below (oI D cs w0 (W_X11_breaks cs a0 n0 res.2) res.1 s.heap.size) av s 0 0 (va_A w0 s.heap.size)) (F0 m 27 ls []) := by
  obtain ⟨hx, hb, hr, hlk, hml, hown, hts, hK, hG, hE⟩ := id C0
  intro n
  induction n with
  | zero =>
    intro v0 x1 x2 hf
    rw [f_X11_breaks_b27] at hf
    cases hf
  | succ n ih =>
    intro v0 x1 x2 hf H locs ls hP hD hS hl
    rw [f_X11_breaks_b27] at hf
    refine lv_iload_n hx hb dX11_breaks_27 rfl (lv_at hl 2 rfl) ?_
    refine lv_bipush (v := 16) hx hb dX11_breaks_28 (by decide) ?_
    refine lv_icmp_ge (tgt := 52) hx hb dX11_breaks_30 (by decide) (fun hc => ?_) (fun hc => ?_)
    · replace hf := ow_t hc hf
      refine lv_iconst (v := 1) hx hb dX11_breaks_52 (by decide) ?_
      obtain rfl := Option.some.inj hf
      exact ow_retZ C0 (Or.inr rfl) hP hD hS dX11_breaks_53
    · replace hf := ow_f hc hf
      refine lv_aload_n hx hb dX11_breaks_33 rfl (lv_at hl 0 rfl) ?_
      refine lv_sipush (v := 2400) hx hb dX11_breaks_34 (by decide) ?_
      refine lv_bipush (v := 16) hx hb dX11_breaks_37 (by decide) ?_
      refine lv_iload_n hx hb dX11_breaks_39 rfl (lv_at hl 1 rfl) ?_
      refine lv_imul hx hb dX11_breaks_40 ?_
      refine lv_iadd hx hb dX11_breaks_41 ?_
      refine lv_iload_n hx hb dX11_breaks_42 rfl (lv_at hl 2 rfl) ?_
      refine lv_iadd hx hb dX11_breaks_43 ?_
      refine lv_iconst (v := 0) hx hb dX11_breaks_44 (by decide) ?_
      obtain ⟨hin, hf⟩ := ck_some hf
      refine va_iast (f := v0) hx hb hK hP hD hS 0 0 rfl rfl hin dX11_breaks_45 (fun H locs (hP : va_P D vwCl (W_X11_breaks cs a0 n0 (upd v0 ((2400 + (16 * x1)) + x2).toNatClampNeg (0))) H) (hD : va_D _ (W_X11_breaks cs a0 n0 (upd v0 ((2400 + (16 * x1)) + x2).toNatClampNeg (0)))) hS => ?_)
      refine lv_iinc (v := x2 + 1) (lv' := [(2, .int (x2 + 1)), (0, .ref a0), (1, .int x1)]) hx hb dX11_breaks_46 hl (k := 2) rfl (ow_inc (by decide)) (by decide) rfl (fun ls hl => ?_)
      refine lv_goto (tgt := 27) hx hb dX11_breaks_49 (by decide) ?_
      exact ih (upd v0 ((2400 + (16 * x1)) + x2).toNatClampNeg (0)) x1 (x2 + 1)  hf _ _ _ hP hD hS (lv_sub hl [1, 2, 0] rfl)
def f_X11_breaks  (n0 : Nat) (v0 : Nat → Int32) (x1 : Int32) : Option (Int32 × (Nat → Int32)) := ck (2681) n0 ((f_X11_has (v0 (2681 : Int32).toNatClampNeg) x1).bind fun q6 => if q6 = 0 then (ck (2681) n0 (ck (2681) n0 (f_X11_breaks_b27 n0 4000 (upd v0 (2681 : Int32).toNatClampNeg ((v0 (2681 : Int32).toNatClampNeg) ||| (((1 : Int32)) <<< (x1 &&& 31)))) x1 (0)))) else (some (0, v0)))
set_option maxHeartbeats 4000000 in
set_option maxRecDepth 100000 in
theorem c_X11_breaks (l : Launch) (D : va_G) (cs : Nat → ClassId)  (sz : Nat) (a0 : Nat) (n0 : Nat) (v0 : Nat → Int32) (x1 : Int32) (res : Int32 × (Nat → Int32)) (hf : f_X11_breaks  n0 v0 x1 = some res) : MI l D cs yX11_breaks wsX11_breaks rm_X11_breaks [.ref a0, .int x1] sz (W_X11_breaks cs a0 n0 v0) (W_X11_breaks cs a0 n0 res.2) res.1 := by
  rw [f_X11_breaks] at hf
  refine ow_enter (cc := cX11_breaks) (nL := 3) (ret := (some .boolean)) (by decide) rfl (Nat.le_of_ble_eq_true rfl) (fun p e s m below meth c ls H locs C0 hP hD hS hA hl => ?_)
  obtain ⟨hx, hb, hr, hlk, hml, hown, hts, hK, hG, hE⟩ := id C0
  have hl : lv_has ls 3 [(0, .ref a0), (1, .int x1)] := hl
  refine lv_aload_n hx hb dX11_breaks_0 rfl (lv_at hl 0 rfl) ?_
  refine lv_sipush (v := 2681) hx hb dX11_breaks_1 (by decide) ?_
  obtain ⟨hin, hf⟩ := ck_some hf
  refine va_iald (f := v0) hx hb hK hP 0 0 rfl rfl hin dX11_breaks_4 ?_
  refine lv_iload_n hx hb dX11_breaks_5 rfl (lv_at hl 1 rfl) ?_
  obtain ⟨q6, hq, hf⟩ := bd_some hf
  refine ow_gSI (As := [.int (v0 (2681 : Int32).toNatClampNeg), .int x1]) (rest := []) (sg := (S_X11_breaks cs a0 n0 v0)) (sc := ([] : List va_W)) (sc' := ([] : List va_W)) (sr := ow_pks (S_X11_breaks cs a0 n0 v0) [0]) (sf := (S_X11_breaks cs a0 n0 v0)) (r := q6) C0 (c_X11_has l D cs H.size  (v0 (2681 : Int32).toNatClampNeg) x1 q6 hq) (va_cwS 2 hts gX11_breaks_X11_has rfl rfl rfl (by decide +kernel) ⟨Nat.le_of_ble_eq_true rfl, Nat.le_of_ble_eq_true rfl⟩) hP hD hS (sg_permL [] [0] 1 rfl (by decide) rfl rfl) (sg_permG [0] 1 rfl (by decide) rfl) rfl hl.1 rfl (Nat.le_of_ble_eq_true rfl) ⟨Nat.zero_le _, Nat.zero_le _⟩ dX11_breaks_6 (fun H locs (hP : va_P D vwCl (W_X11_breaks cs a0 n0 v0) H) (hD : va_D _ (W_X11_breaks cs a0 n0 v0)) hS => ?_)
  refine lv_if_eq (tgt := 14) hx hb dX11_breaks_9 (by decide) (fun hc => ?_) (fun hc => ?_)
  · replace hf := ow_t hc hf
    refine lv_aload_n hx hb dX11_breaks_14 rfl (lv_at hl 0 rfl) ?_
    refine lv_sipush (v := 2681) hx hb dX11_breaks_15 (by decide) ?_
    refine lv_dup2_11 hx hb dX11_breaks_18 rfl rfl ?_
    obtain ⟨hin, hf⟩ := ck_some hf
    refine va_iald (f := v0) hx hb hK hP 0 0 rfl rfl hin dX11_breaks_19 ?_
    refine lv_iconst (v := 1) hx hb dX11_breaks_20 (by decide) ?_
    refine lv_iload_n hx hb dX11_breaks_21 rfl (lv_at hl 1 rfl) ?_
    refine lv_ishl hx hb dX11_breaks_22 ?_
    refine lv_ior hx hb dX11_breaks_23 ?_
    obtain ⟨hin, hf⟩ := ck_some hf
    refine va_iast (f := v0) hx hb hK hP hD hS 0 0 rfl rfl hin dX11_breaks_24 (fun H locs (hP : va_P D vwCl (W_X11_breaks cs a0 n0 (upd v0 (2681 : Int32).toNatClampNeg ((v0 (2681 : Int32).toNatClampNeg) ||| (((1 : Int32)) <<< (x1 &&& 31))))) H) (hD : va_D _ (W_X11_breaks cs a0 n0 (upd v0 (2681 : Int32).toNatClampNeg ((v0 (2681 : Int32).toNatClampNeg) ||| (((1 : Int32)) <<< (x1 &&& 31)))))) hS => ?_)
    refine lv_iconst (v := 0) hx hb dX11_breaks_25 (by decide) ?_
    refine lv_istore_n (lv' := [(2, .int 0), (0, .ref a0), (1, .int x1)]) hx hb dX11_breaks_26 rfl hl (by decide) rfl (fun ls hl => ?_)
    exact w_X11_breaks_b27 C0 a0 n0 res 4000 (upd v0 (2681 : Int32).toNatClampNeg ((v0 (2681 : Int32).toNatClampNeg) ||| (((1 : Int32)) <<< (x1 &&& 31)))) x1 (0)  hf _ _ _ hP hD hS (lv_sub hl [1, 2, 0] rfl)
  · replace hf := ow_f hc hf
    refine lv_iconst (v := 0) hx hb dX11_breaks_12 (by decide) ?_
    obtain rfl := Option.some.inj hf
    exact ow_retZ C0 (Or.inl rfl) hP hD hS dX11_breaks_13
abbrev rm_X11_cellOf : Room := { frames := 0, cells := 0, slots := 0, locals := 0 }
def f_X11_cellOf   (x0 : Int32) (x1 : Int32) (x2 : Int32) : Option (Int32) := some (((16 * x0) + (4 * x2)) + x1)
set_option maxHeartbeats 4000000 in
set_option maxRecDepth 100000 in
theorem c_X11_cellOf (l : Launch) (D : va_G) (cs : Nat → ClassId)  (sz : Nat)  (x0 : Int32) (x1 : Int32) (x2 : Int32) (res : Int32) (hf : f_X11_cellOf   x0 x1 x2 = some res) : MI l D cs yX11_cellOf wsX11_cellOf rm_X11_cellOf [.int x0, .int x1, .int x2] sz ([] : va_W) ([] : va_W) res := by
  rw [f_X11_cellOf] at hf
  refine ow_enter (cc := cX11_cellOf) (nL := 3) (ret := (some .int)) (by decide) rfl (Nat.le_of_ble_eq_true rfl) (fun p e s m below meth c ls H locs C0 hP hD hS hA hl => ?_)
  obtain ⟨hx, hb, hr, hlk, hml, hown, hts, hK, hG, hE⟩ := id C0
  have hl : lv_has ls 3 [(0, .int x0), (1, .int x1), (2, .int x2)] := hl
  refine lv_bipush (v := 16) hx hb dX11_cellOf_0 (by decide) ?_
  refine lv_iload_n hx hb dX11_cellOf_2 rfl (lv_at hl 0 rfl) ?_
  refine lv_imul hx hb dX11_cellOf_3 ?_
  refine lv_iconst (v := 4) hx hb dX11_cellOf_4 (by decide) ?_
  refine lv_iload_n hx hb dX11_cellOf_5 rfl (lv_at hl 2 rfl) ?_
  refine lv_imul hx hb dX11_cellOf_6 ?_
  refine lv_iadd hx hb dX11_cellOf_7 ?_
  refine lv_iload_n hx hb dX11_cellOf_8 rfl (lv_at hl 1 rfl) ?_
  refine lv_iadd hx hb dX11_cellOf_9 ?_
  obtain rfl := Option.some.inj hf
  exact ow_retI C0 hP hD hS dX11_cellOf_10
abbrev W_X11_cellOfOrder (cs : Nat → ClassId) (a0 : Nat) (n0 : Nat) (v0 : Nat → Int32) : va_W := [(a0, .inl (cs 0, n0, .inl v0))]
abbrev S_X11_cellOfOrder (cs : Nat → ClassId) (a0 : Nat) (n0 : Nat) (v0 : Nat → Int32) : List va_W := [[(a0, .inl (cs 0, n0, .inl v0))]]
abbrev rm_X11_cellOfOrder : Room := { frames := 1, cells := 0, slots := 0, locals := 22 }
def f_X11_cellOfOrder  (n0 : Nat) (v0 : Nat → Int32)  : Option (Int32) := ck (0) n0 (ck (1) n0 (ck (2) n0 ((f_X11_cellOf (v0 (0 : Int32).toNatClampNeg) (v0 (1 : Int32).toNatClampNeg) (v0 (2 : Int32).toNatClampNeg)).bind fun q9 => some (q9))))
set_option maxHeartbeats 4000000 in
set_option maxRecDepth 100000 in
theorem c_X11_cellOfOrder (l : Launch) (D : va_G) (cs : Nat → ClassId)  (sz : Nat) (a0 : Nat) (n0 : Nat) (v0 : Nat → Int32)  (res : Int32) (hf : f_X11_cellOfOrder  n0 v0  = some res) : MI l D cs yX11_cellOfOrder wsX11_cellOfOrder rm_X11_cellOfOrder [.ref a0] sz (W_X11_cellOfOrder cs a0 n0 v0) (W_X11_cellOfOrder cs a0 n0 v0) res := by
  rw [f_X11_cellOfOrder] at hf
  refine ow_enter (cc := cX11_cellOfOrder) (nL := 1) (ret := (some .int)) (by decide) rfl (Nat.le_of_ble_eq_true rfl) (fun p e s m below meth c ls H locs C0 hP hD hS hA hl => ?_)
  obtain ⟨hx, hb, hr, hlk, hml, hown, hts, hK, hG, hE⟩ := id C0
  have hl : lv_has ls 1 [(0, .ref a0)] := hl
  refine lv_aload_n hx hb dX11_cellOfOrder_0 rfl (lv_at hl 0 rfl) ?_
  refine lv_iconst (v := 0) hx hb dX11_cellOfOrder_1 (by decide) ?_
  obtain ⟨hin, hf⟩ := ck_some hf
  refine va_iald (f := v0) hx hb hK hP 0 0 rfl rfl hin dX11_cellOfOrder_2 ?_
  refine lv_aload_n hx hb dX11_cellOfOrder_3 rfl (lv_at hl 0 rfl) ?_
  refine lv_iconst (v := 1) hx hb dX11_cellOfOrder_4 (by decide) ?_
  obtain ⟨hin, hf⟩ := ck_some hf
  refine va_iald (f := v0) hx hb hK hP 0 0 rfl rfl hin dX11_cellOfOrder_5 ?_
  refine lv_aload_n hx hb dX11_cellOfOrder_6 rfl (lv_at hl 0 rfl) ?_
  refine lv_iconst (v := 2) hx hb dX11_cellOfOrder_7 (by decide) ?_
  obtain ⟨hin, hf⟩ := ck_some hf
  refine va_iald (f := v0) hx hb hK hP 0 0 rfl rfl hin dX11_cellOfOrder_8 ?_
  obtain ⟨q9, hq, hf⟩ := bd_some hf
  refine ow_gSI (As := [.int (v0 (0 : Int32).toNatClampNeg), .int (v0 (1 : Int32).toNatClampNeg), .int (v0 (2 : Int32).toNatClampNeg)]) (rest := []) (sg := (S_X11_cellOfOrder cs a0 n0 v0)) (sc := ([] : List va_W)) (sc' := ([] : List va_W)) (sr := ow_pks (S_X11_cellOfOrder cs a0 n0 v0) [0]) (sf := (S_X11_cellOfOrder cs a0 n0 v0)) (r := q9) C0 (c_X11_cellOf l D cs H.size  (v0 (0 : Int32).toNatClampNeg) (v0 (1 : Int32).toNatClampNeg) (v0 (2 : Int32).toNatClampNeg) q9 hq) (va_cwS 3 hts gX11_cellOfOrder_X11_cellOf rfl rfl rfl (by decide +kernel) ⟨Nat.le_of_ble_eq_true rfl, Nat.le_of_ble_eq_true rfl⟩) hP hD hS (sg_permL [] [0] 1 rfl (by decide) rfl rfl) (sg_permG [0] 1 rfl (by decide) rfl) rfl hl.1 rfl (Nat.le_of_ble_eq_true rfl) ⟨Nat.zero_le _, Nat.zero_le _⟩ dX11_cellOfOrder_9 (fun H locs (hP : va_P D vwCl (W_X11_cellOfOrder cs a0 n0 v0) H) (hD : va_D _ (W_X11_cellOfOrder cs a0 n0 v0)) hS => ?_)
  obtain rfl := Option.some.inj hf
  exact ow_retI C0 hP hD hS dX11_cellOfOrder_12

theorem in_X11_byteAt_X11 : ∀ w ∈ u_ws RX11 TX11 44, w ∈ wsX11_byteAt := fun w h => List.mem_cons_of_mem _ (List.mem_append_right _ h)
abbrev W_X11_byteAt (cs : Nat → ClassId) (a0 : Nat) (p0 : Nat → Nat) (i0_0 : Int32) (i0_1 : Int32) (i0_2 : Int32) (i0_3 : Int32) (i0_4 : Int32) (i0_5 : Int32) (i0_6 : Int32) (i0_7 : Int32) (i0_8 : Int32) (i0_19 : Int32) (i0_20 : Int32) (i0_28 : Int32) (i0_33 : Int32) (i0_34 : Int32) (i0_35 : Int32) (i0_36 : Int32) (i0_37 : Int32) (i0_38 : Int32) (i0_39 : Int32) (i0_40 : Int32) (i0_41 : Int32) (i0_42 : Int32) (i0_43 : Int32) (v0_9 : Nat → Int32) : va_W := [(a0, .inr (11, [.int i0_0, .int i0_1, .int i0_2, .int i0_3, .int i0_4, .int i0_5, .int i0_6, .int i0_7, .int i0_8, .ref (p0 9), .ref (p0 10), .ref (p0 11), .ref (p0 12), .ref (p0 13), .ref (p0 14), .ref (p0 15), .ref (p0 16), .ref (p0 17), .ref (p0 18), .int i0_19, .int i0_20, .ref (p0 21), .ref (p0 22), .ref (p0 23), .ref (p0 24), .ref (p0 25), .ref (p0 26), .ref (p0 27), .int i0_28, .ref (p0 29), .ref (p0 30), .ref (p0 31), .ref (p0 32), .int i0_33, .int i0_34, .int i0_35, .int i0_36, .int i0_37, .int i0_38, .int i0_39, .int i0_40, .int i0_41, .int i0_42, .int i0_43])), (p0 9, .inl (cs 0, 600, .inl v0_9))]
abbrev S_X11_byteAt (cs : Nat → ClassId) (a0 : Nat) (p0 : Nat → Nat) (i0_0 : Int32) (i0_1 : Int32) (i0_2 : Int32) (i0_3 : Int32) (i0_4 : Int32) (i0_5 : Int32) (i0_6 : Int32) (i0_7 : Int32) (i0_8 : Int32) (i0_19 : Int32) (i0_20 : Int32) (i0_28 : Int32) (i0_33 : Int32) (i0_34 : Int32) (i0_35 : Int32) (i0_36 : Int32) (i0_37 : Int32) (i0_38 : Int32) (i0_39 : Int32) (i0_40 : Int32) (i0_41 : Int32) (i0_42 : Int32) (i0_43 : Int32) (v0_9 : Nat → Int32) : List va_W := [[(a0, .inr (11, [.int i0_0, .int i0_1, .int i0_2, .int i0_3, .int i0_4, .int i0_5, .int i0_6, .int i0_7, .int i0_8, .ref (p0 9), .ref (p0 10), .ref (p0 11), .ref (p0 12), .ref (p0 13), .ref (p0 14), .ref (p0 15), .ref (p0 16), .ref (p0 17), .ref (p0 18), .int i0_19, .int i0_20, .ref (p0 21), .ref (p0 22), .ref (p0 23), .ref (p0 24), .ref (p0 25), .ref (p0 26), .ref (p0 27), .int i0_28, .ref (p0 29), .ref (p0 30), .ref (p0 31), .ref (p0 32), .int i0_33, .int i0_34, .int i0_35, .int i0_36, .int i0_37, .int i0_38, .int i0_39, .int i0_40, .int i0_41, .int i0_42, .int i0_43]))], [(p0 9, .inl (cs 0, 600, .inl v0_9))]]
abbrev rm_X11_byteAt : Room := { frames := 0, cells := 0, slots := 0, locals := 0 }
def f_X11_byteAt  (i0_2 : Int32) (v0_9 : Nat → Int32) (x1 : Int32) : Option (Int32) := if x1 < i0_2 then (ck x1 600 (some (v0_9 (x1).toNatClampNeg))) else (some ((-1)))
set_option maxHeartbeats 4000000 in
set_option maxRecDepth 100000 in
theorem c_X11_byteAt (l : Launch) (D : va_G) (cs : Nat → ClassId)  (sz : Nat) (a0 : Nat) (p0 : Nat → Nat) (i0_0 : Int32) (i0_1 : Int32) (i0_2 : Int32) (i0_3 : Int32) (i0_4 : Int32) (i0_5 : Int32) (i0_6 : Int32) (i0_7 : Int32) (i0_8 : Int32) (i0_19 : Int32) (i0_20 : Int32) (i0_28 : Int32) (i0_33 : Int32) (i0_34 : Int32) (i0_35 : Int32) (i0_36 : Int32) (i0_37 : Int32) (i0_38 : Int32) (i0_39 : Int32) (i0_40 : Int32) (i0_41 : Int32) (i0_42 : Int32) (i0_43 : Int32) (v0_9 : Nat → Int32) (x1 : Int32) (res : Int32) (hf : f_X11_byteAt  i0_2 v0_9 x1 = some res) : MI l D cs yX11_byteAt wsX11_byteAt rm_X11_byteAt [.ref a0, .int x1] sz (W_X11_byteAt cs a0 p0 i0_0 i0_1 i0_2 i0_3 i0_4 i0_5 i0_6 i0_7 i0_8 i0_19 i0_20 i0_28 i0_33 i0_34 i0_35 i0_36 i0_37 i0_38 i0_39 i0_40 i0_41 i0_42 i0_43 v0_9) (W_X11_byteAt cs a0 p0 i0_0 i0_1 i0_2 i0_3 i0_4 i0_5 i0_6 i0_7 i0_8 i0_19 i0_20 i0_28 i0_33 i0_34 i0_35 i0_36 i0_37 i0_38 i0_39 i0_40 i0_41 i0_42 i0_43 v0_9) res := by
  rw [f_X11_byteAt] at hf
  refine ow_enter (cc := cX11_byteAt) (nL := 2) (ret := (some .int)) (by decide) rfl (Nat.le_of_ble_eq_true rfl) (fun p e s m below meth c ls H locs C0 hP hD hS hA hl => ?_)
  obtain ⟨hx, hb, hr, hlk, hml, hown, hts, hK, hG, hE⟩ := id C0
  have hl : lv_has ls 2 [(0, .ref a0), (1, .int x1)] := hl
  refine lv_iload_n hx hb dX11_byteAt_0 rfl (lv_at hl 1 rfl) ?_
  refine lv_aload_n hx hb dX11_byteAt_1 rfl (lv_at hl 0 rfl) ?_
  refine va_get (D := D) (ci := 11) (v := .int i0_2) (C := RX11) (T := TX11) (N := 44) hx hb hts in_X11_byteAt_X11 hown hK hP 0 rfl rfl 2 (by decide) (hts (.fieldLink RX11 91 "PaneDaysModel" "size" "I") (List.mem_of_getElem? (i := 1) rfl)) (fun _ h9 => h9) rfl dX11_byteAt_2 ?_
  refine lv_icmp_lt (tgt := 12) hx hb dX11_byteAt_5 (by decide) (fun hc => ?_) (fun hc => ?_)
  · replace hf := ow_t hc hf
    refine lv_aload_n hx hb dX11_byteAt_12 rfl (lv_at hl 0 rfl) ?_
    refine va_get (D := D) (ci := 11) (v := .ref (p0 9)) (C := RX11) (T := TX11) (N := 44) hx hb hts in_X11_byteAt_X11 hown hK hP 0 rfl rfl 9 (by decide) (hts (.fieldLink RX11 13 "PaneDaysModel" "fed" "[I") (List.mem_of_getElem? (i := 2) rfl)) (fun _ h9 => h9) rfl dX11_byteAt_13 ?_
    refine lv_iload_n hx hb dX11_byteAt_16 rfl (lv_at hl 1 rfl) ?_
    obtain ⟨hin, hf⟩ := ck_some hf
    refine va_iald (f := v0_9) hx hb hK hP 1 0 rfl rfl hin dX11_byteAt_17 ?_
    obtain rfl := Option.some.inj hf
    exact ow_retI C0 hP hD hS dX11_byteAt_18
  · replace hf := ow_f hc hf
    refine lv_iconst (v := (-1)) hx hb dX11_byteAt_8 (by decide) ?_
    refine lv_goto (tgt := 18) hx hb dX11_byteAt_9 (by decide) ?_
    obtain rfl := Option.some.inj hf
    exact ow_retI C0 hP hD hS dX11_byteAt_18
theorem in_X11_blanks_X11 : ∀ w ∈ u_ws RX11 TX11 44, w ∈ wsX11_blanks := fun w h => List.mem_cons_of_mem _ (List.mem_append_right _ h)
abbrev W_X11_blanks (cs : Nat → ClassId) (a0 : Nat) (p0 : Nat → Nat) (i0_0 : Int32) (i0_1 : Int32) (i0_2 : Int32) (i0_3 : Int32) (i0_4 : Int32) (i0_5 : Int32) (i0_6 : Int32) (i0_7 : Int32) (i0_8 : Int32) (i0_19 : Int32) (i0_20 : Int32) (i0_28 : Int32) (i0_33 : Int32) (i0_34 : Int32) (i0_35 : Int32) (i0_36 : Int32) (i0_37 : Int32) (i0_38 : Int32) (i0_39 : Int32) (i0_40 : Int32) (i0_41 : Int32) (i0_42 : Int32) (i0_43 : Int32) (v0_9 : Nat → Int32) : va_W := [(a0, .inr (11, [.int i0_0, .int i0_1, .int i0_2, .int i0_3, .int i0_4, .int i0_5, .int i0_6, .int i0_7, .int i0_8, .ref (p0 9), .ref (p0 10), .ref (p0 11), .ref (p0 12), .ref (p0 13), .ref (p0 14), .ref (p0 15), .ref (p0 16), .ref (p0 17), .ref (p0 18), .int i0_19, .int i0_20, .ref (p0 21), .ref (p0 22), .ref (p0 23), .ref (p0 24), .ref (p0 25), .ref (p0 26), .ref (p0 27), .int i0_28, .ref (p0 29), .ref (p0 30), .ref (p0 31), .ref (p0 32), .int i0_33, .int i0_34, .int i0_35, .int i0_36, .int i0_37, .int i0_38, .int i0_39, .int i0_40, .int i0_41, .int i0_42, .int i0_43])), (p0 9, .inl (cs 0, 600, .inl v0_9))]
abbrev S_X11_blanks (cs : Nat → ClassId) (a0 : Nat) (p0 : Nat → Nat) (i0_0 : Int32) (i0_1 : Int32) (i0_2 : Int32) (i0_3 : Int32) (i0_4 : Int32) (i0_5 : Int32) (i0_6 : Int32) (i0_7 : Int32) (i0_8 : Int32) (i0_19 : Int32) (i0_20 : Int32) (i0_28 : Int32) (i0_33 : Int32) (i0_34 : Int32) (i0_35 : Int32) (i0_36 : Int32) (i0_37 : Int32) (i0_38 : Int32) (i0_39 : Int32) (i0_40 : Int32) (i0_41 : Int32) (i0_42 : Int32) (i0_43 : Int32) (v0_9 : Nat → Int32) : List va_W := [[(a0, .inr (11, [.int i0_0, .int i0_1, .int i0_2, .int i0_3, .int i0_4, .int i0_5, .int i0_6, .int i0_7, .int i0_8, .ref (p0 9), .ref (p0 10), .ref (p0 11), .ref (p0 12), .ref (p0 13), .ref (p0 14), .ref (p0 15), .ref (p0 16), .ref (p0 17), .ref (p0 18), .int i0_19, .int i0_20, .ref (p0 21), .ref (p0 22), .ref (p0 23), .ref (p0 24), .ref (p0 25), .ref (p0 26), .ref (p0 27), .int i0_28, .ref (p0 29), .ref (p0 30), .ref (p0 31), .ref (p0 32), .int i0_33, .int i0_34, .int i0_35, .int i0_36, .int i0_37, .int i0_38, .int i0_39, .int i0_40, .int i0_41, .int i0_42, .int i0_43]))], [(p0 9, .inl (cs 0, 600, .inl v0_9))]]
abbrev rm_X11_blanks : Room := { frames := 1, cells := 0, slots := 0, locals := 21 }
def f_X11_blanks_b0  (i0_2 : Int32) (v0_9 : Nat → Int32)  : Nat → (Int32) → Option (Int32)
  | 0, _ => none
  | n + 1, i0_4 => (f_X11_byteAt i0_2 v0_9 i0_4).bind fun q5 => if q5 = 32 then (f_X11_blanks_b0 i0_2 v0_9 n (i0_4 + 1)) else (some (i0_4))
set_option maxHeartbeats 4000000 in
set_option maxRecDepth 100000 in
theorem w_X11_blanks_b0 {p : Program} {l : Launch} {e : Env} {s : State} {m : MethodId} {below : List Frame} {meth : Method} {c : Code} {D : va_G} {cs : Nat → ClassId} {av : Array Value} {w0 : va_W} (C0 : Cx p s m meth c av wsX11_blanks cX11_blanks 1 none RX11 D cs w0)  (a0 : Nat) (p0 : Nat → Nat) (i0_0 : Int32) (i0_1 : Int32) (i0_2 : Int32) (i0_3 : Int32) (i0_5 : Int32) (i0_6 : Int32) (i0_7 : Int32) (i0_8 : Int32) (i0_19 : Int32) (i0_20 : Int32) (i0_28 : Int32) (i0_33 : Int32) (i0_34 : Int32) (i0_35 : Int32) (i0_36 : Int32) (i0_37 : Int32) (i0_38 : Int32) (i0_39 : Int32) (i0_40 : Int32) (i0_41 : Int32) (i0_42 : Int32) (i0_43 : Int32) (v0_9 : Nat → Int32) (res : Int32)  : ∀ (n : Nat) (i0_4 : Int32), f_X11_blanks_b0 i0_2 v0_9 n i0_4 = some res → ∀ (H : Heap) (locs : List Loc) (ls : Array Slot), va_P D vwCl (W_X11_blanks cs a0 p0 i0_0 i0_1 i0_2 i0_3 i0_4 i0_5 i0_6 i0_7 i0_8 i0_19 i0_20 i0_28 i0_33 i0_34 i0_35 i0_36 i0_37 i0_38 i0_39 i0_40 i0_41 i0_42 i0_43 v0_9) H → va_D (va_A w0 s.heap.size) (W_X11_blanks cs a0 p0 i0_0 i0_1 i0_2 i0_3 i0_4 i0_5 i0_6 i0_7 i0_8 i0_19 i0_20 i0_28 i0_33 i0_34 i0_35 i0_36 i0_37 i0_38 i0_39 i0_40 i0_41 i0_42 i0_43 v0_9) → va_S (va_A w0 s.heap.size) s.heap H locs → lv_has ls 1 [(0, .ref a0)] → W p l e rm_X11_blanks s m av below meth c H locs 0 0 (MQ below (oV D cs w0 (W_X11_blanks cs a0 p0 i0_0 i0_1 i0_2 i0_3 res i0_5 i0_6 i0_7 i0_8 i0_19 i0_20 i0_28 i0_33 i0_34 i0_35 i0_36 i0_37 i0_38 i0_39 i0_40 i0_41 i0_42 i0_43 v0_9) s.heap.size) av s 0 0 (va_A w0 s.heap.size)) (F0 m 0 ls []) := by
  obtain ⟨hx, hb, hr, hlk, hml, hown, hts, hK, hG, hE⟩ := id C0
  intro n
  induction n with
  | zero =>
    intro i0_4 hf
    rw [f_X11_blanks_b0] at hf
    cases hf
  | succ n ih =>
    intro i0_4 hf H locs ls hP hD hS hl
    rw [f_X11_blanks_b0] at hf
    refine lv_aload_n hx hb dX11_blanks_0 rfl (lv_at hl 0 rfl) ?_
    refine lv_aload_n hx hb dX11_blanks_1 rfl (lv_at hl 0 rfl) ?_
    refine va_get (D := D) (ci := 11) (v := .int i0_4) (C := RX11) (T := TX11) (N := 44) hx hb hts in_X11_blanks_X11 hown hK hP 0 rfl rfl 4 (by decide) (hts (.fieldLink RX11 94 "PaneDaysModel" "at" "I") (List.mem_of_getElem? (i := 1) rfl)) (fun _ h9 => h9) rfl dX11_blanks_2 ?_
    obtain ⟨q5, hq, hf⟩ := bd_some hf
    refine ow_gVI (As := [.int i0_4]) (rest := []) (sg := (S_X11_blanks cs a0 p0 i0_0 i0_1 i0_2 i0_3 i0_4 i0_5 i0_6 i0_7 i0_8 i0_19 i0_20 i0_28 i0_33 i0_34 i0_35 i0_36 i0_37 i0_38 i0_39 i0_40 i0_41 i0_42 i0_43 v0_9)) (sc := (S_X11_byteAt cs a0 p0 i0_0 i0_1 i0_2 i0_3 i0_4 i0_5 i0_6 i0_7 i0_8 i0_19 i0_20 i0_28 i0_33 i0_34 i0_35 i0_36 i0_37 i0_38 i0_39 i0_40 i0_41 i0_42 i0_43 v0_9)) (sc' := (S_X11_byteAt cs a0 p0 i0_0 i0_1 i0_2 i0_3 i0_4 i0_5 i0_6 i0_7 i0_8 i0_19 i0_20 i0_28 i0_33 i0_34 i0_35 i0_36 i0_37 i0_38 i0_39 i0_40 i0_41 i0_42 i0_43 v0_9)) (sr := ow_pks (S_X11_blanks cs a0 p0 i0_0 i0_1 i0_2 i0_3 i0_4 i0_5 i0_6 i0_7 i0_8 i0_19 i0_20 i0_28 i0_33 i0_34 i0_35 i0_36 i0_37 i0_38 i0_39 i0_40 i0_41 i0_42 i0_43 v0_9) []) (sf := (S_X11_blanks cs a0 p0 i0_0 i0_1 i0_2 i0_3 i0_4 i0_5 i0_6 i0_7 i0_8 i0_19 i0_20 i0_28 i0_33 i0_34 i0_35 i0_36 i0_37 i0_38 i0_39 i0_40 i0_41 i0_42 i0_43 v0_9)) (r := q5) C0 (c_X11_byteAt l D cs H.size a0 p0 i0_0 i0_1 i0_2 i0_3 i0_4 i0_5 i0_6 i0_7 i0_8 i0_19 i0_20 i0_28 i0_33 i0_34 i0_35 i0_36 i0_37 i0_38 i0_39 i0_40 i0_41 i0_42 i0_43 v0_9 i0_4 q5 hq) (cwV 1 hts gX11_blanks_X11_byteAt rfl rfl rfl (by decide +kernel) ⟨Nat.le_of_ble_eq_true rfl, Nat.le_of_ble_eq_true rfl⟩) 11 rfl rfl hP hD hS (sg_permL [0, 1] [] 2 rfl (by decide) rfl rfl) (sg_permG [0, 1] 2 rfl (by decide) rfl) rfl hl.1 rfl (Nat.le_of_ble_eq_true rfl) ⟨Nat.zero_le _, Nat.zero_le _⟩ dX11_blanks_5 (fun H locs (hP : va_P D vwCl (W_X11_blanks cs a0 p0 i0_0 i0_1 i0_2 i0_3 i0_4 i0_5 i0_6 i0_7 i0_8 i0_19 i0_20 i0_28 i0_33 i0_34 i0_35 i0_36 i0_37 i0_38 i0_39 i0_40 i0_41 i0_42 i0_43 v0_9) H) (hD : va_D _ (W_X11_blanks cs a0 p0 i0_0 i0_1 i0_2 i0_3 i0_4 i0_5 i0_6 i0_7 i0_8 i0_19 i0_20 i0_28 i0_33 i0_34 i0_35 i0_36 i0_37 i0_38 i0_39 i0_40 i0_41 i0_42 i0_43 v0_9)) hS => ?_)
    refine lv_bipush (v := 32) hx hb dX11_blanks_8 (by decide) ?_
    refine lv_icmp_ne (tgt := 26) hx hb dX11_blanks_10 (by decide) (fun hc => ?_) (fun hc => ?_)
    · replace hf := ow_f hc hf
      obtain rfl := Option.some.inj hf
      exact ow_retV C0 hP hD hS dX11_blanks_26
    · replace hf := ow_t hc hf
      refine lv_aload_n hx hb dX11_blanks_13 rfl (lv_at hl 0 rfl) ?_
      refine lv_dup hx hb dX11_blanks_14 rfl ?_
      refine va_get (D := D) (ci := 11) (v := .int i0_4) (C := RX11) (T := TX11) (N := 44) hx hb hts in_X11_blanks_X11 hown hK hP 0 rfl rfl 4 (by decide) (hts (.fieldLink RX11 94 "PaneDaysModel" "at" "I") (List.mem_of_getElem? (i := 1) rfl)) (fun _ h9 => h9) rfl dX11_blanks_15 ?_
      refine lv_iconst (v := 1) hx hb dX11_blanks_18 (by decide) ?_
      refine lv_iadd hx hb dX11_blanks_19 ?_
      refine va_put (D := D) (ci := 11) (v := .int (i0_4 + 1)) (ty := .int) (C := RX11) (T := TX11) (N := 44) hx hb hts in_X11_blanks_X11 tyX11 tyX11_ok nmX11 hown hK hP hD hS 0 rfl rfl 4 (by decide) (hts (.fieldLink RX11 94 "PaneDaysModel" "at" "I") (List.mem_of_getElem? (i := 1) rfl)) (fun _ h9 => h9) rfl (by decide +kernel) rfl rfl (Nat.le_of_ble_eq_true rfl) dX11_blanks_20 (fun H locs (hP : va_P D vwCl (W_X11_blanks cs a0 p0 i0_0 i0_1 i0_2 i0_3 (i0_4 + 1) i0_5 i0_6 i0_7 i0_8 i0_19 i0_20 i0_28 i0_33 i0_34 i0_35 i0_36 i0_37 i0_38 i0_39 i0_40 i0_41 i0_42 i0_43 v0_9) H) (hD : va_D _ (W_X11_blanks cs a0 p0 i0_0 i0_1 i0_2 i0_3 (i0_4 + 1) i0_5 i0_6 i0_7 i0_8 i0_19 i0_20 i0_28 i0_33 i0_34 i0_35 i0_36 i0_37 i0_38 i0_39 i0_40 i0_41 i0_42 i0_43 v0_9)) hS => ?_)
      refine lv_goto (tgt := 0) hx hb dX11_blanks_23 (by decide) ?_
      exact ih (i0_4 + 1)  hf _ _ _ hP hD hS (lv_sub hl [0] rfl)
def f_X11_blanks  (i0_2 : Int32) (i0_4 : Int32) (v0_9 : Nat → Int32)  : Option (Int32) := f_X11_blanks_b0 i0_2 v0_9 4000 i0_4
set_option maxHeartbeats 4000000 in
set_option maxRecDepth 100000 in
theorem c_X11_blanks (l : Launch) (D : va_G) (cs : Nat → ClassId)  (sz : Nat) (a0 : Nat) (p0 : Nat → Nat) (i0_0 : Int32) (i0_1 : Int32) (i0_2 : Int32) (i0_3 : Int32) (i0_4 : Int32) (i0_5 : Int32) (i0_6 : Int32) (i0_7 : Int32) (i0_8 : Int32) (i0_19 : Int32) (i0_20 : Int32) (i0_28 : Int32) (i0_33 : Int32) (i0_34 : Int32) (i0_35 : Int32) (i0_36 : Int32) (i0_37 : Int32) (i0_38 : Int32) (i0_39 : Int32) (i0_40 : Int32) (i0_41 : Int32) (i0_42 : Int32) (i0_43 : Int32) (v0_9 : Nat → Int32)  (res : Int32) (hf : f_X11_blanks  i0_2 i0_4 v0_9  = some res) : MV l D cs yX11_blanks wsX11_blanks rm_X11_blanks [.ref a0] sz (W_X11_blanks cs a0 p0 i0_0 i0_1 i0_2 i0_3 i0_4 i0_5 i0_6 i0_7 i0_8 i0_19 i0_20 i0_28 i0_33 i0_34 i0_35 i0_36 i0_37 i0_38 i0_39 i0_40 i0_41 i0_42 i0_43 v0_9) (W_X11_blanks cs a0 p0 i0_0 i0_1 i0_2 i0_3 res i0_5 i0_6 i0_7 i0_8 i0_19 i0_20 i0_28 i0_33 i0_34 i0_35 i0_36 i0_37 i0_38 i0_39 i0_40 i0_41 i0_42 i0_43 v0_9) := by
  rw [f_X11_blanks] at hf
  refine ow_enter (cc := cX11_blanks) (nL := 1) (ret := none) (by decide) rfl (Nat.le_of_ble_eq_true rfl) (fun p e s m below meth c ls H locs C0 hP hD hS hA hl => ?_)
  obtain ⟨hx, hb, hr, hlk, hml, hown, hts, hK, hG, hE⟩ := id C0
  have hl : lv_has ls 1 [(0, .ref a0)] := hl
  exact w_X11_blanks_b0 C0 a0 p0 i0_0 i0_1 i0_2 i0_3 i0_5 i0_6 i0_7 i0_8 i0_19 i0_20 i0_28 i0_33 i0_34 i0_35 i0_36 i0_37 i0_38 i0_39 i0_40 i0_41 i0_42 i0_43 v0_9 res 4000 i0_4  hf _ _ _ hP hD hS (lv_sub hl [0] rfl)
theorem in_X11_starts_X11 : ∀ w ∈ u_ws RX11 TX11 44, w ∈ wsX11_starts := fun w h => List.mem_cons_of_mem _ (List.mem_append_right _ h)
abbrev W_X11_starts (cs : Nat → ClassId) (a0 : Nat) (p0 : Nat → Nat) (i0_0 : Int32) (i0_1 : Int32) (i0_2 : Int32) (i0_3 : Int32) (i0_4 : Int32) (i0_5 : Int32) (i0_6 : Int32) (i0_7 : Int32) (i0_8 : Int32) (i0_19 : Int32) (i0_20 : Int32) (i0_28 : Int32) (i0_33 : Int32) (i0_34 : Int32) (i0_35 : Int32) (i0_36 : Int32) (i0_37 : Int32) (i0_38 : Int32) (i0_39 : Int32) (i0_40 : Int32) (i0_41 : Int32) (i0_42 : Int32) (i0_43 : Int32) (v0_9 : Nat → Int32) : va_W := [(a0, .inr (11, [.int i0_0, .int i0_1, .int i0_2, .int i0_3, .int i0_4, .int i0_5, .int i0_6, .int i0_7, .int i0_8, .ref (p0 9), .ref (p0 10), .ref (p0 11), .ref (p0 12), .ref (p0 13), .ref (p0 14), .ref (p0 15), .ref (p0 16), .ref (p0 17), .ref (p0 18), .int i0_19, .int i0_20, .ref (p0 21), .ref (p0 22), .ref (p0 23), .ref (p0 24), .ref (p0 25), .ref (p0 26), .ref (p0 27), .int i0_28, .ref (p0 29), .ref (p0 30), .ref (p0 31), .ref (p0 32), .int i0_33, .int i0_34, .int i0_35, .int i0_36, .int i0_37, .int i0_38, .int i0_39, .int i0_40, .int i0_41, .int i0_42, .int i0_43])), (p0 9, .inl (cs 0, 600, .inl v0_9))]
abbrev S_X11_starts (cs : Nat → ClassId) (a0 : Nat) (p0 : Nat → Nat) (i0_0 : Int32) (i0_1 : Int32) (i0_2 : Int32) (i0_3 : Int32) (i0_4 : Int32) (i0_5 : Int32) (i0_6 : Int32) (i0_7 : Int32) (i0_8 : Int32) (i0_19 : Int32) (i0_20 : Int32) (i0_28 : Int32) (i0_33 : Int32) (i0_34 : Int32) (i0_35 : Int32) (i0_36 : Int32) (i0_37 : Int32) (i0_38 : Int32) (i0_39 : Int32) (i0_40 : Int32) (i0_41 : Int32) (i0_42 : Int32) (i0_43 : Int32) (v0_9 : Nat → Int32) : List va_W := [[(a0, .inr (11, [.int i0_0, .int i0_1, .int i0_2, .int i0_3, .int i0_4, .int i0_5, .int i0_6, .int i0_7, .int i0_8, .ref (p0 9), .ref (p0 10), .ref (p0 11), .ref (p0 12), .ref (p0 13), .ref (p0 14), .ref (p0 15), .ref (p0 16), .ref (p0 17), .ref (p0 18), .int i0_19, .int i0_20, .ref (p0 21), .ref (p0 22), .ref (p0 23), .ref (p0 24), .ref (p0 25), .ref (p0 26), .ref (p0 27), .int i0_28, .ref (p0 29), .ref (p0 30), .ref (p0 31), .ref (p0 32), .int i0_33, .int i0_34, .int i0_35, .int i0_36, .int i0_37, .int i0_38, .int i0_39, .int i0_40, .int i0_41, .int i0_42, .int i0_43]))], [(p0 9, .inl (cs 0, 600, .inl v0_9))]]
abbrev rm_X11_starts : Room := { frames := 2, cells := 0, slots := 0, locals := 41 }
def f_X11_starts  (i0_1 : Int32) (i0_2 : Int32) (i0_4 : Int32) (i0_5 : Int32) (i0_6 : Int32) (i0_7 : Int32) (i0_8 : Int32) (v0_9 : Nat → Int32) (x1 : Int32) : Option (Int32 × Int32 × Int32 × Int32 × Int32 × Int32 × Int32) := (f_X11_blanks x1 (0) v0_9).bind fun q36 => some (0, x1, q36, 0, (-1), 0, 0)
set_option maxHeartbeats 4000000 in
set_option maxRecDepth 100000 in
theorem c_X11_starts (l : Launch) (D : va_G) (cs : Nat → ClassId)  (sz : Nat) (a0 : Nat) (p0 : Nat → Nat) (i0_0 : Int32) (i0_1 : Int32) (i0_2 : Int32) (i0_3 : Int32) (i0_4 : Int32) (i0_5 : Int32) (i0_6 : Int32) (i0_7 : Int32) (i0_8 : Int32) (i0_19 : Int32) (i0_20 : Int32) (i0_28 : Int32) (i0_33 : Int32) (i0_34 : Int32) (i0_35 : Int32) (i0_36 : Int32) (i0_37 : Int32) (i0_38 : Int32) (i0_39 : Int32) (i0_40 : Int32) (i0_41 : Int32) (i0_42 : Int32) (i0_43 : Int32) (v0_9 : Nat → Int32) (x1 : Int32) (res : Int32 × Int32 × Int32 × Int32 × Int32 × Int32 × Int32) (hf : f_X11_starts  i0_1 i0_2 i0_4 i0_5 i0_6 i0_7 i0_8 v0_9 x1 = some res) : MV l D cs yX11_starts wsX11_starts rm_X11_starts [.ref a0, .int x1] sz (W_X11_starts cs a0 p0 i0_0 i0_1 i0_2 i0_3 i0_4 i0_5 i0_6 i0_7 i0_8 i0_19 i0_20 i0_28 i0_33 i0_34 i0_35 i0_36 i0_37 i0_38 i0_39 i0_40 i0_41 i0_42 i0_43 v0_9) (W_X11_starts cs a0 p0 i0_0 res.1 res.2.1 i0_3 res.2.2.1 res.2.2.2.1 res.2.2.2.2.1 res.2.2.2.2.2.1 res.2.2.2.2.2.2 i0_19 i0_20 i0_28 i0_33 i0_34 i0_35 i0_36 i0_37 i0_38 i0_39 i0_40 i0_41 i0_42 i0_43 v0_9) := by
  rw [f_X11_starts] at hf
  refine ow_enter (cc := cX11_starts) (nL := 2) (ret := none) (by decide) rfl (Nat.le_of_ble_eq_true rfl) (fun p e s m below meth c ls H locs C0 hP hD hS hA hl => ?_)
  obtain ⟨hx, hb, hr, hlk, hml, hown, hts, hK, hG, hE⟩ := id C0
  have hl : lv_has ls 2 [(0, .ref a0), (1, .int x1)] := hl
  refine lv_aload_n hx hb dX11_starts_0 rfl (lv_at hl 0 rfl) ?_
  refine lv_iconst (v := 0) hx hb dX11_starts_1 (by decide) ?_
  refine va_put (D := D) (ci := 11) (v := .int 0) (ty := .int) (C := RX11) (T := TX11) (N := 44) hx hb hts in_X11_starts_X11 tyX11 tyX11_ok nmX11 hown hK hP hD hS 0 rfl rfl 1 (by decide) (hts (.fieldLink RX11 88 "PaneDaysModel" "tape" "I") (List.mem_of_getElem? (i := 1) rfl)) (fun _ h9 => h9) rfl (by decide +kernel) rfl rfl (Nat.le_of_ble_eq_true rfl) dX11_starts_2 (fun H locs (hP : va_P D vwCl (W_X11_starts cs a0 p0 i0_0 (0) i0_2 i0_3 i0_4 i0_5 i0_6 i0_7 i0_8 i0_19 i0_20 i0_28 i0_33 i0_34 i0_35 i0_36 i0_37 i0_38 i0_39 i0_40 i0_41 i0_42 i0_43 v0_9) H) (hD : va_D _ (W_X11_starts cs a0 p0 i0_0 (0) i0_2 i0_3 i0_4 i0_5 i0_6 i0_7 i0_8 i0_19 i0_20 i0_28 i0_33 i0_34 i0_35 i0_36 i0_37 i0_38 i0_39 i0_40 i0_41 i0_42 i0_43 v0_9)) hS => ?_)
  refine lv_aload_n hx hb dX11_starts_5 rfl (lv_at hl 0 rfl) ?_
  refine lv_iload_n hx hb dX11_starts_6 rfl (lv_at hl 1 rfl) ?_
  refine va_put (D := D) (ci := 11) (v := .int x1) (ty := .int) (C := RX11) (T := TX11) (N := 44) hx hb hts in_X11_starts_X11 tyX11 tyX11_ok nmX11 hown hK hP hD hS 0 rfl rfl 2 (by decide) (hts (.fieldLink RX11 91 "PaneDaysModel" "size" "I") (List.mem_of_getElem? (i := 2) rfl)) (fun _ h9 => h9) rfl (by decide +kernel) rfl rfl (Nat.le_of_ble_eq_true rfl) dX11_starts_7 (fun H locs (hP : va_P D vwCl (W_X11_starts cs a0 p0 i0_0 (0) x1 i0_3 i0_4 i0_5 i0_6 i0_7 i0_8 i0_19 i0_20 i0_28 i0_33 i0_34 i0_35 i0_36 i0_37 i0_38 i0_39 i0_40 i0_41 i0_42 i0_43 v0_9) H) (hD : va_D _ (W_X11_starts cs a0 p0 i0_0 (0) x1 i0_3 i0_4 i0_5 i0_6 i0_7 i0_8 i0_19 i0_20 i0_28 i0_33 i0_34 i0_35 i0_36 i0_37 i0_38 i0_39 i0_40 i0_41 i0_42 i0_43 v0_9)) hS => ?_)
  refine lv_aload_n hx hb dX11_starts_10 rfl (lv_at hl 0 rfl) ?_
  refine lv_iconst (v := 0) hx hb dX11_starts_11 (by decide) ?_
  refine va_put (D := D) (ci := 11) (v := .int 0) (ty := .int) (C := RX11) (T := TX11) (N := 44) hx hb hts in_X11_starts_X11 tyX11 tyX11_ok nmX11 hown hK hP hD hS 0 rfl rfl 4 (by decide) (hts (.fieldLink RX11 94 "PaneDaysModel" "at" "I") (List.mem_of_getElem? (i := 3) rfl)) (fun _ h9 => h9) rfl (by decide +kernel) rfl rfl (Nat.le_of_ble_eq_true rfl) dX11_starts_12 (fun H locs (hP : va_P D vwCl (W_X11_starts cs a0 p0 i0_0 (0) x1 i0_3 (0) i0_5 i0_6 i0_7 i0_8 i0_19 i0_20 i0_28 i0_33 i0_34 i0_35 i0_36 i0_37 i0_38 i0_39 i0_40 i0_41 i0_42 i0_43 v0_9) H) (hD : va_D _ (W_X11_starts cs a0 p0 i0_0 (0) x1 i0_3 (0) i0_5 i0_6 i0_7 i0_8 i0_19 i0_20 i0_28 i0_33 i0_34 i0_35 i0_36 i0_37 i0_38 i0_39 i0_40 i0_41 i0_42 i0_43 v0_9)) hS => ?_)
  refine lv_aload_n hx hb dX11_starts_15 rfl (lv_at hl 0 rfl) ?_
  refine lv_iconst (v := 0) hx hb dX11_starts_16 (by decide) ?_
  refine va_put (D := D) (ci := 11) (v := .int 0) (ty := .int) (C := RX11) (T := TX11) (N := 44) hx hb hts in_X11_starts_X11 tyX11 tyX11_ok nmX11 hown hK hP hD hS 0 rfl rfl 5 (by decide) (hts (.fieldLink RX11 101 "PaneDaysModel" "fault" "I") (List.mem_of_getElem? (i := 4) rfl)) (fun _ h9 => h9) rfl (by decide +kernel) rfl rfl (Nat.le_of_ble_eq_true rfl) dX11_starts_17 (fun H locs (hP : va_P D vwCl (W_X11_starts cs a0 p0 i0_0 (0) x1 i0_3 (0) (0) i0_6 i0_7 i0_8 i0_19 i0_20 i0_28 i0_33 i0_34 i0_35 i0_36 i0_37 i0_38 i0_39 i0_40 i0_41 i0_42 i0_43 v0_9) H) (hD : va_D _ (W_X11_starts cs a0 p0 i0_0 (0) x1 i0_3 (0) (0) i0_6 i0_7 i0_8 i0_19 i0_20 i0_28 i0_33 i0_34 i0_35 i0_36 i0_37 i0_38 i0_39 i0_40 i0_41 i0_42 i0_43 v0_9)) hS => ?_)
  refine lv_aload_n hx hb dX11_starts_20 rfl (lv_at hl 0 rfl) ?_
  refine lv_iconst (v := (-1)) hx hb dX11_starts_21 (by decide) ?_
  refine va_put (D := D) (ci := 11) (v := .int ((-1))) (ty := .int) (C := RX11) (T := TX11) (N := 44) hx hb hts in_X11_starts_X11 tyX11 tyX11_ok nmX11 hown hK hP hD hS 0 rfl rfl 6 (by decide) (hts (.fieldLink RX11 104 "PaneDaysModel" "faultAt" "I") (List.mem_of_getElem? (i := 5) rfl)) (fun _ h9 => h9) rfl (by decide +kernel) rfl rfl (Nat.le_of_ble_eq_true rfl) dX11_starts_22 (fun H locs (hP : va_P D vwCl (W_X11_starts cs a0 p0 i0_0 (0) x1 i0_3 (0) (0) ((-1)) i0_7 i0_8 i0_19 i0_20 i0_28 i0_33 i0_34 i0_35 i0_36 i0_37 i0_38 i0_39 i0_40 i0_41 i0_42 i0_43 v0_9) H) (hD : va_D _ (W_X11_starts cs a0 p0 i0_0 (0) x1 i0_3 (0) (0) ((-1)) i0_7 i0_8 i0_19 i0_20 i0_28 i0_33 i0_34 i0_35 i0_36 i0_37 i0_38 i0_39 i0_40 i0_41 i0_42 i0_43 v0_9)) hS => ?_)
  refine lv_aload_n hx hb dX11_starts_25 rfl (lv_at hl 0 rfl) ?_
  refine lv_iconst (v := 0) hx hb dX11_starts_26 (by decide) ?_
  refine va_put (D := D) (ci := 11) (v := .int 0) (ty := .int) (C := RX11) (T := TX11) (N := 44) hx hb hts in_X11_starts_X11 tyX11 tyX11_ok nmX11 hown hK hP hD hS 0 rfl rfl 7 (by decide) (hts (.fieldLink RX11 141 "PaneDaysModel" "clauses" "I") (List.mem_of_getElem? (i := 6) rfl)) (fun _ h9 => h9) rfl (by decide +kernel) rfl rfl (Nat.le_of_ble_eq_true rfl) dX11_starts_27 (fun H locs (hP : va_P D vwCl (W_X11_starts cs a0 p0 i0_0 (0) x1 i0_3 (0) (0) ((-1)) (0) i0_8 i0_19 i0_20 i0_28 i0_33 i0_34 i0_35 i0_36 i0_37 i0_38 i0_39 i0_40 i0_41 i0_42 i0_43 v0_9) H) (hD : va_D _ (W_X11_starts cs a0 p0 i0_0 (0) x1 i0_3 (0) (0) ((-1)) (0) i0_8 i0_19 i0_20 i0_28 i0_33 i0_34 i0_35 i0_36 i0_37 i0_38 i0_39 i0_40 i0_41 i0_42 i0_43 v0_9)) hS => ?_)
  refine lv_aload_n hx hb dX11_starts_30 rfl (lv_at hl 0 rfl) ?_
  refine lv_iconst (v := 0) hx hb dX11_starts_31 (by decide) ?_
  refine va_put (D := D) (ci := 11) (v := .int 0) (ty := .int) (C := RX11) (T := TX11) (N := 44) hx hb hts in_X11_starts_X11 tyX11 tyX11_ok nmX11 hown hK hP hD hS 0 rfl rfl 8 (by decide) (hts (.fieldLink RX11 144 "PaneDaysModel" "open" "I") (List.mem_of_getElem? (i := 7) rfl)) (fun _ h9 => h9) rfl (by decide +kernel) rfl rfl (Nat.le_of_ble_eq_true rfl) dX11_starts_32 (fun H locs (hP : va_P D vwCl (W_X11_starts cs a0 p0 i0_0 (0) x1 i0_3 (0) (0) ((-1)) (0) (0) i0_19 i0_20 i0_28 i0_33 i0_34 i0_35 i0_36 i0_37 i0_38 i0_39 i0_40 i0_41 i0_42 i0_43 v0_9) H) (hD : va_D _ (W_X11_starts cs a0 p0 i0_0 (0) x1 i0_3 (0) (0) ((-1)) (0) (0) i0_19 i0_20 i0_28 i0_33 i0_34 i0_35 i0_36 i0_37 i0_38 i0_39 i0_40 i0_41 i0_42 i0_43 v0_9)) hS => ?_)
  refine lv_aload_n hx hb dX11_starts_35 rfl (lv_at hl 0 rfl) ?_
  obtain ⟨q36, hq, hf⟩ := bd_some hf
  refine ow_gVV (As := []) (rest := []) (sg := (S_X11_starts cs a0 p0 i0_0 (0) x1 i0_3 (0) (0) ((-1)) (0) (0) i0_19 i0_20 i0_28 i0_33 i0_34 i0_35 i0_36 i0_37 i0_38 i0_39 i0_40 i0_41 i0_42 i0_43 v0_9)) (sc := (S_X11_blanks cs a0 p0 i0_0 (0) x1 i0_3 (0) (0) ((-1)) (0) (0) i0_19 i0_20 i0_28 i0_33 i0_34 i0_35 i0_36 i0_37 i0_38 i0_39 i0_40 i0_41 i0_42 i0_43 v0_9)) (sc' := (S_X11_blanks cs a0 p0 i0_0 (0) x1 i0_3 q36 (0) ((-1)) (0) (0) i0_19 i0_20 i0_28 i0_33 i0_34 i0_35 i0_36 i0_37 i0_38 i0_39 i0_40 i0_41 i0_42 i0_43 v0_9)) (sr := ow_pks (S_X11_starts cs a0 p0 i0_0 (0) x1 i0_3 (0) (0) ((-1)) (0) (0) i0_19 i0_20 i0_28 i0_33 i0_34 i0_35 i0_36 i0_37 i0_38 i0_39 i0_40 i0_41 i0_42 i0_43 v0_9) []) (sf := (S_X11_starts cs a0 p0 i0_0 (0) x1 i0_3 q36 (0) ((-1)) (0) (0) i0_19 i0_20 i0_28 i0_33 i0_34 i0_35 i0_36 i0_37 i0_38 i0_39 i0_40 i0_41 i0_42 i0_43 v0_9)) C0 (c_X11_blanks l D cs H.size a0 p0 i0_0 (0) x1 i0_3 (0) (0) ((-1)) (0) (0) i0_19 i0_20 i0_28 i0_33 i0_34 i0_35 i0_36 i0_37 i0_38 i0_39 i0_40 i0_41 i0_42 i0_43 v0_9  q36 hq) (cwV 0 hts gX11_starts_X11_blanks rfl rfl rfl (by decide +kernel) ⟨Nat.le_of_ble_eq_true rfl, Nat.le_of_ble_eq_true rfl⟩) 11 rfl rfl hP hD hS (sg_permL [0, 1] [] 2 rfl (by decide) rfl rfl) (sg_permG [0, 1] 2 rfl (by decide) rfl) rfl hl.1 rfl (Nat.le_of_ble_eq_true rfl) ⟨Nat.zero_le _, Nat.zero_le _⟩ dX11_starts_36 (fun H locs (hP : va_P D vwCl (W_X11_starts cs a0 p0 i0_0 (0) x1 i0_3 q36 (0) ((-1)) (0) (0) i0_19 i0_20 i0_28 i0_33 i0_34 i0_35 i0_36 i0_37 i0_38 i0_39 i0_40 i0_41 i0_42 i0_43 v0_9) H) (hD : va_D _ (W_X11_starts cs a0 p0 i0_0 (0) x1 i0_3 q36 (0) ((-1)) (0) (0) i0_19 i0_20 i0_28 i0_33 i0_34 i0_35 i0_36 i0_37 i0_38 i0_39 i0_40 i0_41 i0_42 i0_43 v0_9)) hS => ?_)
  obtain rfl := Option.some.inj hf
  exact ow_retV C0 hP hD hS dX11_starts_39
abbrev rm_X11_isSmall : Room := { frames := 0, cells := 0, slots := 0, locals := 0 }
def f_X11_isSmall   (x0 : Int32) : Option (Int32) := if x0 < 97 then (some (0)) else (if 122 < x0 then (some (0)) else (some (1)))
set_option maxHeartbeats 4000000 in
set_option maxRecDepth 100000 in
theorem c_X11_isSmall (l : Launch) (D : va_G) (cs : Nat → ClassId)  (sz : Nat)  (x0 : Int32) (res : Int32) (hf : f_X11_isSmall   x0 = some res) : MI l D cs yX11_isSmall wsX11_isSmall rm_X11_isSmall [.int x0] sz ([] : va_W) ([] : va_W) res := by
  rw [f_X11_isSmall] at hf
  refine ow_enter (cc := cX11_isSmall) (nL := 1) (ret := (some .boolean)) (by decide) rfl (Nat.le_of_ble_eq_true rfl) (fun p e s m below meth c ls H locs C0 hP hD hS hA hl => ?_)
  obtain ⟨hx, hb, hr, hlk, hml, hown, hts, hK, hG, hE⟩ := id C0
  have hl : lv_has ls 1 [(0, .int x0)] := hl
  refine lv_iload_n hx hb dX11_isSmall_0 rfl (lv_at hl 0 rfl) ?_
  refine lv_bipush (v := 97) hx hb dX11_isSmall_1 (by decide) ?_
  refine lv_icmp_lt (tgt := 16) hx hb dX11_isSmall_3 (by decide) (fun hc => ?_) (fun hc => ?_)
  · replace hf := ow_t hc hf
    refine lv_iconst (v := 0) hx hb dX11_isSmall_16 (by decide) ?_
    obtain rfl := Option.some.inj hf
    exact ow_retZ C0 (Or.inl rfl) hP hD hS dX11_isSmall_17
  · replace hf := ow_f hc hf
    refine lv_iload_n hx hb dX11_isSmall_6 rfl (lv_at hl 0 rfl) ?_
    refine lv_bipush (v := 122) hx hb dX11_isSmall_7 (by decide) ?_
    refine lv_icmp_gt (tgt := 16) hx hb dX11_isSmall_9 (by decide) (fun hc => ?_) (fun hc => ?_)
    · replace hf := ow_t hc hf
      refine lv_iconst (v := 0) hx hb dX11_isSmall_16 (by decide) ?_
      obtain rfl := Option.some.inj hf
      exact ow_retZ C0 (Or.inl rfl) hP hD hS dX11_isSmall_17
    · replace hf := ow_f hc hf
      refine lv_iconst (v := 1) hx hb dX11_isSmall_12 (by decide) ?_
      refine lv_goto (tgt := 17) hx hb dX11_isSmall_13 (by decide) ?_
      obtain rfl := Option.some.inj hf
      exact ow_retZ C0 (Or.inr rfl) hP hD hS dX11_isSmall_17
theorem in_X11_wordHere_X11 : ∀ w ∈ u_ws RX11 TX11 44, w ∈ wsX11_wordHere := fun w h => List.mem_cons_of_mem _ (List.mem_append_right _ h)
abbrev W_X11_wordHere (cs : Nat → ClassId) (a0 : Nat) (p0 : Nat → Nat) (i0_0 : Int32) (i0_1 : Int32) (i0_2 : Int32) (i0_3 : Int32) (i0_4 : Int32) (i0_5 : Int32) (i0_6 : Int32) (i0_7 : Int32) (i0_8 : Int32) (i0_19 : Int32) (i0_20 : Int32) (i0_28 : Int32) (i0_33 : Int32) (i0_34 : Int32) (i0_35 : Int32) (i0_36 : Int32) (i0_37 : Int32) (i0_38 : Int32) (i0_39 : Int32) (i0_40 : Int32) (i0_41 : Int32) (i0_42 : Int32) (i0_43 : Int32) (v0_9 : Nat → Int32) : va_W := [(a0, .inr (11, [.int i0_0, .int i0_1, .int i0_2, .int i0_3, .int i0_4, .int i0_5, .int i0_6, .int i0_7, .int i0_8, .ref (p0 9), .ref (p0 10), .ref (p0 11), .ref (p0 12), .ref (p0 13), .ref (p0 14), .ref (p0 15), .ref (p0 16), .ref (p0 17), .ref (p0 18), .int i0_19, .int i0_20, .ref (p0 21), .ref (p0 22), .ref (p0 23), .ref (p0 24), .ref (p0 25), .ref (p0 26), .ref (p0 27), .int i0_28, .ref (p0 29), .ref (p0 30), .ref (p0 31), .ref (p0 32), .int i0_33, .int i0_34, .int i0_35, .int i0_36, .int i0_37, .int i0_38, .int i0_39, .int i0_40, .int i0_41, .int i0_42, .int i0_43])), (p0 9, .inl (cs 0, 600, .inl v0_9))]
abbrev S_X11_wordHere (cs : Nat → ClassId) (a0 : Nat) (p0 : Nat → Nat) (i0_0 : Int32) (i0_1 : Int32) (i0_2 : Int32) (i0_3 : Int32) (i0_4 : Int32) (i0_5 : Int32) (i0_6 : Int32) (i0_7 : Int32) (i0_8 : Int32) (i0_19 : Int32) (i0_20 : Int32) (i0_28 : Int32) (i0_33 : Int32) (i0_34 : Int32) (i0_35 : Int32) (i0_36 : Int32) (i0_37 : Int32) (i0_38 : Int32) (i0_39 : Int32) (i0_40 : Int32) (i0_41 : Int32) (i0_42 : Int32) (i0_43 : Int32) (v0_9 : Nat → Int32) : List va_W := [[(a0, .inr (11, [.int i0_0, .int i0_1, .int i0_2, .int i0_3, .int i0_4, .int i0_5, .int i0_6, .int i0_7, .int i0_8, .ref (p0 9), .ref (p0 10), .ref (p0 11), .ref (p0 12), .ref (p0 13), .ref (p0 14), .ref (p0 15), .ref (p0 16), .ref (p0 17), .ref (p0 18), .int i0_19, .int i0_20, .ref (p0 21), .ref (p0 22), .ref (p0 23), .ref (p0 24), .ref (p0 25), .ref (p0 26), .ref (p0 27), .int i0_28, .ref (p0 29), .ref (p0 30), .ref (p0 31), .ref (p0 32), .int i0_33, .int i0_34, .int i0_35, .int i0_36, .int i0_37, .int i0_38, .int i0_39, .int i0_40, .int i0_41, .int i0_42, .int i0_43]))], [(p0 9, .inl (cs 0, 600, .inl v0_9))]]
abbrev rm_X11_wordHere : Room := { frames := 2, cells := 0, slots := 0, locals := 41 }
def f_X11_wordHere_b54  (i0_2 : Int32) (v0_9 : Nat → Int32) (k8 : (Int32) → Int32 → Int32 → Option (Int32 × Int32)) (i0_4 : Int32) (x2 : Int32) (t0 : Int32) : Option (Int32 × Int32) := k8 i0_4 t0 (x2 + 1)
set_option maxHeartbeats 4000000 in
set_option maxRecDepth 100000 in
theorem w_X11_wordHere_b54 {p : Program} {l : Launch} {e : Env} {s : State} {m : MethodId} {below : List Frame} {meth : Method} {c : Code} {D : va_G} {cs : Nat → ClassId} {av : Array Value} {w0 : va_W} (C0 : Cx p s m meth c av wsX11_wordHere cX11_wordHere 3 (some .int) RX11 D cs w0)  (a0 : Nat) (p0 : Nat → Nat) (i0_0 : Int32) (i0_1 : Int32) (i0_2 : Int32) (i0_3 : Int32) (i0_5 : Int32) (i0_6 : Int32) (i0_7 : Int32) (i0_8 : Int32) (i0_19 : Int32) (i0_20 : Int32) (i0_28 : Int32) (i0_33 : Int32) (i0_34 : Int32) (i0_35 : Int32) (i0_36 : Int32) (i0_37 : Int32) (i0_38 : Int32) (i0_39 : Int32) (i0_40 : Int32) (i0_41 : Int32) (i0_42 : Int32) (i0_43 : Int32) (v0_9 : Nat → Int32) (res : Int32 × Int32) (k8 : (Int32) → Int32 → Int32 → Option (Int32 × Int32)) (hk8 : ∀ (i0_4 : Int32) (x1 : Int32) (x2 : Int32), k8 i0_4 x1 x2 = some res → ∀ (H : Heap) (locs : List Loc) (ls : Array Slot), va_P D vwCl (W_X11_wordHere cs a0 p0 i0_0 i0_1 i0_2 i0_3 i0_4 i0_5 i0_6 i0_7 i0_8 i0_19 i0_20 i0_28 i0_33 i0_34 i0_35 i0_36 i0_37 i0_38 i0_39 i0_40 i0_41 i0_42 i0_43 v0_9) H → va_D (va_A w0 s.heap.size) (W_X11_wordHere cs a0 p0 i0_0 i0_1 i0_2 i0_3 i0_4 i0_5 i0_6 i0_7 i0_8 i0_19 i0_20 i0_28 i0_33 i0_34 i0_35 i0_36 i0_37 i0_38 i0_39 i0_40 i0_41 i0_42 i0_43 v0_9) → va_S (va_A w0 s.heap.size) s.heap H locs → lv_has ls 3 [(0, .ref a0), (1, .int x1), (2, .int x2)] → W p l e rm_X11_wordHere s m av below meth c H locs 0 0 (MQ below (oI D cs w0 (W_X11_wordHere cs a0 p0 i0_0 i0_1 i0_2 i0_3 res.2 i0_5 i0_6 i0_7 i0_8 i0_19 i0_20 i0_28 i0_33 i0_34 i0_35 i0_36 i0_37 i0_38 i0_39 i0_40 i0_41 i0_42 i0_43 v0_9) res.1 s.heap.size) av s 0 0 (va_A w0 s.heap.size)) (F0 m 8 ls [])) : ∀ (i0_4 : Int32) (x2 : Int32) (t0 : Int32), f_X11_wordHere_b54 i0_2 v0_9 k8 i0_4 x2 t0 = some res → ∀ (H : Heap) (locs : List Loc) (ls : Array Slot), va_P D vwCl (W_X11_wordHere cs a0 p0 i0_0 i0_1 i0_2 i0_3 i0_4 i0_5 i0_6 i0_7 i0_8 i0_19 i0_20 i0_28 i0_33 i0_34 i0_35 i0_36 i0_37 i0_38 i0_39 i0_40 i0_41 i0_42 i0_43 v0_9) H → va_D (va_A w0 s.heap.size) (W_X11_wordHere cs a0 p0 i0_0 i0_1 i0_2 i0_3 i0_4 i0_5 i0_6 i0_7 i0_8 i0_19 i0_20 i0_28 i0_33 i0_34 i0_35 i0_36 i0_37 i0_38 i0_39 i0_40 i0_41 i0_42 i0_43 v0_9) → va_S (va_A w0 s.heap.size) s.heap H locs → lv_has ls 3 [(0, .ref a0), (2, .int x2)] → W p l e rm_X11_wordHere s m av below meth c H locs 0 0 (MQ below (oI D cs w0 (W_X11_wordHere cs a0 p0 i0_0 i0_1 i0_2 i0_3 res.2 i0_5 i0_6 i0_7 i0_8 i0_19 i0_20 i0_28 i0_33 i0_34 i0_35 i0_36 i0_37 i0_38 i0_39 i0_40 i0_41 i0_42 i0_43 v0_9) res.1 s.heap.size) av s 0 0 (va_A w0 s.heap.size)) (F0 m 54 ls [.int t0]) := by
  obtain ⟨hx, hb, hr, hlk, hml, hown, hts, hK, hG, hE⟩ := id C0
  intro i0_4 x2 t0 hf H locs ls hP hD hS hl
  rw [f_X11_wordHere_b54] at hf
  refine lv_istore_n (lv' := [(1, .int t0), (0, .ref a0), (2, .int x2)]) hx hb dX11_wordHere_54 rfl hl (by decide) rfl (fun ls hl => ?_)
  refine lv_iinc (v := x2 + 1) (lv' := [(2, .int (x2 + 1)), (1, .int t0), (0, .ref a0)]) hx hb dX11_wordHere_55 hl (k := 2) rfl (ow_inc (by decide)) (by decide) rfl (fun ls hl => ?_)
  refine lv_goto (tgt := 8) hx hb dX11_wordHere_58 (by decide) ?_
  exact hk8 i0_4 t0 (x2 + 1)  hf _ _ _ hP hD hS (lv_sub hl [2, 1, 0] rfl)
def f_X11_wordHere_b8  (i0_2 : Int32) (v0_9 : Nat → Int32)  : Nat → (Int32) → Int32 → Int32 → Option (Int32 × Int32)
  | 0, _, _, _ => none
  | n + 1, i0_4, x1, x2 => (f_X11_byteAt i0_2 v0_9 (i0_4 + x2)).bind fun q15 => (f_X11_isSmall q15).bind fun q18 => if q18 = 0 then (if x2 ≤ 6 then (some (x1, i0_4)) else (some ((-1), i0_4))) else (if 6 ≤ x2 then (f_X11_wordHere_b54 i0_2 v0_9 (f_X11_wordHere_b8 i0_2 v0_9 n) i0_4 x2 x1) else ((f_X11_byteAt i0_2 v0_9 (i0_4 + x2)).bind fun q41 => f_X11_wordHere_b54 i0_2 v0_9 (f_X11_wordHere_b8 i0_2 v0_9 n) i0_4 x2 ((((27 * x1) + q41) - 97) + 1)))
set_option maxHeartbeats 4000000 in
set_option maxRecDepth 100000 in
theorem w_X11_wordHere_b8 {p : Program} {l : Launch} {e : Env} {s : State} {m : MethodId} {below : List Frame} {meth : Method} {c : Code} {D : va_G} {cs : Nat → ClassId} {av : Array Value} {w0 : va_W} (C0 : Cx p s m meth c av wsX11_wordHere cX11_wordHere 3 (some .int) RX11 D cs w0)  (a0 : Nat) (p0 : Nat → Nat) (i0_0 : Int32) (i0_1 : Int32) (i0_2 : Int32) (i0_3 : Int32) (i0_5 : Int32) (i0_6 : Int32) (i0_7 : Int32) (i0_8 : Int32) (i0_19 : Int32) (i0_20 : Int32) (i0_28 : Int32) (i0_33 : Int32) (i0_34 : Int32) (i0_35 : Int32) (i0_36 : Int32) (i0_37 : Int32) (i0_38 : Int32) (i0_39 : Int32) (i0_40 : Int32) (i0_41 : Int32) (i0_42 : Int32) (i0_43 : Int32) (v0_9 : Nat → Int32) (res : Int32 × Int32)  : ∀ (n : Nat) (i0_4 : Int32) (x1 : Int32) (x2 : Int32), f_X11_wordHere_b8 i0_2 v0_9 n i0_4 x1 x2 = some res → ∀ (H : Heap) (locs : List Loc) (ls : Array Slot), va_P D vwCl (W_X11_wordHere cs a0 p0 i0_0 i0_1 i0_2 i0_3 i0_4 i0_5 i0_6 i0_7 i0_8 i0_19 i0_20 i0_28 i0_33 i0_34 i0_35 i0_36 i0_37 i0_38 i0_39 i0_40 i0_41 i0_42 i0_43 v0_9) H → va_D (va_A w0 s.heap.size) (W_X11_wordHere cs a0 p0 i0_0 i0_1 i0_2 i0_3 i0_4 i0_5 i0_6 i0_7 i0_8 i0_19 i0_20 i0_28 i0_33 i0_34 i0_35 i0_36 i0_37 i0_38 i0_39 i0_40 i0_41 i0_42 i0_43 v0_9) → va_S (va_A w0 s.heap.size) s.heap H locs → lv_has ls 3 [(0, .ref a0), (1, .int x1), (2, .int x2)] → W p l e rm_X11_wordHere s m av below meth c H locs 0 0 (MQ below (oI D cs w0 (W_X11_wordHere cs a0 p0 i0_0 i0_1 i0_2 i0_3 res.2 i0_5 i0_6 i0_7 i0_8 i0_19 i0_20 i0_28 i0_33 i0_34 i0_35 i0_36 i0_37 i0_38 i0_39 i0_40 i0_41 i0_42 i0_43 v0_9) res.1 s.heap.size) av s 0 0 (va_A w0 s.heap.size)) (F0 m 8 ls []) := by
  obtain ⟨hx, hb, hr, hlk, hml, hown, hts, hK, hG, hE⟩ := id C0
  intro n
  induction n with
  | zero =>
    intro i0_4 x1 x2 hf
    rw [f_X11_wordHere_b8] at hf
    cases hf
  | succ n ih =>
    intro i0_4 x1 x2 hf H locs ls hP hD hS hl
    rw [f_X11_wordHere_b8] at hf
    refine lv_aload_n hx hb dX11_wordHere_8 rfl (lv_at hl 0 rfl) ?_
    refine lv_aload_n hx hb dX11_wordHere_9 rfl (lv_at hl 0 rfl) ?_
    refine va_get (D := D) (ci := 11) (v := .int i0_4) (C := RX11) (T := TX11) (N := 44) hx hb hts in_X11_wordHere_X11 hown hK hP 0 rfl rfl 4 (by decide) (hts (.fieldLink RX11 94 "PaneDaysModel" "at" "I") (List.mem_of_getElem? (i := 1) rfl)) (fun _ h9 => h9) rfl dX11_wordHere_10 ?_
    refine lv_iload_n hx hb dX11_wordHere_13 rfl (lv_at hl 2 rfl) ?_
    refine lv_iadd hx hb dX11_wordHere_14 ?_
    obtain ⟨q15, hq, hf⟩ := bd_some hf
    refine ow_gVI (As := [.int (i0_4 + x2)]) (rest := []) (sg := (S_X11_wordHere cs a0 p0 i0_0 i0_1 i0_2 i0_3 i0_4 i0_5 i0_6 i0_7 i0_8 i0_19 i0_20 i0_28 i0_33 i0_34 i0_35 i0_36 i0_37 i0_38 i0_39 i0_40 i0_41 i0_42 i0_43 v0_9)) (sc := (S_X11_byteAt cs a0 p0 i0_0 i0_1 i0_2 i0_3 i0_4 i0_5 i0_6 i0_7 i0_8 i0_19 i0_20 i0_28 i0_33 i0_34 i0_35 i0_36 i0_37 i0_38 i0_39 i0_40 i0_41 i0_42 i0_43 v0_9)) (sc' := (S_X11_byteAt cs a0 p0 i0_0 i0_1 i0_2 i0_3 i0_4 i0_5 i0_6 i0_7 i0_8 i0_19 i0_20 i0_28 i0_33 i0_34 i0_35 i0_36 i0_37 i0_38 i0_39 i0_40 i0_41 i0_42 i0_43 v0_9)) (sr := ow_pks (S_X11_wordHere cs a0 p0 i0_0 i0_1 i0_2 i0_3 i0_4 i0_5 i0_6 i0_7 i0_8 i0_19 i0_20 i0_28 i0_33 i0_34 i0_35 i0_36 i0_37 i0_38 i0_39 i0_40 i0_41 i0_42 i0_43 v0_9) []) (sf := (S_X11_wordHere cs a0 p0 i0_0 i0_1 i0_2 i0_3 i0_4 i0_5 i0_6 i0_7 i0_8 i0_19 i0_20 i0_28 i0_33 i0_34 i0_35 i0_36 i0_37 i0_38 i0_39 i0_40 i0_41 i0_42 i0_43 v0_9)) (r := q15) C0 (c_X11_byteAt l D cs H.size a0 p0 i0_0 i0_1 i0_2 i0_3 i0_4 i0_5 i0_6 i0_7 i0_8 i0_19 i0_20 i0_28 i0_33 i0_34 i0_35 i0_36 i0_37 i0_38 i0_39 i0_40 i0_41 i0_42 i0_43 v0_9 (i0_4 + x2) q15 hq) (cwV 1 hts gX11_wordHere_X11_byteAt rfl rfl rfl (by decide +kernel) ⟨Nat.le_of_ble_eq_true rfl, Nat.le_of_ble_eq_true rfl⟩) 11 rfl rfl hP hD hS (sg_permL [0, 1] [] 2 rfl (by decide) rfl rfl) (sg_permG [0, 1] 2 rfl (by decide) rfl) rfl hl.1 rfl (Nat.le_of_ble_eq_true rfl) ⟨Nat.zero_le _, Nat.zero_le _⟩ dX11_wordHere_15 (fun H locs (hP : va_P D vwCl (W_X11_wordHere cs a0 p0 i0_0 i0_1 i0_2 i0_3 i0_4 i0_5 i0_6 i0_7 i0_8 i0_19 i0_20 i0_28 i0_33 i0_34 i0_35 i0_36 i0_37 i0_38 i0_39 i0_40 i0_41 i0_42 i0_43 v0_9) H) (hD : va_D _ (W_X11_wordHere cs a0 p0 i0_0 i0_1 i0_2 i0_3 i0_4 i0_5 i0_6 i0_7 i0_8 i0_19 i0_20 i0_28 i0_33 i0_34 i0_35 i0_36 i0_37 i0_38 i0_39 i0_40 i0_41 i0_42 i0_43 v0_9)) hS => ?_)
    obtain ⟨q18, hq, hf⟩ := bd_some hf
    refine ow_gSI (As := [.int q15]) (rest := []) (sg := (S_X11_wordHere cs a0 p0 i0_0 i0_1 i0_2 i0_3 i0_4 i0_5 i0_6 i0_7 i0_8 i0_19 i0_20 i0_28 i0_33 i0_34 i0_35 i0_36 i0_37 i0_38 i0_39 i0_40 i0_41 i0_42 i0_43 v0_9)) (sc := ([] : List va_W)) (sc' := ([] : List va_W)) (sr := ow_pks (S_X11_wordHere cs a0 p0 i0_0 i0_1 i0_2 i0_3 i0_4 i0_5 i0_6 i0_7 i0_8 i0_19 i0_20 i0_28 i0_33 i0_34 i0_35 i0_36 i0_37 i0_38 i0_39 i0_40 i0_41 i0_42 i0_43 v0_9) [0, 1]) (sf := (S_X11_wordHere cs a0 p0 i0_0 i0_1 i0_2 i0_3 i0_4 i0_5 i0_6 i0_7 i0_8 i0_19 i0_20 i0_28 i0_33 i0_34 i0_35 i0_36 i0_37 i0_38 i0_39 i0_40 i0_41 i0_42 i0_43 v0_9)) (r := q18) C0 (c_X11_isSmall l D cs H.size  q15 q18 hq) (va_cwS 1 hts gX11_wordHere_X11_isSmall rfl rfl rfl (by decide +kernel) ⟨Nat.le_of_ble_eq_true rfl, Nat.le_of_ble_eq_true rfl⟩) hP hD hS (sg_permL [] [0, 1] 2 rfl (by decide) rfl rfl) (sg_permG [0, 1] 2 rfl (by decide) rfl) rfl hl.1 rfl (Nat.le_of_ble_eq_true rfl) ⟨Nat.zero_le _, Nat.zero_le _⟩ dX11_wordHere_18 (fun H locs (hP : va_P D vwCl (W_X11_wordHere cs a0 p0 i0_0 i0_1 i0_2 i0_3 i0_4 i0_5 i0_6 i0_7 i0_8 i0_19 i0_20 i0_28 i0_33 i0_34 i0_35 i0_36 i0_37 i0_38 i0_39 i0_40 i0_41 i0_42 i0_43 v0_9) H) (hD : va_D _ (W_X11_wordHere cs a0 p0 i0_0 i0_1 i0_2 i0_3 i0_4 i0_5 i0_6 i0_7 i0_8 i0_19 i0_20 i0_28 i0_33 i0_34 i0_35 i0_36 i0_37 i0_38 i0_39 i0_40 i0_41 i0_42 i0_43 v0_9)) hS => ?_)
    refine lv_if_eq (tgt := 61) hx hb dX11_wordHere_21 (by decide) (fun hc => ?_) (fun hc => ?_)
    · replace hf := ow_t hc hf
      refine lv_iload_n hx hb dX11_wordHere_61 rfl (lv_at hl 2 rfl) ?_
      refine lv_bipush (v := 6) hx hb dX11_wordHere_62 (by decide) ?_
      refine lv_icmp_le (tgt := 71) hx hb dX11_wordHere_64 (by decide) (fun hc => ?_) (fun hc => ?_)
      · replace hf := ow_t hc hf
        refine lv_iload_n hx hb dX11_wordHere_71 rfl (lv_at hl 1 rfl) ?_
        obtain rfl := Option.some.inj hf
        exact ow_retI C0 hP hD hS dX11_wordHere_72
      · replace hf := ow_f hc hf
        refine lv_iconst (v := (-1)) hx hb dX11_wordHere_67 (by decide) ?_
        refine lv_goto (tgt := 72) hx hb dX11_wordHere_68 (by decide) ?_
        obtain rfl := Option.some.inj hf
        exact ow_retI C0 hP hD hS dX11_wordHere_72
    · replace hf := ow_f hc hf
      refine lv_iload_n hx hb dX11_wordHere_24 rfl (lv_at hl 2 rfl) ?_
      refine lv_bipush (v := 6) hx hb dX11_wordHere_25 (by decide) ?_
      refine lv_icmp_ge (tgt := 53) hx hb dX11_wordHere_27 (by decide) (fun hc => ?_) (fun hc => ?_)
      · replace hf := ow_t hc hf
        refine lv_iload_n hx hb dX11_wordHere_53 rfl (lv_at hl 1 rfl) ?_
        exact w_X11_wordHere_b54 C0 a0 p0 i0_0 i0_1 i0_2 i0_3 i0_5 i0_6 i0_7 i0_8 i0_19 i0_20 i0_28 i0_33 i0_34 i0_35 i0_36 i0_37 i0_38 i0_39 i0_40 i0_41 i0_42 i0_43 v0_9 res (f_X11_wordHere_b8 i0_2 v0_9 n) ih i0_4 x2 x1  hf _ _ _ hP hD hS (lv_sub hl [0, 2] rfl)
      · replace hf := ow_f hc hf
        refine lv_bipush (v := 27) hx hb dX11_wordHere_30 (by decide) ?_
        refine lv_iload_n hx hb dX11_wordHere_32 rfl (lv_at hl 1 rfl) ?_
        refine lv_imul hx hb dX11_wordHere_33 ?_
        refine lv_aload_n hx hb dX11_wordHere_34 rfl (lv_at hl 0 rfl) ?_
        refine lv_aload_n hx hb dX11_wordHere_35 rfl (lv_at hl 0 rfl) ?_
        refine va_get (D := D) (ci := 11) (v := .int i0_4) (C := RX11) (T := TX11) (N := 44) hx hb hts in_X11_wordHere_X11 hown hK hP 0 rfl rfl 4 (by decide) (hts (.fieldLink RX11 94 "PaneDaysModel" "at" "I") (List.mem_of_getElem? (i := 1) rfl)) (fun _ h9 => h9) rfl dX11_wordHere_36 ?_
        refine lv_iload_n hx hb dX11_wordHere_39 rfl (lv_at hl 2 rfl) ?_
        refine lv_iadd hx hb dX11_wordHere_40 ?_
        obtain ⟨q41, hq, hf⟩ := bd_some hf
        refine ow_gVI (As := [.int (i0_4 + x2)]) (rest := [.int (27 * x1)]) (sg := (S_X11_wordHere cs a0 p0 i0_0 i0_1 i0_2 i0_3 i0_4 i0_5 i0_6 i0_7 i0_8 i0_19 i0_20 i0_28 i0_33 i0_34 i0_35 i0_36 i0_37 i0_38 i0_39 i0_40 i0_41 i0_42 i0_43 v0_9)) (sc := (S_X11_byteAt cs a0 p0 i0_0 i0_1 i0_2 i0_3 i0_4 i0_5 i0_6 i0_7 i0_8 i0_19 i0_20 i0_28 i0_33 i0_34 i0_35 i0_36 i0_37 i0_38 i0_39 i0_40 i0_41 i0_42 i0_43 v0_9)) (sc' := (S_X11_byteAt cs a0 p0 i0_0 i0_1 i0_2 i0_3 i0_4 i0_5 i0_6 i0_7 i0_8 i0_19 i0_20 i0_28 i0_33 i0_34 i0_35 i0_36 i0_37 i0_38 i0_39 i0_40 i0_41 i0_42 i0_43 v0_9)) (sr := ow_pks (S_X11_wordHere cs a0 p0 i0_0 i0_1 i0_2 i0_3 i0_4 i0_5 i0_6 i0_7 i0_8 i0_19 i0_20 i0_28 i0_33 i0_34 i0_35 i0_36 i0_37 i0_38 i0_39 i0_40 i0_41 i0_42 i0_43 v0_9) []) (sf := (S_X11_wordHere cs a0 p0 i0_0 i0_1 i0_2 i0_3 i0_4 i0_5 i0_6 i0_7 i0_8 i0_19 i0_20 i0_28 i0_33 i0_34 i0_35 i0_36 i0_37 i0_38 i0_39 i0_40 i0_41 i0_42 i0_43 v0_9)) (r := q41) C0 (c_X11_byteAt l D cs H.size a0 p0 i0_0 i0_1 i0_2 i0_3 i0_4 i0_5 i0_6 i0_7 i0_8 i0_19 i0_20 i0_28 i0_33 i0_34 i0_35 i0_36 i0_37 i0_38 i0_39 i0_40 i0_41 i0_42 i0_43 v0_9 (i0_4 + x2) q41 hq) (cwV 1 hts gX11_wordHere_X11_byteAt rfl rfl rfl (by decide +kernel) ⟨Nat.le_of_ble_eq_true rfl, Nat.le_of_ble_eq_true rfl⟩) 11 rfl rfl hP hD hS (sg_permL [0, 1] [] 2 rfl (by decide) rfl rfl) (sg_permG [0, 1] 2 rfl (by decide) rfl) rfl hl.1 rfl (Nat.le_of_ble_eq_true rfl) ⟨Nat.zero_le _, Nat.zero_le _⟩ dX11_wordHere_41 (fun H locs (hP : va_P D vwCl (W_X11_wordHere cs a0 p0 i0_0 i0_1 i0_2 i0_3 i0_4 i0_5 i0_6 i0_7 i0_8 i0_19 i0_20 i0_28 i0_33 i0_34 i0_35 i0_36 i0_37 i0_38 i0_39 i0_40 i0_41 i0_42 i0_43 v0_9) H) (hD : va_D _ (W_X11_wordHere cs a0 p0 i0_0 i0_1 i0_2 i0_3 i0_4 i0_5 i0_6 i0_7 i0_8 i0_19 i0_20 i0_28 i0_33 i0_34 i0_35 i0_36 i0_37 i0_38 i0_39 i0_40 i0_41 i0_42 i0_43 v0_9)) hS => ?_)
        refine lv_iadd hx hb dX11_wordHere_44 ?_
        refine lv_bipush (v := 97) hx hb dX11_wordHere_45 (by decide) ?_
        refine lv_isub hx hb dX11_wordHere_47 ?_
        refine lv_iconst (v := 1) hx hb dX11_wordHere_48 (by decide) ?_
        refine lv_iadd hx hb dX11_wordHere_49 ?_
        refine lv_goto (tgt := 54) hx hb dX11_wordHere_50 (by decide) ?_
        exact w_X11_wordHere_b54 C0 a0 p0 i0_0 i0_1 i0_2 i0_3 i0_5 i0_6 i0_7 i0_8 i0_19 i0_20 i0_28 i0_33 i0_34 i0_35 i0_36 i0_37 i0_38 i0_39 i0_40 i0_41 i0_42 i0_43 v0_9 res (f_X11_wordHere_b8 i0_2 v0_9 n) ih i0_4 x2 ((((27 * x1) + q41) - 97) + 1)  hf _ _ _ hP hD hS (lv_sub hl [0, 2] rfl)
def f_X11_wordHere  (i0_2 : Int32) (i0_4 : Int32) (v0_9 : Nat → Int32)  : Option (Int32 × Int32) := (f_X11_blanks i0_2 i0_4 v0_9).bind fun q1 => f_X11_wordHere_b8 i0_2 v0_9 4000 q1 (0) (0)
set_option maxHeartbeats 4000000 in
set_option maxRecDepth 100000 in
theorem c_X11_wordHere (l : Launch) (D : va_G) (cs : Nat → ClassId)  (sz : Nat) (a0 : Nat) (p0 : Nat → Nat) (i0_0 : Int32) (i0_1 : Int32) (i0_2 : Int32) (i0_3 : Int32) (i0_4 : Int32) (i0_5 : Int32) (i0_6 : Int32) (i0_7 : Int32) (i0_8 : Int32) (i0_19 : Int32) (i0_20 : Int32) (i0_28 : Int32) (i0_33 : Int32) (i0_34 : Int32) (i0_35 : Int32) (i0_36 : Int32) (i0_37 : Int32) (i0_38 : Int32) (i0_39 : Int32) (i0_40 : Int32) (i0_41 : Int32) (i0_42 : Int32) (i0_43 : Int32) (v0_9 : Nat → Int32)  (res : Int32 × Int32) (hf : f_X11_wordHere  i0_2 i0_4 v0_9  = some res) : MI l D cs yX11_wordHere wsX11_wordHere rm_X11_wordHere [.ref a0] sz (W_X11_wordHere cs a0 p0 i0_0 i0_1 i0_2 i0_3 i0_4 i0_5 i0_6 i0_7 i0_8 i0_19 i0_20 i0_28 i0_33 i0_34 i0_35 i0_36 i0_37 i0_38 i0_39 i0_40 i0_41 i0_42 i0_43 v0_9) (W_X11_wordHere cs a0 p0 i0_0 i0_1 i0_2 i0_3 res.2 i0_5 i0_6 i0_7 i0_8 i0_19 i0_20 i0_28 i0_33 i0_34 i0_35 i0_36 i0_37 i0_38 i0_39 i0_40 i0_41 i0_42 i0_43 v0_9) res.1 := by
  rw [f_X11_wordHere] at hf
  refine ow_enter (cc := cX11_wordHere) (nL := 3) (ret := (some .int)) (by decide) rfl (Nat.le_of_ble_eq_true rfl) (fun p e s m below meth c ls H locs C0 hP hD hS hA hl => ?_)
  obtain ⟨hx, hb, hr, hlk, hml, hown, hts, hK, hG, hE⟩ := id C0
  have hl : lv_has ls 3 [(0, .ref a0)] := hl
  refine lv_aload_n hx hb dX11_wordHere_0 rfl (lv_at hl 0 rfl) ?_
  obtain ⟨q1, hq, hf⟩ := bd_some hf
  refine ow_gVV (As := []) (rest := []) (sg := (S_X11_wordHere cs a0 p0 i0_0 i0_1 i0_2 i0_3 i0_4 i0_5 i0_6 i0_7 i0_8 i0_19 i0_20 i0_28 i0_33 i0_34 i0_35 i0_36 i0_37 i0_38 i0_39 i0_40 i0_41 i0_42 i0_43 v0_9)) (sc := (S_X11_blanks cs a0 p0 i0_0 i0_1 i0_2 i0_3 i0_4 i0_5 i0_6 i0_7 i0_8 i0_19 i0_20 i0_28 i0_33 i0_34 i0_35 i0_36 i0_37 i0_38 i0_39 i0_40 i0_41 i0_42 i0_43 v0_9)) (sc' := (S_X11_blanks cs a0 p0 i0_0 i0_1 i0_2 i0_3 q1 i0_5 i0_6 i0_7 i0_8 i0_19 i0_20 i0_28 i0_33 i0_34 i0_35 i0_36 i0_37 i0_38 i0_39 i0_40 i0_41 i0_42 i0_43 v0_9)) (sr := ow_pks (S_X11_wordHere cs a0 p0 i0_0 i0_1 i0_2 i0_3 i0_4 i0_5 i0_6 i0_7 i0_8 i0_19 i0_20 i0_28 i0_33 i0_34 i0_35 i0_36 i0_37 i0_38 i0_39 i0_40 i0_41 i0_42 i0_43 v0_9) []) (sf := (S_X11_wordHere cs a0 p0 i0_0 i0_1 i0_2 i0_3 q1 i0_5 i0_6 i0_7 i0_8 i0_19 i0_20 i0_28 i0_33 i0_34 i0_35 i0_36 i0_37 i0_38 i0_39 i0_40 i0_41 i0_42 i0_43 v0_9)) C0 (c_X11_blanks l D cs H.size a0 p0 i0_0 i0_1 i0_2 i0_3 i0_4 i0_5 i0_6 i0_7 i0_8 i0_19 i0_20 i0_28 i0_33 i0_34 i0_35 i0_36 i0_37 i0_38 i0_39 i0_40 i0_41 i0_42 i0_43 v0_9  q1 hq) (cwV 0 hts gX11_wordHere_X11_blanks rfl rfl rfl (by decide +kernel) ⟨Nat.le_of_ble_eq_true rfl, Nat.le_of_ble_eq_true rfl⟩) 11 rfl rfl hP hD hS (sg_permL [0, 1] [] 2 rfl (by decide) rfl rfl) (sg_permG [0, 1] 2 rfl (by decide) rfl) rfl hl.1 rfl (Nat.le_of_ble_eq_true rfl) ⟨Nat.zero_le _, Nat.zero_le _⟩ dX11_wordHere_1 (fun H locs (hP : va_P D vwCl (W_X11_wordHere cs a0 p0 i0_0 i0_1 i0_2 i0_3 q1 i0_5 i0_6 i0_7 i0_8 i0_19 i0_20 i0_28 i0_33 i0_34 i0_35 i0_36 i0_37 i0_38 i0_39 i0_40 i0_41 i0_42 i0_43 v0_9) H) (hD : va_D _ (W_X11_wordHere cs a0 p0 i0_0 i0_1 i0_2 i0_3 q1 i0_5 i0_6 i0_7 i0_8 i0_19 i0_20 i0_28 i0_33 i0_34 i0_35 i0_36 i0_37 i0_38 i0_39 i0_40 i0_41 i0_42 i0_43 v0_9)) hS => ?_)
  refine lv_iconst (v := 0) hx hb dX11_wordHere_4 (by decide) ?_
  refine lv_istore_n (lv' := [(1, .int 0), (0, .ref a0)]) hx hb dX11_wordHere_5 rfl hl (by decide) rfl (fun ls hl => ?_)
  refine lv_iconst (v := 0) hx hb dX11_wordHere_6 (by decide) ?_
  refine lv_istore_n (lv' := [(2, .int 0), (1, .int 0), (0, .ref a0)]) hx hb dX11_wordHere_7 rfl hl (by decide) rfl (fun ls hl => ?_)
  exact w_X11_wordHere_b8 C0 a0 p0 i0_0 i0_1 i0_2 i0_3 i0_5 i0_6 i0_7 i0_8 i0_19 i0_20 i0_28 i0_33 i0_34 i0_35 i0_36 i0_37 i0_38 i0_39 i0_40 i0_41 i0_42 i0_43 v0_9 res 4000 q1 (0) (0)  hf _ _ _ hP hD hS (lv_sub hl [2, 1, 0] rfl)
abbrev rm_X11_six : Room := { frames := 0, cells := 0, slots := 0, locals := 0 }
def f_X11_six_b75     (x5 : Int32) (t0 : Int32) : Option (Int32) := if x5 = 0 then (some (t0)) else (some ((27 * t0) + x5))
set_option maxHeartbeats 4000000 in
set_option maxRecDepth 100000 in
theorem w_X11_six_b75 {p : Program} {l : Launch} {e : Env} {s : State} {m : MethodId} {below : List Frame} {meth : Method} {c : Code} {D : va_G} {cs : Nat → ClassId} {av : Array Value} {w0 : va_W} (C0 : Cx p s m meth c av wsX11_six cX11_six 7 (some .int) RX11 D cs w0)   (res : Int32)  : ∀ (x5 : Int32) (t0 : Int32), f_X11_six_b75 x5 t0 = some res → ∀ (H : Heap) (locs : List Loc) (ls : Array Slot), va_P D vwCl ([] : va_W) H → va_D (va_A w0 s.heap.size) ([] : va_W) → va_S (va_A w0 s.heap.size) s.heap H locs → lv_has ls 7 [(5, .int x5)] → W p l e rm_X11_six s m av below meth c H locs 0 0 (MQ below (oI D cs w0 ([] : va_W) res s.heap.size) av s 0 0 (va_A w0 s.heap.size)) (F0 m 75 ls [.int t0]) := by
  obtain ⟨hx, hb, hr, hlk, hml, hown, hts, hK, hG, hE⟩ := id C0
  intro x5 t0 hf H locs ls hP hD hS hl
  rw [f_X11_six_b75] at hf
  refine lv_istore (lv' := [(6, .int t0), (5, .int x5)]) hx hb dX11_six_75 hl (by decide) rfl (fun ls hl => ?_)
  refine lv_iload hx hb dX11_six_77 (lv_at hl 1 rfl) ?_
  refine lv_if_ne (tgt := 87) hx hb dX11_six_79 (by decide) (fun hc => ?_) (fun hc => ?_)
  · replace hf := ow_f hc hf
    refine lv_bipush (v := 27) hx hb dX11_six_87 (by decide) ?_
    refine lv_iload hx hb dX11_six_89 (lv_at hl 0 rfl) ?_
    refine lv_imul hx hb dX11_six_91 ?_
    refine lv_iload hx hb dX11_six_92 (lv_at hl 1 rfl) ?_
    refine lv_iadd hx hb dX11_six_94 ?_
    obtain rfl := Option.some.inj hf
    exact ow_retI C0 hP hD hS dX11_six_95
  · replace hf := ow_t hc hf
    refine lv_iload hx hb dX11_six_82 (lv_at hl 0 rfl) ?_
    refine lv_goto (tgt := 95) hx hb dX11_six_84 (by decide) ?_
    obtain rfl := Option.some.inj hf
    exact ow_retI C0 hP hD hS dX11_six_95
def f_X11_six_b55     (x4 : Int32) (x5 : Int32) (t0 : Int32) : Option (Int32) := if x4 = 0 then (f_X11_six_b75 x5 t0) else (f_X11_six_b75 x5 ((27 * t0) + x4))
set_option maxHeartbeats 4000000 in
set_option maxRecDepth 100000 in
theorem w_X11_six_b55 {p : Program} {l : Launch} {e : Env} {s : State} {m : MethodId} {below : List Frame} {meth : Method} {c : Code} {D : va_G} {cs : Nat → ClassId} {av : Array Value} {w0 : va_W} (C0 : Cx p s m meth c av wsX11_six cX11_six 7 (some .int) RX11 D cs w0)   (res : Int32)  : ∀ (x4 : Int32) (x5 : Int32) (t0 : Int32), f_X11_six_b55 x4 x5 t0 = some res → ∀ (H : Heap) (locs : List Loc) (ls : Array Slot), va_P D vwCl ([] : va_W) H → va_D (va_A w0 s.heap.size) ([] : va_W) → va_S (va_A w0 s.heap.size) s.heap H locs → lv_has ls 7 [(4, .int x4), (5, .int x5)] → W p l e rm_X11_six s m av below meth c H locs 0 0 (MQ below (oI D cs w0 ([] : va_W) res s.heap.size) av s 0 0 (va_A w0 s.heap.size)) (F0 m 55 ls [.int t0]) := by
  obtain ⟨hx, hb, hr, hlk, hml, hown, hts, hK, hG, hE⟩ := id C0
  intro x4 x5 t0 hf H locs ls hP hD hS hl
  rw [f_X11_six_b55] at hf
  refine lv_istore (lv' := [(6, .int t0), (4, .int x4), (5, .int x5)]) hx hb dX11_six_55 hl (by decide) rfl (fun ls hl => ?_)
  refine lv_iload hx hb dX11_six_57 (lv_at hl 1 rfl) ?_
  refine lv_if_ne (tgt := 67) hx hb dX11_six_59 (by decide) (fun hc => ?_) (fun hc => ?_)
  · replace hf := ow_f hc hf
    refine lv_bipush (v := 27) hx hb dX11_six_67 (by decide) ?_
    refine lv_iload hx hb dX11_six_69 (lv_at hl 0 rfl) ?_
    refine lv_imul hx hb dX11_six_71 ?_
    refine lv_iload hx hb dX11_six_72 (lv_at hl 1 rfl) ?_
    refine lv_iadd hx hb dX11_six_74 ?_
    exact w_X11_six_b75 C0 res x5 ((27 * t0) + x4)  hf _ _ _ hP hD hS (lv_sub hl [2] rfl)
  · replace hf := ow_t hc hf
    refine lv_iload hx hb dX11_six_62 (lv_at hl 0 rfl) ?_
    refine lv_goto (tgt := 75) hx hb dX11_six_64 (by decide) ?_
    exact w_X11_six_b75 C0 res x5 t0  hf _ _ _ hP hD hS (lv_sub hl [2] rfl)
def f_X11_six_b37     (x3 : Int32) (x4 : Int32) (x5 : Int32) (t0 : Int32) : Option (Int32) := if x3 = 0 then (f_X11_six_b55 x4 x5 t0) else (f_X11_six_b55 x4 x5 ((27 * t0) + x3))
set_option maxHeartbeats 4000000 in
set_option maxRecDepth 100000 in
theorem w_X11_six_b37 {p : Program} {l : Launch} {e : Env} {s : State} {m : MethodId} {below : List Frame} {meth : Method} {c : Code} {D : va_G} {cs : Nat → ClassId} {av : Array Value} {w0 : va_W} (C0 : Cx p s m meth c av wsX11_six cX11_six 7 (some .int) RX11 D cs w0)   (res : Int32)  : ∀ (x3 : Int32) (x4 : Int32) (x5 : Int32) (t0 : Int32), f_X11_six_b37 x3 x4 x5 t0 = some res → ∀ (H : Heap) (locs : List Loc) (ls : Array Slot), va_P D vwCl ([] : va_W) H → va_D (va_A w0 s.heap.size) ([] : va_W) → va_S (va_A w0 s.heap.size) s.heap H locs → lv_has ls 7 [(3, .int x3), (4, .int x4), (5, .int x5)] → W p l e rm_X11_six s m av below meth c H locs 0 0 (MQ below (oI D cs w0 ([] : va_W) res s.heap.size) av s 0 0 (va_A w0 s.heap.size)) (F0 m 37 ls [.int t0]) := by
  obtain ⟨hx, hb, hr, hlk, hml, hown, hts, hK, hG, hE⟩ := id C0
  intro x3 x4 x5 t0 hf H locs ls hP hD hS hl
  rw [f_X11_six_b37] at hf
  refine lv_istore (lv' := [(6, .int t0), (3, .int x3), (4, .int x4), (5, .int x5)]) hx hb dX11_six_37 hl (by decide) rfl (fun ls hl => ?_)
  refine lv_iload_n hx hb dX11_six_39 rfl (lv_at hl 1 rfl) ?_
  refine lv_if_ne (tgt := 48) hx hb dX11_six_40 (by decide) (fun hc => ?_) (fun hc => ?_)
  · replace hf := ow_f hc hf
    refine lv_bipush (v := 27) hx hb dX11_six_48 (by decide) ?_
    refine lv_iload hx hb dX11_six_50 (lv_at hl 0 rfl) ?_
    refine lv_imul hx hb dX11_six_52 ?_
    refine lv_iload_n hx hb dX11_six_53 rfl (lv_at hl 1 rfl) ?_
    refine lv_iadd hx hb dX11_six_54 ?_
    exact w_X11_six_b55 C0 res x4 x5 ((27 * t0) + x3)  hf _ _ _ hP hD hS (lv_sub hl [2, 3] rfl)
  · replace hf := ow_t hc hf
    refine lv_iload hx hb dX11_six_43 (lv_at hl 0 rfl) ?_
    refine lv_goto (tgt := 55) hx hb dX11_six_45 (by decide) ?_
    exact w_X11_six_b55 C0 res x4 x5 t0  hf _ _ _ hP hD hS (lv_sub hl [2, 3] rfl)
def f_X11_six_b19     (x2 : Int32) (x3 : Int32) (x4 : Int32) (x5 : Int32) (t0 : Int32) : Option (Int32) := if x2 = 0 then (f_X11_six_b37 x3 x4 x5 t0) else (f_X11_six_b37 x3 x4 x5 ((27 * t0) + x2))
set_option maxHeartbeats 4000000 in
set_option maxRecDepth 100000 in
theorem w_X11_six_b19 {p : Program} {l : Launch} {e : Env} {s : State} {m : MethodId} {below : List Frame} {meth : Method} {c : Code} {D : va_G} {cs : Nat → ClassId} {av : Array Value} {w0 : va_W} (C0 : Cx p s m meth c av wsX11_six cX11_six 7 (some .int) RX11 D cs w0)   (res : Int32)  : ∀ (x2 : Int32) (x3 : Int32) (x4 : Int32) (x5 : Int32) (t0 : Int32), f_X11_six_b19 x2 x3 x4 x5 t0 = some res → ∀ (H : Heap) (locs : List Loc) (ls : Array Slot), va_P D vwCl ([] : va_W) H → va_D (va_A w0 s.heap.size) ([] : va_W) → va_S (va_A w0 s.heap.size) s.heap H locs → lv_has ls 7 [(2, .int x2), (3, .int x3), (4, .int x4), (5, .int x5)] → W p l e rm_X11_six s m av below meth c H locs 0 0 (MQ below (oI D cs w0 ([] : va_W) res s.heap.size) av s 0 0 (va_A w0 s.heap.size)) (F0 m 19 ls [.int t0]) := by
  obtain ⟨hx, hb, hr, hlk, hml, hown, hts, hK, hG, hE⟩ := id C0
  intro x2 x3 x4 x5 t0 hf H locs ls hP hD hS hl
  rw [f_X11_six_b19] at hf
  refine lv_istore (lv' := [(6, .int t0), (2, .int x2), (3, .int x3), (4, .int x4), (5, .int x5)]) hx hb dX11_six_19 hl (by decide) rfl (fun ls hl => ?_)
  refine lv_iload_n hx hb dX11_six_21 rfl (lv_at hl 1 rfl) ?_
  refine lv_if_ne (tgt := 30) hx hb dX11_six_22 (by decide) (fun hc => ?_) (fun hc => ?_)
  · replace hf := ow_f hc hf
    refine lv_bipush (v := 27) hx hb dX11_six_30 (by decide) ?_
    refine lv_iload hx hb dX11_six_32 (lv_at hl 0 rfl) ?_
    refine lv_imul hx hb dX11_six_34 ?_
    refine lv_iload_n hx hb dX11_six_35 rfl (lv_at hl 1 rfl) ?_
    refine lv_iadd hx hb dX11_six_36 ?_
    exact w_X11_six_b37 C0 res x3 x4 x5 ((27 * t0) + x2)  hf _ _ _ hP hD hS (lv_sub hl [2, 3, 4] rfl)
  · replace hf := ow_t hc hf
    refine lv_iload hx hb dX11_six_25 (lv_at hl 0 rfl) ?_
    refine lv_goto (tgt := 37) hx hb dX11_six_27 (by decide) ?_
    exact w_X11_six_b37 C0 res x3 x4 x5 t0  hf _ _ _ hP hD hS (lv_sub hl [2, 3, 4] rfl)
def f_X11_six   (x0 : Int32) (x1 : Int32) (x2 : Int32) (x3 : Int32) (x4 : Int32) (x5 : Int32) : Option (Int32) := if x1 = 0 then (f_X11_six_b19 x2 x3 x4 x5 x0) else (f_X11_six_b19 x2 x3 x4 x5 ((27 * x0) + x1))
set_option maxHeartbeats 4000000 in
set_option maxRecDepth 100000 in
theorem c_X11_six (l : Launch) (D : va_G) (cs : Nat → ClassId)  (sz : Nat)  (x0 : Int32) (x1 : Int32) (x2 : Int32) (x3 : Int32) (x4 : Int32) (x5 : Int32) (res : Int32) (hf : f_X11_six   x0 x1 x2 x3 x4 x5 = some res) : MI l D cs yX11_six wsX11_six rm_X11_six [.int x0, .int x1, .int x2, .int x3, .int x4, .int x5] sz ([] : va_W) ([] : va_W) res := by
  rw [f_X11_six] at hf
  refine ow_enter (cc := cX11_six) (nL := 7) (ret := (some .int)) (by decide) rfl (Nat.le_of_ble_eq_true rfl) (fun p e s m below meth c ls H locs C0 hP hD hS hA hl => ?_)
  obtain ⟨hx, hb, hr, hlk, hml, hown, hts, hK, hG, hE⟩ := id C0
  have hl : lv_has ls 7 [(0, .int x0), (1, .int x1), (2, .int x2), (3, .int x3), (4, .int x4), (5, .int x5)] := hl
  refine lv_iload_n hx hb dX11_six_0 rfl (lv_at hl 0 rfl) ?_
  refine lv_istore (lv' := [(6, .int x0), (0, .int x0), (1, .int x1), (2, .int x2), (3, .int x3), (4, .int x4), (5, .int x5)]) hx hb dX11_six_1 hl (by decide) rfl (fun ls hl => ?_)
  refine lv_iload_n hx hb dX11_six_3 rfl (lv_at hl 2 rfl) ?_
  refine lv_if_ne (tgt := 12) hx hb dX11_six_4 (by decide) (fun hc => ?_) (fun hc => ?_)
  · replace hf := ow_f hc hf
    refine lv_bipush (v := 27) hx hb dX11_six_12 (by decide) ?_
    refine lv_iload hx hb dX11_six_14 (lv_at hl 0 rfl) ?_
    refine lv_imul hx hb dX11_six_16 ?_
    refine lv_iload_n hx hb dX11_six_17 rfl (lv_at hl 2 rfl) ?_
    refine lv_iadd hx hb dX11_six_18 ?_
    exact w_X11_six_b19 C0 res x2 x3 x4 x5 ((27 * x0) + x1)  hf _ _ _ hP hD hS (lv_sub hl [3, 4, 5, 6] rfl)
  · replace hf := ow_t hc hf
    refine lv_iload hx hb dX11_six_7 (lv_at hl 0 rfl) ?_
    refine lv_goto (tgt := 19) hx hb dX11_six_9 (by decide) ?_
    exact w_X11_six_b19 C0 res x2 x3 x4 x5 x0  hf _ _ _ hP hD hS (lv_sub hl [3, 4, 5, 6] rfl)
theorem in_X11_isWord_X11 : ∀ w ∈ u_ws RX11 TX11 44, w ∈ wsX11_isWord := fun w h => List.mem_cons_of_mem _ (List.mem_append_right _ h)
abbrev W_X11_isWord (cs : Nat → ClassId) (a0 : Nat) (p0 : Nat → Nat) (i0_0 : Int32) (i0_1 : Int32) (i0_2 : Int32) (i0_3 : Int32) (i0_4 : Int32) (i0_5 : Int32) (i0_6 : Int32) (i0_7 : Int32) (i0_8 : Int32) (i0_19 : Int32) (i0_20 : Int32) (i0_28 : Int32) (i0_33 : Int32) (i0_34 : Int32) (i0_35 : Int32) (i0_36 : Int32) (i0_37 : Int32) (i0_38 : Int32) (i0_39 : Int32) (i0_40 : Int32) (i0_41 : Int32) (i0_42 : Int32) (i0_43 : Int32) (v0_9 : Nat → Int32) : va_W := [(a0, .inr (11, [.int i0_0, .int i0_1, .int i0_2, .int i0_3, .int i0_4, .int i0_5, .int i0_6, .int i0_7, .int i0_8, .ref (p0 9), .ref (p0 10), .ref (p0 11), .ref (p0 12), .ref (p0 13), .ref (p0 14), .ref (p0 15), .ref (p0 16), .ref (p0 17), .ref (p0 18), .int i0_19, .int i0_20, .ref (p0 21), .ref (p0 22), .ref (p0 23), .ref (p0 24), .ref (p0 25), .ref (p0 26), .ref (p0 27), .int i0_28, .ref (p0 29), .ref (p0 30), .ref (p0 31), .ref (p0 32), .int i0_33, .int i0_34, .int i0_35, .int i0_36, .int i0_37, .int i0_38, .int i0_39, .int i0_40, .int i0_41, .int i0_42, .int i0_43])), (p0 9, .inl (cs 0, 600, .inl v0_9))]
abbrev S_X11_isWord (cs : Nat → ClassId) (a0 : Nat) (p0 : Nat → Nat) (i0_0 : Int32) (i0_1 : Int32) (i0_2 : Int32) (i0_3 : Int32) (i0_4 : Int32) (i0_5 : Int32) (i0_6 : Int32) (i0_7 : Int32) (i0_8 : Int32) (i0_19 : Int32) (i0_20 : Int32) (i0_28 : Int32) (i0_33 : Int32) (i0_34 : Int32) (i0_35 : Int32) (i0_36 : Int32) (i0_37 : Int32) (i0_38 : Int32) (i0_39 : Int32) (i0_40 : Int32) (i0_41 : Int32) (i0_42 : Int32) (i0_43 : Int32) (v0_9 : Nat → Int32) : List va_W := [[(a0, .inr (11, [.int i0_0, .int i0_1, .int i0_2, .int i0_3, .int i0_4, .int i0_5, .int i0_6, .int i0_7, .int i0_8, .ref (p0 9), .ref (p0 10), .ref (p0 11), .ref (p0 12), .ref (p0 13), .ref (p0 14), .ref (p0 15), .ref (p0 16), .ref (p0 17), .ref (p0 18), .int i0_19, .int i0_20, .ref (p0 21), .ref (p0 22), .ref (p0 23), .ref (p0 24), .ref (p0 25), .ref (p0 26), .ref (p0 27), .int i0_28, .ref (p0 29), .ref (p0 30), .ref (p0 31), .ref (p0 32), .int i0_33, .int i0_34, .int i0_35, .int i0_36, .int i0_37, .int i0_38, .int i0_39, .int i0_40, .int i0_41, .int i0_42, .int i0_43]))], [(p0 9, .inl (cs 0, 600, .inl v0_9))]]
abbrev rm_X11_isWord : Room := { frames := 3, cells := 0, slots := 0, locals := 63 }
def f_X11_isWord  (i0_2 : Int32) (i0_4 : Int32) (i0_5 : Int32) (v0_9 : Nat → Int32) (x1 : Int32) (x2 : Int32) (x3 : Int32) (x4 : Int32) (x5 : Int32) (x6 : Int32) : Option (Int32 × Int32) := if i0_5 = 0 then ((f_X11_wordHere i0_2 i0_4 v0_9).bind fun q8 => (f_X11_six x1 x2 x3 x4 x5 x6).bind fun q20 => if q8.1 = q20 then (some (1, q8.2)) else (some (0, q8.2))) else (some (0, i0_4))
set_option maxHeartbeats 4000000 in
set_option maxRecDepth 100000 in
theorem c_X11_isWord (l : Launch) (D : va_G) (cs : Nat → ClassId)  (sz : Nat) (a0 : Nat) (p0 : Nat → Nat) (i0_0 : Int32) (i0_1 : Int32) (i0_2 : Int32) (i0_3 : Int32) (i0_4 : Int32) (i0_5 : Int32) (i0_6 : Int32) (i0_7 : Int32) (i0_8 : Int32) (i0_19 : Int32) (i0_20 : Int32) (i0_28 : Int32) (i0_33 : Int32) (i0_34 : Int32) (i0_35 : Int32) (i0_36 : Int32) (i0_37 : Int32) (i0_38 : Int32) (i0_39 : Int32) (i0_40 : Int32) (i0_41 : Int32) (i0_42 : Int32) (i0_43 : Int32) (v0_9 : Nat → Int32) (x1 : Int32) (x2 : Int32) (x3 : Int32) (x4 : Int32) (x5 : Int32) (x6 : Int32) (res : Int32 × Int32) (hf : f_X11_isWord  i0_2 i0_4 i0_5 v0_9 x1 x2 x3 x4 x5 x6 = some res) : MI l D cs yX11_isWord wsX11_isWord rm_X11_isWord [.ref a0, .int x1, .int x2, .int x3, .int x4, .int x5, .int x6] sz (W_X11_isWord cs a0 p0 i0_0 i0_1 i0_2 i0_3 i0_4 i0_5 i0_6 i0_7 i0_8 i0_19 i0_20 i0_28 i0_33 i0_34 i0_35 i0_36 i0_37 i0_38 i0_39 i0_40 i0_41 i0_42 i0_43 v0_9) (W_X11_isWord cs a0 p0 i0_0 i0_1 i0_2 i0_3 res.2 i0_5 i0_6 i0_7 i0_8 i0_19 i0_20 i0_28 i0_33 i0_34 i0_35 i0_36 i0_37 i0_38 i0_39 i0_40 i0_41 i0_42 i0_43 v0_9) res.1 := by
  rw [f_X11_isWord] at hf
  refine ow_enter (cc := cX11_isWord) (nL := 7) (ret := (some .boolean)) (by decide) rfl (Nat.le_of_ble_eq_true rfl) (fun p e s m below meth c ls H locs C0 hP hD hS hA hl => ?_)
  obtain ⟨hx, hb, hr, hlk, hml, hown, hts, hK, hG, hE⟩ := id C0
  have hl : lv_has ls 7 [(0, .ref a0), (1, .int x1), (2, .int x2), (3, .int x3), (4, .int x4), (5, .int x5), (6, .int x6)] := hl
  refine lv_aload_n hx hb dX11_isWord_0 rfl (lv_at hl 0 rfl) ?_
  refine va_get (D := D) (ci := 11) (v := .int i0_5) (C := RX11) (T := TX11) (N := 44) hx hb hts in_X11_isWord_X11 hown hK hP 0 rfl rfl 5 (by decide) (hts (.fieldLink RX11 101 "PaneDaysModel" "fault" "I") (List.mem_of_getElem? (i := 1) rfl)) (fun _ h9 => h9) rfl dX11_isWord_1 ?_
  refine lv_if_ne (tgt := 30) hx hb dX11_isWord_4 (by decide) (fun hc => ?_) (fun hc => ?_)
  · replace hf := ow_f hc hf
    refine lv_iconst (v := 0) hx hb dX11_isWord_30 (by decide) ?_
    obtain rfl := Option.some.inj hf
    exact ow_retZ C0 (Or.inl rfl) hP hD hS dX11_isWord_31
  · replace hf := ow_t hc hf
    refine lv_aload_n hx hb dX11_isWord_7 rfl (lv_at hl 0 rfl) ?_
    obtain ⟨q8, hq, hf⟩ := bd_some hf
    refine ow_gVI (As := []) (rest := []) (sg := (S_X11_isWord cs a0 p0 i0_0 i0_1 i0_2 i0_3 i0_4 i0_5 i0_6 i0_7 i0_8 i0_19 i0_20 i0_28 i0_33 i0_34 i0_35 i0_36 i0_37 i0_38 i0_39 i0_40 i0_41 i0_42 i0_43 v0_9)) (sc := (S_X11_wordHere cs a0 p0 i0_0 i0_1 i0_2 i0_3 i0_4 i0_5 i0_6 i0_7 i0_8 i0_19 i0_20 i0_28 i0_33 i0_34 i0_35 i0_36 i0_37 i0_38 i0_39 i0_40 i0_41 i0_42 i0_43 v0_9)) (sc' := (S_X11_wordHere cs a0 p0 i0_0 i0_1 i0_2 i0_3 q8.2 i0_5 i0_6 i0_7 i0_8 i0_19 i0_20 i0_28 i0_33 i0_34 i0_35 i0_36 i0_37 i0_38 i0_39 i0_40 i0_41 i0_42 i0_43 v0_9)) (sr := ow_pks (S_X11_isWord cs a0 p0 i0_0 i0_1 i0_2 i0_3 i0_4 i0_5 i0_6 i0_7 i0_8 i0_19 i0_20 i0_28 i0_33 i0_34 i0_35 i0_36 i0_37 i0_38 i0_39 i0_40 i0_41 i0_42 i0_43 v0_9) []) (sf := (S_X11_isWord cs a0 p0 i0_0 i0_1 i0_2 i0_3 q8.2 i0_5 i0_6 i0_7 i0_8 i0_19 i0_20 i0_28 i0_33 i0_34 i0_35 i0_36 i0_37 i0_38 i0_39 i0_40 i0_41 i0_42 i0_43 v0_9)) (r := q8.1) C0 (c_X11_wordHere l D cs H.size a0 p0 i0_0 i0_1 i0_2 i0_3 i0_4 i0_5 i0_6 i0_7 i0_8 i0_19 i0_20 i0_28 i0_33 i0_34 i0_35 i0_36 i0_37 i0_38 i0_39 i0_40 i0_41 i0_42 i0_43 v0_9  q8 hq) (cwV 0 hts gX11_isWord_X11_wordHere rfl rfl rfl (by decide +kernel) ⟨Nat.le_of_ble_eq_true rfl, Nat.le_of_ble_eq_true rfl⟩) 11 rfl rfl hP hD hS (sg_permL [0, 1] [] 2 rfl (by decide) rfl rfl) (sg_permG [0, 1] 2 rfl (by decide) rfl) rfl hl.1 rfl (Nat.le_of_ble_eq_true rfl) ⟨Nat.zero_le _, Nat.zero_le _⟩ dX11_isWord_8 (fun H locs (hP : va_P D vwCl (W_X11_isWord cs a0 p0 i0_0 i0_1 i0_2 i0_3 q8.2 i0_5 i0_6 i0_7 i0_8 i0_19 i0_20 i0_28 i0_33 i0_34 i0_35 i0_36 i0_37 i0_38 i0_39 i0_40 i0_41 i0_42 i0_43 v0_9) H) (hD : va_D _ (W_X11_isWord cs a0 p0 i0_0 i0_1 i0_2 i0_3 q8.2 i0_5 i0_6 i0_7 i0_8 i0_19 i0_20 i0_28 i0_33 i0_34 i0_35 i0_36 i0_37 i0_38 i0_39 i0_40 i0_41 i0_42 i0_43 v0_9)) hS => ?_)
    refine lv_iload_n hx hb dX11_isWord_11 rfl (lv_at hl 1 rfl) ?_
    refine lv_iload_n hx hb dX11_isWord_12 rfl (lv_at hl 2 rfl) ?_
    refine lv_iload_n hx hb dX11_isWord_13 rfl (lv_at hl 3 rfl) ?_
    refine lv_iload hx hb dX11_isWord_14 (lv_at hl 4 rfl) ?_
    refine lv_iload hx hb dX11_isWord_16 (lv_at hl 5 rfl) ?_
    refine lv_iload hx hb dX11_isWord_18 (lv_at hl 6 rfl) ?_
    obtain ⟨q20, hq, hf⟩ := bd_some hf
    refine ow_gSI (As := [.int x1, .int x2, .int x3, .int x4, .int x5, .int x6]) (rest := [.int q8.1]) (sg := (S_X11_isWord cs a0 p0 i0_0 i0_1 i0_2 i0_3 q8.2 i0_5 i0_6 i0_7 i0_8 i0_19 i0_20 i0_28 i0_33 i0_34 i0_35 i0_36 i0_37 i0_38 i0_39 i0_40 i0_41 i0_42 i0_43 v0_9)) (sc := ([] : List va_W)) (sc' := ([] : List va_W)) (sr := ow_pks (S_X11_isWord cs a0 p0 i0_0 i0_1 i0_2 i0_3 q8.2 i0_5 i0_6 i0_7 i0_8 i0_19 i0_20 i0_28 i0_33 i0_34 i0_35 i0_36 i0_37 i0_38 i0_39 i0_40 i0_41 i0_42 i0_43 v0_9) [0, 1]) (sf := (S_X11_isWord cs a0 p0 i0_0 i0_1 i0_2 i0_3 q8.2 i0_5 i0_6 i0_7 i0_8 i0_19 i0_20 i0_28 i0_33 i0_34 i0_35 i0_36 i0_37 i0_38 i0_39 i0_40 i0_41 i0_42 i0_43 v0_9)) (r := q20) C0 (c_X11_six l D cs H.size  x1 x2 x3 x4 x5 x6 q20 hq) (va_cwS 6 hts gX11_isWord_X11_six rfl rfl rfl (by decide +kernel) ⟨Nat.le_of_ble_eq_true rfl, Nat.le_of_ble_eq_true rfl⟩) hP hD hS (sg_permL [] [0, 1] 2 rfl (by decide) rfl rfl) (sg_permG [0, 1] 2 rfl (by decide) rfl) rfl hl.1 rfl (Nat.le_of_ble_eq_true rfl) ⟨Nat.zero_le _, Nat.zero_le _⟩ dX11_isWord_20 (fun H locs (hP : va_P D vwCl (W_X11_isWord cs a0 p0 i0_0 i0_1 i0_2 i0_3 q8.2 i0_5 i0_6 i0_7 i0_8 i0_19 i0_20 i0_28 i0_33 i0_34 i0_35 i0_36 i0_37 i0_38 i0_39 i0_40 i0_41 i0_42 i0_43 v0_9) H) (hD : va_D _ (W_X11_isWord cs a0 p0 i0_0 i0_1 i0_2 i0_3 q8.2 i0_5 i0_6 i0_7 i0_8 i0_19 i0_20 i0_28 i0_33 i0_34 i0_35 i0_36 i0_37 i0_38 i0_39 i0_40 i0_41 i0_42 i0_43 v0_9)) hS => ?_)
    refine lv_icmp_ne (tgt := 30) hx hb dX11_isWord_23 (by decide) (fun hc => ?_) (fun hc => ?_)
    · replace hf := ow_f hc hf
      refine lv_iconst (v := 0) hx hb dX11_isWord_30 (by decide) ?_
      obtain rfl := Option.some.inj hf
      exact ow_retZ C0 (Or.inl rfl) hP hD hS dX11_isWord_31
    · replace hf := ow_t hc hf
      refine lv_iconst (v := 1) hx hb dX11_isWord_26 (by decide) ?_
      refine lv_goto (tgt := 31) hx hb dX11_isWord_27 (by decide) ?_
      obtain rfl := Option.some.inj hf
      exact ow_retZ C0 (Or.inr rfl) hP hD hS dX11_isWord_31
abbrev W_X11_stepHere (cs : Nat → ClassId) (a0 : Nat) (p0 : Nat → Nat) (i0_0 : Int32) (i0_1 : Int32) (i0_2 : Int32) (i0_3 : Int32) (i0_4 : Int32) (i0_5 : Int32) (i0_6 : Int32) (i0_7 : Int32) (i0_8 : Int32) (i0_19 : Int32) (i0_20 : Int32) (i0_28 : Int32) (i0_33 : Int32) (i0_34 : Int32) (i0_35 : Int32) (i0_36 : Int32) (i0_37 : Int32) (i0_38 : Int32) (i0_39 : Int32) (i0_40 : Int32) (i0_41 : Int32) (i0_42 : Int32) (i0_43 : Int32) (v0_9 : Nat → Int32) : va_W := [(a0, .inr (11, [.int i0_0, .int i0_1, .int i0_2, .int i0_3, .int i0_4, .int i0_5, .int i0_6, .int i0_7, .int i0_8, .ref (p0 9), .ref (p0 10), .ref (p0 11), .ref (p0 12), .ref (p0 13), .ref (p0 14), .ref (p0 15), .ref (p0 16), .ref (p0 17), .ref (p0 18), .int i0_19, .int i0_20, .ref (p0 21), .ref (p0 22), .ref (p0 23), .ref (p0 24), .ref (p0 25), .ref (p0 26), .ref (p0 27), .int i0_28, .ref (p0 29), .ref (p0 30), .ref (p0 31), .ref (p0 32), .int i0_33, .int i0_34, .int i0_35, .int i0_36, .int i0_37, .int i0_38, .int i0_39, .int i0_40, .int i0_41, .int i0_42, .int i0_43])), (p0 9, .inl (cs 0, 600, .inl v0_9))]
abbrev S_X11_stepHere (cs : Nat → ClassId) (a0 : Nat) (p0 : Nat → Nat) (i0_0 : Int32) (i0_1 : Int32) (i0_2 : Int32) (i0_3 : Int32) (i0_4 : Int32) (i0_5 : Int32) (i0_6 : Int32) (i0_7 : Int32) (i0_8 : Int32) (i0_19 : Int32) (i0_20 : Int32) (i0_28 : Int32) (i0_33 : Int32) (i0_34 : Int32) (i0_35 : Int32) (i0_36 : Int32) (i0_37 : Int32) (i0_38 : Int32) (i0_39 : Int32) (i0_40 : Int32) (i0_41 : Int32) (i0_42 : Int32) (i0_43 : Int32) (v0_9 : Nat → Int32) : List va_W := [[(a0, .inr (11, [.int i0_0, .int i0_1, .int i0_2, .int i0_3, .int i0_4, .int i0_5, .int i0_6, .int i0_7, .int i0_8, .ref (p0 9), .ref (p0 10), .ref (p0 11), .ref (p0 12), .ref (p0 13), .ref (p0 14), .ref (p0 15), .ref (p0 16), .ref (p0 17), .ref (p0 18), .int i0_19, .int i0_20, .ref (p0 21), .ref (p0 22), .ref (p0 23), .ref (p0 24), .ref (p0 25), .ref (p0 26), .ref (p0 27), .int i0_28, .ref (p0 29), .ref (p0 30), .ref (p0 31), .ref (p0 32), .int i0_33, .int i0_34, .int i0_35, .int i0_36, .int i0_37, .int i0_38, .int i0_39, .int i0_40, .int i0_41, .int i0_42, .int i0_43]))], [(p0 9, .inl (cs 0, 600, .inl v0_9))]]
abbrev rm_X11_stepHere : Room := { frames := 4, cells := 0, slots := 0, locals := 89 }
def f_X11_stepHere  (i0_2 : Int32) (i0_4 : Int32) (i0_5 : Int32) (v0_9 : Nat → Int32)  : Option (Int32 × Int32) := (f_X11_isWord i0_2 i0_4 i0_5 v0_9 (23) (9) (16) (5) (0) (0)).bind fun q10 => if q10.1 = 0 then ((f_X11_isWord i0_2 q10.2 i0_5 v0_9 (3) (5) (12) (12) (0) (0)).bind fun q27 => if q27.1 = 0 then ((f_X11_isWord i0_2 q27.2 i0_5 v0_9 (3) (9) (18) (3) (12) (5)).bind fun q45 => if q45.1 = 0 then ((f_X11_isWord i0_2 q45.2 i0_5 v0_9 (4) (1) (25) (0) (0) (0)).bind fun q61 => if q61.1 = 0 then ((f_X11_isWord i0_2 q61.2 i0_5 v0_9 (18) (9) (14) (19) (5) (0)).bind fun q80 => if q80.1 = 0 then ((f_X11_isWord i0_2 q80.2 i0_5 v0_9 (2) (18) (5) (1) (11) (0)).bind fun q97 => if q97.1 = 0 then ((f_X11_isWord i0_2 q97.2 i0_5 v0_9 (1) (7) (1) (9) (14) (0)).bind fun q115 => if q115.1 = 0 then (some ((-1), q115.2)) else (some (6, q115.2))) else (some (5, q97.2))) else (some (4, q80.2))) else (some (3, q61.2))) else (some (2, q45.2))) else (some (1, q27.2))) else (some (0, q10.2))
set_option maxHeartbeats 4000000 in
set_option maxRecDepth 100000 in
theorem c_X11_stepHere (l : Launch) (D : va_G) (cs : Nat → ClassId)  (sz : Nat) (a0 : Nat) (p0 : Nat → Nat) (i0_0 : Int32) (i0_1 : Int32) (i0_2 : Int32) (i0_3 : Int32) (i0_4 : Int32) (i0_5 : Int32) (i0_6 : Int32) (i0_7 : Int32) (i0_8 : Int32) (i0_19 : Int32) (i0_20 : Int32) (i0_28 : Int32) (i0_33 : Int32) (i0_34 : Int32) (i0_35 : Int32) (i0_36 : Int32) (i0_37 : Int32) (i0_38 : Int32) (i0_39 : Int32) (i0_40 : Int32) (i0_41 : Int32) (i0_42 : Int32) (i0_43 : Int32) (v0_9 : Nat → Int32)  (res : Int32 × Int32) (hf : f_X11_stepHere  i0_2 i0_4 i0_5 v0_9  = some res) : MI l D cs yX11_stepHere wsX11_stepHere rm_X11_stepHere [.ref a0] sz (W_X11_stepHere cs a0 p0 i0_0 i0_1 i0_2 i0_3 i0_4 i0_5 i0_6 i0_7 i0_8 i0_19 i0_20 i0_28 i0_33 i0_34 i0_35 i0_36 i0_37 i0_38 i0_39 i0_40 i0_41 i0_42 i0_43 v0_9) (W_X11_stepHere cs a0 p0 i0_0 i0_1 i0_2 i0_3 res.2 i0_5 i0_6 i0_7 i0_8 i0_19 i0_20 i0_28 i0_33 i0_34 i0_35 i0_36 i0_37 i0_38 i0_39 i0_40 i0_41 i0_42 i0_43 v0_9) res.1 := by
  rw [f_X11_stepHere] at hf
  refine ow_enter (cc := cX11_stepHere) (nL := 1) (ret := (some .int)) (by decide) rfl (Nat.le_of_ble_eq_true rfl) (fun p e s m below meth c ls H locs C0 hP hD hS hA hl => ?_)
  obtain ⟨hx, hb, hr, hlk, hml, hown, hts, hK, hG, hE⟩ := id C0
  have hl : lv_has ls 1 [(0, .ref a0)] := hl
  refine lv_aload_n hx hb dX11_stepHere_0 rfl (lv_at hl 0 rfl) ?_
  refine lv_bipush (v := 23) hx hb dX11_stepHere_1 (by decide) ?_
  refine lv_bipush (v := 9) hx hb dX11_stepHere_3 (by decide) ?_
  refine lv_bipush (v := 16) hx hb dX11_stepHere_5 (by decide) ?_
  refine lv_iconst (v := 5) hx hb dX11_stepHere_7 (by decide) ?_
  refine lv_iconst (v := 0) hx hb dX11_stepHere_8 (by decide) ?_
  refine lv_iconst (v := 0) hx hb dX11_stepHere_9 (by decide) ?_
  obtain ⟨q10, hq, hf⟩ := bd_some hf
  refine ow_gVI (As := [.int 23, .int 9, .int 16, .int 5, .int 0, .int 0]) (rest := []) (sg := (S_X11_stepHere cs a0 p0 i0_0 i0_1 i0_2 i0_3 i0_4 i0_5 i0_6 i0_7 i0_8 i0_19 i0_20 i0_28 i0_33 i0_34 i0_35 i0_36 i0_37 i0_38 i0_39 i0_40 i0_41 i0_42 i0_43 v0_9)) (sc := (S_X11_isWord cs a0 p0 i0_0 i0_1 i0_2 i0_3 i0_4 i0_5 i0_6 i0_7 i0_8 i0_19 i0_20 i0_28 i0_33 i0_34 i0_35 i0_36 i0_37 i0_38 i0_39 i0_40 i0_41 i0_42 i0_43 v0_9)) (sc' := (S_X11_isWord cs a0 p0 i0_0 i0_1 i0_2 i0_3 q10.2 i0_5 i0_6 i0_7 i0_8 i0_19 i0_20 i0_28 i0_33 i0_34 i0_35 i0_36 i0_37 i0_38 i0_39 i0_40 i0_41 i0_42 i0_43 v0_9)) (sr := ow_pks (S_X11_stepHere cs a0 p0 i0_0 i0_1 i0_2 i0_3 i0_4 i0_5 i0_6 i0_7 i0_8 i0_19 i0_20 i0_28 i0_33 i0_34 i0_35 i0_36 i0_37 i0_38 i0_39 i0_40 i0_41 i0_42 i0_43 v0_9) []) (sf := (S_X11_stepHere cs a0 p0 i0_0 i0_1 i0_2 i0_3 q10.2 i0_5 i0_6 i0_7 i0_8 i0_19 i0_20 i0_28 i0_33 i0_34 i0_35 i0_36 i0_37 i0_38 i0_39 i0_40 i0_41 i0_42 i0_43 v0_9)) (r := q10.1) C0 (c_X11_isWord l D cs H.size a0 p0 i0_0 i0_1 i0_2 i0_3 i0_4 i0_5 i0_6 i0_7 i0_8 i0_19 i0_20 i0_28 i0_33 i0_34 i0_35 i0_36 i0_37 i0_38 i0_39 i0_40 i0_41 i0_42 i0_43 v0_9 (23) (9) (16) (5) (0) (0) q10 hq) (cwV 6 hts gX11_stepHere_X11_isWord rfl rfl rfl (by decide +kernel) ⟨Nat.le_of_ble_eq_true rfl, Nat.le_of_ble_eq_true rfl⟩) 11 rfl rfl hP hD hS (sg_permL [0, 1] [] 2 rfl (by decide) rfl rfl) (sg_permG [0, 1] 2 rfl (by decide) rfl) rfl hl.1 rfl (Nat.le_of_ble_eq_true rfl) ⟨Nat.zero_le _, Nat.zero_le _⟩ dX11_stepHere_10 (fun H locs (hP : va_P D vwCl (W_X11_stepHere cs a0 p0 i0_0 i0_1 i0_2 i0_3 q10.2 i0_5 i0_6 i0_7 i0_8 i0_19 i0_20 i0_28 i0_33 i0_34 i0_35 i0_36 i0_37 i0_38 i0_39 i0_40 i0_41 i0_42 i0_43 v0_9) H) (hD : va_D _ (W_X11_stepHere cs a0 p0 i0_0 i0_1 i0_2 i0_3 q10.2 i0_5 i0_6 i0_7 i0_8 i0_19 i0_20 i0_28 i0_33 i0_34 i0_35 i0_36 i0_37 i0_38 i0_39 i0_40 i0_41 i0_42 i0_43 v0_9)) hS => ?_)
  refine lv_if_eq (tgt := 18) hx hb dX11_stepHere_13 (by decide) (fun hc => ?_) (fun hc => ?_)
  · replace hf := ow_t hc hf
    refine lv_aload_n hx hb dX11_stepHere_18 rfl (lv_at hl 0 rfl) ?_
    refine lv_iconst (v := 3) hx hb dX11_stepHere_19 (by decide) ?_
    refine lv_iconst (v := 5) hx hb dX11_stepHere_20 (by decide) ?_
    refine lv_bipush (v := 12) hx hb dX11_stepHere_21 (by decide) ?_
    refine lv_bipush (v := 12) hx hb dX11_stepHere_23 (by decide) ?_
    refine lv_iconst (v := 0) hx hb dX11_stepHere_25 (by decide) ?_
    refine lv_iconst (v := 0) hx hb dX11_stepHere_26 (by decide) ?_
    obtain ⟨q27, hq, hf⟩ := bd_some hf
    refine ow_gVI (As := [.int 3, .int 5, .int 12, .int 12, .int 0, .int 0]) (rest := []) (sg := (S_X11_stepHere cs a0 p0 i0_0 i0_1 i0_2 i0_3 q10.2 i0_5 i0_6 i0_7 i0_8 i0_19 i0_20 i0_28 i0_33 i0_34 i0_35 i0_36 i0_37 i0_38 i0_39 i0_40 i0_41 i0_42 i0_43 v0_9)) (sc := (S_X11_isWord cs a0 p0 i0_0 i0_1 i0_2 i0_3 q10.2 i0_5 i0_6 i0_7 i0_8 i0_19 i0_20 i0_28 i0_33 i0_34 i0_35 i0_36 i0_37 i0_38 i0_39 i0_40 i0_41 i0_42 i0_43 v0_9)) (sc' := (S_X11_isWord cs a0 p0 i0_0 i0_1 i0_2 i0_3 q27.2 i0_5 i0_6 i0_7 i0_8 i0_19 i0_20 i0_28 i0_33 i0_34 i0_35 i0_36 i0_37 i0_38 i0_39 i0_40 i0_41 i0_42 i0_43 v0_9)) (sr := ow_pks (S_X11_stepHere cs a0 p0 i0_0 i0_1 i0_2 i0_3 q10.2 i0_5 i0_6 i0_7 i0_8 i0_19 i0_20 i0_28 i0_33 i0_34 i0_35 i0_36 i0_37 i0_38 i0_39 i0_40 i0_41 i0_42 i0_43 v0_9) []) (sf := (S_X11_stepHere cs a0 p0 i0_0 i0_1 i0_2 i0_3 q27.2 i0_5 i0_6 i0_7 i0_8 i0_19 i0_20 i0_28 i0_33 i0_34 i0_35 i0_36 i0_37 i0_38 i0_39 i0_40 i0_41 i0_42 i0_43 v0_9)) (r := q27.1) C0 (c_X11_isWord l D cs H.size a0 p0 i0_0 i0_1 i0_2 i0_3 q10.2 i0_5 i0_6 i0_7 i0_8 i0_19 i0_20 i0_28 i0_33 i0_34 i0_35 i0_36 i0_37 i0_38 i0_39 i0_40 i0_41 i0_42 i0_43 v0_9 (3) (5) (12) (12) (0) (0) q27 hq) (cwV 6 hts gX11_stepHere_X11_isWord rfl rfl rfl (by decide +kernel) ⟨Nat.le_of_ble_eq_true rfl, Nat.le_of_ble_eq_true rfl⟩) 11 rfl rfl hP hD hS (sg_permL [0, 1] [] 2 rfl (by decide) rfl rfl) (sg_permG [0, 1] 2 rfl (by decide) rfl) rfl hl.1 rfl (Nat.le_of_ble_eq_true rfl) ⟨Nat.zero_le _, Nat.zero_le _⟩ dX11_stepHere_27 (fun H locs (hP : va_P D vwCl (W_X11_stepHere cs a0 p0 i0_0 i0_1 i0_2 i0_3 q27.2 i0_5 i0_6 i0_7 i0_8 i0_19 i0_20 i0_28 i0_33 i0_34 i0_35 i0_36 i0_37 i0_38 i0_39 i0_40 i0_41 i0_42 i0_43 v0_9) H) (hD : va_D _ (W_X11_stepHere cs a0 p0 i0_0 i0_1 i0_2 i0_3 q27.2 i0_5 i0_6 i0_7 i0_8 i0_19 i0_20 i0_28 i0_33 i0_34 i0_35 i0_36 i0_37 i0_38 i0_39 i0_40 i0_41 i0_42 i0_43 v0_9)) hS => ?_)
    refine lv_if_eq (tgt := 35) hx hb dX11_stepHere_30 (by decide) (fun hc => ?_) (fun hc => ?_)
    · replace hf := ow_t hc hf
      refine lv_aload_n hx hb dX11_stepHere_35 rfl (lv_at hl 0 rfl) ?_
      refine lv_iconst (v := 3) hx hb dX11_stepHere_36 (by decide) ?_
      refine lv_bipush (v := 9) hx hb dX11_stepHere_37 (by decide) ?_
      refine lv_bipush (v := 18) hx hb dX11_stepHere_39 (by decide) ?_
      refine lv_iconst (v := 3) hx hb dX11_stepHere_41 (by decide) ?_
      refine lv_bipush (v := 12) hx hb dX11_stepHere_42 (by decide) ?_
      refine lv_iconst (v := 5) hx hb dX11_stepHere_44 (by decide) ?_
      obtain ⟨q45, hq, hf⟩ := bd_some hf
      refine ow_gVI (As := [.int 3, .int 9, .int 18, .int 3, .int 12, .int 5]) (rest := []) (sg := (S_X11_stepHere cs a0 p0 i0_0 i0_1 i0_2 i0_3 q27.2 i0_5 i0_6 i0_7 i0_8 i0_19 i0_20 i0_28 i0_33 i0_34 i0_35 i0_36 i0_37 i0_38 i0_39 i0_40 i0_41 i0_42 i0_43 v0_9)) (sc := (S_X11_isWord cs a0 p0 i0_0 i0_1 i0_2 i0_3 q27.2 i0_5 i0_6 i0_7 i0_8 i0_19 i0_20 i0_28 i0_33 i0_34 i0_35 i0_36 i0_37 i0_38 i0_39 i0_40 i0_41 i0_42 i0_43 v0_9)) (sc' := (S_X11_isWord cs a0 p0 i0_0 i0_1 i0_2 i0_3 q45.2 i0_5 i0_6 i0_7 i0_8 i0_19 i0_20 i0_28 i0_33 i0_34 i0_35 i0_36 i0_37 i0_38 i0_39 i0_40 i0_41 i0_42 i0_43 v0_9)) (sr := ow_pks (S_X11_stepHere cs a0 p0 i0_0 i0_1 i0_2 i0_3 q27.2 i0_5 i0_6 i0_7 i0_8 i0_19 i0_20 i0_28 i0_33 i0_34 i0_35 i0_36 i0_37 i0_38 i0_39 i0_40 i0_41 i0_42 i0_43 v0_9) []) (sf := (S_X11_stepHere cs a0 p0 i0_0 i0_1 i0_2 i0_3 q45.2 i0_5 i0_6 i0_7 i0_8 i0_19 i0_20 i0_28 i0_33 i0_34 i0_35 i0_36 i0_37 i0_38 i0_39 i0_40 i0_41 i0_42 i0_43 v0_9)) (r := q45.1) C0 (c_X11_isWord l D cs H.size a0 p0 i0_0 i0_1 i0_2 i0_3 q27.2 i0_5 i0_6 i0_7 i0_8 i0_19 i0_20 i0_28 i0_33 i0_34 i0_35 i0_36 i0_37 i0_38 i0_39 i0_40 i0_41 i0_42 i0_43 v0_9 (3) (9) (18) (3) (12) (5) q45 hq) (cwV 6 hts gX11_stepHere_X11_isWord rfl rfl rfl (by decide +kernel) ⟨Nat.le_of_ble_eq_true rfl, Nat.le_of_ble_eq_true rfl⟩) 11 rfl rfl hP hD hS (sg_permL [0, 1] [] 2 rfl (by decide) rfl rfl) (sg_permG [0, 1] 2 rfl (by decide) rfl) rfl hl.1 rfl (Nat.le_of_ble_eq_true rfl) ⟨Nat.zero_le _, Nat.zero_le _⟩ dX11_stepHere_45 (fun H locs (hP : va_P D vwCl (W_X11_stepHere cs a0 p0 i0_0 i0_1 i0_2 i0_3 q45.2 i0_5 i0_6 i0_7 i0_8 i0_19 i0_20 i0_28 i0_33 i0_34 i0_35 i0_36 i0_37 i0_38 i0_39 i0_40 i0_41 i0_42 i0_43 v0_9) H) (hD : va_D _ (W_X11_stepHere cs a0 p0 i0_0 i0_1 i0_2 i0_3 q45.2 i0_5 i0_6 i0_7 i0_8 i0_19 i0_20 i0_28 i0_33 i0_34 i0_35 i0_36 i0_37 i0_38 i0_39 i0_40 i0_41 i0_42 i0_43 v0_9)) hS => ?_)
      refine lv_if_eq (tgt := 53) hx hb dX11_stepHere_48 (by decide) (fun hc => ?_) (fun hc => ?_)
      · replace hf := ow_t hc hf
        refine lv_aload_n hx hb dX11_stepHere_53 rfl (lv_at hl 0 rfl) ?_
        refine lv_iconst (v := 4) hx hb dX11_stepHere_54 (by decide) ?_
        refine lv_iconst (v := 1) hx hb dX11_stepHere_55 (by decide) ?_
        refine lv_bipush (v := 25) hx hb dX11_stepHere_56 (by decide) ?_
        refine lv_iconst (v := 0) hx hb dX11_stepHere_58 (by decide) ?_
        refine lv_iconst (v := 0) hx hb dX11_stepHere_59 (by decide) ?_
        refine lv_iconst (v := 0) hx hb dX11_stepHere_60 (by decide) ?_
        obtain ⟨q61, hq, hf⟩ := bd_some hf
        refine ow_gVI (As := [.int 4, .int 1, .int 25, .int 0, .int 0, .int 0]) (rest := []) (sg := (S_X11_stepHere cs a0 p0 i0_0 i0_1 i0_2 i0_3 q45.2 i0_5 i0_6 i0_7 i0_8 i0_19 i0_20 i0_28 i0_33 i0_34 i0_35 i0_36 i0_37 i0_38 i0_39 i0_40 i0_41 i0_42 i0_43 v0_9)) (sc := (S_X11_isWord cs a0 p0 i0_0 i0_1 i0_2 i0_3 q45.2 i0_5 i0_6 i0_7 i0_8 i0_19 i0_20 i0_28 i0_33 i0_34 i0_35 i0_36 i0_37 i0_38 i0_39 i0_40 i0_41 i0_42 i0_43 v0_9)) (sc' := (S_X11_isWord cs a0 p0 i0_0 i0_1 i0_2 i0_3 q61.2 i0_5 i0_6 i0_7 i0_8 i0_19 i0_20 i0_28 i0_33 i0_34 i0_35 i0_36 i0_37 i0_38 i0_39 i0_40 i0_41 i0_42 i0_43 v0_9)) (sr := ow_pks (S_X11_stepHere cs a0 p0 i0_0 i0_1 i0_2 i0_3 q45.2 i0_5 i0_6 i0_7 i0_8 i0_19 i0_20 i0_28 i0_33 i0_34 i0_35 i0_36 i0_37 i0_38 i0_39 i0_40 i0_41 i0_42 i0_43 v0_9) []) (sf := (S_X11_stepHere cs a0 p0 i0_0 i0_1 i0_2 i0_3 q61.2 i0_5 i0_6 i0_7 i0_8 i0_19 i0_20 i0_28 i0_33 i0_34 i0_35 i0_36 i0_37 i0_38 i0_39 i0_40 i0_41 i0_42 i0_43 v0_9)) (r := q61.1) C0 (c_X11_isWord l D cs H.size a0 p0 i0_0 i0_1 i0_2 i0_3 q45.2 i0_5 i0_6 i0_7 i0_8 i0_19 i0_20 i0_28 i0_33 i0_34 i0_35 i0_36 i0_37 i0_38 i0_39 i0_40 i0_41 i0_42 i0_43 v0_9 (4) (1) (25) (0) (0) (0) q61 hq) (cwV 6 hts gX11_stepHere_X11_isWord rfl rfl rfl (by decide +kernel) ⟨Nat.le_of_ble_eq_true rfl, Nat.le_of_ble_eq_true rfl⟩) 11 rfl rfl hP hD hS (sg_permL [0, 1] [] 2 rfl (by decide) rfl rfl) (sg_permG [0, 1] 2 rfl (by decide) rfl) rfl hl.1 rfl (Nat.le_of_ble_eq_true rfl) ⟨Nat.zero_le _, Nat.zero_le _⟩ dX11_stepHere_61 (fun H locs (hP : va_P D vwCl (W_X11_stepHere cs a0 p0 i0_0 i0_1 i0_2 i0_3 q61.2 i0_5 i0_6 i0_7 i0_8 i0_19 i0_20 i0_28 i0_33 i0_34 i0_35 i0_36 i0_37 i0_38 i0_39 i0_40 i0_41 i0_42 i0_43 v0_9) H) (hD : va_D _ (W_X11_stepHere cs a0 p0 i0_0 i0_1 i0_2 i0_3 q61.2 i0_5 i0_6 i0_7 i0_8 i0_19 i0_20 i0_28 i0_33 i0_34 i0_35 i0_36 i0_37 i0_38 i0_39 i0_40 i0_41 i0_42 i0_43 v0_9)) hS => ?_)
        refine lv_if_eq (tgt := 69) hx hb dX11_stepHere_64 (by decide) (fun hc => ?_) (fun hc => ?_)
        · replace hf := ow_t hc hf
          refine lv_aload_n hx hb dX11_stepHere_69 rfl (lv_at hl 0 rfl) ?_
          refine lv_bipush (v := 18) hx hb dX11_stepHere_70 (by decide) ?_
          refine lv_bipush (v := 9) hx hb dX11_stepHere_72 (by decide) ?_
          refine lv_bipush (v := 14) hx hb dX11_stepHere_74 (by decide) ?_
          refine lv_bipush (v := 19) hx hb dX11_stepHere_76 (by decide) ?_
          refine lv_iconst (v := 5) hx hb dX11_stepHere_78 (by decide) ?_
          refine lv_iconst (v := 0) hx hb dX11_stepHere_79 (by decide) ?_
          obtain ⟨q80, hq, hf⟩ := bd_some hf
          refine ow_gVI (As := [.int 18, .int 9, .int 14, .int 19, .int 5, .int 0]) (rest := []) (sg := (S_X11_stepHere cs a0 p0 i0_0 i0_1 i0_2 i0_3 q61.2 i0_5 i0_6 i0_7 i0_8 i0_19 i0_20 i0_28 i0_33 i0_34 i0_35 i0_36 i0_37 i0_38 i0_39 i0_40 i0_41 i0_42 i0_43 v0_9)) (sc := (S_X11_isWord cs a0 p0 i0_0 i0_1 i0_2 i0_3 q61.2 i0_5 i0_6 i0_7 i0_8 i0_19 i0_20 i0_28 i0_33 i0_34 i0_35 i0_36 i0_37 i0_38 i0_39 i0_40 i0_41 i0_42 i0_43 v0_9)) (sc' := (S_X11_isWord cs a0 p0 i0_0 i0_1 i0_2 i0_3 q80.2 i0_5 i0_6 i0_7 i0_8 i0_19 i0_20 i0_28 i0_33 i0_34 i0_35 i0_36 i0_37 i0_38 i0_39 i0_40 i0_41 i0_42 i0_43 v0_9)) (sr := ow_pks (S_X11_stepHere cs a0 p0 i0_0 i0_1 i0_2 i0_3 q61.2 i0_5 i0_6 i0_7 i0_8 i0_19 i0_20 i0_28 i0_33 i0_34 i0_35 i0_36 i0_37 i0_38 i0_39 i0_40 i0_41 i0_42 i0_43 v0_9) []) (sf := (S_X11_stepHere cs a0 p0 i0_0 i0_1 i0_2 i0_3 q80.2 i0_5 i0_6 i0_7 i0_8 i0_19 i0_20 i0_28 i0_33 i0_34 i0_35 i0_36 i0_37 i0_38 i0_39 i0_40 i0_41 i0_42 i0_43 v0_9)) (r := q80.1) C0 (c_X11_isWord l D cs H.size a0 p0 i0_0 i0_1 i0_2 i0_3 q61.2 i0_5 i0_6 i0_7 i0_8 i0_19 i0_20 i0_28 i0_33 i0_34 i0_35 i0_36 i0_37 i0_38 i0_39 i0_40 i0_41 i0_42 i0_43 v0_9 (18) (9) (14) (19) (5) (0) q80 hq) (cwV 6 hts gX11_stepHere_X11_isWord rfl rfl rfl (by decide +kernel) ⟨Nat.le_of_ble_eq_true rfl, Nat.le_of_ble_eq_true rfl⟩) 11 rfl rfl hP hD hS (sg_permL [0, 1] [] 2 rfl (by decide) rfl rfl) (sg_permG [0, 1] 2 rfl (by decide) rfl) rfl hl.1 rfl (Nat.le_of_ble_eq_true rfl) ⟨Nat.zero_le _, Nat.zero_le _⟩ dX11_stepHere_80 (fun H locs (hP : va_P D vwCl (W_X11_stepHere cs a0 p0 i0_0 i0_1 i0_2 i0_3 q80.2 i0_5 i0_6 i0_7 i0_8 i0_19 i0_20 i0_28 i0_33 i0_34 i0_35 i0_36 i0_37 i0_38 i0_39 i0_40 i0_41 i0_42 i0_43 v0_9) H) (hD : va_D _ (W_X11_stepHere cs a0 p0 i0_0 i0_1 i0_2 i0_3 q80.2 i0_5 i0_6 i0_7 i0_8 i0_19 i0_20 i0_28 i0_33 i0_34 i0_35 i0_36 i0_37 i0_38 i0_39 i0_40 i0_41 i0_42 i0_43 v0_9)) hS => ?_)
          refine lv_if_eq (tgt := 88) hx hb dX11_stepHere_83 (by decide) (fun hc => ?_) (fun hc => ?_)
          · replace hf := ow_t hc hf
            refine lv_aload_n hx hb dX11_stepHere_88 rfl (lv_at hl 0 rfl) ?_
            refine lv_iconst (v := 2) hx hb dX11_stepHere_89 (by decide) ?_
            refine lv_bipush (v := 18) hx hb dX11_stepHere_90 (by decide) ?_
            refine lv_iconst (v := 5) hx hb dX11_stepHere_92 (by decide) ?_
            refine lv_iconst (v := 1) hx hb dX11_stepHere_93 (by decide) ?_
            refine lv_bipush (v := 11) hx hb dX11_stepHere_94 (by decide) ?_
            refine lv_iconst (v := 0) hx hb dX11_stepHere_96 (by decide) ?_
            obtain ⟨q97, hq, hf⟩ := bd_some hf
            refine ow_gVI (As := [.int 2, .int 18, .int 5, .int 1, .int 11, .int 0]) (rest := []) (sg := (S_X11_stepHere cs a0 p0 i0_0 i0_1 i0_2 i0_3 q80.2 i0_5 i0_6 i0_7 i0_8 i0_19 i0_20 i0_28 i0_33 i0_34 i0_35 i0_36 i0_37 i0_38 i0_39 i0_40 i0_41 i0_42 i0_43 v0_9)) (sc := (S_X11_isWord cs a0 p0 i0_0 i0_1 i0_2 i0_3 q80.2 i0_5 i0_6 i0_7 i0_8 i0_19 i0_20 i0_28 i0_33 i0_34 i0_35 i0_36 i0_37 i0_38 i0_39 i0_40 i0_41 i0_42 i0_43 v0_9)) (sc' := (S_X11_isWord cs a0 p0 i0_0 i0_1 i0_2 i0_3 q97.2 i0_5 i0_6 i0_7 i0_8 i0_19 i0_20 i0_28 i0_33 i0_34 i0_35 i0_36 i0_37 i0_38 i0_39 i0_40 i0_41 i0_42 i0_43 v0_9)) (sr := ow_pks (S_X11_stepHere cs a0 p0 i0_0 i0_1 i0_2 i0_3 q80.2 i0_5 i0_6 i0_7 i0_8 i0_19 i0_20 i0_28 i0_33 i0_34 i0_35 i0_36 i0_37 i0_38 i0_39 i0_40 i0_41 i0_42 i0_43 v0_9) []) (sf := (S_X11_stepHere cs a0 p0 i0_0 i0_1 i0_2 i0_3 q97.2 i0_5 i0_6 i0_7 i0_8 i0_19 i0_20 i0_28 i0_33 i0_34 i0_35 i0_36 i0_37 i0_38 i0_39 i0_40 i0_41 i0_42 i0_43 v0_9)) (r := q97.1) C0 (c_X11_isWord l D cs H.size a0 p0 i0_0 i0_1 i0_2 i0_3 q80.2 i0_5 i0_6 i0_7 i0_8 i0_19 i0_20 i0_28 i0_33 i0_34 i0_35 i0_36 i0_37 i0_38 i0_39 i0_40 i0_41 i0_42 i0_43 v0_9 (2) (18) (5) (1) (11) (0) q97 hq) (cwV 6 hts gX11_stepHere_X11_isWord rfl rfl rfl (by decide +kernel) ⟨Nat.le_of_ble_eq_true rfl, Nat.le_of_ble_eq_true rfl⟩) 11 rfl rfl hP hD hS (sg_permL [0, 1] [] 2 rfl (by decide) rfl rfl) (sg_permG [0, 1] 2 rfl (by decide) rfl) rfl hl.1 rfl (Nat.le_of_ble_eq_true rfl) ⟨Nat.zero_le _, Nat.zero_le _⟩ dX11_stepHere_97 (fun H locs (hP : va_P D vwCl (W_X11_stepHere cs a0 p0 i0_0 i0_1 i0_2 i0_3 q97.2 i0_5 i0_6 i0_7 i0_8 i0_19 i0_20 i0_28 i0_33 i0_34 i0_35 i0_36 i0_37 i0_38 i0_39 i0_40 i0_41 i0_42 i0_43 v0_9) H) (hD : va_D _ (W_X11_stepHere cs a0 p0 i0_0 i0_1 i0_2 i0_3 q97.2 i0_5 i0_6 i0_7 i0_8 i0_19 i0_20 i0_28 i0_33 i0_34 i0_35 i0_36 i0_37 i0_38 i0_39 i0_40 i0_41 i0_42 i0_43 v0_9)) hS => ?_)
            refine lv_if_eq (tgt := 105) hx hb dX11_stepHere_100 (by decide) (fun hc => ?_) (fun hc => ?_)
            · replace hf := ow_t hc hf
              refine lv_aload_n hx hb dX11_stepHere_105 rfl (lv_at hl 0 rfl) ?_
              refine lv_iconst (v := 1) hx hb dX11_stepHere_106 (by decide) ?_
              refine lv_bipush (v := 7) hx hb dX11_stepHere_107 (by decide) ?_
              refine lv_iconst (v := 1) hx hb dX11_stepHere_109 (by decide) ?_
              refine lv_bipush (v := 9) hx hb dX11_stepHere_110 (by decide) ?_
              refine lv_bipush (v := 14) hx hb dX11_stepHere_112 (by decide) ?_
              refine lv_iconst (v := 0) hx hb dX11_stepHere_114 (by decide) ?_
              obtain ⟨q115, hq, hf⟩ := bd_some hf
              refine ow_gVI (As := [.int 1, .int 7, .int 1, .int 9, .int 14, .int 0]) (rest := []) (sg := (S_X11_stepHere cs a0 p0 i0_0 i0_1 i0_2 i0_3 q97.2 i0_5 i0_6 i0_7 i0_8 i0_19 i0_20 i0_28 i0_33 i0_34 i0_35 i0_36 i0_37 i0_38 i0_39 i0_40 i0_41 i0_42 i0_43 v0_9)) (sc := (S_X11_isWord cs a0 p0 i0_0 i0_1 i0_2 i0_3 q97.2 i0_5 i0_6 i0_7 i0_8 i0_19 i0_20 i0_28 i0_33 i0_34 i0_35 i0_36 i0_37 i0_38 i0_39 i0_40 i0_41 i0_42 i0_43 v0_9)) (sc' := (S_X11_isWord cs a0 p0 i0_0 i0_1 i0_2 i0_3 q115.2 i0_5 i0_6 i0_7 i0_8 i0_19 i0_20 i0_28 i0_33 i0_34 i0_35 i0_36 i0_37 i0_38 i0_39 i0_40 i0_41 i0_42 i0_43 v0_9)) (sr := ow_pks (S_X11_stepHere cs a0 p0 i0_0 i0_1 i0_2 i0_3 q97.2 i0_5 i0_6 i0_7 i0_8 i0_19 i0_20 i0_28 i0_33 i0_34 i0_35 i0_36 i0_37 i0_38 i0_39 i0_40 i0_41 i0_42 i0_43 v0_9) []) (sf := (S_X11_stepHere cs a0 p0 i0_0 i0_1 i0_2 i0_3 q115.2 i0_5 i0_6 i0_7 i0_8 i0_19 i0_20 i0_28 i0_33 i0_34 i0_35 i0_36 i0_37 i0_38 i0_39 i0_40 i0_41 i0_42 i0_43 v0_9)) (r := q115.1) C0 (c_X11_isWord l D cs H.size a0 p0 i0_0 i0_1 i0_2 i0_3 q97.2 i0_5 i0_6 i0_7 i0_8 i0_19 i0_20 i0_28 i0_33 i0_34 i0_35 i0_36 i0_37 i0_38 i0_39 i0_40 i0_41 i0_42 i0_43 v0_9 (1) (7) (1) (9) (14) (0) q115 hq) (cwV 6 hts gX11_stepHere_X11_isWord rfl rfl rfl (by decide +kernel) ⟨Nat.le_of_ble_eq_true rfl, Nat.le_of_ble_eq_true rfl⟩) 11 rfl rfl hP hD hS (sg_permL [0, 1] [] 2 rfl (by decide) rfl rfl) (sg_permG [0, 1] 2 rfl (by decide) rfl) rfl hl.1 rfl (Nat.le_of_ble_eq_true rfl) ⟨Nat.zero_le _, Nat.zero_le _⟩ dX11_stepHere_115 (fun H locs (hP : va_P D vwCl (W_X11_stepHere cs a0 p0 i0_0 i0_1 i0_2 i0_3 q115.2 i0_5 i0_6 i0_7 i0_8 i0_19 i0_20 i0_28 i0_33 i0_34 i0_35 i0_36 i0_37 i0_38 i0_39 i0_40 i0_41 i0_42 i0_43 v0_9) H) (hD : va_D _ (W_X11_stepHere cs a0 p0 i0_0 i0_1 i0_2 i0_3 q115.2 i0_5 i0_6 i0_7 i0_8 i0_19 i0_20 i0_28 i0_33 i0_34 i0_35 i0_36 i0_37 i0_38 i0_39 i0_40 i0_41 i0_42 i0_43 v0_9)) hS => ?_)
              refine lv_if_eq (tgt := 126) hx hb dX11_stepHere_118 (by decide) (fun hc => ?_) (fun hc => ?_)
              · replace hf := ow_t hc hf
                refine lv_iconst (v := (-1)) hx hb dX11_stepHere_126 (by decide) ?_
                obtain rfl := Option.some.inj hf
                exact ow_retI C0 hP hD hS dX11_stepHere_127
              · replace hf := ow_f hc hf
                refine lv_bipush (v := 6) hx hb dX11_stepHere_121 (by decide) ?_
                refine lv_goto (tgt := 127) hx hb dX11_stepHere_123 (by decide) ?_
                obtain rfl := Option.some.inj hf
                exact ow_retI C0 hP hD hS dX11_stepHere_127
            · replace hf := ow_f hc hf
              refine lv_iconst (v := 5) hx hb dX11_stepHere_103 (by decide) ?_
              obtain rfl := Option.some.inj hf
              exact ow_retI C0 hP hD hS dX11_stepHere_104
          · replace hf := ow_f hc hf
            refine lv_iconst (v := 4) hx hb dX11_stepHere_86 (by decide) ?_
            obtain rfl := Option.some.inj hf
            exact ow_retI C0 hP hD hS dX11_stepHere_87
        · replace hf := ow_f hc hf
          refine lv_iconst (v := 3) hx hb dX11_stepHere_67 (by decide) ?_
          obtain rfl := Option.some.inj hf
          exact ow_retI C0 hP hD hS dX11_stepHere_68
      · replace hf := ow_f hc hf
        refine lv_iconst (v := 2) hx hb dX11_stepHere_51 (by decide) ?_
        obtain rfl := Option.some.inj hf
        exact ow_retI C0 hP hD hS dX11_stepHere_52
    · replace hf := ow_f hc hf
      refine lv_iconst (v := 1) hx hb dX11_stepHere_33 (by decide) ?_
      obtain rfl := Option.some.inj hf
      exact ow_retI C0 hP hD hS dX11_stepHere_34
  · replace hf := ow_f hc hf
    refine lv_iconst (v := 0) hx hb dX11_stepHere_16 (by decide) ?_
    obtain rfl := Option.some.inj hf
    exact ow_retI C0 hP hD hS dX11_stepHere_17
theorem in_X11_wrong_X11 : ∀ w ∈ u_ws RX11 TX11 44, w ∈ wsX11_wrong := fun w h => List.mem_cons_of_mem _ (List.mem_append_right _ h)
abbrev W_X11_wrong (cs : Nat → ClassId) (a0 : Nat) (p0 : Nat → Nat) (i0_0 : Int32) (i0_1 : Int32) (i0_2 : Int32) (i0_3 : Int32) (i0_4 : Int32) (i0_5 : Int32) (i0_6 : Int32) (i0_7 : Int32) (i0_8 : Int32) (i0_19 : Int32) (i0_20 : Int32) (i0_28 : Int32) (i0_33 : Int32) (i0_34 : Int32) (i0_35 : Int32) (i0_36 : Int32) (i0_37 : Int32) (i0_38 : Int32) (i0_39 : Int32) (i0_40 : Int32) (i0_41 : Int32) (i0_42 : Int32) (i0_43 : Int32) : va_W := [(a0, .inr (11, [.int i0_0, .int i0_1, .int i0_2, .int i0_3, .int i0_4, .int i0_5, .int i0_6, .int i0_7, .int i0_8, .ref (p0 9), .ref (p0 10), .ref (p0 11), .ref (p0 12), .ref (p0 13), .ref (p0 14), .ref (p0 15), .ref (p0 16), .ref (p0 17), .ref (p0 18), .int i0_19, .int i0_20, .ref (p0 21), .ref (p0 22), .ref (p0 23), .ref (p0 24), .ref (p0 25), .ref (p0 26), .ref (p0 27), .int i0_28, .ref (p0 29), .ref (p0 30), .ref (p0 31), .ref (p0 32), .int i0_33, .int i0_34, .int i0_35, .int i0_36, .int i0_37, .int i0_38, .int i0_39, .int i0_40, .int i0_41, .int i0_42, .int i0_43]))]
abbrev S_X11_wrong (cs : Nat → ClassId) (a0 : Nat) (p0 : Nat → Nat) (i0_0 : Int32) (i0_1 : Int32) (i0_2 : Int32) (i0_3 : Int32) (i0_4 : Int32) (i0_5 : Int32) (i0_6 : Int32) (i0_7 : Int32) (i0_8 : Int32) (i0_19 : Int32) (i0_20 : Int32) (i0_28 : Int32) (i0_33 : Int32) (i0_34 : Int32) (i0_35 : Int32) (i0_36 : Int32) (i0_37 : Int32) (i0_38 : Int32) (i0_39 : Int32) (i0_40 : Int32) (i0_41 : Int32) (i0_42 : Int32) (i0_43 : Int32) : List va_W := [[(a0, .inr (11, [.int i0_0, .int i0_1, .int i0_2, .int i0_3, .int i0_4, .int i0_5, .int i0_6, .int i0_7, .int i0_8, .ref (p0 9), .ref (p0 10), .ref (p0 11), .ref (p0 12), .ref (p0 13), .ref (p0 14), .ref (p0 15), .ref (p0 16), .ref (p0 17), .ref (p0 18), .int i0_19, .int i0_20, .ref (p0 21), .ref (p0 22), .ref (p0 23), .ref (p0 24), .ref (p0 25), .ref (p0 26), .ref (p0 27), .int i0_28, .ref (p0 29), .ref (p0 30), .ref (p0 31), .ref (p0 32), .int i0_33, .int i0_34, .int i0_35, .int i0_36, .int i0_37, .int i0_38, .int i0_39, .int i0_40, .int i0_41, .int i0_42, .int i0_43]))]]
abbrev rm_X11_wrong : Room := { frames := 0, cells := 0, slots := 0, locals := 0 }
def f_X11_wrong  (i0_5 : Int32) (i0_6 : Int32) (x1 : Int32) (x2 : Int32) : Option (Int32 × Int32) := if i0_5 = 0 then (some (x1, x2)) else (some (i0_5, i0_6))
set_option maxHeartbeats 4000000 in
set_option maxRecDepth 100000 in
theorem c_X11_wrong (l : Launch) (D : va_G) (cs : Nat → ClassId)  (sz : Nat) (a0 : Nat) (p0 : Nat → Nat) (i0_0 : Int32) (i0_1 : Int32) (i0_2 : Int32) (i0_3 : Int32) (i0_4 : Int32) (i0_5 : Int32) (i0_6 : Int32) (i0_7 : Int32) (i0_8 : Int32) (i0_19 : Int32) (i0_20 : Int32) (i0_28 : Int32) (i0_33 : Int32) (i0_34 : Int32) (i0_35 : Int32) (i0_36 : Int32) (i0_37 : Int32) (i0_38 : Int32) (i0_39 : Int32) (i0_40 : Int32) (i0_41 : Int32) (i0_42 : Int32) (i0_43 : Int32) (x1 : Int32) (x2 : Int32) (res : Int32 × Int32) (hf : f_X11_wrong  i0_5 i0_6 x1 x2 = some res) : MV l D cs yX11_wrong wsX11_wrong rm_X11_wrong [.ref a0, .int x1, .int x2] sz (W_X11_wrong cs a0 p0 i0_0 i0_1 i0_2 i0_3 i0_4 i0_5 i0_6 i0_7 i0_8 i0_19 i0_20 i0_28 i0_33 i0_34 i0_35 i0_36 i0_37 i0_38 i0_39 i0_40 i0_41 i0_42 i0_43) (W_X11_wrong cs a0 p0 i0_0 i0_1 i0_2 i0_3 i0_4 res.1 res.2 i0_7 i0_8 i0_19 i0_20 i0_28 i0_33 i0_34 i0_35 i0_36 i0_37 i0_38 i0_39 i0_40 i0_41 i0_42 i0_43) := by
  rw [f_X11_wrong] at hf
  refine ow_enter (cc := cX11_wrong) (nL := 3) (ret := none) (by decide) rfl (Nat.le_of_ble_eq_true rfl) (fun p e s m below meth c ls H locs C0 hP hD hS hA hl => ?_)
  obtain ⟨hx, hb, hr, hlk, hml, hown, hts, hK, hG, hE⟩ := id C0
  have hl : lv_has ls 3 [(0, .ref a0), (1, .int x1), (2, .int x2)] := hl
  refine lv_aload_n hx hb dX11_wrong_0 rfl (lv_at hl 0 rfl) ?_
  refine va_get (D := D) (ci := 11) (v := .int i0_5) (C := RX11) (T := TX11) (N := 44) hx hb hts in_X11_wrong_X11 hown hK hP 0 rfl rfl 5 (by decide) (hts (.fieldLink RX11 101 "PaneDaysModel" "fault" "I") (List.mem_of_getElem? (i := 1) rfl)) (fun _ h9 => h9) rfl dX11_wrong_1 ?_
  refine lv_if_ne (tgt := 17) hx hb dX11_wrong_4 (by decide) (fun hc => ?_) (fun hc => ?_)
  · replace hf := ow_f hc hf
    obtain rfl := Option.some.inj hf
    exact ow_retV C0 hP hD hS dX11_wrong_17
  · replace hf := ow_t hc hf
    refine lv_aload_n hx hb dX11_wrong_7 rfl (lv_at hl 0 rfl) ?_
    refine lv_iload_n hx hb dX11_wrong_8 rfl (lv_at hl 1 rfl) ?_
    refine va_put (D := D) (ci := 11) (v := .int x1) (ty := .int) (C := RX11) (T := TX11) (N := 44) hx hb hts in_X11_wrong_X11 tyX11 tyX11_ok nmX11 hown hK hP hD hS 0 rfl rfl 5 (by decide) (hts (.fieldLink RX11 101 "PaneDaysModel" "fault" "I") (List.mem_of_getElem? (i := 1) rfl)) (fun _ h9 => h9) rfl (by decide +kernel) rfl rfl (Nat.le_of_ble_eq_true rfl) dX11_wrong_9 (fun H locs (hP : va_P D vwCl (W_X11_wrong cs a0 p0 i0_0 i0_1 i0_2 i0_3 i0_4 x1 i0_6 i0_7 i0_8 i0_19 i0_20 i0_28 i0_33 i0_34 i0_35 i0_36 i0_37 i0_38 i0_39 i0_40 i0_41 i0_42 i0_43) H) (hD : va_D _ (W_X11_wrong cs a0 p0 i0_0 i0_1 i0_2 i0_3 i0_4 x1 i0_6 i0_7 i0_8 i0_19 i0_20 i0_28 i0_33 i0_34 i0_35 i0_36 i0_37 i0_38 i0_39 i0_40 i0_41 i0_42 i0_43)) hS => ?_)
    refine lv_aload_n hx hb dX11_wrong_12 rfl (lv_at hl 0 rfl) ?_
    refine lv_iload_n hx hb dX11_wrong_13 rfl (lv_at hl 2 rfl) ?_
    refine va_put (D := D) (ci := 11) (v := .int x2) (ty := .int) (C := RX11) (T := TX11) (N := 44) hx hb hts in_X11_wrong_X11 tyX11 tyX11_ok nmX11 hown hK hP hD hS 0 rfl rfl 6 (by decide) (hts (.fieldLink RX11 104 "PaneDaysModel" "faultAt" "I") (List.mem_of_getElem? (i := 2) rfl)) (fun _ h9 => h9) rfl (by decide +kernel) rfl rfl (Nat.le_of_ble_eq_true rfl) dX11_wrong_14 (fun H locs (hP : va_P D vwCl (W_X11_wrong cs a0 p0 i0_0 i0_1 i0_2 i0_3 i0_4 x1 x2 i0_7 i0_8 i0_19 i0_20 i0_28 i0_33 i0_34 i0_35 i0_36 i0_37 i0_38 i0_39 i0_40 i0_41 i0_42 i0_43) H) (hD : va_D _ (W_X11_wrong cs a0 p0 i0_0 i0_1 i0_2 i0_3 i0_4 x1 x2 i0_7 i0_8 i0_19 i0_20 i0_28 i0_33 i0_34 i0_35 i0_36 i0_37 i0_38 i0_39 i0_40 i0_41 i0_42 i0_43)) hS => ?_)
    obtain rfl := Option.some.inj hf
    exact ow_retV C0 hP hD hS dX11_wrong_17
theorem in_X11_opens_X11 : ∀ w ∈ u_ws RX11 TX11 44, w ∈ wsX11_opens := fun w h => List.mem_cons_of_mem _ (List.mem_append_right _ h)
abbrev W_X11_opens (cs : Nat → ClassId) (a0 : Nat) (p0 : Nat → Nat) (i0_0 : Int32) (i0_1 : Int32) (i0_2 : Int32) (i0_3 : Int32) (i0_4 : Int32) (i0_5 : Int32) (i0_6 : Int32) (i0_7 : Int32) (i0_8 : Int32) (i0_19 : Int32) (i0_20 : Int32) (i0_28 : Int32) (i0_33 : Int32) (i0_34 : Int32) (i0_35 : Int32) (i0_36 : Int32) (i0_37 : Int32) (i0_38 : Int32) (i0_39 : Int32) (i0_40 : Int32) (i0_41 : Int32) (i0_42 : Int32) (i0_43 : Int32) : va_W := [(a0, .inr (11, [.int i0_0, .int i0_1, .int i0_2, .int i0_3, .int i0_4, .int i0_5, .int i0_6, .int i0_7, .int i0_8, .ref (p0 9), .ref (p0 10), .ref (p0 11), .ref (p0 12), .ref (p0 13), .ref (p0 14), .ref (p0 15), .ref (p0 16), .ref (p0 17), .ref (p0 18), .int i0_19, .int i0_20, .ref (p0 21), .ref (p0 22), .ref (p0 23), .ref (p0 24), .ref (p0 25), .ref (p0 26), .ref (p0 27), .int i0_28, .ref (p0 29), .ref (p0 30), .ref (p0 31), .ref (p0 32), .int i0_33, .int i0_34, .int i0_35, .int i0_36, .int i0_37, .int i0_38, .int i0_39, .int i0_40, .int i0_41, .int i0_42, .int i0_43]))]
abbrev S_X11_opens (cs : Nat → ClassId) (a0 : Nat) (p0 : Nat → Nat) (i0_0 : Int32) (i0_1 : Int32) (i0_2 : Int32) (i0_3 : Int32) (i0_4 : Int32) (i0_5 : Int32) (i0_6 : Int32) (i0_7 : Int32) (i0_8 : Int32) (i0_19 : Int32) (i0_20 : Int32) (i0_28 : Int32) (i0_33 : Int32) (i0_34 : Int32) (i0_35 : Int32) (i0_36 : Int32) (i0_37 : Int32) (i0_38 : Int32) (i0_39 : Int32) (i0_40 : Int32) (i0_41 : Int32) (i0_42 : Int32) (i0_43 : Int32) : List va_W := [[(a0, .inr (11, [.int i0_0, .int i0_1, .int i0_2, .int i0_3, .int i0_4, .int i0_5, .int i0_6, .int i0_7, .int i0_8, .ref (p0 9), .ref (p0 10), .ref (p0 11), .ref (p0 12), .ref (p0 13), .ref (p0 14), .ref (p0 15), .ref (p0 16), .ref (p0 17), .ref (p0 18), .int i0_19, .int i0_20, .ref (p0 21), .ref (p0 22), .ref (p0 23), .ref (p0 24), .ref (p0 25), .ref (p0 26), .ref (p0 27), .int i0_28, .ref (p0 29), .ref (p0 30), .ref (p0 31), .ref (p0 32), .int i0_33, .int i0_34, .int i0_35, .int i0_36, .int i0_37, .int i0_38, .int i0_39, .int i0_40, .int i0_41, .int i0_42, .int i0_43]))]]
abbrev rm_X11_opens : Room := { frames := 1, cells := 0, slots := 0, locals := 22 }
def f_X11_opens_b45  (i0_4 : Int32)  (i0_5 : Int32) (i0_6 : Int32) (i0_8 : Int32)  : Option (Int32 × Int32 × Int32 × Int32) := if i0_5 = 0 then (some (1, i0_5, i0_6, i0_8)) else (some (0, i0_5, i0_6, i0_8))
set_option maxHeartbeats 4000000 in
set_option maxRecDepth 100000 in
theorem w_X11_opens_b45 {p : Program} {l : Launch} {e : Env} {s : State} {m : MethodId} {below : List Frame} {meth : Method} {c : Code} {D : va_G} {cs : Nat → ClassId} {av : Array Value} {w0 : va_W} (C0 : Cx p s m meth c av wsX11_opens cX11_opens 1 (some .boolean) RX11 D cs w0)  (a0 : Nat) (p0 : Nat → Nat) (i0_0 : Int32) (i0_1 : Int32) (i0_2 : Int32) (i0_3 : Int32) (i0_4 : Int32) (i0_7 : Int32) (i0_19 : Int32) (i0_20 : Int32) (i0_28 : Int32) (i0_33 : Int32) (i0_34 : Int32) (i0_35 : Int32) (i0_36 : Int32) (i0_37 : Int32) (i0_38 : Int32) (i0_39 : Int32) (i0_40 : Int32) (i0_41 : Int32) (i0_42 : Int32) (i0_43 : Int32) (res : Int32 × Int32 × Int32 × Int32)  : ∀ (i0_5 : Int32) (i0_6 : Int32) (i0_8 : Int32), f_X11_opens_b45 i0_4 i0_5 i0_6 i0_8 = some res → ∀ (H : Heap) (locs : List Loc) (ls : Array Slot), va_P D vwCl (W_X11_opens cs a0 p0 i0_0 i0_1 i0_2 i0_3 i0_4 i0_5 i0_6 i0_7 i0_8 i0_19 i0_20 i0_28 i0_33 i0_34 i0_35 i0_36 i0_37 i0_38 i0_39 i0_40 i0_41 i0_42 i0_43) H → va_D (va_A w0 s.heap.size) (W_X11_opens cs a0 p0 i0_0 i0_1 i0_2 i0_3 i0_4 i0_5 i0_6 i0_7 i0_8 i0_19 i0_20 i0_28 i0_33 i0_34 i0_35 i0_36 i0_37 i0_38 i0_39 i0_40 i0_41 i0_42 i0_43) → va_S (va_A w0 s.heap.size) s.heap H locs → lv_has ls 1 [(0, .ref a0)] → W p l e rm_X11_opens s m av below meth c H locs 0 0 (MQ below (oI D cs w0 (W_X11_opens cs a0 p0 i0_0 i0_1 i0_2 i0_3 i0_4 res.2.1 res.2.2.1 i0_7 res.2.2.2 i0_19 i0_20 i0_28 i0_33 i0_34 i0_35 i0_36 i0_37 i0_38 i0_39 i0_40 i0_41 i0_42 i0_43) res.1 s.heap.size) av s 0 0 (va_A w0 s.heap.size)) (F0 m 45 ls []) := by
  obtain ⟨hx, hb, hr, hlk, hml, hown, hts, hK, hG, hE⟩ := id C0
  intro i0_5 i0_6 i0_8 hf H locs ls hP hD hS hl
  rw [f_X11_opens_b45] at hf
  refine lv_aload_n hx hb dX11_opens_45 rfl (lv_at hl 0 rfl) ?_
  refine va_get (D := D) (ci := 11) (v := .int i0_5) (C := RX11) (T := TX11) (N := 44) hx hb hts in_X11_opens_X11 hown hK hP 0 rfl rfl 5 (by decide) (hts (.fieldLink RX11 101 "PaneDaysModel" "fault" "I") (List.mem_of_getElem? (i := 1) rfl)) (fun _ h9 => h9) rfl dX11_opens_46 ?_
  refine lv_if_ne (tgt := 56) hx hb dX11_opens_49 (by decide) (fun hc => ?_) (fun hc => ?_)
  · replace hf := ow_f hc hf
    refine lv_iconst (v := 0) hx hb dX11_opens_56 (by decide) ?_
    obtain rfl := Option.some.inj hf
    exact ow_retZ C0 (Or.inl rfl) hP hD hS dX11_opens_57
  · replace hf := ow_t hc hf
    refine lv_iconst (v := 1) hx hb dX11_opens_52 (by decide) ?_
    refine lv_goto (tgt := 57) hx hb dX11_opens_53 (by decide) ?_
    obtain rfl := Option.some.inj hf
    exact ow_retZ C0 (Or.inr rfl) hP hD hS dX11_opens_57
def f_X11_opens_b28  (i0_4 : Int32)  (i0_5 : Int32) (i0_6 : Int32) (i0_8 : Int32)  : Option (Int32 × Int32 × Int32 × Int32) := if i0_5 = 0 then (f_X11_opens_b45 i0_4 i0_5 i0_6 (i0_8 + 1)) else (f_X11_opens_b45 i0_4 i0_5 i0_6 i0_8)
set_option maxHeartbeats 4000000 in
set_option maxRecDepth 100000 in
theorem w_X11_opens_b28 {p : Program} {l : Launch} {e : Env} {s : State} {m : MethodId} {below : List Frame} {meth : Method} {c : Code} {D : va_G} {cs : Nat → ClassId} {av : Array Value} {w0 : va_W} (C0 : Cx p s m meth c av wsX11_opens cX11_opens 1 (some .boolean) RX11 D cs w0)  (a0 : Nat) (p0 : Nat → Nat) (i0_0 : Int32) (i0_1 : Int32) (i0_2 : Int32) (i0_3 : Int32) (i0_4 : Int32) (i0_7 : Int32) (i0_19 : Int32) (i0_20 : Int32) (i0_28 : Int32) (i0_33 : Int32) (i0_34 : Int32) (i0_35 : Int32) (i0_36 : Int32) (i0_37 : Int32) (i0_38 : Int32) (i0_39 : Int32) (i0_40 : Int32) (i0_41 : Int32) (i0_42 : Int32) (i0_43 : Int32) (res : Int32 × Int32 × Int32 × Int32)  : ∀ (i0_5 : Int32) (i0_6 : Int32) (i0_8 : Int32), f_X11_opens_b28 i0_4 i0_5 i0_6 i0_8 = some res → ∀ (H : Heap) (locs : List Loc) (ls : Array Slot), va_P D vwCl (W_X11_opens cs a0 p0 i0_0 i0_1 i0_2 i0_3 i0_4 i0_5 i0_6 i0_7 i0_8 i0_19 i0_20 i0_28 i0_33 i0_34 i0_35 i0_36 i0_37 i0_38 i0_39 i0_40 i0_41 i0_42 i0_43) H → va_D (va_A w0 s.heap.size) (W_X11_opens cs a0 p0 i0_0 i0_1 i0_2 i0_3 i0_4 i0_5 i0_6 i0_7 i0_8 i0_19 i0_20 i0_28 i0_33 i0_34 i0_35 i0_36 i0_37 i0_38 i0_39 i0_40 i0_41 i0_42 i0_43) → va_S (va_A w0 s.heap.size) s.heap H locs → lv_has ls 1 [(0, .ref a0)] → W p l e rm_X11_opens s m av below meth c H locs 0 0 (MQ below (oI D cs w0 (W_X11_opens cs a0 p0 i0_0 i0_1 i0_2 i0_3 i0_4 res.2.1 res.2.2.1 i0_7 res.2.2.2 i0_19 i0_20 i0_28 i0_33 i0_34 i0_35 i0_36 i0_37 i0_38 i0_39 i0_40 i0_41 i0_42 i0_43) res.1 s.heap.size) av s 0 0 (va_A w0 s.heap.size)) (F0 m 28 ls []) := by
  obtain ⟨hx, hb, hr, hlk, hml, hown, hts, hK, hG, hE⟩ := id C0
  intro i0_5 i0_6 i0_8 hf H locs ls hP hD hS hl
  rw [f_X11_opens_b28] at hf
  refine lv_aload_n hx hb dX11_opens_28 rfl (lv_at hl 0 rfl) ?_
  refine va_get (D := D) (ci := 11) (v := .int i0_5) (C := RX11) (T := TX11) (N := 44) hx hb hts in_X11_opens_X11 hown hK hP 0 rfl rfl 5 (by decide) (hts (.fieldLink RX11 101 "PaneDaysModel" "fault" "I") (List.mem_of_getElem? (i := 1) rfl)) (fun _ h9 => h9) rfl dX11_opens_29 ?_
  refine lv_if_ne (tgt := 45) hx hb dX11_opens_32 (by decide) (fun hc => ?_) (fun hc => ?_)
  · replace hf := ow_f hc hf
    exact w_X11_opens_b45 C0 a0 p0 i0_0 i0_1 i0_2 i0_3 i0_4 i0_7 i0_19 i0_20 i0_28 i0_33 i0_34 i0_35 i0_36 i0_37 i0_38 i0_39 i0_40 i0_41 i0_42 i0_43 res i0_5 i0_6 i0_8  hf _ _ _ hP hD hS (lv_sub hl [0] rfl)
  · replace hf := ow_t hc hf
    refine lv_aload_n hx hb dX11_opens_35 rfl (lv_at hl 0 rfl) ?_
    refine lv_dup hx hb dX11_opens_36 rfl ?_
    refine va_get (D := D) (ci := 11) (v := .int i0_8) (C := RX11) (T := TX11) (N := 44) hx hb hts in_X11_opens_X11 hown hK hP 0 rfl rfl 8 (by decide) (hts (.fieldLink RX11 144 "PaneDaysModel" "open" "I") (List.mem_of_getElem? (i := 2) rfl)) (fun _ h9 => h9) rfl dX11_opens_37 ?_
    refine lv_iconst (v := 1) hx hb dX11_opens_40 (by decide) ?_
    refine lv_iadd hx hb dX11_opens_41 ?_
    refine va_put (D := D) (ci := 11) (v := .int (i0_8 + 1)) (ty := .int) (C := RX11) (T := TX11) (N := 44) hx hb hts in_X11_opens_X11 tyX11 tyX11_ok nmX11 hown hK hP hD hS 0 rfl rfl 8 (by decide) (hts (.fieldLink RX11 144 "PaneDaysModel" "open" "I") (List.mem_of_getElem? (i := 2) rfl)) (fun _ h9 => h9) rfl (by decide +kernel) rfl rfl (Nat.le_of_ble_eq_true rfl) dX11_opens_42 (fun H locs (hP : va_P D vwCl (W_X11_opens cs a0 p0 i0_0 i0_1 i0_2 i0_3 i0_4 i0_5 i0_6 i0_7 (i0_8 + 1) i0_19 i0_20 i0_28 i0_33 i0_34 i0_35 i0_36 i0_37 i0_38 i0_39 i0_40 i0_41 i0_42 i0_43) H) (hD : va_D _ (W_X11_opens cs a0 p0 i0_0 i0_1 i0_2 i0_3 i0_4 i0_5 i0_6 i0_7 (i0_8 + 1) i0_19 i0_20 i0_28 i0_33 i0_34 i0_35 i0_36 i0_37 i0_38 i0_39 i0_40 i0_41 i0_42 i0_43)) hS => ?_)
    exact w_X11_opens_b45 C0 a0 p0 i0_0 i0_1 i0_2 i0_3 i0_4 i0_7 i0_19 i0_20 i0_28 i0_33 i0_34 i0_35 i0_36 i0_37 i0_38 i0_39 i0_40 i0_41 i0_42 i0_43 res i0_5 i0_6 (i0_8 + 1)  hf _ _ _ hP hD hS (lv_sub hl [0] rfl)
def f_X11_opens  (i0_4 : Int32) (i0_5 : Int32) (i0_6 : Int32) (i0_8 : Int32)  : Option (Int32 × Int32 × Int32 × Int32) := if i0_5 = 0 then (if i0_8 = 6 then ((f_X11_wrong i0_5 i0_6 (3) i0_4).bind fun q22 => f_X11_opens_b45 i0_4 q22.1 q22.2 i0_8) else (f_X11_opens_b28 i0_4 i0_5 i0_6 i0_8)) else (f_X11_opens_b28 i0_4 i0_5 i0_6 i0_8)
set_option maxHeartbeats 4000000 in
set_option maxRecDepth 100000 in
theorem c_X11_opens (l : Launch) (D : va_G) (cs : Nat → ClassId)  (sz : Nat) (a0 : Nat) (p0 : Nat → Nat) (i0_0 : Int32) (i0_1 : Int32) (i0_2 : Int32) (i0_3 : Int32) (i0_4 : Int32) (i0_5 : Int32) (i0_6 : Int32) (i0_7 : Int32) (i0_8 : Int32) (i0_19 : Int32) (i0_20 : Int32) (i0_28 : Int32) (i0_33 : Int32) (i0_34 : Int32) (i0_35 : Int32) (i0_36 : Int32) (i0_37 : Int32) (i0_38 : Int32) (i0_39 : Int32) (i0_40 : Int32) (i0_41 : Int32) (i0_42 : Int32) (i0_43 : Int32)  (res : Int32 × Int32 × Int32 × Int32) (hf : f_X11_opens  i0_4 i0_5 i0_6 i0_8  = some res) : MI l D cs yX11_opens wsX11_opens rm_X11_opens [.ref a0] sz (W_X11_opens cs a0 p0 i0_0 i0_1 i0_2 i0_3 i0_4 i0_5 i0_6 i0_7 i0_8 i0_19 i0_20 i0_28 i0_33 i0_34 i0_35 i0_36 i0_37 i0_38 i0_39 i0_40 i0_41 i0_42 i0_43) (W_X11_opens cs a0 p0 i0_0 i0_1 i0_2 i0_3 i0_4 res.2.1 res.2.2.1 i0_7 res.2.2.2 i0_19 i0_20 i0_28 i0_33 i0_34 i0_35 i0_36 i0_37 i0_38 i0_39 i0_40 i0_41 i0_42 i0_43) res.1 := by
  rw [f_X11_opens] at hf
  refine ow_enter (cc := cX11_opens) (nL := 1) (ret := (some .boolean)) (by decide) rfl (Nat.le_of_ble_eq_true rfl) (fun p e s m below meth c ls H locs C0 hP hD hS hA hl => ?_)
  obtain ⟨hx, hb, hr, hlk, hml, hown, hts, hK, hG, hE⟩ := id C0
  have hl : lv_has ls 1 [(0, .ref a0)] := hl
  refine lv_aload_n hx hb dX11_opens_0 rfl (lv_at hl 0 rfl) ?_
  refine va_get (D := D) (ci := 11) (v := .int i0_5) (C := RX11) (T := TX11) (N := 44) hx hb hts in_X11_opens_X11 hown hK hP 0 rfl rfl 5 (by decide) (hts (.fieldLink RX11 101 "PaneDaysModel" "fault" "I") (List.mem_of_getElem? (i := 1) rfl)) (fun _ h9 => h9) rfl dX11_opens_1 ?_
  refine lv_if_ne (tgt := 28) hx hb dX11_opens_4 (by decide) (fun hc => ?_) (fun hc => ?_)
  · replace hf := ow_f hc hf
    exact w_X11_opens_b28 C0 a0 p0 i0_0 i0_1 i0_2 i0_3 i0_4 i0_7 i0_19 i0_20 i0_28 i0_33 i0_34 i0_35 i0_36 i0_37 i0_38 i0_39 i0_40 i0_41 i0_42 i0_43 res i0_5 i0_6 i0_8  hf _ _ _ hP hD hS (lv_sub hl [0] rfl)
  · replace hf := ow_t hc hf
    refine lv_aload_n hx hb dX11_opens_7 rfl (lv_at hl 0 rfl) ?_
    refine va_get (D := D) (ci := 11) (v := .int i0_8) (C := RX11) (T := TX11) (N := 44) hx hb hts in_X11_opens_X11 hown hK hP 0 rfl rfl 8 (by decide) (hts (.fieldLink RX11 144 "PaneDaysModel" "open" "I") (List.mem_of_getElem? (i := 2) rfl)) (fun _ h9 => h9) rfl dX11_opens_8 ?_
    refine lv_bipush (v := 6) hx hb dX11_opens_11 (by decide) ?_
    refine lv_icmp_ne (tgt := 28) hx hb dX11_opens_13 (by decide) (fun hc => ?_) (fun hc => ?_)
    · replace hf := ow_f hc hf
      exact w_X11_opens_b28 C0 a0 p0 i0_0 i0_1 i0_2 i0_3 i0_4 i0_7 i0_19 i0_20 i0_28 i0_33 i0_34 i0_35 i0_36 i0_37 i0_38 i0_39 i0_40 i0_41 i0_42 i0_43 res i0_5 i0_6 i0_8  hf _ _ _ hP hD hS (lv_sub hl [0] rfl)
    · replace hf := ow_t hc hf
      refine lv_aload_n hx hb dX11_opens_16 rfl (lv_at hl 0 rfl) ?_
      refine lv_iconst (v := 3) hx hb dX11_opens_17 (by decide) ?_
      refine lv_aload_n hx hb dX11_opens_18 rfl (lv_at hl 0 rfl) ?_
      refine va_get (D := D) (ci := 11) (v := .int i0_4) (C := RX11) (T := TX11) (N := 44) hx hb hts in_X11_opens_X11 hown hK hP 0 rfl rfl 4 (by decide) (hts (.fieldLink RX11 94 "PaneDaysModel" "at" "I") (List.mem_of_getElem? (i := 3) rfl)) (fun _ h9 => h9) rfl dX11_opens_19 ?_
      obtain ⟨q22, hq, hf⟩ := bd_some hf
      refine ow_gVV (As := [.int 3, .int i0_4]) (rest := []) (sg := (S_X11_opens cs a0 p0 i0_0 i0_1 i0_2 i0_3 i0_4 i0_5 i0_6 i0_7 i0_8 i0_19 i0_20 i0_28 i0_33 i0_34 i0_35 i0_36 i0_37 i0_38 i0_39 i0_40 i0_41 i0_42 i0_43)) (sc := (S_X11_wrong cs a0 p0 i0_0 i0_1 i0_2 i0_3 i0_4 i0_5 i0_6 i0_7 i0_8 i0_19 i0_20 i0_28 i0_33 i0_34 i0_35 i0_36 i0_37 i0_38 i0_39 i0_40 i0_41 i0_42 i0_43)) (sc' := (S_X11_wrong cs a0 p0 i0_0 i0_1 i0_2 i0_3 i0_4 q22.1 q22.2 i0_7 i0_8 i0_19 i0_20 i0_28 i0_33 i0_34 i0_35 i0_36 i0_37 i0_38 i0_39 i0_40 i0_41 i0_42 i0_43)) (sr := ow_pks (S_X11_opens cs a0 p0 i0_0 i0_1 i0_2 i0_3 i0_4 i0_5 i0_6 i0_7 i0_8 i0_19 i0_20 i0_28 i0_33 i0_34 i0_35 i0_36 i0_37 i0_38 i0_39 i0_40 i0_41 i0_42 i0_43) []) (sf := (S_X11_opens cs a0 p0 i0_0 i0_1 i0_2 i0_3 i0_4 q22.1 q22.2 i0_7 i0_8 i0_19 i0_20 i0_28 i0_33 i0_34 i0_35 i0_36 i0_37 i0_38 i0_39 i0_40 i0_41 i0_42 i0_43)) C0 (c_X11_wrong l D cs H.size a0 p0 i0_0 i0_1 i0_2 i0_3 i0_4 i0_5 i0_6 i0_7 i0_8 i0_19 i0_20 i0_28 i0_33 i0_34 i0_35 i0_36 i0_37 i0_38 i0_39 i0_40 i0_41 i0_42 i0_43 (3) i0_4 q22 hq) (cwV 2 hts gX11_opens_X11_wrong rfl rfl rfl (by decide +kernel) ⟨Nat.le_of_ble_eq_true rfl, Nat.le_of_ble_eq_true rfl⟩) 11 rfl rfl hP hD hS (sg_permL [0] [] 1 rfl (by decide) rfl rfl) (sg_permG [0] 1 rfl (by decide) rfl) rfl hl.1 rfl (Nat.le_of_ble_eq_true rfl) ⟨Nat.zero_le _, Nat.zero_le _⟩ dX11_opens_22 (fun H locs (hP : va_P D vwCl (W_X11_opens cs a0 p0 i0_0 i0_1 i0_2 i0_3 i0_4 q22.1 q22.2 i0_7 i0_8 i0_19 i0_20 i0_28 i0_33 i0_34 i0_35 i0_36 i0_37 i0_38 i0_39 i0_40 i0_41 i0_42 i0_43) H) (hD : va_D _ (W_X11_opens cs a0 p0 i0_0 i0_1 i0_2 i0_3 i0_4 q22.1 q22.2 i0_7 i0_8 i0_19 i0_20 i0_28 i0_33 i0_34 i0_35 i0_36 i0_37 i0_38 i0_39 i0_40 i0_41 i0_42 i0_43)) hS => ?_)
      refine lv_goto (tgt := 45) hx hb dX11_opens_25 (by decide) ?_
      exact w_X11_opens_b45 C0 a0 p0 i0_0 i0_1 i0_2 i0_3 i0_4 i0_7 i0_19 i0_20 i0_28 i0_33 i0_34 i0_35 i0_36 i0_37 i0_38 i0_39 i0_40 i0_41 i0_42 i0_43 res q22.1 q22.2 i0_8  hf _ _ _ hP hD hS (lv_sub hl [0] rfl)
theorem in_X11_skipWord_X11 : ∀ w ∈ u_ws RX11 TX11 44, w ∈ wsX11_skipWord := fun w h => List.mem_cons_of_mem _ (List.mem_append_right _ h)
abbrev W_X11_skipWord (cs : Nat → ClassId) (a0 : Nat) (p0 : Nat → Nat) (i0_0 : Int32) (i0_1 : Int32) (i0_2 : Int32) (i0_3 : Int32) (i0_4 : Int32) (i0_5 : Int32) (i0_6 : Int32) (i0_7 : Int32) (i0_8 : Int32) (i0_19 : Int32) (i0_20 : Int32) (i0_28 : Int32) (i0_33 : Int32) (i0_34 : Int32) (i0_35 : Int32) (i0_36 : Int32) (i0_37 : Int32) (i0_38 : Int32) (i0_39 : Int32) (i0_40 : Int32) (i0_41 : Int32) (i0_42 : Int32) (i0_43 : Int32) (v0_9 : Nat → Int32) : va_W := [(a0, .inr (11, [.int i0_0, .int i0_1, .int i0_2, .int i0_3, .int i0_4, .int i0_5, .int i0_6, .int i0_7, .int i0_8, .ref (p0 9), .ref (p0 10), .ref (p0 11), .ref (p0 12), .ref (p0 13), .ref (p0 14), .ref (p0 15), .ref (p0 16), .ref (p0 17), .ref (p0 18), .int i0_19, .int i0_20, .ref (p0 21), .ref (p0 22), .ref (p0 23), .ref (p0 24), .ref (p0 25), .ref (p0 26), .ref (p0 27), .int i0_28, .ref (p0 29), .ref (p0 30), .ref (p0 31), .ref (p0 32), .int i0_33, .int i0_34, .int i0_35, .int i0_36, .int i0_37, .int i0_38, .int i0_39, .int i0_40, .int i0_41, .int i0_42, .int i0_43])), (p0 9, .inl (cs 0, 600, .inl v0_9))]
abbrev S_X11_skipWord (cs : Nat → ClassId) (a0 : Nat) (p0 : Nat → Nat) (i0_0 : Int32) (i0_1 : Int32) (i0_2 : Int32) (i0_3 : Int32) (i0_4 : Int32) (i0_5 : Int32) (i0_6 : Int32) (i0_7 : Int32) (i0_8 : Int32) (i0_19 : Int32) (i0_20 : Int32) (i0_28 : Int32) (i0_33 : Int32) (i0_34 : Int32) (i0_35 : Int32) (i0_36 : Int32) (i0_37 : Int32) (i0_38 : Int32) (i0_39 : Int32) (i0_40 : Int32) (i0_41 : Int32) (i0_42 : Int32) (i0_43 : Int32) (v0_9 : Nat → Int32) : List va_W := [[(a0, .inr (11, [.int i0_0, .int i0_1, .int i0_2, .int i0_3, .int i0_4, .int i0_5, .int i0_6, .int i0_7, .int i0_8, .ref (p0 9), .ref (p0 10), .ref (p0 11), .ref (p0 12), .ref (p0 13), .ref (p0 14), .ref (p0 15), .ref (p0 16), .ref (p0 17), .ref (p0 18), .int i0_19, .int i0_20, .ref (p0 21), .ref (p0 22), .ref (p0 23), .ref (p0 24), .ref (p0 25), .ref (p0 26), .ref (p0 27), .int i0_28, .ref (p0 29), .ref (p0 30), .ref (p0 31), .ref (p0 32), .int i0_33, .int i0_34, .int i0_35, .int i0_36, .int i0_37, .int i0_38, .int i0_39, .int i0_40, .int i0_41, .int i0_42, .int i0_43]))], [(p0 9, .inl (cs 0, 600, .inl v0_9))]]
abbrev rm_X11_skipWord : Room := { frames := 1, cells := 0, slots := 0, locals := 21 }
def f_X11_skipWord_b0  (i0_2 : Int32) (v0_9 : Nat → Int32)  : Nat → (Int32) → Option (Int32)
  | 0, _ => none
  | n + 1, i0_4 => (f_X11_byteAt i0_2 v0_9 i0_4).bind fun q5 => (f_X11_isSmall q5).bind fun q8 => if q8 = 0 then (some (i0_4)) else (f_X11_skipWord_b0 i0_2 v0_9 n (i0_4 + 1))
set_option maxHeartbeats 4000000 in
set_option maxRecDepth 100000 in
theorem w_X11_skipWord_b0 {p : Program} {l : Launch} {e : Env} {s : State} {m : MethodId} {below : List Frame} {meth : Method} {c : Code} {D : va_G} {cs : Nat → ClassId} {av : Array Value} {w0 : va_W} (C0 : Cx p s m meth c av wsX11_skipWord cX11_skipWord 1 none RX11 D cs w0)  (a0 : Nat) (p0 : Nat → Nat) (i0_0 : Int32) (i0_1 : Int32) (i0_2 : Int32) (i0_3 : Int32) (i0_5 : Int32) (i0_6 : Int32) (i0_7 : Int32) (i0_8 : Int32) (i0_19 : Int32) (i0_20 : Int32) (i0_28 : Int32) (i0_33 : Int32) (i0_34 : Int32) (i0_35 : Int32) (i0_36 : Int32) (i0_37 : Int32) (i0_38 : Int32) (i0_39 : Int32) (i0_40 : Int32) (i0_41 : Int32) (i0_42 : Int32) (i0_43 : Int32) (v0_9 : Nat → Int32) (res : Int32)  : ∀ (n : Nat) (i0_4 : Int32), f_X11_skipWord_b0 i0_2 v0_9 n i0_4 = some res → ∀ (H : Heap) (locs : List Loc) (ls : Array Slot), va_P D vwCl (W_X11_skipWord cs a0 p0 i0_0 i0_1 i0_2 i0_3 i0_4 i0_5 i0_6 i0_7 i0_8 i0_19 i0_20 i0_28 i0_33 i0_34 i0_35 i0_36 i0_37 i0_38 i0_39 i0_40 i0_41 i0_42 i0_43 v0_9) H → va_D (va_A w0 s.heap.size) (W_X11_skipWord cs a0 p0 i0_0 i0_1 i0_2 i0_3 i0_4 i0_5 i0_6 i0_7 i0_8 i0_19 i0_20 i0_28 i0_33 i0_34 i0_35 i0_36 i0_37 i0_38 i0_39 i0_40 i0_41 i0_42 i0_43 v0_9) → va_S (va_A w0 s.heap.size) s.heap H locs → lv_has ls 1 [(0, .ref a0)] → W p l e rm_X11_skipWord s m av below meth c H locs 0 0 (MQ below (oV D cs w0 (W_X11_skipWord cs a0 p0 i0_0 i0_1 i0_2 i0_3 res i0_5 i0_6 i0_7 i0_8 i0_19 i0_20 i0_28 i0_33 i0_34 i0_35 i0_36 i0_37 i0_38 i0_39 i0_40 i0_41 i0_42 i0_43 v0_9) s.heap.size) av s 0 0 (va_A w0 s.heap.size)) (F0 m 0 ls []) := by
  obtain ⟨hx, hb, hr, hlk, hml, hown, hts, hK, hG, hE⟩ := id C0
  intro n
  induction n with
  | zero =>
    intro i0_4 hf
    rw [f_X11_skipWord_b0] at hf
    cases hf
  | succ n ih =>
    intro i0_4 hf H locs ls hP hD hS hl
    rw [f_X11_skipWord_b0] at hf
    refine lv_aload_n hx hb dX11_skipWord_0 rfl (lv_at hl 0 rfl) ?_
    refine lv_aload_n hx hb dX11_skipWord_1 rfl (lv_at hl 0 rfl) ?_
    refine va_get (D := D) (ci := 11) (v := .int i0_4) (C := RX11) (T := TX11) (N := 44) hx hb hts in_X11_skipWord_X11 hown hK hP 0 rfl rfl 4 (by decide) (hts (.fieldLink RX11 94 "PaneDaysModel" "at" "I") (List.mem_of_getElem? (i := 1) rfl)) (fun _ h9 => h9) rfl dX11_skipWord_2 ?_
    obtain ⟨q5, hq, hf⟩ := bd_some hf
    refine ow_gVI (As := [.int i0_4]) (rest := []) (sg := (S_X11_skipWord cs a0 p0 i0_0 i0_1 i0_2 i0_3 i0_4 i0_5 i0_6 i0_7 i0_8 i0_19 i0_20 i0_28 i0_33 i0_34 i0_35 i0_36 i0_37 i0_38 i0_39 i0_40 i0_41 i0_42 i0_43 v0_9)) (sc := (S_X11_byteAt cs a0 p0 i0_0 i0_1 i0_2 i0_3 i0_4 i0_5 i0_6 i0_7 i0_8 i0_19 i0_20 i0_28 i0_33 i0_34 i0_35 i0_36 i0_37 i0_38 i0_39 i0_40 i0_41 i0_42 i0_43 v0_9)) (sc' := (S_X11_byteAt cs a0 p0 i0_0 i0_1 i0_2 i0_3 i0_4 i0_5 i0_6 i0_7 i0_8 i0_19 i0_20 i0_28 i0_33 i0_34 i0_35 i0_36 i0_37 i0_38 i0_39 i0_40 i0_41 i0_42 i0_43 v0_9)) (sr := ow_pks (S_X11_skipWord cs a0 p0 i0_0 i0_1 i0_2 i0_3 i0_4 i0_5 i0_6 i0_7 i0_8 i0_19 i0_20 i0_28 i0_33 i0_34 i0_35 i0_36 i0_37 i0_38 i0_39 i0_40 i0_41 i0_42 i0_43 v0_9) []) (sf := (S_X11_skipWord cs a0 p0 i0_0 i0_1 i0_2 i0_3 i0_4 i0_5 i0_6 i0_7 i0_8 i0_19 i0_20 i0_28 i0_33 i0_34 i0_35 i0_36 i0_37 i0_38 i0_39 i0_40 i0_41 i0_42 i0_43 v0_9)) (r := q5) C0 (c_X11_byteAt l D cs H.size a0 p0 i0_0 i0_1 i0_2 i0_3 i0_4 i0_5 i0_6 i0_7 i0_8 i0_19 i0_20 i0_28 i0_33 i0_34 i0_35 i0_36 i0_37 i0_38 i0_39 i0_40 i0_41 i0_42 i0_43 v0_9 i0_4 q5 hq) (cwV 1 hts gX11_skipWord_X11_byteAt rfl rfl rfl (by decide +kernel) ⟨Nat.le_of_ble_eq_true rfl, Nat.le_of_ble_eq_true rfl⟩) 11 rfl rfl hP hD hS (sg_permL [0, 1] [] 2 rfl (by decide) rfl rfl) (sg_permG [0, 1] 2 rfl (by decide) rfl) rfl hl.1 rfl (Nat.le_of_ble_eq_true rfl) ⟨Nat.zero_le _, Nat.zero_le _⟩ dX11_skipWord_5 (fun H locs (hP : va_P D vwCl (W_X11_skipWord cs a0 p0 i0_0 i0_1 i0_2 i0_3 i0_4 i0_5 i0_6 i0_7 i0_8 i0_19 i0_20 i0_28 i0_33 i0_34 i0_35 i0_36 i0_37 i0_38 i0_39 i0_40 i0_41 i0_42 i0_43 v0_9) H) (hD : va_D _ (W_X11_skipWord cs a0 p0 i0_0 i0_1 i0_2 i0_3 i0_4 i0_5 i0_6 i0_7 i0_8 i0_19 i0_20 i0_28 i0_33 i0_34 i0_35 i0_36 i0_37 i0_38 i0_39 i0_40 i0_41 i0_42 i0_43 v0_9)) hS => ?_)
    obtain ⟨q8, hq, hf⟩ := bd_some hf
    refine ow_gSI (As := [.int q5]) (rest := []) (sg := (S_X11_skipWord cs a0 p0 i0_0 i0_1 i0_2 i0_3 i0_4 i0_5 i0_6 i0_7 i0_8 i0_19 i0_20 i0_28 i0_33 i0_34 i0_35 i0_36 i0_37 i0_38 i0_39 i0_40 i0_41 i0_42 i0_43 v0_9)) (sc := ([] : List va_W)) (sc' := ([] : List va_W)) (sr := ow_pks (S_X11_skipWord cs a0 p0 i0_0 i0_1 i0_2 i0_3 i0_4 i0_5 i0_6 i0_7 i0_8 i0_19 i0_20 i0_28 i0_33 i0_34 i0_35 i0_36 i0_37 i0_38 i0_39 i0_40 i0_41 i0_42 i0_43 v0_9) [0, 1]) (sf := (S_X11_skipWord cs a0 p0 i0_0 i0_1 i0_2 i0_3 i0_4 i0_5 i0_6 i0_7 i0_8 i0_19 i0_20 i0_28 i0_33 i0_34 i0_35 i0_36 i0_37 i0_38 i0_39 i0_40 i0_41 i0_42 i0_43 v0_9)) (r := q8) C0 (c_X11_isSmall l D cs H.size  q5 q8 hq) (va_cwS 1 hts gX11_skipWord_X11_isSmall rfl rfl rfl (by decide +kernel) ⟨Nat.le_of_ble_eq_true rfl, Nat.le_of_ble_eq_true rfl⟩) hP hD hS (sg_permL [] [0, 1] 2 rfl (by decide) rfl rfl) (sg_permG [0, 1] 2 rfl (by decide) rfl) rfl hl.1 rfl (Nat.le_of_ble_eq_true rfl) ⟨Nat.zero_le _, Nat.zero_le _⟩ dX11_skipWord_8 (fun H locs (hP : va_P D vwCl (W_X11_skipWord cs a0 p0 i0_0 i0_1 i0_2 i0_3 i0_4 i0_5 i0_6 i0_7 i0_8 i0_19 i0_20 i0_28 i0_33 i0_34 i0_35 i0_36 i0_37 i0_38 i0_39 i0_40 i0_41 i0_42 i0_43 v0_9) H) (hD : va_D _ (W_X11_skipWord cs a0 p0 i0_0 i0_1 i0_2 i0_3 i0_4 i0_5 i0_6 i0_7 i0_8 i0_19 i0_20 i0_28 i0_33 i0_34 i0_35 i0_36 i0_37 i0_38 i0_39 i0_40 i0_41 i0_42 i0_43 v0_9)) hS => ?_)
    refine lv_if_eq (tgt := 27) hx hb dX11_skipWord_11 (by decide) (fun hc => ?_) (fun hc => ?_)
    · replace hf := ow_t hc hf
      obtain rfl := Option.some.inj hf
      exact ow_retV C0 hP hD hS dX11_skipWord_27
    · replace hf := ow_f hc hf
      refine lv_aload_n hx hb dX11_skipWord_14 rfl (lv_at hl 0 rfl) ?_
      refine lv_dup hx hb dX11_skipWord_15 rfl ?_
      refine va_get (D := D) (ci := 11) (v := .int i0_4) (C := RX11) (T := TX11) (N := 44) hx hb hts in_X11_skipWord_X11 hown hK hP 0 rfl rfl 4 (by decide) (hts (.fieldLink RX11 94 "PaneDaysModel" "at" "I") (List.mem_of_getElem? (i := 1) rfl)) (fun _ h9 => h9) rfl dX11_skipWord_16 ?_
      refine lv_iconst (v := 1) hx hb dX11_skipWord_19 (by decide) ?_
      refine lv_iadd hx hb dX11_skipWord_20 ?_
      refine va_put (D := D) (ci := 11) (v := .int (i0_4 + 1)) (ty := .int) (C := RX11) (T := TX11) (N := 44) hx hb hts in_X11_skipWord_X11 tyX11 tyX11_ok nmX11 hown hK hP hD hS 0 rfl rfl 4 (by decide) (hts (.fieldLink RX11 94 "PaneDaysModel" "at" "I") (List.mem_of_getElem? (i := 1) rfl)) (fun _ h9 => h9) rfl (by decide +kernel) rfl rfl (Nat.le_of_ble_eq_true rfl) dX11_skipWord_21 (fun H locs (hP : va_P D vwCl (W_X11_skipWord cs a0 p0 i0_0 i0_1 i0_2 i0_3 (i0_4 + 1) i0_5 i0_6 i0_7 i0_8 i0_19 i0_20 i0_28 i0_33 i0_34 i0_35 i0_36 i0_37 i0_38 i0_39 i0_40 i0_41 i0_42 i0_43 v0_9) H) (hD : va_D _ (W_X11_skipWord cs a0 p0 i0_0 i0_1 i0_2 i0_3 (i0_4 + 1) i0_5 i0_6 i0_7 i0_8 i0_19 i0_20 i0_28 i0_33 i0_34 i0_35 i0_36 i0_37 i0_38 i0_39 i0_40 i0_41 i0_42 i0_43 v0_9)) hS => ?_)
      refine lv_goto (tgt := 0) hx hb dX11_skipWord_24 (by decide) ?_
      exact ih (i0_4 + 1)  hf _ _ _ hP hD hS (lv_sub hl [0] rfl)
def f_X11_skipWord  (i0_2 : Int32) (i0_4 : Int32) (v0_9 : Nat → Int32)  : Option (Int32) := f_X11_skipWord_b0 i0_2 v0_9 4000 i0_4
set_option maxHeartbeats 4000000 in
set_option maxRecDepth 100000 in
theorem c_X11_skipWord (l : Launch) (D : va_G) (cs : Nat → ClassId)  (sz : Nat) (a0 : Nat) (p0 : Nat → Nat) (i0_0 : Int32) (i0_1 : Int32) (i0_2 : Int32) (i0_3 : Int32) (i0_4 : Int32) (i0_5 : Int32) (i0_6 : Int32) (i0_7 : Int32) (i0_8 : Int32) (i0_19 : Int32) (i0_20 : Int32) (i0_28 : Int32) (i0_33 : Int32) (i0_34 : Int32) (i0_35 : Int32) (i0_36 : Int32) (i0_37 : Int32) (i0_38 : Int32) (i0_39 : Int32) (i0_40 : Int32) (i0_41 : Int32) (i0_42 : Int32) (i0_43 : Int32) (v0_9 : Nat → Int32)  (res : Int32) (hf : f_X11_skipWord  i0_2 i0_4 v0_9  = some res) : MV l D cs yX11_skipWord wsX11_skipWord rm_X11_skipWord [.ref a0] sz (W_X11_skipWord cs a0 p0 i0_0 i0_1 i0_2 i0_3 i0_4 i0_5 i0_6 i0_7 i0_8 i0_19 i0_20 i0_28 i0_33 i0_34 i0_35 i0_36 i0_37 i0_38 i0_39 i0_40 i0_41 i0_42 i0_43 v0_9) (W_X11_skipWord cs a0 p0 i0_0 i0_1 i0_2 i0_3 res i0_5 i0_6 i0_7 i0_8 i0_19 i0_20 i0_28 i0_33 i0_34 i0_35 i0_36 i0_37 i0_38 i0_39 i0_40 i0_41 i0_42 i0_43 v0_9) := by
  rw [f_X11_skipWord] at hf
  refine ow_enter (cc := cX11_skipWord) (nL := 1) (ret := none) (by decide) rfl (Nat.le_of_ble_eq_true rfl) (fun p e s m below meth c ls H locs C0 hP hD hS hA hl => ?_)
  obtain ⟨hx, hb, hr, hlk, hml, hown, hts, hK, hG, hE⟩ := id C0
  have hl : lv_has ls 1 [(0, .ref a0)] := hl
  exact w_X11_skipWord_b0 C0 a0 p0 i0_0 i0_1 i0_2 i0_3 i0_5 i0_6 i0_7 i0_8 i0_19 i0_20 i0_28 i0_33 i0_34 i0_35 i0_36 i0_37 i0_38 i0_39 i0_40 i0_41 i0_42 i0_43 v0_9 res 4000 i0_4  hf _ _ _ hP hD hS (lv_sub hl [0] rfl)

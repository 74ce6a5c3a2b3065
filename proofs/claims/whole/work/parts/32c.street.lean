theorem in_X6_forget_X6 : ∀ w ∈ u_ws RX6 TX6 13, w ∈ wsX6_forget := fun w h => List.mem_cons_of_mem _ (List.mem_append_right _ h)
abbrev W_X6_forget (cs : Nat → ClassId) (a0 : Nat) (p0 : Nat → Nat) (i0_0 : Int32) (i0_6 : Int32) (i0_8 : Int32) (i0_10 : Int32) (i0_11 : Int32) (i0_12 : Int32) (v0_1 : Nat → Int32) (v0_2 : Nat → Int32) (v0_3 : Nat → Int32) (v0_4 : Nat → Int32) (v0_5 : Nat → Int32) (v0_7 : Nat → Int32) (v0_9 : Nat → Int32) : va_W := wX6 cs a0 p0 i0_0 i0_6 i0_8 i0_10 i0_11 i0_12 v0_1 v0_2 v0_3 v0_4 v0_5 v0_7 v0_9
abbrev rm_X6_forget : Room := { frames := 1, cells := 0, slots := 0, locals := 23 }
def f_X6_forget  (i0_0 : Int32) (i0_6 : Int32) (i0_8 : Int32) (i0_10 : Int32) (i0_11 : Int32) (i0_12 : Int32) (v0_7 : Nat → Int32)  : Option (Int32 × Int32 × Int32 × Int32 × Int32 × Int32 × (Nat → Int32)) := (f_J7_fill_53178 201 v0_7 (0)).bind fun q36 => some (0, 0, 0, 1, 3, 20, q36)
set_option maxHeartbeats 4000000 in
set_option maxRecDepth 100000 in
theorem c_X6_forget (l : Launch) (D : va_G) (cs : Nat → ClassId)  (sz : Nat) (a0 : Nat) (p0 : Nat → Nat) (i0_0 : Int32) (i0_6 : Int32) (i0_8 : Int32) (i0_10 : Int32) (i0_11 : Int32) (i0_12 : Int32) (v0_1 : Nat → Int32) (v0_2 : Nat → Int32) (v0_3 : Nat → Int32) (v0_4 : Nat → Int32) (v0_5 : Nat → Int32) (v0_7 : Nat → Int32) (v0_9 : Nat → Int32)  (res : Int32 × Int32 × Int32 × Int32 × Int32 × Int32 × (Nat → Int32)) (hf : f_X6_forget  i0_0 i0_6 i0_8 i0_10 i0_11 i0_12 v0_7  = some res) : MV l D cs yX6_forget wsX6_forget rm_X6_forget [.ref a0] sz (W_X6_forget cs a0 p0 i0_0 i0_6 i0_8 i0_10 i0_11 i0_12 v0_1 v0_2 v0_3 v0_4 v0_5 v0_7 v0_9) (W_X6_forget cs a0 p0 res.1 res.2.1 res.2.2.1 res.2.2.2.1 res.2.2.2.2.1 res.2.2.2.2.2.1 v0_1 v0_2 v0_3 v0_4 v0_5 res.2.2.2.2.2.2 v0_9) := by
  rw [f_X6_forget] at hf
  refine ow_enter (cc := cX6_forget) (nL := 1) (ret := none) (by decide) rfl (Nat.le_of_ble_eq_true rfl) (fun p e s m below meth c ls H locs C0 hP hD hS hA hl => ?_)
  obtain ⟨hx, hb, hr, hlk, hml, hown, hts, hK, hG, hE⟩ := id C0
  have hl : lv_has ls 1 [(0, .ref a0)] := hl
  refine lv_aload_n hx hb dX6_forget_0 rfl (lv_at hl 0 rfl) ?_
  refine lv_iconst (v := 0) hx hb dX6_forget_1 (by decide) ?_
  refine va_put (D := D) (ci := 6) (v := .int 0) (ty := .int) (C := RX6) (T := TX6) (N := 13) hx hb hts in_X6_forget_X6 tyX6 tyX6_ok nmX6 hown hK hP hD hS 0 rfl rfl 0 (by decide) (hts (.fieldLink RX6 57 "PaneDays$Street" "panes" "I") (List.mem_of_getElem? (i := 1) rfl)) (fun _ h9 => h9) rfl (by decide +kernel) rfl rfl (Nat.le_of_ble_eq_true rfl) dX6_forget_2 (fun H locs (hP : va_P D vwCl (W_X6_forget cs a0 p0 (0) i0_6 i0_8 i0_10 i0_11 i0_12 v0_1 v0_2 v0_3 v0_4 v0_5 v0_7 v0_9) H) (hD : va_D _ (W_X6_forget cs a0 p0 (0) i0_6 i0_8 i0_10 i0_11 i0_12 v0_1 v0_2 v0_3 v0_4 v0_5 v0_7 v0_9)) hS => ?_)
  refine lv_aload_n hx hb dX6_forget_5 rfl (lv_at hl 0 rfl) ?_
  refine lv_iconst (v := 0) hx hb dX6_forget_6 (by decide) ?_
  refine va_put (D := D) (ci := 6) (v := .int 0) (ty := .int) (C := RX6) (T := TX6) (N := 13) hx hb hts in_X6_forget_X6 tyX6 tyX6_ok nmX6 hown hK hP hD hS 0 rfl rfl 6 (by decide) (hts (.fieldLink RX6 60 "PaneDays$Street" "rains" "I") (List.mem_of_getElem? (i := 2) rfl)) (fun _ h9 => h9) rfl (by decide +kernel) rfl rfl (Nat.le_of_ble_eq_true rfl) dX6_forget_7 (fun H locs (hP : va_P D vwCl (W_X6_forget cs a0 p0 (0) (0) i0_8 i0_10 i0_11 i0_12 v0_1 v0_2 v0_3 v0_4 v0_5 v0_7 v0_9) H) (hD : va_D _ (W_X6_forget cs a0 p0 (0) (0) i0_8 i0_10 i0_11 i0_12 v0_1 v0_2 v0_3 v0_4 v0_5 v0_7 v0_9)) hS => ?_)
  refine lv_aload_n hx hb dX6_forget_10 rfl (lv_at hl 0 rfl) ?_
  refine lv_iconst (v := 0) hx hb dX6_forget_11 (by decide) ?_
  refine va_put (D := D) (ci := 6) (v := .int 0) (ty := .int) (C := RX6) (T := TX6) (N := 13) hx hb hts in_X6_forget_X6 tyX6 tyX6_ok nmX6 hown hK hP hD hS 0 rfl rfl 8 (by decide) (hts (.fieldLink RX6 63 "PaneDays$Street" "orders" "I") (List.mem_of_getElem? (i := 3) rfl)) (fun _ h9 => h9) rfl (by decide +kernel) rfl rfl (Nat.le_of_ble_eq_true rfl) dX6_forget_12 (fun H locs (hP : va_P D vwCl (W_X6_forget cs a0 p0 (0) (0) (0) i0_10 i0_11 i0_12 v0_1 v0_2 v0_3 v0_4 v0_5 v0_7 v0_9) H) (hD : va_D _ (W_X6_forget cs a0 p0 (0) (0) (0) i0_10 i0_11 i0_12 v0_1 v0_2 v0_3 v0_4 v0_5 v0_7 v0_9)) hS => ?_)
  refine lv_aload_n hx hb dX6_forget_15 rfl (lv_at hl 0 rfl) ?_
  refine lv_iconst (v := 1) hx hb dX6_forget_16 (by decide) ?_
  refine va_put (D := D) (ci := 6) (v := .int 1) (ty := .int) (C := RX6) (T := TX6) (N := 13) hx hb hts in_X6_forget_X6 tyX6 tyX6_ok nmX6 hown hK hP hD hS 0 rfl rfl 10 (by decide) (hts (.fieldLink RX6 66 "PaneDays$Street" "stepMinutes" "I") (List.mem_of_getElem? (i := 4) rfl)) (fun _ h9 => h9) rfl (by decide +kernel) rfl rfl (Nat.le_of_ble_eq_true rfl) dX6_forget_17 (fun H locs (hP : va_P D vwCl (W_X6_forget cs a0 p0 (0) (0) (0) (1) i0_11 i0_12 v0_1 v0_2 v0_3 v0_4 v0_5 v0_7 v0_9) H) (hD : va_D _ (W_X6_forget cs a0 p0 (0) (0) (0) (1) i0_11 i0_12 v0_1 v0_2 v0_3 v0_4 v0_5 v0_7 v0_9)) hS => ?_)
  refine lv_aload_n hx hb dX6_forget_20 rfl (lv_at hl 0 rfl) ?_
  refine lv_iconst (v := 3) hx hb dX6_forget_21 (by decide) ?_
  refine va_put (D := D) (ci := 6) (v := .int 3) (ty := .int) (C := RX6) (T := TX6) (N := 13) hx hb hts in_X6_forget_X6 tyX6 tyX6_ok nmX6 hown hK hP hD hS 0 rfl rfl 11 (by decide) (hts (.fieldLink RX6 69 "PaneDays$Street" "floorMinutes" "I") (List.mem_of_getElem? (i := 5) rfl)) (fun _ h9 => h9) rfl (by decide +kernel) rfl rfl (Nat.le_of_ble_eq_true rfl) dX6_forget_22 (fun H locs (hP : va_P D vwCl (W_X6_forget cs a0 p0 (0) (0) (0) (1) (3) i0_12 v0_1 v0_2 v0_3 v0_4 v0_5 v0_7 v0_9) H) (hD : va_D _ (W_X6_forget cs a0 p0 (0) (0) (0) (1) (3) i0_12 v0_1 v0_2 v0_3 v0_4 v0_5 v0_7 v0_9)) hS => ?_)
  refine lv_aload_n hx hb dX6_forget_25 rfl (lv_at hl 0 rfl) ?_
  refine lv_bipush (v := 20) hx hb dX6_forget_26 (by decide) ?_
  refine va_put (D := D) (ci := 6) (v := .int 20) (ty := .int) (C := RX6) (T := TX6) (N := 13) hx hb hts in_X6_forget_X6 tyX6 tyX6_ok nmX6 hown hK hP hD hS 0 rfl rfl 12 (by decide) (hts (.fieldLink RX6 72 "PaneDays$Street" "hold" "I") (List.mem_of_getElem? (i := 6) rfl)) (fun _ h9 => h9) rfl (by decide +kernel) rfl rfl (Nat.le_of_ble_eq_true rfl) dX6_forget_28 (fun H locs (hP : va_P D vwCl (W_X6_forget cs a0 p0 (0) (0) (0) (1) (3) (20) v0_1 v0_2 v0_3 v0_4 v0_5 v0_7 v0_9) H) (hD : va_D _ (W_X6_forget cs a0 p0 (0) (0) (0) (1) (3) (20) v0_1 v0_2 v0_3 v0_4 v0_5 v0_7 v0_9)) hS => ?_)
  refine lv_aload_n hx hb dX6_forget_31 rfl (lv_at hl 0 rfl) ?_
  refine va_get (D := D) (ci := 6) (v := .ref (p0 7)) (C := RX6) (T := TX6) (N := 13) hx hb hts in_X6_forget_X6 hown hK hP 0 rfl rfl 7 (by decide) (hts (.fieldLink RX6 27 "PaneDays$Street" "rainOn" "[I") (List.mem_of_getElem? (i := 7) rfl)) (fun _ h9 => h9) rfl dX6_forget_32 ?_
  refine lv_iconst (v := 0) hx hb dX6_forget_35 (by decide) ?_
  obtain ⟨q36, hq, hf⟩ := bd_some hf
  refine ow_callSV (As := [.ref (p0 7), .int 0]) (rest := []) (wr := ow_pk (W_X6_forget cs a0 p0 (0) (0) (0) (1) (3) (20) v0_1 v0_2 v0_3 v0_4 v0_5 v0_7 v0_9) [0, 1, 2, 3, 4, 5, 7]) (wf := (W_X6_forget cs a0 p0 (0) (0) (0) (1) (3) (20) v0_1 v0_2 v0_3 v0_4 v0_5 q36 v0_9)) C0 (c_J7_fill_53178 l D cs H.size (p0 7) 201 v0_7 (0) q36 hq) (va_cwS 2 hts gX6_forget_J7_fill_53178 rfl rfl rfl (by decide +kernel) ⟨Nat.le_of_ble_eq_true rfl, Nat.le_of_ble_eq_true rfl⟩) hP hD hS (fun q h => Or.inr h) [6] [0, 1, 2, 3, 4, 5, 7] [0, 1, 2, 3, 4, 5, 7, 6] rfl (by decide) rfl (by decide) (by decide) rfl (by decide) rfl hl.1 rfl (Nat.le_of_ble_eq_true rfl) ⟨Nat.zero_le _, Nat.zero_le _⟩ dX6_forget_36 (fun H locs hP hD hS => ?_)
  obtain rfl := Option.some.inj hf
  exact ow_retV C0 hP hD hS dX6_forget_39
theorem in_X6_part_X6 : ∀ w ∈ u_ws RX6 TX6 13, w ∈ wsX6_part := fun w h => List.mem_cons_of_mem _ (List.mem_append_right _ h)
abbrev W_X6_part (cs : Nat → ClassId) (a0 : Nat) (p0 : Nat → Nat) (i0_0 : Int32) (i0_6 : Int32) (i0_8 : Int32) (i0_10 : Int32) (i0_11 : Int32) (i0_12 : Int32) (v0_1 : Nat → Int32) (v0_2 : Nat → Int32) (v0_3 : Nat → Int32) (v0_4 : Nat → Int32) (v0_5 : Nat → Int32) (v0_7 : Nat → Int32) (v0_9 : Nat → Int32) : va_W := wX6 cs a0 p0 i0_0 i0_6 i0_8 i0_10 i0_11 i0_12 v0_1 v0_2 v0_3 v0_4 v0_5 v0_7 v0_9
abbrev rm_X6_part : Room := { frames := 0, cells := 0, slots := 0, locals := 0 }
def f_X6_part  (v0_9 : Nat → Int32) (x1 : Int32) (x2 : Int32) : Option (Int32) := ck ((5 * x1) + x2) 60 (some (v0_9 ((5 * x1) + x2).toNatClampNeg))
set_option maxHeartbeats 4000000 in
set_option maxRecDepth 100000 in
theorem c_X6_part (l : Launch) (D : va_G) (cs : Nat → ClassId)  (sz : Nat) (a0 : Nat) (p0 : Nat → Nat) (i0_0 : Int32) (i0_6 : Int32) (i0_8 : Int32) (i0_10 : Int32) (i0_11 : Int32) (i0_12 : Int32) (v0_1 : Nat → Int32) (v0_2 : Nat → Int32) (v0_3 : Nat → Int32) (v0_4 : Nat → Int32) (v0_5 : Nat → Int32) (v0_7 : Nat → Int32) (v0_9 : Nat → Int32) (x1 : Int32) (x2 : Int32) (res : Int32) (hf : f_X6_part  v0_9 x1 x2 = some res) : MI l D cs yX6_part wsX6_part rm_X6_part [.ref a0, .int x1, .int x2] sz (W_X6_part cs a0 p0 i0_0 i0_6 i0_8 i0_10 i0_11 i0_12 v0_1 v0_2 v0_3 v0_4 v0_5 v0_7 v0_9) (W_X6_part cs a0 p0 i0_0 i0_6 i0_8 i0_10 i0_11 i0_12 v0_1 v0_2 v0_3 v0_4 v0_5 v0_7 v0_9) res := by
  rw [f_X6_part] at hf
  refine ow_enter (cc := cX6_part) (nL := 3) (ret := (some .int)) (by decide) rfl (Nat.le_of_ble_eq_true rfl) (fun p e s m below meth c ls H locs C0 hP hD hS hA hl => ?_)
  obtain ⟨hx, hb, hr, hlk, hml, hown, hts, hK, hG, hE⟩ := id C0
  have hl : lv_has ls 3 [(0, .ref a0), (1, .int x1), (2, .int x2)] := hl
  refine lv_aload_n hx hb dX6_part_0 rfl (lv_at hl 0 rfl) ?_
  refine va_get (D := D) (ci := 6) (v := .ref (p0 9)) (C := RX6) (T := TX6) (N := 13) hx hb hts in_X6_part_X6 hown hK hP 0 rfl rfl 9 (by decide) (hts (.fieldLink RX6 30 "PaneDays$Street" "order" "[I") (List.mem_of_getElem? (i := 1) rfl)) (fun _ h9 => h9) rfl dX6_part_1 ?_
  refine lv_iconst (v := 5) hx hb dX6_part_4 (by decide) ?_
  refine lv_iload_n hx hb dX6_part_5 rfl (lv_at hl 1 rfl) ?_
  refine lv_imul hx hb dX6_part_6 ?_
  refine lv_iload_n hx hb dX6_part_7 rfl (lv_at hl 2 rfl) ?_
  refine lv_iadd hx hb dX6_part_8 ?_
  obtain ⟨hin, hf⟩ := ck_some hf
  refine va_iald (f := v0_9) hx hb hK hP 7 0 rfl rfl hin dX6_part_9 ?_
  obtain rfl := Option.some.inj hf
  exact ow_retI C0 hP hD hS dX6_part_10
theorem in_X6_isFull_X6 : ∀ w ∈ u_ws RX6 TX6 13, w ∈ wsX6_isFull := fun w h => List.mem_cons_of_mem _ (List.mem_append_right _ h)
abbrev W_X6_isFull (cs : Nat → ClassId) (a0 : Nat) (p0 : Nat → Nat) (i0_0 : Int32) (i0_6 : Int32) (i0_8 : Int32) (i0_10 : Int32) (i0_11 : Int32) (i0_12 : Int32) (v0_1 : Nat → Int32) (v0_2 : Nat → Int32) (v0_3 : Nat → Int32) (v0_4 : Nat → Int32) (v0_5 : Nat → Int32) (v0_7 : Nat → Int32) (v0_9 : Nat → Int32) : va_W := wX6 cs a0 p0 i0_0 i0_6 i0_8 i0_10 i0_11 i0_12 v0_1 v0_2 v0_3 v0_4 v0_5 v0_7 v0_9
abbrev rm_X6_isFull : Room := { frames := 0, cells := 0, slots := 0, locals := 0 }
def f_X6_isFull_b26  (i0_0 : Int32) (i0_6 : Int32) (i0_8 : Int32)   (x1 : Int32) : Option (Int32) := if x1 = 2 then (if i0_8 < 12 then (some (0)) else (some (1))) else (some (0))
set_option maxHeartbeats 4000000 in
set_option maxRecDepth 100000 in
theorem w_X6_isFull_b26 {p : Program} {l : Launch} {e : Env} {s : State} {m : MethodId} {below : List Frame} {meth : Method} {c : Code} {D : va_G} {cs : Nat → ClassId} {av : Array Value} {w0 : va_W} (C0 : Cx p s m meth c av wsX6_isFull cX6_isFull 2 (some .boolean) RX6 D cs w0)  (a0 : Nat) (p0 : Nat → Nat) (i0_0 : Int32) (i0_6 : Int32) (i0_8 : Int32) (i0_10 : Int32) (i0_11 : Int32) (i0_12 : Int32) (v0_1 : Nat → Int32) (v0_2 : Nat → Int32) (v0_3 : Nat → Int32) (v0_4 : Nat → Int32) (v0_5 : Nat → Int32) (v0_7 : Nat → Int32) (v0_9 : Nat → Int32) (res : Int32)  : ∀ (x1 : Int32), f_X6_isFull_b26 i0_0 i0_6 i0_8 x1 = some res → ∀ (H : Heap) (locs : List Loc) (ls : Array Slot), va_P D vwCl (W_X6_isFull cs a0 p0 i0_0 i0_6 i0_8 i0_10 i0_11 i0_12 v0_1 v0_2 v0_3 v0_4 v0_5 v0_7 v0_9) H → va_D (va_A w0 s.heap.size) (W_X6_isFull cs a0 p0 i0_0 i0_6 i0_8 i0_10 i0_11 i0_12 v0_1 v0_2 v0_3 v0_4 v0_5 v0_7 v0_9) → va_S (va_A w0 s.heap.size) s.heap H locs → lv_has ls 2 [(0, .ref a0), (1, .int x1)] → W p l e rm_X6_isFull s m av below meth c H locs 0 0 (MQ below (oI D cs w0 (W_X6_isFull cs a0 p0 i0_0 i0_6 i0_8 i0_10 i0_11 i0_12 v0_1 v0_2 v0_3 v0_4 v0_5 v0_7 v0_9) res s.heap.size) av s 0 0 (va_A w0 s.heap.size)) (F0 m 26 ls []) := by
  obtain ⟨hx, hb, hr, hlk, hml, hown, hts, hK, hG, hE⟩ := id C0
  intro x1 hf H locs ls hP hD hS hl
  rw [f_X6_isFull_b26] at hf
  refine lv_iload_n hx hb dX6_isFull_26 rfl (lv_at hl 1 rfl) ?_
  refine lv_iconst (v := 2) hx hb dX6_isFull_27 (by decide) ?_
  refine lv_icmp_ne (tgt := 44) hx hb dX6_isFull_28 (by decide) (fun hc => ?_) (fun hc => ?_)
  · replace hf := ow_f hc hf
    refine lv_iconst (v := 0) hx hb dX6_isFull_44 (by decide) ?_
    obtain rfl := Option.some.inj hf
    exact ow_retZ C0 (Or.inl rfl) hP hD hS dX6_isFull_45
  · replace hf := ow_t hc hf
    refine lv_aload_n hx hb dX6_isFull_31 rfl (lv_at hl 0 rfl) ?_
    refine va_get (D := D) (ci := 6) (v := .int i0_8) (C := RX6) (T := TX6) (N := 13) hx hb hts in_X6_isFull_X6 hown hK hP 0 rfl rfl 8 (by decide) (hts (.fieldLink RX6 63 "PaneDays$Street" "orders" "I") (List.mem_of_getElem? (i := 3) rfl)) (fun _ h9 => h9) rfl dX6_isFull_32 ?_
    refine lv_bipush (v := 12) hx hb dX6_isFull_35 (by decide) ?_
    refine lv_icmp_lt (tgt := 44) hx hb dX6_isFull_37 (by decide) (fun hc => ?_) (fun hc => ?_)
    · replace hf := ow_t hc hf
      refine lv_iconst (v := 0) hx hb dX6_isFull_44 (by decide) ?_
      obtain rfl := Option.some.inj hf
      exact ow_retZ C0 (Or.inl rfl) hP hD hS dX6_isFull_45
    · replace hf := ow_f hc hf
      refine lv_iconst (v := 1) hx hb dX6_isFull_40 (by decide) ?_
      refine lv_goto (tgt := 45) hx hb dX6_isFull_41 (by decide) ?_
      obtain rfl := Option.some.inj hf
      exact ow_retZ C0 (Or.inr rfl) hP hD hS dX6_isFull_45
def f_X6_isFull_b12  (i0_0 : Int32) (i0_6 : Int32) (i0_8 : Int32)   (x1 : Int32) : Option (Int32) := if x1 = 1 then (if 12 ≤ i0_6 then (some (1)) else (f_X6_isFull_b26 i0_0 i0_6 i0_8 x1)) else (f_X6_isFull_b26 i0_0 i0_6 i0_8 x1)
set_option maxHeartbeats 4000000 in
set_option maxRecDepth 100000 in
theorem w_X6_isFull_b12 {p : Program} {l : Launch} {e : Env} {s : State} {m : MethodId} {below : List Frame} {meth : Method} {c : Code} {D : va_G} {cs : Nat → ClassId} {av : Array Value} {w0 : va_W} (C0 : Cx p s m meth c av wsX6_isFull cX6_isFull 2 (some .boolean) RX6 D cs w0)  (a0 : Nat) (p0 : Nat → Nat) (i0_0 : Int32) (i0_6 : Int32) (i0_8 : Int32) (i0_10 : Int32) (i0_11 : Int32) (i0_12 : Int32) (v0_1 : Nat → Int32) (v0_2 : Nat → Int32) (v0_3 : Nat → Int32) (v0_4 : Nat → Int32) (v0_5 : Nat → Int32) (v0_7 : Nat → Int32) (v0_9 : Nat → Int32) (res : Int32)  : ∀ (x1 : Int32), f_X6_isFull_b12 i0_0 i0_6 i0_8 x1 = some res → ∀ (H : Heap) (locs : List Loc) (ls : Array Slot), va_P D vwCl (W_X6_isFull cs a0 p0 i0_0 i0_6 i0_8 i0_10 i0_11 i0_12 v0_1 v0_2 v0_3 v0_4 v0_5 v0_7 v0_9) H → va_D (va_A w0 s.heap.size) (W_X6_isFull cs a0 p0 i0_0 i0_6 i0_8 i0_10 i0_11 i0_12 v0_1 v0_2 v0_3 v0_4 v0_5 v0_7 v0_9) → va_S (va_A w0 s.heap.size) s.heap H locs → lv_has ls 2 [(0, .ref a0), (1, .int x1)] → W p l e rm_X6_isFull s m av below meth c H locs 0 0 (MQ below (oI D cs w0 (W_X6_isFull cs a0 p0 i0_0 i0_6 i0_8 i0_10 i0_11 i0_12 v0_1 v0_2 v0_3 v0_4 v0_5 v0_7 v0_9) res s.heap.size) av s 0 0 (va_A w0 s.heap.size)) (F0 m 12 ls []) := by
  obtain ⟨hx, hb, hr, hlk, hml, hown, hts, hK, hG, hE⟩ := id C0
  intro x1 hf H locs ls hP hD hS hl
  rw [f_X6_isFull_b12] at hf
  refine lv_iload_n hx hb dX6_isFull_12 rfl (lv_at hl 1 rfl) ?_
  refine lv_iconst (v := 1) hx hb dX6_isFull_13 (by decide) ?_
  refine lv_icmp_ne (tgt := 26) hx hb dX6_isFull_14 (by decide) (fun hc => ?_) (fun hc => ?_)
  · replace hf := ow_f hc hf
    exact w_X6_isFull_b26 C0 a0 p0 i0_0 i0_6 i0_8 i0_10 i0_11 i0_12 v0_1 v0_2 v0_3 v0_4 v0_5 v0_7 v0_9 res x1 hf _ _ _ hP hD hS (lv_sub hl [0, 1] rfl)
  · replace hf := ow_t hc hf
    refine lv_aload_n hx hb dX6_isFull_17 rfl (lv_at hl 0 rfl) ?_
    refine va_get (D := D) (ci := 6) (v := .int i0_6) (C := RX6) (T := TX6) (N := 13) hx hb hts in_X6_isFull_X6 hown hK hP 0 rfl rfl 6 (by decide) (hts (.fieldLink RX6 60 "PaneDays$Street" "rains" "I") (List.mem_of_getElem? (i := 2) rfl)) (fun _ h9 => h9) rfl dX6_isFull_18 ?_
    refine lv_bipush (v := 12) hx hb dX6_isFull_21 (by decide) ?_
    refine lv_icmp_ge (tgt := 40) hx hb dX6_isFull_23 (by decide) (fun hc => ?_) (fun hc => ?_)
    · replace hf := ow_t hc hf
      refine lv_iconst (v := 1) hx hb dX6_isFull_40 (by decide) ?_
      refine lv_goto (tgt := 45) hx hb dX6_isFull_41 (by decide) ?_
      obtain rfl := Option.some.inj hf
      exact ow_retZ C0 (Or.inr rfl) hP hD hS dX6_isFull_45
    · replace hf := ow_f hc hf
      exact w_X6_isFull_b26 C0 a0 p0 i0_0 i0_6 i0_8 i0_10 i0_11 i0_12 v0_1 v0_2 v0_3 v0_4 v0_5 v0_7 v0_9 res x1 hf _ _ _ hP hD hS (lv_sub hl [0, 1] rfl)
def f_X6_isFull  (i0_0 : Int32) (i0_6 : Int32) (i0_8 : Int32) (x1 : Int32) : Option (Int32) := if x1 = 0 then (if 5 ≤ i0_0 then (some (1)) else (f_X6_isFull_b12 i0_0 i0_6 i0_8 x1)) else (f_X6_isFull_b12 i0_0 i0_6 i0_8 x1)
set_option maxHeartbeats 4000000 in
set_option maxRecDepth 100000 in
theorem c_X6_isFull (l : Launch) (D : va_G) (cs : Nat → ClassId)  (sz : Nat) (a0 : Nat) (p0 : Nat → Nat) (i0_0 : Int32) (i0_6 : Int32) (i0_8 : Int32) (i0_10 : Int32) (i0_11 : Int32) (i0_12 : Int32) (v0_1 : Nat → Int32) (v0_2 : Nat → Int32) (v0_3 : Nat → Int32) (v0_4 : Nat → Int32) (v0_5 : Nat → Int32) (v0_7 : Nat → Int32) (v0_9 : Nat → Int32) (x1 : Int32) (res : Int32) (hf : f_X6_isFull  i0_0 i0_6 i0_8 x1 = some res) : MI l D cs yX6_isFull wsX6_isFull rm_X6_isFull [.ref a0, .int x1] sz (W_X6_isFull cs a0 p0 i0_0 i0_6 i0_8 i0_10 i0_11 i0_12 v0_1 v0_2 v0_3 v0_4 v0_5 v0_7 v0_9) (W_X6_isFull cs a0 p0 i0_0 i0_6 i0_8 i0_10 i0_11 i0_12 v0_1 v0_2 v0_3 v0_4 v0_5 v0_7 v0_9) res := by
  rw [f_X6_isFull] at hf
  refine ow_enter (cc := cX6_isFull) (nL := 2) (ret := (some .boolean)) (by decide) rfl (Nat.le_of_ble_eq_true rfl) (fun p e s m below meth c ls H locs C0 hP hD hS hA hl => ?_)
  obtain ⟨hx, hb, hr, hlk, hml, hown, hts, hK, hG, hE⟩ := id C0
  have hl : lv_has ls 2 [(0, .ref a0), (1, .int x1)] := hl
  refine lv_iload_n hx hb dX6_isFull_0 rfl (lv_at hl 1 rfl) ?_
  refine lv_if_ne (tgt := 12) hx hb dX6_isFull_1 (by decide) (fun hc => ?_) (fun hc => ?_)
  · replace hf := ow_f hc hf
    exact w_X6_isFull_b12 C0 a0 p0 i0_0 i0_6 i0_8 i0_10 i0_11 i0_12 v0_1 v0_2 v0_3 v0_4 v0_5 v0_7 v0_9 res x1 hf _ _ _ hP hD hS (lv_sub hl [0, 1] rfl)
  · replace hf := ow_t hc hf
    refine lv_aload_n hx hb dX6_isFull_4 rfl (lv_at hl 0 rfl) ?_
    refine va_get (D := D) (ci := 6) (v := .int i0_0) (C := RX6) (T := TX6) (N := 13) hx hb hts in_X6_isFull_X6 hown hK hP 0 rfl rfl 0 (by decide) (hts (.fieldLink RX6 57 "PaneDays$Street" "panes" "I") (List.mem_of_getElem? (i := 1) rfl)) (fun _ h9 => h9) rfl dX6_isFull_5 ?_
    refine lv_iconst (v := 5) hx hb dX6_isFull_8 (by decide) ?_
    refine lv_icmp_ge (tgt := 40) hx hb dX6_isFull_9 (by decide) (fun hc => ?_) (fun hc => ?_)
    · replace hf := ow_t hc hf
      refine lv_iconst (v := 1) hx hb dX6_isFull_40 (by decide) ?_
      refine lv_goto (tgt := 45) hx hb dX6_isFull_41 (by decide) ?_
      obtain rfl := Option.some.inj hf
      exact ow_retZ C0 (Or.inr rfl) hP hD hS dX6_isFull_45
    · replace hf := ow_f hc hf
      exact w_X6_isFull_b12 C0 a0 p0 i0_0 i0_6 i0_8 i0_10 i0_11 i0_12 v0_1 v0_2 v0_3 v0_4 v0_5 v0_7 v0_9 res x1 hf _ _ _ hP hD hS (lv_sub hl [0, 1] rfl)

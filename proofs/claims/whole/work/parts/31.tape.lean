theorem in_X7_wrong_X7 : ∀ w ∈ u_ws RX7 TX7 9, w ∈ wsX7_wrong := fun w h => List.mem_cons_of_mem _ (List.mem_append_right _ h)
abbrev W_X7_wrong (cs : Nat → ClassId) (a0 : Nat) (p0 : Nat → Nat) (i0_1 : Int32) (i0_2 : Int32) (i0_3 : Int32) (i0_4 : Int32) (i0_5 : Int32) (i0_6 : Int32) (i0_7 : Int32) (i0_8 : Int32) (v0_0 : Nat → Int32) : va_W := wX7 cs a0 p0 i0_1 i0_2 i0_3 i0_4 i0_5 i0_6 i0_7 i0_8 v0_0
abbrev rm_X7_wrong : Room := { frames := 0, cells := 0, slots := 0, locals := 0 }
def f_X7_wrong  (i0_3 : Int32) (i0_4 : Int32) (i0_7 : Int32) (i0_8 : Int32) (x1 : Int32) : Option (Int32 × Int32 × Int32) := if i0_7 = 0 then (some (4, x1, i0_4)) else (some (i0_3, i0_7, i0_8))
set_option maxHeartbeats 4000000 in
set_option maxRecDepth 100000 in
theorem c_X7_wrong (l : Launch) (D : va_G) (cs : Nat → ClassId)  (sz : Nat) (a0 : Nat) (p0 : Nat → Nat) (i0_1 : Int32) (i0_2 : Int32) (i0_3 : Int32) (i0_4 : Int32) (i0_5 : Int32) (i0_6 : Int32) (i0_7 : Int32) (i0_8 : Int32) (v0_0 : Nat → Int32) (x1 : Int32) (res : Int32 × Int32 × Int32) (hf : f_X7_wrong  i0_3 i0_4 i0_7 i0_8 x1 = some res) : MV l D cs yX7_wrong wsX7_wrong rm_X7_wrong [.ref a0, .int x1] sz (W_X7_wrong cs a0 p0 i0_1 i0_2 i0_3 i0_4 i0_5 i0_6 i0_7 i0_8 v0_0) (W_X7_wrong cs a0 p0 i0_1 i0_2 res.1 i0_4 i0_5 i0_6 res.2.1 res.2.2 v0_0) := by
  rw [f_X7_wrong] at hf
  refine ow_enter (cc := cX7_wrong) (nL := 2) (ret := none) (by decide) rfl (Nat.le_of_ble_eq_true rfl) (fun p e s m below meth c ls H locs C0 hP hD hS hA hl => ?_)
  obtain ⟨hx, hb, hr, hlk, hml, hown, hts, hK, hG, hE⟩ := id C0
  have hl : lv_has ls 2 [(0, .ref a0), (1, .int x1)] := hl
  refine lv_aload_n hx hb dX7_wrong_0 rfl (lv_at hl 0 rfl) ?_
  refine va_get (D := D) (ci := 7) (v := .int i0_7) (C := RX7) (T := TX7) (N := 9) hx hb hts in_X7_wrong_X7 hown hK hP 0 rfl rfl 7 (by decide) (hts (.fieldLink RX7 28 "PaneDays$Tape" "fault" "I") (List.mem_of_getElem? (i := 1) rfl)) (fun _ h9 => h9) rfl dX7_wrong_1 ?_
  refine lv_if_ne (tgt := 25) hx hb dX7_wrong_4 (by decide) (fun hc => ?_) (fun hc => ?_)
  · replace hf := ow_f hc hf
    obtain rfl := Option.some.inj hf
    exact ow_retV C0 hP hD hS dX7_wrong_25
  · replace hf := ow_t hc hf
    refine lv_aload_n hx hb dX7_wrong_7 rfl (lv_at hl 0 rfl) ?_
    refine lv_iload_n hx hb dX7_wrong_8 rfl (lv_at hl 1 rfl) ?_
    refine va_put (D := D) (ci := 7) (v := .int x1) (ty := .int) (C := RX7) (T := TX7) (N := 9) hx hb hts in_X7_wrong_X7 tyX7 tyX7_ok nmX7 hown hK hP hD hS 0 rfl rfl 7 (by decide) (hts (.fieldLink RX7 28 "PaneDays$Tape" "fault" "I") (List.mem_of_getElem? (i := 1) rfl)) (fun _ h9 => h9) rfl (by decide +kernel) rfl rfl (Nat.le_of_ble_eq_true rfl) dX7_wrong_9 (fun H locs (hP : va_P D vwCl (W_X7_wrong cs a0 p0 i0_1 i0_2 i0_3 i0_4 i0_5 i0_6 x1 i0_8 v0_0) H) (hD : va_D _ (W_X7_wrong cs a0 p0 i0_1 i0_2 i0_3 i0_4 i0_5 i0_6 x1 i0_8 v0_0)) hS => ?_)
    refine lv_aload_n hx hb dX7_wrong_12 rfl (lv_at hl 0 rfl) ?_
    refine lv_aload_n hx hb dX7_wrong_13 rfl (lv_at hl 0 rfl) ?_
    refine va_get (D := D) (ci := 7) (v := .int i0_4) (C := RX7) (T := TX7) (N := 9) hx hb hts in_X7_wrong_X7 hown hK hP 0 rfl rfl 4 (by decide) (hts (.fieldLink RX7 34 "PaneDays$Tape" "from" "I") (List.mem_of_getElem? (i := 2) rfl)) (fun _ h9 => h9) rfl dX7_wrong_14 ?_
    refine va_put (D := D) (ci := 7) (v := .int i0_4) (ty := .int) (C := RX7) (T := TX7) (N := 9) hx hb hts in_X7_wrong_X7 tyX7 tyX7_ok nmX7 hown hK hP hD hS 0 rfl rfl 8 (by decide) (hts (.fieldLink RX7 15 "PaneDays$Tape" "place" "I") (List.mem_of_getElem? (i := 3) rfl)) (fun _ h9 => h9) rfl (by decide +kernel) rfl rfl (Nat.le_of_ble_eq_true rfl) dX7_wrong_17 (fun H locs (hP : va_P D vwCl (W_X7_wrong cs a0 p0 i0_1 i0_2 i0_3 i0_4 i0_5 i0_6 x1 i0_4 v0_0) H) (hD : va_D _ (W_X7_wrong cs a0 p0 i0_1 i0_2 i0_3 i0_4 i0_5 i0_6 x1 i0_4 v0_0)) hS => ?_)
    refine lv_aload_n hx hb dX7_wrong_20 rfl (lv_at hl 0 rfl) ?_
    refine lv_iconst (v := 4) hx hb dX7_wrong_21 (by decide) ?_
    refine va_put (D := D) (ci := 7) (v := .int 4) (ty := .int) (C := RX7) (T := TX7) (N := 9) hx hb hts in_X7_wrong_X7 tyX7 tyX7_ok nmX7 hown hK hP hD hS 0 rfl rfl 3 (by decide) (hts (.fieldLink RX7 37 "PaneDays$Tape" "kind" "I") (List.mem_of_getElem? (i := 4) rfl)) (fun _ h9 => h9) rfl (by decide +kernel) rfl rfl (Nat.le_of_ble_eq_true rfl) dX7_wrong_22 (fun H locs (hP : va_P D vwCl (W_X7_wrong cs a0 p0 i0_1 i0_2 (4) i0_4 i0_5 i0_6 x1 i0_4 v0_0) H) (hD : va_D _ (W_X7_wrong cs a0 p0 i0_1 i0_2 (4) i0_4 i0_5 i0_6 x1 i0_4 v0_0)) hS => ?_)
    obtain rfl := Option.some.inj hf
    exact ow_retV C0 hP hD hS dX7_wrong_25
theorem in_X7_takeEnd_X7 : ∀ w ∈ u_ws RX7 TX7 9, w ∈ wsX7_takeEnd := fun w h => List.mem_cons_of_mem _ (List.mem_append_right _ h)
abbrev W_X7_takeEnd (cs : Nat → ClassId) (a0 : Nat) (p0 : Nat → Nat) (i0_1 : Int32) (i0_2 : Int32) (i0_3 : Int32) (i0_4 : Int32) (i0_5 : Int32) (i0_6 : Int32) (i0_7 : Int32) (i0_8 : Int32) (v0_0 : Nat → Int32) : va_W := wX7 cs a0 p0 i0_1 i0_2 i0_3 i0_4 i0_5 i0_6 i0_7 i0_8 v0_0
abbrev rm_X7_takeEnd : Room := { frames := 1, cells := 0, slots := 0, locals := 21 }
def f_X7_takeEnd_b12  (i0_4 : Int32)  (i0_3 : Int32) (i0_7 : Int32) (i0_8 : Int32)  : Option (Int32 × Int32 × Int32 × Int32) := if i0_7 = 0 then (some (1, i0_3, i0_7, i0_8)) else (some (0, i0_3, i0_7, i0_8))
set_option maxHeartbeats 4000000 in
set_option maxRecDepth 100000 in
theorem w_X7_takeEnd_b12 {p : Program} {l : Launch} {e : Env} {s : State} {m : MethodId} {below : List Frame} {meth : Method} {c : Code} {D : va_G} {cs : Nat → ClassId} {av : Array Value} {w0 : va_W} (C0 : Cx p s m meth c av wsX7_takeEnd cX7_takeEnd 1 (some .boolean) RX7 D cs w0)  (a0 : Nat) (p0 : Nat → Nat) (i0_1 : Int32) (i0_2 : Int32) (i0_4 : Int32) (i0_5 : Int32) (i0_6 : Int32) (v0_0 : Nat → Int32) (res : Int32 × Int32 × Int32 × Int32)  : ∀ (i0_3 : Int32) (i0_7 : Int32) (i0_8 : Int32), f_X7_takeEnd_b12 i0_4 i0_3 i0_7 i0_8 = some res → ∀ (H : Heap) (locs : List Loc) (ls : Array Slot), va_P D vwCl (W_X7_takeEnd cs a0 p0 i0_1 i0_2 i0_3 i0_4 i0_5 i0_6 i0_7 i0_8 v0_0) H → va_D (va_A w0 s.heap.size) (W_X7_takeEnd cs a0 p0 i0_1 i0_2 i0_3 i0_4 i0_5 i0_6 i0_7 i0_8 v0_0) → va_S (va_A w0 s.heap.size) s.heap H locs → lv_has ls 1 [(0, .ref a0)] → W p l e rm_X7_takeEnd s m av below meth c H locs 0 0 (MQ below (oI D cs w0 (W_X7_takeEnd cs a0 p0 i0_1 i0_2 res.2.1 i0_4 i0_5 i0_6 res.2.2.1 res.2.2.2 v0_0) res.1 s.heap.size) av s 0 0 (va_A w0 s.heap.size)) (F0 m 12 ls []) := by
  obtain ⟨hx, hb, hr, hlk, hml, hown, hts, hK, hG, hE⟩ := id C0
  intro i0_3 i0_7 i0_8 hf H locs ls hP hD hS hl
  rw [f_X7_takeEnd_b12] at hf
  refine lv_aload_n hx hb dX7_takeEnd_12 rfl (lv_at hl 0 rfl) ?_
  refine va_get (D := D) (ci := 7) (v := .int i0_7) (C := RX7) (T := TX7) (N := 9) hx hb hts in_X7_takeEnd_X7 hown hK hP 0 rfl rfl 7 (by decide) (hts (.fieldLink RX7 28 "PaneDays$Tape" "fault" "I") (List.mem_of_getElem? (i := 2) rfl)) (fun _ h9 => h9) rfl dX7_takeEnd_13 ?_
  refine lv_if_ne (tgt := 23) hx hb dX7_takeEnd_16 (by decide) (fun hc => ?_) (fun hc => ?_)
  · replace hf := ow_f hc hf
    refine lv_iconst (v := 0) hx hb dX7_takeEnd_23 (by decide) ?_
    obtain rfl := Option.some.inj hf
    exact ow_retZ C0 (Or.inl rfl) hP hD hS dX7_takeEnd_24
  · replace hf := ow_t hc hf
    refine lv_iconst (v := 1) hx hb dX7_takeEnd_19 (by decide) ?_
    refine lv_goto (tgt := 24) hx hb dX7_takeEnd_20 (by decide) ?_
    obtain rfl := Option.some.inj hf
    exact ow_retZ C0 (Or.inr rfl) hP hD hS dX7_takeEnd_24
def f_X7_takeEnd  (i0_3 : Int32) (i0_4 : Int32) (i0_7 : Int32) (i0_8 : Int32)  : Option (Int32 × Int32 × Int32 × Int32) := if i0_3 = 0 then (f_X7_takeEnd_b12 i0_4 i0_3 i0_7 i0_8) else ((f_X7_wrong i0_3 i0_4 i0_7 i0_8 (1)).bind fun q9 => f_X7_takeEnd_b12 i0_4 q9.1 q9.2.1 q9.2.2)
set_option maxHeartbeats 4000000 in
set_option maxRecDepth 100000 in
theorem c_X7_takeEnd (l : Launch) (D : va_G) (cs : Nat → ClassId)  (sz : Nat) (a0 : Nat) (p0 : Nat → Nat) (i0_1 : Int32) (i0_2 : Int32) (i0_3 : Int32) (i0_4 : Int32) (i0_5 : Int32) (i0_6 : Int32) (i0_7 : Int32) (i0_8 : Int32) (v0_0 : Nat → Int32)  (res : Int32 × Int32 × Int32 × Int32) (hf : f_X7_takeEnd  i0_3 i0_4 i0_7 i0_8  = some res) : MI l D cs yX7_takeEnd wsX7_takeEnd rm_X7_takeEnd [.ref a0] sz (W_X7_takeEnd cs a0 p0 i0_1 i0_2 i0_3 i0_4 i0_5 i0_6 i0_7 i0_8 v0_0) (W_X7_takeEnd cs a0 p0 i0_1 i0_2 res.2.1 i0_4 i0_5 i0_6 res.2.2.1 res.2.2.2 v0_0) res.1 := by
  rw [f_X7_takeEnd] at hf
  refine ow_enter (cc := cX7_takeEnd) (nL := 1) (ret := (some .boolean)) (by decide) rfl (Nat.le_of_ble_eq_true rfl) (fun p e s m below meth c ls H locs C0 hP hD hS hA hl => ?_)
  obtain ⟨hx, hb, hr, hlk, hml, hown, hts, hK, hG, hE⟩ := id C0
  have hl : lv_has ls 1 [(0, .ref a0)] := hl
  refine lv_aload_n hx hb dX7_takeEnd_0 rfl (lv_at hl 0 rfl) ?_
  refine va_get (D := D) (ci := 7) (v := .int i0_3) (C := RX7) (T := TX7) (N := 9) hx hb hts in_X7_takeEnd_X7 hown hK hP 0 rfl rfl 3 (by decide) (hts (.fieldLink RX7 37 "PaneDays$Tape" "kind" "I") (List.mem_of_getElem? (i := 1) rfl)) (fun _ h9 => h9) rfl dX7_takeEnd_1 ?_
  refine lv_if_eq (tgt := 12) hx hb dX7_takeEnd_4 (by decide) (fun hc => ?_) (fun hc => ?_)
  · replace hf := ow_t hc hf
    exact w_X7_takeEnd_b12 C0 a0 p0 i0_1 i0_2 i0_4 i0_5 i0_6 v0_0 res i0_3 i0_7 i0_8 hf _ _ _ hP hD hS (lv_sub hl [0] rfl)
  · replace hf := ow_f hc hf
    refine lv_aload_n hx hb dX7_takeEnd_7 rfl (lv_at hl 0 rfl) ?_
    refine lv_iconst (v := 1) hx hb dX7_takeEnd_8 (by decide) ?_
    obtain ⟨q9, hq, hf⟩ := bd_some hf
    refine ow_callVV (As := [.int 1]) (rest := []) (wr := ow_pk (W_X7_takeEnd cs a0 p0 i0_1 i0_2 i0_3 i0_4 i0_5 i0_6 i0_7 i0_8 v0_0) []) (wf := (W_X7_takeEnd cs a0 p0 i0_1 i0_2 q9.1 i0_4 i0_5 i0_6 q9.2.1 q9.2.2 v0_0)) C0 (c_X7_wrong l D cs H.size a0 p0 i0_1 i0_2 i0_3 i0_4 i0_5 i0_6 i0_7 i0_8 v0_0 (1) q9 hq) (cwV 1 hts gX7_takeEnd_X7_wrong rfl rfl rfl (by decide +kernel) ⟨Nat.le_of_ble_eq_true rfl, Nat.le_of_ble_eq_true rfl⟩) 7 rfl rfl hP hD hS (fun q h => Or.inr h) [0, 1] [] [0, 1] rfl (by decide) rfl (by decide) (by decide) rfl (by decide) rfl hl.1 rfl (Nat.le_of_ble_eq_true rfl) ⟨Nat.zero_le _, Nat.zero_le _⟩ dX7_takeEnd_9 (fun H locs hP hD hS => ?_)
    exact w_X7_takeEnd_b12 C0 a0 p0 i0_1 i0_2 i0_4 i0_5 i0_6 v0_0 res q9.1 q9.2.1 q9.2.2 hf _ _ _ hP hD hS (lv_sub hl [0] rfl)
theorem in_X7_step_X7 : ∀ w ∈ u_ws RX7 TX7 9, w ∈ wsX7_step := fun w h => List.mem_cons_of_mem _ (List.mem_append_right _ h)
abbrev W_X7_step (cs : Nat → ClassId) (a0 : Nat) (p0 : Nat → Nat) (i0_1 : Int32) (i0_2 : Int32) (i0_3 : Int32) (i0_4 : Int32) (i0_5 : Int32) (i0_6 : Int32) (i0_7 : Int32) (i0_8 : Int32) (v0_0 : Nat → Int32) : va_W := wX7 cs a0 p0 i0_1 i0_2 i0_3 i0_4 i0_5 i0_6 i0_7 i0_8 v0_0
abbrev rm_X7_step : Room := { frames := 1, cells := 0, slots := 0, locals := 21 }
def f_X7_step_b141  (i0_2 : Int32) (i0_7 : Int32) (v0_0 : Nat → Int32) (k67 : (Int32) → (Int32) → (Int32) → (Int32) → Option (Int32 × Int32 × Int32 × Int32)) (i0_3 : Int32) (i0_4 : Int32) (i0_5 : Int32) (i0_6 : Int32) (t1 : Int32) : Option (Int32 × Int32 × Int32 × Int32) := k67 i0_3 i0_4 (i0_5 + 1) t1
set_option maxHeartbeats 4000000 in
set_option maxRecDepth 100000 in
theorem w_X7_step_b141 {p : Program} {l : Launch} {e : Env} {s : State} {m : MethodId} {below : List Frame} {meth : Method} {c : Code} {D : va_G} {cs : Nat → ClassId} {av : Array Value} {w0 : va_W} (C0 : Cx p s m meth c av wsX7_step cX7_step 1 none RX7 D cs w0)  (a0 : Nat) (p0 : Nat → Nat) (i0_1 : Int32) (i0_2 : Int32) (i0_7 : Int32) (i0_8 : Int32) (v0_0 : Nat → Int32) (res : Int32 × Int32 × Int32 × Int32) (k67 : (Int32) → (Int32) → (Int32) → (Int32) → Option (Int32 × Int32 × Int32 × Int32)) (hk67 : ∀ (i0_3 : Int32) (i0_4 : Int32) (i0_5 : Int32) (i0_6 : Int32), k67 i0_3 i0_4 i0_5 i0_6 = some res → ∀ (H : Heap) (locs : List Loc) (ls : Array Slot), va_P D vwCl (W_X7_step cs a0 p0 i0_1 i0_2 i0_3 i0_4 i0_5 i0_6 i0_7 i0_8 v0_0) H → va_D (va_A w0 s.heap.size) (W_X7_step cs a0 p0 i0_1 i0_2 i0_3 i0_4 i0_5 i0_6 i0_7 i0_8 v0_0) → va_S (va_A w0 s.heap.size) s.heap H locs → lv_has ls 1 [(0, .ref a0)] → W p l e rm_X7_step s m av below meth c H locs 0 0 (MQ below (oV D cs w0 (W_X7_step cs a0 p0 i0_1 i0_2 res.1 res.2.1 res.2.2.1 res.2.2.2 i0_7 i0_8 v0_0) s.heap.size) av s 0 0 (va_A w0 s.heap.size)) (F0 m 67 ls [])) : ∀ (i0_3 : Int32) (i0_4 : Int32) (i0_5 : Int32) (i0_6 : Int32) (t1 : Int32), f_X7_step_b141 i0_2 i0_7 v0_0 k67 i0_3 i0_4 i0_5 i0_6 t1 = some res → ∀ (H : Heap) (locs : List Loc) (ls : Array Slot), va_P D vwCl (W_X7_step cs a0 p0 i0_1 i0_2 i0_3 i0_4 i0_5 i0_6 i0_7 i0_8 v0_0) H → va_D (va_A w0 s.heap.size) (W_X7_step cs a0 p0 i0_1 i0_2 i0_3 i0_4 i0_5 i0_6 i0_7 i0_8 v0_0) → va_S (va_A w0 s.heap.size) s.heap H locs → lv_has ls 1 [(0, .ref a0)] → W p l e rm_X7_step s m av below meth c H locs 0 0 (MQ below (oV D cs w0 (W_X7_step cs a0 p0 i0_1 i0_2 res.1 res.2.1 res.2.2.1 res.2.2.2 i0_7 i0_8 v0_0) s.heap.size) av s 0 0 (va_A w0 s.heap.size)) (F0 m 141 ls [.int t1, .ref a0]) := by
  obtain ⟨hx, hb, hr, hlk, hml, hown, hts, hK, hG, hE⟩ := id C0
  intro i0_3 i0_4 i0_5 i0_6 t1 hf H locs ls hP hD hS hl
  rw [f_X7_step_b141] at hf
  refine va_put (D := D) (ci := 7) (v := .int t1) (ty := .int) (C := RX7) (T := TX7) (N := 9) hx hb hts in_X7_step_X7 tyX7 tyX7_ok nmX7 hown hK hP hD hS 0 rfl rfl 6 (by decide) (hts (.fieldLink RX7 40 "PaneDays$Tape" "value" "I") (List.mem_of_getElem? (i := 6) rfl)) (fun _ h9 => h9) rfl (by decide +kernel) rfl rfl (Nat.le_of_ble_eq_true rfl) dX7_step_141 (fun H locs (hP : va_P D vwCl (W_X7_step cs a0 p0 i0_1 i0_2 i0_3 i0_4 i0_5 t1 i0_7 i0_8 v0_0) H) (hD : va_D _ (W_X7_step cs a0 p0 i0_1 i0_2 i0_3 i0_4 i0_5 t1 i0_7 i0_8 v0_0)) hS => ?_)
  refine lv_aload_n hx hb dX7_step_144 rfl (lv_at hl 0 rfl) ?_
  refine lv_dup hx hb dX7_step_145 rfl ?_
  refine va_get (D := D) (ci := 7) (v := .int i0_5) (C := RX7) (T := TX7) (N := 9) hx hb hts in_X7_step_X7 hown hK hP 0 rfl rfl 5 (by decide) (hts (.fieldLink RX7 25 "PaneDays$Tape" "to" "I") (List.mem_of_getElem? (i := 2) rfl)) (fun _ h9 => h9) rfl dX7_step_146 ?_
  refine lv_iconst (v := 1) hx hb dX7_step_149 (by decide) ?_
  refine lv_iadd hx hb dX7_step_150 ?_
  refine va_put (D := D) (ci := 7) (v := .int (i0_5 + 1)) (ty := .int) (C := RX7) (T := TX7) (N := 9) hx hb hts in_X7_step_X7 tyX7 tyX7_ok nmX7 hown hK hP hD hS 0 rfl rfl 5 (by decide) (hts (.fieldLink RX7 25 "PaneDays$Tape" "to" "I") (List.mem_of_getElem? (i := 2) rfl)) (fun _ h9 => h9) rfl (by decide +kernel) rfl rfl (Nat.le_of_ble_eq_true rfl) dX7_step_151 (fun H locs (hP : va_P D vwCl (W_X7_step cs a0 p0 i0_1 i0_2 i0_3 i0_4 (i0_5 + 1) t1 i0_7 i0_8 v0_0) H) (hD : va_D _ (W_X7_step cs a0 p0 i0_1 i0_2 i0_3 i0_4 (i0_5 + 1) t1 i0_7 i0_8 v0_0)) hS => ?_)
  refine lv_goto (tgt := 67) hx hb dX7_step_154 (by decide) ?_
  exact hk67 i0_3 i0_4 (i0_5 + 1) t1 hf _ _ _ hP hD hS (lv_sub hl [0] rfl)
def f_X7_step_b196  (i0_2 : Int32) (i0_7 : Int32) (v0_0 : Nat → Int32)  (i0_3 : Int32) (i0_4 : Int32) (i0_5 : Int32) (i0_6 : Int32) (t1 : Int32) : Option (Int32 × Int32 × Int32 × Int32) := some (t1, i0_4, i0_5, i0_6)
set_option maxHeartbeats 4000000 in
set_option maxRecDepth 100000 in
theorem w_X7_step_b196 {p : Program} {l : Launch} {e : Env} {s : State} {m : MethodId} {below : List Frame} {meth : Method} {c : Code} {D : va_G} {cs : Nat → ClassId} {av : Array Value} {w0 : va_W} (C0 : Cx p s m meth c av wsX7_step cX7_step 1 none RX7 D cs w0)  (a0 : Nat) (p0 : Nat → Nat) (i0_1 : Int32) (i0_2 : Int32) (i0_7 : Int32) (i0_8 : Int32) (v0_0 : Nat → Int32) (res : Int32 × Int32 × Int32 × Int32)  : ∀ (i0_3 : Int32) (i0_4 : Int32) (i0_5 : Int32) (i0_6 : Int32) (t1 : Int32), f_X7_step_b196 i0_2 i0_7 v0_0 i0_3 i0_4 i0_5 i0_6 t1 = some res → ∀ (H : Heap) (locs : List Loc) (ls : Array Slot), va_P D vwCl (W_X7_step cs a0 p0 i0_1 i0_2 i0_3 i0_4 i0_5 i0_6 i0_7 i0_8 v0_0) H → va_D (va_A w0 s.heap.size) (W_X7_step cs a0 p0 i0_1 i0_2 i0_3 i0_4 i0_5 i0_6 i0_7 i0_8 v0_0) → va_S (va_A w0 s.heap.size) s.heap H locs → lv_has ls 1 [] → W p l e rm_X7_step s m av below meth c H locs 0 0 (MQ below (oV D cs w0 (W_X7_step cs a0 p0 i0_1 i0_2 res.1 res.2.1 res.2.2.1 res.2.2.2 i0_7 i0_8 v0_0) s.heap.size) av s 0 0 (va_A w0 s.heap.size)) (F0 m 196 ls [.int t1, .ref a0]) := by
  obtain ⟨hx, hb, hr, hlk, hml, hown, hts, hK, hG, hE⟩ := id C0
  intro i0_3 i0_4 i0_5 i0_6 t1 hf H locs ls hP hD hS hl
  rw [f_X7_step_b196] at hf
  refine va_put (D := D) (ci := 7) (v := .int t1) (ty := .int) (C := RX7) (T := TX7) (N := 9) hx hb hts in_X7_step_X7 tyX7 tyX7_ok nmX7 hown hK hP hD hS 0 rfl rfl 3 (by decide) (hts (.fieldLink RX7 37 "PaneDays$Tape" "kind" "I") (List.mem_of_getElem? (i := 8) rfl)) (fun _ h9 => h9) rfl (by decide +kernel) rfl rfl (Nat.le_of_ble_eq_true rfl) dX7_step_196 (fun H locs (hP : va_P D vwCl (W_X7_step cs a0 p0 i0_1 i0_2 t1 i0_4 i0_5 i0_6 i0_7 i0_8 v0_0) H) (hD : va_D _ (W_X7_step cs a0 p0 i0_1 i0_2 t1 i0_4 i0_5 i0_6 i0_7 i0_8 v0_0)) hS => ?_)
  obtain rfl := Option.some.inj hf
  exact ow_retV C0 hP hD hS dX7_step_199
def f_X7_step_b179  (i0_2 : Int32) (i0_7 : Int32) (v0_0 : Nat → Int32)  (i0_3 : Int32) (i0_4 : Int32) (i0_5 : Int32) (i0_6 : Int32)  : Option (Int32 × Int32 × Int32 × Int32) := if i0_5 ≤ i0_4 then (f_X7_step_b196 i0_2 i0_7 v0_0 i0_3 i0_4 i0_5 i0_6 (0)) else (f_X7_step_b196 i0_2 i0_7 v0_0 i0_3 i0_4 i0_5 i0_6 (1))
set_option maxHeartbeats 4000000 in
set_option maxRecDepth 100000 in
theorem w_X7_step_b179 {p : Program} {l : Launch} {e : Env} {s : State} {m : MethodId} {below : List Frame} {meth : Method} {c : Code} {D : va_G} {cs : Nat → ClassId} {av : Array Value} {w0 : va_W} (C0 : Cx p s m meth c av wsX7_step cX7_step 1 none RX7 D cs w0)  (a0 : Nat) (p0 : Nat → Nat) (i0_1 : Int32) (i0_2 : Int32) (i0_7 : Int32) (i0_8 : Int32) (v0_0 : Nat → Int32) (res : Int32 × Int32 × Int32 × Int32)  : ∀ (i0_3 : Int32) (i0_4 : Int32) (i0_5 : Int32) (i0_6 : Int32), f_X7_step_b179 i0_2 i0_7 v0_0 i0_3 i0_4 i0_5 i0_6 = some res → ∀ (H : Heap) (locs : List Loc) (ls : Array Slot), va_P D vwCl (W_X7_step cs a0 p0 i0_1 i0_2 i0_3 i0_4 i0_5 i0_6 i0_7 i0_8 v0_0) H → va_D (va_A w0 s.heap.size) (W_X7_step cs a0 p0 i0_1 i0_2 i0_3 i0_4 i0_5 i0_6 i0_7 i0_8 v0_0) → va_S (va_A w0 s.heap.size) s.heap H locs → lv_has ls 1 [(0, .ref a0)] → W p l e rm_X7_step s m av below meth c H locs 0 0 (MQ below (oV D cs w0 (W_X7_step cs a0 p0 i0_1 i0_2 res.1 res.2.1 res.2.2.1 res.2.2.2 i0_7 i0_8 v0_0) s.heap.size) av s 0 0 (va_A w0 s.heap.size)) (F0 m 179 ls []) := by
  obtain ⟨hx, hb, hr, hlk, hml, hown, hts, hK, hG, hE⟩ := id C0
  intro i0_3 i0_4 i0_5 i0_6 hf H locs ls hP hD hS hl
  rw [f_X7_step_b179] at hf
  refine lv_aload_n hx hb dX7_step_179 rfl (lv_at hl 0 rfl) ?_
  refine lv_aload_n hx hb dX7_step_180 rfl (lv_at hl 0 rfl) ?_
  refine va_get (D := D) (ci := 7) (v := .int i0_5) (C := RX7) (T := TX7) (N := 9) hx hb hts in_X7_step_X7 hown hK hP 0 rfl rfl 5 (by decide) (hts (.fieldLink RX7 25 "PaneDays$Tape" "to" "I") (List.mem_of_getElem? (i := 2) rfl)) (fun _ h9 => h9) rfl dX7_step_181 ?_
  refine lv_aload_n hx hb dX7_step_184 rfl (lv_at hl 0 rfl) ?_
  refine va_get (D := D) (ci := 7) (v := .int i0_4) (C := RX7) (T := TX7) (N := 9) hx hb hts in_X7_step_X7 hown hK hP 0 rfl rfl 4 (by decide) (hts (.fieldLink RX7 34 "PaneDays$Tape" "from" "I") (List.mem_of_getElem? (i := 3) rfl)) (fun _ h9 => h9) rfl dX7_step_185 ?_
  refine lv_icmp_le (tgt := 195) hx hb dX7_step_188 (by decide) (fun hc => ?_) (fun hc => ?_)
  · replace hf := ow_t hc hf
    refine lv_iconst (v := 0) hx hb dX7_step_195 (by decide) ?_
    exact w_X7_step_b196 C0 a0 p0 i0_1 i0_2 i0_7 i0_8 v0_0 res i0_3 i0_4 i0_5 i0_6 (0) hf _ _ _ hP hD hS (lv_sub hl [] rfl)
  · replace hf := ow_f hc hf
    refine lv_iconst (v := 1) hx hb dX7_step_191 (by decide) ?_
    refine lv_goto (tgt := 196) hx hb dX7_step_192 (by decide) ?_
    exact w_X7_step_b196 C0 a0 p0 i0_1 i0_2 i0_7 i0_8 v0_0 res i0_3 i0_4 i0_5 i0_6 (1) hf _ _ _ hP hD hS (lv_sub hl [] rfl)
def f_X7_step_b269  (i0_2 : Int32) (i0_7 : Int32) (v0_0 : Nat → Int32)  (i0_3 : Int32) (i0_4 : Int32) (i0_5 : Int32) (i0_6 : Int32) (t1 : Int32) : Option (Int32 × Int32 × Int32 × Int32) := some (t1, i0_4, if i0_5 < (i0_4 + 1) then (i0_4 + 1) else i0_5, i0_6)
set_option maxHeartbeats 4000000 in
set_option maxRecDepth 100000 in
theorem w_X7_step_b269 {p : Program} {l : Launch} {e : Env} {s : State} {m : MethodId} {below : List Frame} {meth : Method} {c : Code} {D : va_G} {cs : Nat → ClassId} {av : Array Value} {w0 : va_W} (C0 : Cx p s m meth c av wsX7_step cX7_step 1 none RX7 D cs w0)  (a0 : Nat) (p0 : Nat → Nat) (i0_1 : Int32) (i0_2 : Int32) (i0_7 : Int32) (i0_8 : Int32) (v0_0 : Nat → Int32) (res : Int32 × Int32 × Int32 × Int32)  : ∀ (i0_3 : Int32) (i0_4 : Int32) (i0_5 : Int32) (i0_6 : Int32) (t1 : Int32), f_X7_step_b269 i0_2 i0_7 v0_0 i0_3 i0_4 i0_5 i0_6 t1 = some res → ∀ (H : Heap) (locs : List Loc) (ls : Array Slot), va_P D vwCl (W_X7_step cs a0 p0 i0_1 i0_2 i0_3 i0_4 i0_5 i0_6 i0_7 i0_8 v0_0) H → va_D (va_A w0 s.heap.size) (W_X7_step cs a0 p0 i0_1 i0_2 i0_3 i0_4 i0_5 i0_6 i0_7 i0_8 v0_0) → va_S (va_A w0 s.heap.size) s.heap H locs → lv_has ls 1 [(0, .ref a0)] → W p l e rm_X7_step s m av below meth c H locs 0 0 (MQ below (oV D cs w0 (W_X7_step cs a0 p0 i0_1 i0_2 res.1 res.2.1 res.2.2.1 res.2.2.2 i0_7 i0_8 v0_0) s.heap.size) av s 0 0 (va_A w0 s.heap.size)) (F0 m 269 ls [.int t1, .ref a0]) := by
  obtain ⟨hx, hb, hr, hlk, hml, hown, hts, hK, hG, hE⟩ := id C0
  intro i0_3 i0_4 i0_5 i0_6 t1 hf H locs ls hP hD hS hl
  rw [f_X7_step_b269] at hf
  refine va_put (D := D) (ci := 7) (v := .int t1) (ty := .int) (C := RX7) (T := TX7) (N := 9) hx hb hts in_X7_step_X7 tyX7 tyX7_ok nmX7 hown hK hP hD hS 0 rfl rfl 3 (by decide) (hts (.fieldLink RX7 37 "PaneDays$Tape" "kind" "I") (List.mem_of_getElem? (i := 8) rfl)) (fun _ h9 => h9) rfl (by decide +kernel) rfl rfl (Nat.le_of_ble_eq_true rfl) dX7_step_269 (fun H locs (hP : va_P D vwCl (W_X7_step cs a0 p0 i0_1 i0_2 t1 i0_4 i0_5 i0_6 i0_7 i0_8 v0_0) H) (hD : va_D _ (W_X7_step cs a0 p0 i0_1 i0_2 t1 i0_4 i0_5 i0_6 i0_7 i0_8 v0_0)) hS => ?_)
  refine lv_aload_n hx hb dX7_step_272 rfl (lv_at hl 0 rfl) ?_
  refine lv_aload_n hx hb dX7_step_273 rfl (lv_at hl 0 rfl) ?_
  refine va_get (D := D) (ci := 7) (v := .int i0_5) (C := RX7) (T := TX7) (N := 9) hx hb hts in_X7_step_X7 hown hK hP 0 rfl rfl 5 (by decide) (hts (.fieldLink RX7 25 "PaneDays$Tape" "to" "I") (List.mem_of_getElem? (i := 2) rfl)) (fun _ h9 => h9) rfl dX7_step_274 ?_
  refine lv_aload_n hx hb dX7_step_277 rfl (lv_at hl 0 rfl) ?_
  refine va_get (D := D) (ci := 7) (v := .int i0_4) (C := RX7) (T := TX7) (N := 9) hx hb hts in_X7_step_X7 hown hK hP 0 rfl rfl 4 (by decide) (hts (.fieldLink RX7 34 "PaneDays$Tape" "from" "I") (List.mem_of_getElem? (i := 3) rfl)) (fun _ h9 => h9) rfl dX7_step_278 ?_
  refine lv_iconst (v := 1) hx hb dX7_step_281 (by decide) ?_
  refine lv_iadd hx hb dX7_step_282 ?_
  refine va_mmax hx hb (hml.trans hl.1.symm) hown (hts (.methodLink RX7 44 Lib.Math.max.name) (by decide +kernel)) (hts (.static Lib.Math.max.name) (by decide +kernel)) (hts (.initialized "java/lang/Math") (by decide +kernel)) (hts (.code Lib.Math.max.name Lib.Math.max.code 2 (some .int)) (by decide +kernel)) (Nat.le_of_ble_eq_true rfl) (Nat.le_of_ble_eq_true rfl) (Nat.zero_le _) (Nat.zero_le _) dX7_step_283 ?_
  refine va_put (D := D) (ci := 7) (v := .int (if i0_5 < (i0_4 + 1) then (i0_4 + 1) else i0_5)) (ty := .int) (C := RX7) (T := TX7) (N := 9) hx hb hts in_X7_step_X7 tyX7 tyX7_ok nmX7 hown hK hP hD hS 0 rfl rfl 5 (by decide) (hts (.fieldLink RX7 25 "PaneDays$Tape" "to" "I") (List.mem_of_getElem? (i := 2) rfl)) (fun _ h9 => h9) rfl (by decide +kernel) rfl rfl (Nat.le_of_ble_eq_true rfl) dX7_step_286 (fun H locs (hP : va_P D vwCl (W_X7_step cs a0 p0 i0_1 i0_2 t1 i0_4 (if i0_5 < (i0_4 + 1) then (i0_4 + 1) else i0_5) i0_6 i0_7 i0_8 v0_0) H) (hD : va_D _ (W_X7_step cs a0 p0 i0_1 i0_2 t1 i0_4 (if i0_5 < (i0_4 + 1) then (i0_4 + 1) else i0_5) i0_6 i0_7 i0_8 v0_0)) hS => ?_)
  obtain rfl := Option.some.inj hf
  exact ow_retV C0 hP hD hS dX7_step_289
def f_X7_step_b252  (i0_2 : Int32) (i0_7 : Int32) (v0_0 : Nat → Int32)  (i0_3 : Int32) (i0_4 : Int32) (i0_5 : Int32) (i0_6 : Int32)  : Option (Int32 × Int32 × Int32 × Int32) := if i0_5 ≤ i0_4 then (f_X7_step_b269 i0_2 i0_7 v0_0 i0_3 i0_4 i0_5 i0_6 (3)) else (f_X7_step_b269 i0_2 i0_7 v0_0 i0_3 i0_4 i0_5 i0_6 (2))
set_option maxHeartbeats 4000000 in
set_option maxRecDepth 100000 in
theorem w_X7_step_b252 {p : Program} {l : Launch} {e : Env} {s : State} {m : MethodId} {below : List Frame} {meth : Method} {c : Code} {D : va_G} {cs : Nat → ClassId} {av : Array Value} {w0 : va_W} (C0 : Cx p s m meth c av wsX7_step cX7_step 1 none RX7 D cs w0)  (a0 : Nat) (p0 : Nat → Nat) (i0_1 : Int32) (i0_2 : Int32) (i0_7 : Int32) (i0_8 : Int32) (v0_0 : Nat → Int32) (res : Int32 × Int32 × Int32 × Int32)  : ∀ (i0_3 : Int32) (i0_4 : Int32) (i0_5 : Int32) (i0_6 : Int32), f_X7_step_b252 i0_2 i0_7 v0_0 i0_3 i0_4 i0_5 i0_6 = some res → ∀ (H : Heap) (locs : List Loc) (ls : Array Slot), va_P D vwCl (W_X7_step cs a0 p0 i0_1 i0_2 i0_3 i0_4 i0_5 i0_6 i0_7 i0_8 v0_0) H → va_D (va_A w0 s.heap.size) (W_X7_step cs a0 p0 i0_1 i0_2 i0_3 i0_4 i0_5 i0_6 i0_7 i0_8 v0_0) → va_S (va_A w0 s.heap.size) s.heap H locs → lv_has ls 1 [(0, .ref a0)] → W p l e rm_X7_step s m av below meth c H locs 0 0 (MQ below (oV D cs w0 (W_X7_step cs a0 p0 i0_1 i0_2 res.1 res.2.1 res.2.2.1 res.2.2.2 i0_7 i0_8 v0_0) s.heap.size) av s 0 0 (va_A w0 s.heap.size)) (F0 m 252 ls []) := by
  obtain ⟨hx, hb, hr, hlk, hml, hown, hts, hK, hG, hE⟩ := id C0
  intro i0_3 i0_4 i0_5 i0_6 hf H locs ls hP hD hS hl
  rw [f_X7_step_b252] at hf
  refine lv_aload_n hx hb dX7_step_252 rfl (lv_at hl 0 rfl) ?_
  refine lv_aload_n hx hb dX7_step_253 rfl (lv_at hl 0 rfl) ?_
  refine va_get (D := D) (ci := 7) (v := .int i0_5) (C := RX7) (T := TX7) (N := 9) hx hb hts in_X7_step_X7 hown hK hP 0 rfl rfl 5 (by decide) (hts (.fieldLink RX7 25 "PaneDays$Tape" "to" "I") (List.mem_of_getElem? (i := 2) rfl)) (fun _ h9 => h9) rfl dX7_step_254 ?_
  refine lv_aload_n hx hb dX7_step_257 rfl (lv_at hl 0 rfl) ?_
  refine va_get (D := D) (ci := 7) (v := .int i0_4) (C := RX7) (T := TX7) (N := 9) hx hb hts in_X7_step_X7 hown hK hP 0 rfl rfl 4 (by decide) (hts (.fieldLink RX7 34 "PaneDays$Tape" "from" "I") (List.mem_of_getElem? (i := 3) rfl)) (fun _ h9 => h9) rfl dX7_step_258 ?_
  refine lv_icmp_le (tgt := 268) hx hb dX7_step_261 (by decide) (fun hc => ?_) (fun hc => ?_)
  · replace hf := ow_t hc hf
    refine lv_iconst (v := 3) hx hb dX7_step_268 (by decide) ?_
    exact w_X7_step_b269 C0 a0 p0 i0_1 i0_2 i0_7 i0_8 v0_0 res i0_3 i0_4 i0_5 i0_6 (3) hf _ _ _ hP hD hS (lv_sub hl [0] rfl)
  · replace hf := ow_f hc hf
    refine lv_iconst (v := 2) hx hb dX7_step_264 (by decide) ?_
    refine lv_goto (tgt := 269) hx hb dX7_step_265 (by decide) ?_
    exact w_X7_step_b269 C0 a0 p0 i0_1 i0_2 i0_7 i0_8 v0_0 res i0_3 i0_4 i0_5 i0_6 (2) hf _ _ _ hP hD hS (lv_sub hl [0] rfl)
def f_X7_step_b200  (i0_2 : Int32) (i0_7 : Int32) (v0_0 : Nat → Int32)  : Nat → (Int32) → (Int32) → (Int32) → (Int32) → Option (Int32 × Int32 × Int32 × Int32)
  | 0, _, _, _, _ => none
  | n + 1, i0_3, i0_4, i0_5, i0_6 => if i0_2 ≤ i0_5 then (f_X7_step_b252 i0_2 i0_7 v0_0 i0_3 i0_4 i0_5 i0_6) else (ck i0_5 600 (if (v0_0 (i0_5).toNatClampNeg) < 97 then (f_X7_step_b252 i0_2 i0_7 v0_0 i0_3 i0_4 i0_5 i0_6) else (ck i0_5 600 (if 122 < (v0_0 (i0_5).toNatClampNeg) then (f_X7_step_b252 i0_2 i0_7 v0_0 i0_3 i0_4 i0_5 i0_6) else (f_X7_step_b200 i0_2 i0_7 v0_0 n i0_3 i0_4 (i0_5 + 1) i0_6)))))
set_option maxHeartbeats 4000000 in
set_option maxRecDepth 100000 in
theorem w_X7_step_b200 {p : Program} {l : Launch} {e : Env} {s : State} {m : MethodId} {below : List Frame} {meth : Method} {c : Code} {D : va_G} {cs : Nat → ClassId} {av : Array Value} {w0 : va_W} (C0 : Cx p s m meth c av wsX7_step cX7_step 1 none RX7 D cs w0)  (a0 : Nat) (p0 : Nat → Nat) (i0_1 : Int32) (i0_2 : Int32) (i0_7 : Int32) (i0_8 : Int32) (v0_0 : Nat → Int32) (res : Int32 × Int32 × Int32 × Int32)  : ∀ (n : Nat) (i0_3 : Int32) (i0_4 : Int32) (i0_5 : Int32) (i0_6 : Int32), f_X7_step_b200 i0_2 i0_7 v0_0 n i0_3 i0_4 i0_5 i0_6 = some res → ∀ (H : Heap) (locs : List Loc) (ls : Array Slot), va_P D vwCl (W_X7_step cs a0 p0 i0_1 i0_2 i0_3 i0_4 i0_5 i0_6 i0_7 i0_8 v0_0) H → va_D (va_A w0 s.heap.size) (W_X7_step cs a0 p0 i0_1 i0_2 i0_3 i0_4 i0_5 i0_6 i0_7 i0_8 v0_0) → va_S (va_A w0 s.heap.size) s.heap H locs → lv_has ls 1 [(0, .ref a0)] → W p l e rm_X7_step s m av below meth c H locs 0 0 (MQ below (oV D cs w0 (W_X7_step cs a0 p0 i0_1 i0_2 res.1 res.2.1 res.2.2.1 res.2.2.2 i0_7 i0_8 v0_0) s.heap.size) av s 0 0 (va_A w0 s.heap.size)) (F0 m 200 ls []) := by
  obtain ⟨hx, hb, hr, hlk, hml, hown, hts, hK, hG, hE⟩ := id C0
  intro n
  induction n with
  | zero =>
    intro i0_3 i0_4 i0_5 i0_6 hf
    rw [f_X7_step_b200] at hf
    cases hf
  | succ n ih =>
    intro i0_3 i0_4 i0_5 i0_6 hf H locs ls hP hD hS hl
    rw [f_X7_step_b200] at hf
    refine lv_aload_n hx hb dX7_step_200 rfl (lv_at hl 0 rfl) ?_
    refine va_get (D := D) (ci := 7) (v := .int i0_5) (C := RX7) (T := TX7) (N := 9) hx hb hts in_X7_step_X7 hown hK hP 0 rfl rfl 5 (by decide) (hts (.fieldLink RX7 25 "PaneDays$Tape" "to" "I") (List.mem_of_getElem? (i := 2) rfl)) (fun _ h9 => h9) rfl dX7_step_201 ?_
    refine lv_aload_n hx hb dX7_step_204 rfl (lv_at hl 0 rfl) ?_
    refine va_get (D := D) (ci := 7) (v := .int i0_2) (C := RX7) (T := TX7) (N := 9) hx hb hts in_X7_step_X7 hown hK hP 0 rfl rfl 2 (by decide) (hts (.fieldLink RX7 22 "PaneDays$Tape" "length" "I") (List.mem_of_getElem? (i := 4) rfl)) (fun _ h9 => h9) rfl dX7_step_205 ?_
    refine lv_icmp_ge (tgt := 252) hx hb dX7_step_208 (by decide) (fun hc => ?_) (fun hc => ?_)
    · replace hf := ow_t hc hf
      exact w_X7_step_b252 C0 a0 p0 i0_1 i0_2 i0_7 i0_8 v0_0 res i0_3 i0_4 i0_5 i0_6 hf _ _ _ hP hD hS (lv_sub hl [0] rfl)
    · replace hf := ow_f hc hf
      refine lv_aload_n hx hb dX7_step_211 rfl (lv_at hl 0 rfl) ?_
      refine va_get (D := D) (ci := 7) (v := .ref (p0 0)) (C := RX7) (T := TX7) (N := 9) hx hb hts in_X7_step_X7 hown hK hP 0 rfl rfl 0 (by decide) (hts (.fieldLink RX7 11 "PaneDays$Tape" "bytes" "[B") (List.mem_of_getElem? (i := 5) rfl)) (fun _ h9 => h9) rfl dX7_step_212 ?_
      refine lv_aload_n hx hb dX7_step_215 rfl (lv_at hl 0 rfl) ?_
      refine va_get (D := D) (ci := 7) (v := .int i0_5) (C := RX7) (T := TX7) (N := 9) hx hb hts in_X7_step_X7 hown hK hP 0 rfl rfl 5 (by decide) (hts (.fieldLink RX7 25 "PaneDays$Tape" "to" "I") (List.mem_of_getElem? (i := 2) rfl)) (fun _ h9 => h9) rfl dX7_step_216 ?_
      obtain ⟨hin, hf⟩ := ck_some hf
      refine va_bald (f := v0_0) hx hb hK hP 1 1 rfl rfl hin dX7_step_219 ?_
      refine lv_bipush (v := 97) hx hb dX7_step_220 (by decide) ?_
      refine lv_icmp_lt (tgt := 252) hx hb dX7_step_222 (by decide) (fun hc => ?_) (fun hc => ?_)
      · replace hf := ow_t hc hf
        exact w_X7_step_b252 C0 a0 p0 i0_1 i0_2 i0_7 i0_8 v0_0 res i0_3 i0_4 i0_5 i0_6 hf _ _ _ hP hD hS (lv_sub hl [0] rfl)
      · replace hf := ow_f hc hf
        refine lv_aload_n hx hb dX7_step_225 rfl (lv_at hl 0 rfl) ?_
        refine va_get (D := D) (ci := 7) (v := .ref (p0 0)) (C := RX7) (T := TX7) (N := 9) hx hb hts in_X7_step_X7 hown hK hP 0 rfl rfl 0 (by decide) (hts (.fieldLink RX7 11 "PaneDays$Tape" "bytes" "[B") (List.mem_of_getElem? (i := 5) rfl)) (fun _ h9 => h9) rfl dX7_step_226 ?_
        refine lv_aload_n hx hb dX7_step_229 rfl (lv_at hl 0 rfl) ?_
        refine va_get (D := D) (ci := 7) (v := .int i0_5) (C := RX7) (T := TX7) (N := 9) hx hb hts in_X7_step_X7 hown hK hP 0 rfl rfl 5 (by decide) (hts (.fieldLink RX7 25 "PaneDays$Tape" "to" "I") (List.mem_of_getElem? (i := 2) rfl)) (fun _ h9 => h9) rfl dX7_step_230 ?_
        obtain ⟨hin, hf⟩ := ck_some hf
        refine va_bald (f := v0_0) hx hb hK hP 1 1 rfl rfl hin dX7_step_233 ?_
        refine lv_bipush (v := 122) hx hb dX7_step_234 (by decide) ?_
        refine lv_icmp_gt (tgt := 252) hx hb dX7_step_236 (by decide) (fun hc => ?_) (fun hc => ?_)
        · replace hf := ow_t hc hf
          exact w_X7_step_b252 C0 a0 p0 i0_1 i0_2 i0_7 i0_8 v0_0 res i0_3 i0_4 i0_5 i0_6 hf _ _ _ hP hD hS (lv_sub hl [0] rfl)
        · replace hf := ow_f hc hf
          refine lv_aload_n hx hb dX7_step_239 rfl (lv_at hl 0 rfl) ?_
          refine lv_dup hx hb dX7_step_240 rfl ?_
          refine va_get (D := D) (ci := 7) (v := .int i0_5) (C := RX7) (T := TX7) (N := 9) hx hb hts in_X7_step_X7 hown hK hP 0 rfl rfl 5 (by decide) (hts (.fieldLink RX7 25 "PaneDays$Tape" "to" "I") (List.mem_of_getElem? (i := 2) rfl)) (fun _ h9 => h9) rfl dX7_step_241 ?_
          refine lv_iconst (v := 1) hx hb dX7_step_244 (by decide) ?_
          refine lv_iadd hx hb dX7_step_245 ?_
          refine va_put (D := D) (ci := 7) (v := .int (i0_5 + 1)) (ty := .int) (C := RX7) (T := TX7) (N := 9) hx hb hts in_X7_step_X7 tyX7 tyX7_ok nmX7 hown hK hP hD hS 0 rfl rfl 5 (by decide) (hts (.fieldLink RX7 25 "PaneDays$Tape" "to" "I") (List.mem_of_getElem? (i := 2) rfl)) (fun _ h9 => h9) rfl (by decide +kernel) rfl rfl (Nat.le_of_ble_eq_true rfl) dX7_step_246 (fun H locs (hP : va_P D vwCl (W_X7_step cs a0 p0 i0_1 i0_2 i0_3 i0_4 (i0_5 + 1) i0_6 i0_7 i0_8 v0_0) H) (hD : va_D _ (W_X7_step cs a0 p0 i0_1 i0_2 i0_3 i0_4 (i0_5 + 1) i0_6 i0_7 i0_8 v0_0)) hS => ?_)
          refine lv_goto (tgt := 200) hx hb dX7_step_249 (by decide) ?_
          exact ih i0_3 i0_4 (i0_5 + 1) i0_6 hf _ _ _ hP hD hS (lv_sub hl [0] rfl)
def f_X7_step_b157  (i0_2 : Int32) (i0_7 : Int32) (v0_0 : Nat → Int32)  (i0_3 : Int32) (i0_4 : Int32) (i0_5 : Int32) (i0_6 : Int32)  : Option (Int32 × Int32 × Int32 × Int32) := if i0_4 < i0_5 then (f_X7_step_b179 i0_2 i0_7 v0_0 i0_3 i0_4 i0_5 i0_6) else (if i0_4 < i0_2 then (f_X7_step_b200 i0_2 i0_7 v0_0 4000 i0_3 i0_4 i0_5 i0_6) else (f_X7_step_b179 i0_2 i0_7 v0_0 i0_3 i0_4 i0_5 i0_6))
set_option maxHeartbeats 4000000 in
set_option maxRecDepth 100000 in
theorem w_X7_step_b157 {p : Program} {l : Launch} {e : Env} {s : State} {m : MethodId} {below : List Frame} {meth : Method} {c : Code} {D : va_G} {cs : Nat → ClassId} {av : Array Value} {w0 : va_W} (C0 : Cx p s m meth c av wsX7_step cX7_step 1 none RX7 D cs w0)  (a0 : Nat) (p0 : Nat → Nat) (i0_1 : Int32) (i0_2 : Int32) (i0_7 : Int32) (i0_8 : Int32) (v0_0 : Nat → Int32) (res : Int32 × Int32 × Int32 × Int32)  : ∀ (i0_3 : Int32) (i0_4 : Int32) (i0_5 : Int32) (i0_6 : Int32), f_X7_step_b157 i0_2 i0_7 v0_0 i0_3 i0_4 i0_5 i0_6 = some res → ∀ (H : Heap) (locs : List Loc) (ls : Array Slot), va_P D vwCl (W_X7_step cs a0 p0 i0_1 i0_2 i0_3 i0_4 i0_5 i0_6 i0_7 i0_8 v0_0) H → va_D (va_A w0 s.heap.size) (W_X7_step cs a0 p0 i0_1 i0_2 i0_3 i0_4 i0_5 i0_6 i0_7 i0_8 v0_0) → va_S (va_A w0 s.heap.size) s.heap H locs → lv_has ls 1 [(0, .ref a0)] → W p l e rm_X7_step s m av below meth c H locs 0 0 (MQ below (oV D cs w0 (W_X7_step cs a0 p0 i0_1 i0_2 res.1 res.2.1 res.2.2.1 res.2.2.2 i0_7 i0_8 v0_0) s.heap.size) av s 0 0 (va_A w0 s.heap.size)) (F0 m 157 ls []) := by
  obtain ⟨hx, hb, hr, hlk, hml, hown, hts, hK, hG, hE⟩ := id C0
  intro i0_3 i0_4 i0_5 i0_6 hf H locs ls hP hD hS hl
  rw [f_X7_step_b157] at hf
  refine lv_aload_n hx hb dX7_step_157 rfl (lv_at hl 0 rfl) ?_
  refine va_get (D := D) (ci := 7) (v := .int i0_5) (C := RX7) (T := TX7) (N := 9) hx hb hts in_X7_step_X7 hown hK hP 0 rfl rfl 5 (by decide) (hts (.fieldLink RX7 25 "PaneDays$Tape" "to" "I") (List.mem_of_getElem? (i := 2) rfl)) (fun _ h9 => h9) rfl dX7_step_158 ?_
  refine lv_aload_n hx hb dX7_step_161 rfl (lv_at hl 0 rfl) ?_
  refine va_get (D := D) (ci := 7) (v := .int i0_4) (C := RX7) (T := TX7) (N := 9) hx hb hts in_X7_step_X7 hown hK hP 0 rfl rfl 4 (by decide) (hts (.fieldLink RX7 34 "PaneDays$Tape" "from" "I") (List.mem_of_getElem? (i := 3) rfl)) (fun _ h9 => h9) rfl dX7_step_162 ?_
  refine lv_icmp_gt (tgt := 179) hx hb dX7_step_165 (by decide) (fun hc => ?_) (fun hc => ?_)
  · replace hf := ow_t hc hf
    exact w_X7_step_b179 C0 a0 p0 i0_1 i0_2 i0_7 i0_8 v0_0 res i0_3 i0_4 i0_5 i0_6 hf _ _ _ hP hD hS (lv_sub hl [0] rfl)
  · replace hf := ow_f hc hf
    refine lv_aload_n hx hb dX7_step_168 rfl (lv_at hl 0 rfl) ?_
    refine va_get (D := D) (ci := 7) (v := .int i0_4) (C := RX7) (T := TX7) (N := 9) hx hb hts in_X7_step_X7 hown hK hP 0 rfl rfl 4 (by decide) (hts (.fieldLink RX7 34 "PaneDays$Tape" "from" "I") (List.mem_of_getElem? (i := 3) rfl)) (fun _ h9 => h9) rfl dX7_step_169 ?_
    refine lv_aload_n hx hb dX7_step_172 rfl (lv_at hl 0 rfl) ?_
    refine va_get (D := D) (ci := 7) (v := .int i0_2) (C := RX7) (T := TX7) (N := 9) hx hb hts in_X7_step_X7 hown hK hP 0 rfl rfl 2 (by decide) (hts (.fieldLink RX7 22 "PaneDays$Tape" "length" "I") (List.mem_of_getElem? (i := 4) rfl)) (fun _ h9 => h9) rfl dX7_step_173 ?_
    refine lv_icmp_lt (tgt := 200) hx hb dX7_step_176 (by decide) (fun hc => ?_) (fun hc => ?_)
    · replace hf := ow_t hc hf
      exact w_X7_step_b200 C0 a0 p0 i0_1 i0_2 i0_7 i0_8 v0_0 res 4000 i0_3 i0_4 i0_5 i0_6 hf _ _ _ hP hD hS (lv_sub hl [0] rfl)
    · replace hf := ow_f hc hf
      exact w_X7_step_b179 C0 a0 p0 i0_1 i0_2 i0_7 i0_8 v0_0 res i0_3 i0_4 i0_5 i0_6 hf _ _ _ hP hD hS (lv_sub hl [0] rfl)
def f_X7_step_b67  (i0_2 : Int32) (i0_7 : Int32) (v0_0 : Nat → Int32)  : Nat → (Int32) → (Int32) → (Int32) → (Int32) → Option (Int32 × Int32 × Int32 × Int32)
  | 0, _, _, _, _ => none
  | n + 1, i0_3, i0_4, i0_5, i0_6 => if i0_2 ≤ i0_5 then (f_X7_step_b157 i0_2 i0_7 v0_0 i0_3 i0_4 i0_5 i0_6) else (ck i0_5 600 (if (v0_0 (i0_5).toNatClampNeg) < 48 then (f_X7_step_b157 i0_2 i0_7 v0_0 i0_3 i0_4 i0_5 i0_6) else (ck i0_5 600 (if 57 < (v0_0 (i0_5).toNatClampNeg) then (f_X7_step_b157 i0_2 i0_7 v0_0 i0_3 i0_4 i0_5 i0_6) else (if i0_6 < 1000000 then (ck i0_5 600 (f_X7_step_b141 i0_2 i0_7 v0_0 (f_X7_step_b67 i0_2 i0_7 v0_0 n) i0_3 i0_4 i0_5 i0_6 (((10 * i0_6) + (v0_0 (i0_5).toNatClampNeg)) - 48))) else (f_X7_step_b141 i0_2 i0_7 v0_0 (f_X7_step_b67 i0_2 i0_7 v0_0 n) i0_3 i0_4 i0_5 i0_6 (1000000)))))))
set_option maxHeartbeats 4000000 in
set_option maxRecDepth 100000 in
theorem w_X7_step_b67 {p : Program} {l : Launch} {e : Env} {s : State} {m : MethodId} {below : List Frame} {meth : Method} {c : Code} {D : va_G} {cs : Nat → ClassId} {av : Array Value} {w0 : va_W} (C0 : Cx p s m meth c av wsX7_step cX7_step 1 none RX7 D cs w0)  (a0 : Nat) (p0 : Nat → Nat) (i0_1 : Int32) (i0_2 : Int32) (i0_7 : Int32) (i0_8 : Int32) (v0_0 : Nat → Int32) (res : Int32 × Int32 × Int32 × Int32)  : ∀ (n : Nat) (i0_3 : Int32) (i0_4 : Int32) (i0_5 : Int32) (i0_6 : Int32), f_X7_step_b67 i0_2 i0_7 v0_0 n i0_3 i0_4 i0_5 i0_6 = some res → ∀ (H : Heap) (locs : List Loc) (ls : Array Slot), va_P D vwCl (W_X7_step cs a0 p0 i0_1 i0_2 i0_3 i0_4 i0_5 i0_6 i0_7 i0_8 v0_0) H → va_D (va_A w0 s.heap.size) (W_X7_step cs a0 p0 i0_1 i0_2 i0_3 i0_4 i0_5 i0_6 i0_7 i0_8 v0_0) → va_S (va_A w0 s.heap.size) s.heap H locs → lv_has ls 1 [(0, .ref a0)] → W p l e rm_X7_step s m av below meth c H locs 0 0 (MQ below (oV D cs w0 (W_X7_step cs a0 p0 i0_1 i0_2 res.1 res.2.1 res.2.2.1 res.2.2.2 i0_7 i0_8 v0_0) s.heap.size) av s 0 0 (va_A w0 s.heap.size)) (F0 m 67 ls []) := by
  obtain ⟨hx, hb, hr, hlk, hml, hown, hts, hK, hG, hE⟩ := id C0
  intro n
  induction n with
  | zero =>
    intro i0_3 i0_4 i0_5 i0_6 hf
    rw [f_X7_step_b67] at hf
    cases hf
  | succ n ih =>
    intro i0_3 i0_4 i0_5 i0_6 hf H locs ls hP hD hS hl
    rw [f_X7_step_b67] at hf
    refine lv_aload_n hx hb dX7_step_67 rfl (lv_at hl 0 rfl) ?_
    refine va_get (D := D) (ci := 7) (v := .int i0_5) (C := RX7) (T := TX7) (N := 9) hx hb hts in_X7_step_X7 hown hK hP 0 rfl rfl 5 (by decide) (hts (.fieldLink RX7 25 "PaneDays$Tape" "to" "I") (List.mem_of_getElem? (i := 2) rfl)) (fun _ h9 => h9) rfl dX7_step_68 ?_
    refine lv_aload_n hx hb dX7_step_71 rfl (lv_at hl 0 rfl) ?_
    refine va_get (D := D) (ci := 7) (v := .int i0_2) (C := RX7) (T := TX7) (N := 9) hx hb hts in_X7_step_X7 hown hK hP 0 rfl rfl 2 (by decide) (hts (.fieldLink RX7 22 "PaneDays$Tape" "length" "I") (List.mem_of_getElem? (i := 4) rfl)) (fun _ h9 => h9) rfl dX7_step_72 ?_
    refine lv_icmp_ge (tgt := 157) hx hb dX7_step_75 (by decide) (fun hc => ?_) (fun hc => ?_)
    · replace hf := ow_t hc hf
      exact w_X7_step_b157 C0 a0 p0 i0_1 i0_2 i0_7 i0_8 v0_0 res i0_3 i0_4 i0_5 i0_6 hf _ _ _ hP hD hS (lv_sub hl [0] rfl)
    · replace hf := ow_f hc hf
      refine lv_aload_n hx hb dX7_step_78 rfl (lv_at hl 0 rfl) ?_
      refine va_get (D := D) (ci := 7) (v := .ref (p0 0)) (C := RX7) (T := TX7) (N := 9) hx hb hts in_X7_step_X7 hown hK hP 0 rfl rfl 0 (by decide) (hts (.fieldLink RX7 11 "PaneDays$Tape" "bytes" "[B") (List.mem_of_getElem? (i := 5) rfl)) (fun _ h9 => h9) rfl dX7_step_79 ?_
      refine lv_aload_n hx hb dX7_step_82 rfl (lv_at hl 0 rfl) ?_
      refine va_get (D := D) (ci := 7) (v := .int i0_5) (C := RX7) (T := TX7) (N := 9) hx hb hts in_X7_step_X7 hown hK hP 0 rfl rfl 5 (by decide) (hts (.fieldLink RX7 25 "PaneDays$Tape" "to" "I") (List.mem_of_getElem? (i := 2) rfl)) (fun _ h9 => h9) rfl dX7_step_83 ?_
      obtain ⟨hin, hf⟩ := ck_some hf
      refine va_bald (f := v0_0) hx hb hK hP 1 1 rfl rfl hin dX7_step_86 ?_
      refine lv_bipush (v := 48) hx hb dX7_step_87 (by decide) ?_
      refine lv_icmp_lt (tgt := 157) hx hb dX7_step_89 (by decide) (fun hc => ?_) (fun hc => ?_)
      · replace hf := ow_t hc hf
        exact w_X7_step_b157 C0 a0 p0 i0_1 i0_2 i0_7 i0_8 v0_0 res i0_3 i0_4 i0_5 i0_6 hf _ _ _ hP hD hS (lv_sub hl [0] rfl)
      · replace hf := ow_f hc hf
        refine lv_aload_n hx hb dX7_step_92 rfl (lv_at hl 0 rfl) ?_
        refine va_get (D := D) (ci := 7) (v := .ref (p0 0)) (C := RX7) (T := TX7) (N := 9) hx hb hts in_X7_step_X7 hown hK hP 0 rfl rfl 0 (by decide) (hts (.fieldLink RX7 11 "PaneDays$Tape" "bytes" "[B") (List.mem_of_getElem? (i := 5) rfl)) (fun _ h9 => h9) rfl dX7_step_93 ?_
        refine lv_aload_n hx hb dX7_step_96 rfl (lv_at hl 0 rfl) ?_
        refine va_get (D := D) (ci := 7) (v := .int i0_5) (C := RX7) (T := TX7) (N := 9) hx hb hts in_X7_step_X7 hown hK hP 0 rfl rfl 5 (by decide) (hts (.fieldLink RX7 25 "PaneDays$Tape" "to" "I") (List.mem_of_getElem? (i := 2) rfl)) (fun _ h9 => h9) rfl dX7_step_97 ?_
        obtain ⟨hin, hf⟩ := ck_some hf
        refine va_bald (f := v0_0) hx hb hK hP 1 1 rfl rfl hin dX7_step_100 ?_
        refine lv_bipush (v := 57) hx hb dX7_step_101 (by decide) ?_
        refine lv_icmp_gt (tgt := 157) hx hb dX7_step_103 (by decide) (fun hc => ?_) (fun hc => ?_)
        · replace hf := ow_t hc hf
          exact w_X7_step_b157 C0 a0 p0 i0_1 i0_2 i0_7 i0_8 v0_0 res i0_3 i0_4 i0_5 i0_6 hf _ _ _ hP hD hS (lv_sub hl [0] rfl)
        · replace hf := ow_f hc hf
          refine lv_aload_n hx hb dX7_step_106 rfl (lv_at hl 0 rfl) ?_
          refine lv_aload_n hx hb dX7_step_107 rfl (lv_at hl 0 rfl) ?_
          refine va_get (D := D) (ci := 7) (v := .int i0_6) (C := RX7) (T := TX7) (N := 9) hx hb hts in_X7_step_X7 hown hK hP 0 rfl rfl 6 (by decide) (hts (.fieldLink RX7 40 "PaneDays$Tape" "value" "I") (List.mem_of_getElem? (i := 6) rfl)) (fun _ h9 => h9) rfl dX7_step_108 ?_
          refine lv_ldc (own := RX7) (v := 1000000) hx hb hown (hts (.constant RX7 43 (1000000)) (List.mem_of_getElem? (i := 7) rfl)) dX7_step_111 ?_
          refine lv_icmp_lt (tgt := 121) hx hb dX7_step_113 (by decide) (fun hc => ?_) (fun hc => ?_)
          · replace hf := ow_t hc hf
            refine lv_bipush (v := 10) hx hb dX7_step_121 (by decide) ?_
            refine lv_aload_n hx hb dX7_step_123 rfl (lv_at hl 0 rfl) ?_
            refine va_get (D := D) (ci := 7) (v := .int i0_6) (C := RX7) (T := TX7) (N := 9) hx hb hts in_X7_step_X7 hown hK hP 0 rfl rfl 6 (by decide) (hts (.fieldLink RX7 40 "PaneDays$Tape" "value" "I") (List.mem_of_getElem? (i := 6) rfl)) (fun _ h9 => h9) rfl dX7_step_124 ?_
            refine lv_imul hx hb dX7_step_127 ?_
            refine lv_aload_n hx hb dX7_step_128 rfl (lv_at hl 0 rfl) ?_
            refine va_get (D := D) (ci := 7) (v := .ref (p0 0)) (C := RX7) (T := TX7) (N := 9) hx hb hts in_X7_step_X7 hown hK hP 0 rfl rfl 0 (by decide) (hts (.fieldLink RX7 11 "PaneDays$Tape" "bytes" "[B") (List.mem_of_getElem? (i := 5) rfl)) (fun _ h9 => h9) rfl dX7_step_129 ?_
            refine lv_aload_n hx hb dX7_step_132 rfl (lv_at hl 0 rfl) ?_
            refine va_get (D := D) (ci := 7) (v := .int i0_5) (C := RX7) (T := TX7) (N := 9) hx hb hts in_X7_step_X7 hown hK hP 0 rfl rfl 5 (by decide) (hts (.fieldLink RX7 25 "PaneDays$Tape" "to" "I") (List.mem_of_getElem? (i := 2) rfl)) (fun _ h9 => h9) rfl dX7_step_133 ?_
            obtain ⟨hin, hf⟩ := ck_some hf
            refine va_bald (f := v0_0) hx hb hK hP 1 1 rfl rfl hin dX7_step_136 ?_
            refine lv_iadd hx hb dX7_step_137 ?_
            refine lv_bipush (v := 48) hx hb dX7_step_138 (by decide) ?_
            refine lv_isub hx hb dX7_step_140 ?_
            exact w_X7_step_b141 C0 a0 p0 i0_1 i0_2 i0_7 i0_8 v0_0 res (f_X7_step_b67 i0_2 i0_7 v0_0 n) ih i0_3 i0_4 i0_5 i0_6 (((10 * i0_6) + (v0_0 (i0_5).toNatClampNeg)) - 48) hf _ _ _ hP hD hS (lv_sub hl [0] rfl)
          · replace hf := ow_f hc hf
            refine lv_ldc (own := RX7) (v := 1000000) hx hb hown (hts (.constant RX7 43 (1000000)) (List.mem_of_getElem? (i := 7) rfl)) dX7_step_116 ?_
            refine lv_goto (tgt := 141) hx hb dX7_step_118 (by decide) ?_
            exact w_X7_step_b141 C0 a0 p0 i0_1 i0_2 i0_7 i0_8 v0_0 res (f_X7_step_b67 i0_2 i0_7 v0_0 n) ih i0_3 i0_4 i0_5 i0_6 (1000000) hf _ _ _ hP hD hS (lv_sub hl [0] rfl)
def f_X7_step_b54  (i0_2 : Int32) (i0_7 : Int32) (v0_0 : Nat → Int32)  (i0_3 : Int32) (i0_4 : Int32) (i0_5 : Int32) (i0_6 : Int32)  : Option (Int32 × Int32 × Int32 × Int32) := f_X7_step_b67 i0_2 i0_7 v0_0 4000 i0_3 i0_4 i0_4 (0)
set_option maxHeartbeats 4000000 in
set_option maxRecDepth 100000 in
theorem w_X7_step_b54 {p : Program} {l : Launch} {e : Env} {s : State} {m : MethodId} {below : List Frame} {meth : Method} {c : Code} {D : va_G} {cs : Nat → ClassId} {av : Array Value} {w0 : va_W} (C0 : Cx p s m meth c av wsX7_step cX7_step 1 none RX7 D cs w0)  (a0 : Nat) (p0 : Nat → Nat) (i0_1 : Int32) (i0_2 : Int32) (i0_7 : Int32) (i0_8 : Int32) (v0_0 : Nat → Int32) (res : Int32 × Int32 × Int32 × Int32)  : ∀ (i0_3 : Int32) (i0_4 : Int32) (i0_5 : Int32) (i0_6 : Int32), f_X7_step_b54 i0_2 i0_7 v0_0 i0_3 i0_4 i0_5 i0_6 = some res → ∀ (H : Heap) (locs : List Loc) (ls : Array Slot), va_P D vwCl (W_X7_step cs a0 p0 i0_1 i0_2 i0_3 i0_4 i0_5 i0_6 i0_7 i0_8 v0_0) H → va_D (va_A w0 s.heap.size) (W_X7_step cs a0 p0 i0_1 i0_2 i0_3 i0_4 i0_5 i0_6 i0_7 i0_8 v0_0) → va_S (va_A w0 s.heap.size) s.heap H locs → lv_has ls 1 [(0, .ref a0)] → W p l e rm_X7_step s m av below meth c H locs 0 0 (MQ below (oV D cs w0 (W_X7_step cs a0 p0 i0_1 i0_2 res.1 res.2.1 res.2.2.1 res.2.2.2 i0_7 i0_8 v0_0) s.heap.size) av s 0 0 (va_A w0 s.heap.size)) (F0 m 54 ls []) := by
  obtain ⟨hx, hb, hr, hlk, hml, hown, hts, hK, hG, hE⟩ := id C0
  intro i0_3 i0_4 i0_5 i0_6 hf H locs ls hP hD hS hl
  rw [f_X7_step_b54] at hf
  refine lv_aload_n hx hb dX7_step_54 rfl (lv_at hl 0 rfl) ?_
  refine lv_aload_n hx hb dX7_step_55 rfl (lv_at hl 0 rfl) ?_
  refine va_get (D := D) (ci := 7) (v := .int i0_4) (C := RX7) (T := TX7) (N := 9) hx hb hts in_X7_step_X7 hown hK hP 0 rfl rfl 4 (by decide) (hts (.fieldLink RX7 34 "PaneDays$Tape" "from" "I") (List.mem_of_getElem? (i := 3) rfl)) (fun _ h9 => h9) rfl dX7_step_56 ?_
  refine va_put (D := D) (ci := 7) (v := .int i0_4) (ty := .int) (C := RX7) (T := TX7) (N := 9) hx hb hts in_X7_step_X7 tyX7 tyX7_ok nmX7 hown hK hP hD hS 0 rfl rfl 5 (by decide) (hts (.fieldLink RX7 25 "PaneDays$Tape" "to" "I") (List.mem_of_getElem? (i := 2) rfl)) (fun _ h9 => h9) rfl (by decide +kernel) rfl rfl (Nat.le_of_ble_eq_true rfl) dX7_step_59 (fun H locs (hP : va_P D vwCl (W_X7_step cs a0 p0 i0_1 i0_2 i0_3 i0_4 i0_4 i0_6 i0_7 i0_8 v0_0) H) (hD : va_D _ (W_X7_step cs a0 p0 i0_1 i0_2 i0_3 i0_4 i0_4 i0_6 i0_7 i0_8 v0_0)) hS => ?_)
  refine lv_aload_n hx hb dX7_step_62 rfl (lv_at hl 0 rfl) ?_
  refine lv_iconst (v := 0) hx hb dX7_step_63 (by decide) ?_
  refine va_put (D := D) (ci := 7) (v := .int 0) (ty := .int) (C := RX7) (T := TX7) (N := 9) hx hb hts in_X7_step_X7 tyX7 tyX7_ok nmX7 hown hK hP hD hS 0 rfl rfl 6 (by decide) (hts (.fieldLink RX7 40 "PaneDays$Tape" "value" "I") (List.mem_of_getElem? (i := 6) rfl)) (fun _ h9 => h9) rfl (by decide +kernel) rfl rfl (Nat.le_of_ble_eq_true rfl) dX7_step_64 (fun H locs (hP : va_P D vwCl (W_X7_step cs a0 p0 i0_1 i0_2 i0_3 i0_4 i0_4 (0) i0_7 i0_8 v0_0) H) (hD : va_D _ (W_X7_step cs a0 p0 i0_1 i0_2 i0_3 i0_4 i0_4 (0) i0_7 i0_8 v0_0)) hS => ?_)
  exact w_X7_step_b67 C0 a0 p0 i0_1 i0_2 i0_7 i0_8 v0_0 res 4000 i0_3 i0_4 i0_4 (0) hf _ _ _ hP hD hS (lv_sub hl [0] rfl)
def f_X7_step_b16  (i0_2 : Int32) (i0_7 : Int32) (v0_0 : Nat → Int32)  : Nat → (Int32) → (Int32) → (Int32) → (Int32) → Option (Int32 × Int32 × Int32 × Int32)
  | 0, _, _, _, _ => none
  | n + 1, i0_3, i0_4, i0_5, i0_6 => if i0_2 ≤ i0_4 then (f_X7_step_b54 i0_2 i0_7 v0_0 i0_3 i0_4 i0_5 i0_6) else (ck i0_4 600 (if (v0_0 (i0_4).toNatClampNeg) = 32 then (f_X7_step_b16 i0_2 i0_7 v0_0 n i0_3 (i0_4 + 1) i0_5 i0_6) else (f_X7_step_b54 i0_2 i0_7 v0_0 i0_3 i0_4 i0_5 i0_6)))
set_option maxHeartbeats 4000000 in
set_option maxRecDepth 100000 in
theorem w_X7_step_b16 {p : Program} {l : Launch} {e : Env} {s : State} {m : MethodId} {below : List Frame} {meth : Method} {c : Code} {D : va_G} {cs : Nat → ClassId} {av : Array Value} {w0 : va_W} (C0 : Cx p s m meth c av wsX7_step cX7_step 1 none RX7 D cs w0)  (a0 : Nat) (p0 : Nat → Nat) (i0_1 : Int32) (i0_2 : Int32) (i0_7 : Int32) (i0_8 : Int32) (v0_0 : Nat → Int32) (res : Int32 × Int32 × Int32 × Int32)  : ∀ (n : Nat) (i0_3 : Int32) (i0_4 : Int32) (i0_5 : Int32) (i0_6 : Int32), f_X7_step_b16 i0_2 i0_7 v0_0 n i0_3 i0_4 i0_5 i0_6 = some res → ∀ (H : Heap) (locs : List Loc) (ls : Array Slot), va_P D vwCl (W_X7_step cs a0 p0 i0_1 i0_2 i0_3 i0_4 i0_5 i0_6 i0_7 i0_8 v0_0) H → va_D (va_A w0 s.heap.size) (W_X7_step cs a0 p0 i0_1 i0_2 i0_3 i0_4 i0_5 i0_6 i0_7 i0_8 v0_0) → va_S (va_A w0 s.heap.size) s.heap H locs → lv_has ls 1 [(0, .ref a0)] → W p l e rm_X7_step s m av below meth c H locs 0 0 (MQ below (oV D cs w0 (W_X7_step cs a0 p0 i0_1 i0_2 res.1 res.2.1 res.2.2.1 res.2.2.2 i0_7 i0_8 v0_0) s.heap.size) av s 0 0 (va_A w0 s.heap.size)) (F0 m 16 ls []) := by
  obtain ⟨hx, hb, hr, hlk, hml, hown, hts, hK, hG, hE⟩ := id C0
  intro n
  induction n with
  | zero =>
    intro i0_3 i0_4 i0_5 i0_6 hf
    rw [f_X7_step_b16] at hf
    cases hf
  | succ n ih =>
    intro i0_3 i0_4 i0_5 i0_6 hf H locs ls hP hD hS hl
    rw [f_X7_step_b16] at hf
    refine lv_aload_n hx hb dX7_step_16 rfl (lv_at hl 0 rfl) ?_
    refine va_get (D := D) (ci := 7) (v := .int i0_4) (C := RX7) (T := TX7) (N := 9) hx hb hts in_X7_step_X7 hown hK hP 0 rfl rfl 4 (by decide) (hts (.fieldLink RX7 34 "PaneDays$Tape" "from" "I") (List.mem_of_getElem? (i := 3) rfl)) (fun _ h9 => h9) rfl dX7_step_17 ?_
    refine lv_aload_n hx hb dX7_step_20 rfl (lv_at hl 0 rfl) ?_
    refine va_get (D := D) (ci := 7) (v := .int i0_2) (C := RX7) (T := TX7) (N := 9) hx hb hts in_X7_step_X7 hown hK hP 0 rfl rfl 2 (by decide) (hts (.fieldLink RX7 22 "PaneDays$Tape" "length" "I") (List.mem_of_getElem? (i := 4) rfl)) (fun _ h9 => h9) rfl dX7_step_21 ?_
    refine lv_icmp_ge (tgt := 54) hx hb dX7_step_24 (by decide) (fun hc => ?_) (fun hc => ?_)
    · replace hf := ow_t hc hf
      exact w_X7_step_b54 C0 a0 p0 i0_1 i0_2 i0_7 i0_8 v0_0 res i0_3 i0_4 i0_5 i0_6 hf _ _ _ hP hD hS (lv_sub hl [0] rfl)
    · replace hf := ow_f hc hf
      refine lv_aload_n hx hb dX7_step_27 rfl (lv_at hl 0 rfl) ?_
      refine va_get (D := D) (ci := 7) (v := .ref (p0 0)) (C := RX7) (T := TX7) (N := 9) hx hb hts in_X7_step_X7 hown hK hP 0 rfl rfl 0 (by decide) (hts (.fieldLink RX7 11 "PaneDays$Tape" "bytes" "[B") (List.mem_of_getElem? (i := 5) rfl)) (fun _ h9 => h9) rfl dX7_step_28 ?_
      refine lv_aload_n hx hb dX7_step_31 rfl (lv_at hl 0 rfl) ?_
      refine va_get (D := D) (ci := 7) (v := .int i0_4) (C := RX7) (T := TX7) (N := 9) hx hb hts in_X7_step_X7 hown hK hP 0 rfl rfl 4 (by decide) (hts (.fieldLink RX7 34 "PaneDays$Tape" "from" "I") (List.mem_of_getElem? (i := 3) rfl)) (fun _ h9 => h9) rfl dX7_step_32 ?_
      obtain ⟨hin, hf⟩ := ck_some hf
      refine va_bald (f := v0_0) hx hb hK hP 1 1 rfl rfl hin dX7_step_35 ?_
      refine lv_bipush (v := 32) hx hb dX7_step_36 (by decide) ?_
      refine lv_icmp_ne (tgt := 54) hx hb dX7_step_38 (by decide) (fun hc => ?_) (fun hc => ?_)
      · replace hf := ow_f hc hf
        exact w_X7_step_b54 C0 a0 p0 i0_1 i0_2 i0_7 i0_8 v0_0 res i0_3 i0_4 i0_5 i0_6 hf _ _ _ hP hD hS (lv_sub hl [0] rfl)
      · replace hf := ow_t hc hf
        refine lv_aload_n hx hb dX7_step_41 rfl (lv_at hl 0 rfl) ?_
        refine lv_dup hx hb dX7_step_42 rfl ?_
        refine va_get (D := D) (ci := 7) (v := .int i0_4) (C := RX7) (T := TX7) (N := 9) hx hb hts in_X7_step_X7 hown hK hP 0 rfl rfl 4 (by decide) (hts (.fieldLink RX7 34 "PaneDays$Tape" "from" "I") (List.mem_of_getElem? (i := 3) rfl)) (fun _ h9 => h9) rfl dX7_step_43 ?_
        refine lv_iconst (v := 1) hx hb dX7_step_46 (by decide) ?_
        refine lv_iadd hx hb dX7_step_47 ?_
        refine va_put (D := D) (ci := 7) (v := .int (i0_4 + 1)) (ty := .int) (C := RX7) (T := TX7) (N := 9) hx hb hts in_X7_step_X7 tyX7 tyX7_ok nmX7 hown hK hP hD hS 0 rfl rfl 4 (by decide) (hts (.fieldLink RX7 34 "PaneDays$Tape" "from" "I") (List.mem_of_getElem? (i := 3) rfl)) (fun _ h9 => h9) rfl (by decide +kernel) rfl rfl (Nat.le_of_ble_eq_true rfl) dX7_step_48 (fun H locs (hP : va_P D vwCl (W_X7_step cs a0 p0 i0_1 i0_2 i0_3 (i0_4 + 1) i0_5 i0_6 i0_7 i0_8 v0_0) H) (hD : va_D _ (W_X7_step cs a0 p0 i0_1 i0_2 i0_3 (i0_4 + 1) i0_5 i0_6 i0_7 i0_8 v0_0)) hS => ?_)
        refine lv_goto (tgt := 16) hx hb dX7_step_51 (by decide) ?_
        exact ih i0_3 (i0_4 + 1) i0_5 i0_6 hf _ _ _ hP hD hS (lv_sub hl [0] rfl)
def f_X7_step  (i0_2 : Int32) (i0_3 : Int32) (i0_4 : Int32) (i0_5 : Int32) (i0_6 : Int32) (i0_7 : Int32) (v0_0 : Nat → Int32)  : Option (Int32 × Int32 × Int32 × Int32) := if i0_7 = 0 then (f_X7_step_b16 i0_2 i0_7 v0_0 4000 i0_3 i0_5 i0_5 i0_6) else (some (i0_3, i0_4, i0_5, i0_6))
set_option maxHeartbeats 4000000 in
set_option maxRecDepth 100000 in
theorem c_X7_step (l : Launch) (D : va_G) (cs : Nat → ClassId)  (sz : Nat) (a0 : Nat) (p0 : Nat → Nat) (i0_1 : Int32) (i0_2 : Int32) (i0_3 : Int32) (i0_4 : Int32) (i0_5 : Int32) (i0_6 : Int32) (i0_7 : Int32) (i0_8 : Int32) (v0_0 : Nat → Int32)  (res : Int32 × Int32 × Int32 × Int32) (hf : f_X7_step  i0_2 i0_3 i0_4 i0_5 i0_6 i0_7 v0_0  = some res) : MV l D cs yX7_step wsX7_step rm_X7_step [.ref a0] sz (W_X7_step cs a0 p0 i0_1 i0_2 i0_3 i0_4 i0_5 i0_6 i0_7 i0_8 v0_0) (W_X7_step cs a0 p0 i0_1 i0_2 res.1 res.2.1 res.2.2.1 res.2.2.2 i0_7 i0_8 v0_0) := by
  rw [f_X7_step] at hf
  refine ow_enter (cc := cX7_step) (nL := 1) (ret := none) (by decide) rfl (Nat.le_of_ble_eq_true rfl) (fun p e s m below meth c ls H locs C0 hP hD hS hA hl => ?_)
  obtain ⟨hx, hb, hr, hlk, hml, hown, hts, hK, hG, hE⟩ := id C0
  have hl : lv_has ls 1 [(0, .ref a0)] := hl
  refine lv_aload_n hx hb dX7_step_0 rfl (lv_at hl 0 rfl) ?_
  refine va_get (D := D) (ci := 7) (v := .int i0_7) (C := RX7) (T := TX7) (N := 9) hx hb hts in_X7_step_X7 hown hK hP 0 rfl rfl 7 (by decide) (hts (.fieldLink RX7 28 "PaneDays$Tape" "fault" "I") (List.mem_of_getElem? (i := 1) rfl)) (fun _ h9 => h9) rfl dX7_step_1 ?_
  refine lv_if_eq (tgt := 8) hx hb dX7_step_4 (by decide) (fun hc => ?_) (fun hc => ?_)
  · replace hf := ow_t hc hf
    refine lv_aload_n hx hb dX7_step_8 rfl (lv_at hl 0 rfl) ?_
    refine lv_aload_n hx hb dX7_step_9 rfl (lv_at hl 0 rfl) ?_
    refine va_get (D := D) (ci := 7) (v := .int i0_5) (C := RX7) (T := TX7) (N := 9) hx hb hts in_X7_step_X7 hown hK hP 0 rfl rfl 5 (by decide) (hts (.fieldLink RX7 25 "PaneDays$Tape" "to" "I") (List.mem_of_getElem? (i := 2) rfl)) (fun _ h9 => h9) rfl dX7_step_10 ?_
    refine va_put (D := D) (ci := 7) (v := .int i0_5) (ty := .int) (C := RX7) (T := TX7) (N := 9) hx hb hts in_X7_step_X7 tyX7 tyX7_ok nmX7 hown hK hP hD hS 0 rfl rfl 4 (by decide) (hts (.fieldLink RX7 34 "PaneDays$Tape" "from" "I") (List.mem_of_getElem? (i := 3) rfl)) (fun _ h9 => h9) rfl (by decide +kernel) rfl rfl (Nat.le_of_ble_eq_true rfl) dX7_step_13 (fun H locs (hP : va_P D vwCl (W_X7_step cs a0 p0 i0_1 i0_2 i0_3 i0_5 i0_5 i0_6 i0_7 i0_8 v0_0) H) (hD : va_D _ (W_X7_step cs a0 p0 i0_1 i0_2 i0_3 i0_5 i0_5 i0_6 i0_7 i0_8 v0_0)) hS => ?_)
    exact w_X7_step_b16 C0 a0 p0 i0_1 i0_2 i0_7 i0_8 v0_0 res 4000 i0_3 i0_5 i0_5 i0_6 hf _ _ _ hP hD hS (lv_sub hl [0] rfl)
  · replace hf := ow_f hc hf
    obtain rfl := Option.some.inj hf
    exact ow_retV C0 hP hD hS dX7_step_7
theorem in_X7_takeNumber_X7 : ∀ w ∈ u_ws RX7 TX7 9, w ∈ wsX7_takeNumber := fun w h => List.mem_cons_of_mem _ (List.mem_append_right _ h)
abbrev W_X7_takeNumber (cs : Nat → ClassId) (a0 : Nat) (p0 : Nat → Nat) (i0_1 : Int32) (i0_2 : Int32) (i0_3 : Int32) (i0_4 : Int32) (i0_5 : Int32) (i0_6 : Int32) (i0_7 : Int32) (i0_8 : Int32) (v0_0 : Nat → Int32) : va_W := wX7 cs a0 p0 i0_1 i0_2 i0_3 i0_4 i0_5 i0_6 i0_7 i0_8 v0_0
abbrev rm_X7_takeNumber : Room := { frames := 2, cells := 0, slots := 0, locals := 41 }
def f_X7_takeNumber_b31  (i0_2 : Int32) (v0_0 : Nat → Int32)  (i0_3 : Int32) (i0_4 : Int32) (i0_5 : Int32) (i0_6 : Int32) (i0_7 : Int32) (i0_8 : Int32) (x1 : Int32) : Option (Int32 × Int32 × Int32 × Int32 × Int32 × Int32 × Int32) := (f_X7_wrong i0_3 i0_4 i0_7 i0_8 (2)).bind fun q33 => some (x1, q33.1, i0_4, i0_5, i0_6, q33.2.1, q33.2.2)
set_option maxHeartbeats 4000000 in
set_option maxRecDepth 100000 in
theorem w_X7_takeNumber_b31 {p : Program} {l : Launch} {e : Env} {s : State} {m : MethodId} {below : List Frame} {meth : Method} {c : Code} {D : va_G} {cs : Nat → ClassId} {av : Array Value} {w0 : va_W} (C0 : Cx p s m meth c av wsX7_takeNumber cX7_takeNumber 4 (some .int) RX7 D cs w0)  (a0 : Nat) (p0 : Nat → Nat) (i0_1 : Int32) (i0_2 : Int32) (v0_0 : Nat → Int32) (res : Int32 × Int32 × Int32 × Int32 × Int32 × Int32 × Int32)  : ∀ (i0_3 : Int32) (i0_4 : Int32) (i0_5 : Int32) (i0_6 : Int32) (i0_7 : Int32) (i0_8 : Int32) (x1 : Int32), f_X7_takeNumber_b31 i0_2 v0_0 i0_3 i0_4 i0_5 i0_6 i0_7 i0_8 x1 = some res → ∀ (H : Heap) (locs : List Loc) (ls : Array Slot), va_P D vwCl (W_X7_takeNumber cs a0 p0 i0_1 i0_2 i0_3 i0_4 i0_5 i0_6 i0_7 i0_8 v0_0) H → va_D (va_A w0 s.heap.size) (W_X7_takeNumber cs a0 p0 i0_1 i0_2 i0_3 i0_4 i0_5 i0_6 i0_7 i0_8 v0_0) → va_S (va_A w0 s.heap.size) s.heap H locs → lv_has ls 4 [(0, .ref a0), (1, .int x1)] → W p l e rm_X7_takeNumber s m av below meth c H locs 0 0 (MQ below (oI D cs w0 (W_X7_takeNumber cs a0 p0 i0_1 i0_2 res.2.1 res.2.2.1 res.2.2.2.1 res.2.2.2.2.1 res.2.2.2.2.2.1 res.2.2.2.2.2.2 v0_0) res.1 s.heap.size) av s 0 0 (va_A w0 s.heap.size)) (F0 m 31 ls []) := by
  obtain ⟨hx, hb, hr, hlk, hml, hown, hts, hK, hG, hE⟩ := id C0
  intro i0_3 i0_4 i0_5 i0_6 i0_7 i0_8 x1 hf H locs ls hP hD hS hl
  rw [f_X7_takeNumber_b31] at hf
  refine lv_aload_n hx hb dX7_takeNumber_31 rfl (lv_at hl 0 rfl) ?_
  refine lv_iconst (v := 2) hx hb dX7_takeNumber_32 (by decide) ?_
  obtain ⟨q33, hq, hf⟩ := bd_some hf
  refine ow_callVV (As := [.int 2]) (rest := []) (wr := ow_pk (W_X7_takeNumber cs a0 p0 i0_1 i0_2 i0_3 i0_4 i0_5 i0_6 i0_7 i0_8 v0_0) []) (wf := (W_X7_takeNumber cs a0 p0 i0_1 i0_2 q33.1 i0_4 i0_5 i0_6 q33.2.1 q33.2.2 v0_0)) C0 (c_X7_wrong l D cs H.size a0 p0 i0_1 i0_2 i0_3 i0_4 i0_5 i0_6 i0_7 i0_8 v0_0 (2) q33 hq) (cwV 1 hts gX7_takeNumber_X7_wrong rfl rfl rfl (by decide +kernel) ⟨Nat.le_of_ble_eq_true rfl, Nat.le_of_ble_eq_true rfl⟩) 7 rfl rfl hP hD hS (fun q h => Or.inr h) [0, 1] [] [0, 1] rfl (by decide) rfl (by decide) (by decide) rfl (by decide) rfl hl.1 rfl (Nat.le_of_ble_eq_true rfl) ⟨Nat.zero_le _, Nat.zero_le _⟩ dX7_takeNumber_33 (fun H locs hP hD hS => ?_)
  refine lv_iload_n hx hb dX7_takeNumber_36 rfl (lv_at hl 1 rfl) ?_
  obtain rfl := Option.some.inj hf
  exact ow_retI C0 hP hD hS dX7_takeNumber_37
def f_X7_takeNumber  (i0_2 : Int32) (i0_3 : Int32) (i0_4 : Int32) (i0_5 : Int32) (i0_6 : Int32) (i0_7 : Int32) (i0_8 : Int32) (v0_0 : Nat → Int32) (x1 : Int32) (x2 : Int32) : Option (Int32 × Int32 × Int32 × Int32 × Int32 × Int32 × Int32) := if i0_3 = 1 then (if i0_6 < x1 then (f_X7_takeNumber_b31 i0_2 v0_0 i0_3 i0_4 i0_5 i0_6 i0_7 i0_8 x1) else (if i0_6 ≤ x2 then ((f_X7_step i0_2 i0_3 i0_4 i0_5 i0_6 i0_7 v0_0).bind fun q44 => some (i0_6, q44.1, q44.2.1, q44.2.2.1, q44.2.2.2, i0_7, i0_8)) else (f_X7_takeNumber_b31 i0_2 v0_0 i0_3 i0_4 i0_5 i0_6 i0_7 i0_8 x1))) else ((f_X7_wrong i0_3 i0_4 i0_7 i0_8 (1)).bind fun q10 => some (x1, q10.1, i0_4, i0_5, i0_6, q10.2.1, q10.2.2))
set_option maxHeartbeats 4000000 in
set_option maxRecDepth 100000 in
theorem c_X7_takeNumber (l : Launch) (D : va_G) (cs : Nat → ClassId)  (sz : Nat) (a0 : Nat) (p0 : Nat → Nat) (i0_1 : Int32) (i0_2 : Int32) (i0_3 : Int32) (i0_4 : Int32) (i0_5 : Int32) (i0_6 : Int32) (i0_7 : Int32) (i0_8 : Int32) (v0_0 : Nat → Int32) (x1 : Int32) (x2 : Int32) (res : Int32 × Int32 × Int32 × Int32 × Int32 × Int32 × Int32) (hf : f_X7_takeNumber  i0_2 i0_3 i0_4 i0_5 i0_6 i0_7 i0_8 v0_0 x1 x2 = some res) : MI l D cs yX7_takeNumber wsX7_takeNumber rm_X7_takeNumber [.ref a0, .int x1, .int x2] sz (W_X7_takeNumber cs a0 p0 i0_1 i0_2 i0_3 i0_4 i0_5 i0_6 i0_7 i0_8 v0_0) (W_X7_takeNumber cs a0 p0 i0_1 i0_2 res.2.1 res.2.2.1 res.2.2.2.1 res.2.2.2.2.1 res.2.2.2.2.2.1 res.2.2.2.2.2.2 v0_0) res.1 := by
  rw [f_X7_takeNumber] at hf
  refine ow_enter (cc := cX7_takeNumber) (nL := 4) (ret := (some .int)) (by decide) rfl (Nat.le_of_ble_eq_true rfl) (fun p e s m below meth c ls H locs C0 hP hD hS hA hl => ?_)
  obtain ⟨hx, hb, hr, hlk, hml, hown, hts, hK, hG, hE⟩ := id C0
  have hl : lv_has ls 4 [(0, .ref a0), (1, .int x1), (2, .int x2)] := hl
  refine lv_aload_n hx hb dX7_takeNumber_0 rfl (lv_at hl 0 rfl) ?_
  refine va_get (D := D) (ci := 7) (v := .int i0_3) (C := RX7) (T := TX7) (N := 9) hx hb hts in_X7_takeNumber_X7 hown hK hP 0 rfl rfl 3 (by decide) (hts (.fieldLink RX7 37 "PaneDays$Tape" "kind" "I") (List.mem_of_getElem? (i := 1) rfl)) (fun _ h9 => h9) rfl dX7_takeNumber_1 ?_
  refine lv_iconst (v := 1) hx hb dX7_takeNumber_4 (by decide) ?_
  refine lv_icmp_eq (tgt := 15) hx hb dX7_takeNumber_5 (by decide) (fun hc => ?_) (fun hc => ?_)
  · replace hf := ow_t hc hf
    refine lv_aload_n hx hb dX7_takeNumber_15 rfl (lv_at hl 0 rfl) ?_
    refine va_get (D := D) (ci := 7) (v := .int i0_6) (C := RX7) (T := TX7) (N := 9) hx hb hts in_X7_takeNumber_X7 hown hK hP 0 rfl rfl 6 (by decide) (hts (.fieldLink RX7 40 "PaneDays$Tape" "value" "I") (List.mem_of_getElem? (i := 2) rfl)) (fun _ h9 => h9) rfl dX7_takeNumber_16 ?_
    refine lv_iload_n hx hb dX7_takeNumber_19 rfl (lv_at hl 1 rfl) ?_
    refine lv_icmp_lt (tgt := 31) hx hb dX7_takeNumber_20 (by decide) (fun hc => ?_) (fun hc => ?_)
    · replace hf := ow_t hc hf
      exact w_X7_takeNumber_b31 C0 a0 p0 i0_1 i0_2 v0_0 res i0_3 i0_4 i0_5 i0_6 i0_7 i0_8 x1 hf _ _ _ hP hD hS (lv_sub hl [0, 1] rfl)
    · replace hf := ow_f hc hf
      refine lv_aload_n hx hb dX7_takeNumber_23 rfl (lv_at hl 0 rfl) ?_
      refine va_get (D := D) (ci := 7) (v := .int i0_6) (C := RX7) (T := TX7) (N := 9) hx hb hts in_X7_takeNumber_X7 hown hK hP 0 rfl rfl 6 (by decide) (hts (.fieldLink RX7 40 "PaneDays$Tape" "value" "I") (List.mem_of_getElem? (i := 2) rfl)) (fun _ h9 => h9) rfl dX7_takeNumber_24 ?_
      refine lv_iload_n hx hb dX7_takeNumber_27 rfl (lv_at hl 2 rfl) ?_
      refine lv_icmp_le (tgt := 38) hx hb dX7_takeNumber_28 (by decide) (fun hc => ?_) (fun hc => ?_)
      · replace hf := ow_t hc hf
        refine lv_aload_n hx hb dX7_takeNumber_38 rfl (lv_at hl 0 rfl) ?_
        refine va_get (D := D) (ci := 7) (v := .int i0_6) (C := RX7) (T := TX7) (N := 9) hx hb hts in_X7_takeNumber_X7 hown hK hP 0 rfl rfl 6 (by decide) (hts (.fieldLink RX7 40 "PaneDays$Tape" "value" "I") (List.mem_of_getElem? (i := 2) rfl)) (fun _ h9 => h9) rfl dX7_takeNumber_39 ?_
        refine lv_istore_n (lv' := [(3, .int i0_6), (0, .ref a0), (1, .int x1), (2, .int x2)]) hx hb dX7_takeNumber_42 rfl hl (by decide) rfl (fun ls hl => ?_)
        refine lv_aload_n hx hb dX7_takeNumber_43 rfl (lv_at hl 1 rfl) ?_
        obtain ⟨q44, hq, hf⟩ := bd_some hf
        refine ow_callVV (As := []) (rest := []) (wr := ow_pk (W_X7_takeNumber cs a0 p0 i0_1 i0_2 i0_3 i0_4 i0_5 i0_6 i0_7 i0_8 v0_0) []) (wf := (W_X7_takeNumber cs a0 p0 i0_1 i0_2 q44.1 q44.2.1 q44.2.2.1 q44.2.2.2 i0_7 i0_8 v0_0)) C0 (c_X7_step l D cs H.size a0 p0 i0_1 i0_2 i0_3 i0_4 i0_5 i0_6 i0_7 i0_8 v0_0  q44 hq) (cwV 0 hts gX7_takeNumber_X7_step rfl rfl rfl (by decide +kernel) ⟨Nat.le_of_ble_eq_true rfl, Nat.le_of_ble_eq_true rfl⟩) 7 rfl rfl hP hD hS (fun q h => Or.inr h) [0, 1] [] [0, 1] rfl (by decide) rfl (by decide) (by decide) rfl (by decide) rfl hl.1 rfl (Nat.le_of_ble_eq_true rfl) ⟨Nat.zero_le _, Nat.zero_le _⟩ dX7_takeNumber_44 (fun H locs hP hD hS => ?_)
        refine lv_iload_n hx hb dX7_takeNumber_47 rfl (lv_at hl 0 rfl) ?_
        obtain rfl := Option.some.inj hf
        exact ow_retI C0 hP hD hS dX7_takeNumber_48
      · replace hf := ow_f hc hf
        exact w_X7_takeNumber_b31 C0 a0 p0 i0_1 i0_2 v0_0 res i0_3 i0_4 i0_5 i0_6 i0_7 i0_8 x1 hf _ _ _ hP hD hS (lv_sub hl [0, 1] rfl)
  · replace hf := ow_f hc hf
    refine lv_aload_n hx hb dX7_takeNumber_8 rfl (lv_at hl 0 rfl) ?_
    refine lv_iconst (v := 1) hx hb dX7_takeNumber_9 (by decide) ?_
    obtain ⟨q10, hq, hf⟩ := bd_some hf
    refine ow_callVV (As := [.int 1]) (rest := []) (wr := ow_pk (W_X7_takeNumber cs a0 p0 i0_1 i0_2 i0_3 i0_4 i0_5 i0_6 i0_7 i0_8 v0_0) []) (wf := (W_X7_takeNumber cs a0 p0 i0_1 i0_2 q10.1 i0_4 i0_5 i0_6 q10.2.1 q10.2.2 v0_0)) C0 (c_X7_wrong l D cs H.size a0 p0 i0_1 i0_2 i0_3 i0_4 i0_5 i0_6 i0_7 i0_8 v0_0 (1) q10 hq) (cwV 1 hts gX7_takeNumber_X7_wrong rfl rfl rfl (by decide +kernel) ⟨Nat.le_of_ble_eq_true rfl, Nat.le_of_ble_eq_true rfl⟩) 7 rfl rfl hP hD hS (fun q h => Or.inr h) [0, 1] [] [0, 1] rfl (by decide) rfl (by decide) (by decide) rfl (by decide) rfl hl.1 rfl (Nat.le_of_ble_eq_true rfl) ⟨Nat.zero_le _, Nat.zero_le _⟩ dX7_takeNumber_10 (fun H locs hP hD hS => ?_)
    refine lv_iload_n hx hb dX7_takeNumber_13 rfl (lv_at hl 1 rfl) ?_
    obtain rfl := Option.some.inj hf
    exact ow_retI C0 hP hD hS dX7_takeNumber_14
theorem in_X7_isSign_X7 : ∀ w ∈ u_ws RX7 TX7 9, w ∈ wsX7_isSign := fun w h => List.mem_cons_of_mem _ (List.mem_append_right _ h)
abbrev W_X7_isSign (cs : Nat → ClassId) (a0 : Nat) (p0 : Nat → Nat) (i0_1 : Int32) (i0_2 : Int32) (i0_3 : Int32) (i0_4 : Int32) (i0_5 : Int32) (i0_6 : Int32) (i0_7 : Int32) (i0_8 : Int32) (v0_0 : Nat → Int32) : va_W := wX7 cs a0 p0 i0_1 i0_2 i0_3 i0_4 i0_5 i0_6 i0_7 i0_8 v0_0
abbrev rm_X7_isSign : Room := { frames := 0, cells := 0, slots := 0, locals := 0 }
def f_X7_isSign  (i0_3 : Int32) (i0_4 : Int32) (v0_0 : Nat → Int32) (x1 : Int32) : Option (Int32) := if i0_3 = 3 then (ck i0_4 600 (if (v0_0 (i0_4).toNatClampNeg) = x1 then (some (1)) else (some (0)))) else (some (0))
set_option maxHeartbeats 4000000 in
set_option maxRecDepth 100000 in
theorem c_X7_isSign (l : Launch) (D : va_G) (cs : Nat → ClassId)  (sz : Nat) (a0 : Nat) (p0 : Nat → Nat) (i0_1 : Int32) (i0_2 : Int32) (i0_3 : Int32) (i0_4 : Int32) (i0_5 : Int32) (i0_6 : Int32) (i0_7 : Int32) (i0_8 : Int32) (v0_0 : Nat → Int32) (x1 : Int32) (res : Int32) (hf : f_X7_isSign  i0_3 i0_4 v0_0 x1 = some res) : MI l D cs yX7_isSign wsX7_isSign rm_X7_isSign [.ref a0, .int x1] sz (W_X7_isSign cs a0 p0 i0_1 i0_2 i0_3 i0_4 i0_5 i0_6 i0_7 i0_8 v0_0) (W_X7_isSign cs a0 p0 i0_1 i0_2 i0_3 i0_4 i0_5 i0_6 i0_7 i0_8 v0_0) res := by
  rw [f_X7_isSign] at hf
  refine ow_enter (cc := cX7_isSign) (nL := 2) (ret := (some .boolean)) (by decide) rfl (Nat.le_of_ble_eq_true rfl) (fun p e s m below meth c ls H locs C0 hP hD hS hA hl => ?_)
  obtain ⟨hx, hb, hr, hlk, hml, hown, hts, hK, hG, hE⟩ := id C0
  have hl : lv_has ls 2 [(0, .ref a0), (1, .int x1)] := hl
  refine lv_aload_n hx hb dX7_isSign_0 rfl (lv_at hl 0 rfl) ?_
  refine va_get (D := D) (ci := 7) (v := .int i0_3) (C := RX7) (T := TX7) (N := 9) hx hb hts in_X7_isSign_X7 hown hK hP 0 rfl rfl 3 (by decide) (hts (.fieldLink RX7 37 "PaneDays$Tape" "kind" "I") (List.mem_of_getElem? (i := 1) rfl)) (fun _ h9 => h9) rfl dX7_isSign_1 ?_
  refine lv_iconst (v := 3) hx hb dX7_isSign_4 (by decide) ?_
  refine lv_icmp_ne (tgt := 25) hx hb dX7_isSign_5 (by decide) (fun hc => ?_) (fun hc => ?_)
  · replace hf := ow_f hc hf
    refine lv_iconst (v := 0) hx hb dX7_isSign_25 (by decide) ?_
    obtain rfl := Option.some.inj hf
    exact ow_retZ C0 (Or.inl rfl) hP hD hS dX7_isSign_26
  · replace hf := ow_t hc hf
    refine lv_aload_n hx hb dX7_isSign_8 rfl (lv_at hl 0 rfl) ?_
    refine va_get (D := D) (ci := 7) (v := .ref (p0 0)) (C := RX7) (T := TX7) (N := 9) hx hb hts in_X7_isSign_X7 hown hK hP 0 rfl rfl 0 (by decide) (hts (.fieldLink RX7 11 "PaneDays$Tape" "bytes" "[B") (List.mem_of_getElem? (i := 2) rfl)) (fun _ h9 => h9) rfl dX7_isSign_9 ?_
    refine lv_aload_n hx hb dX7_isSign_12 rfl (lv_at hl 0 rfl) ?_
    refine va_get (D := D) (ci := 7) (v := .int i0_4) (C := RX7) (T := TX7) (N := 9) hx hb hts in_X7_isSign_X7 hown hK hP 0 rfl rfl 4 (by decide) (hts (.fieldLink RX7 34 "PaneDays$Tape" "from" "I") (List.mem_of_getElem? (i := 3) rfl)) (fun _ h9 => h9) rfl dX7_isSign_13 ?_
    obtain ⟨hin, hf⟩ := ck_some hf
    refine va_bald (f := v0_0) hx hb hK hP 1 1 rfl rfl hin dX7_isSign_16 ?_
    refine lv_iload_n hx hb dX7_isSign_17 rfl (lv_at hl 1 rfl) ?_
    refine lv_icmp_ne (tgt := 25) hx hb dX7_isSign_18 (by decide) (fun hc => ?_) (fun hc => ?_)
    · replace hf := ow_f hc hf
      refine lv_iconst (v := 0) hx hb dX7_isSign_25 (by decide) ?_
      obtain rfl := Option.some.inj hf
      exact ow_retZ C0 (Or.inl rfl) hP hD hS dX7_isSign_26
    · replace hf := ow_t hc hf
      refine lv_iconst (v := 1) hx hb dX7_isSign_21 (by decide) ?_
      refine lv_goto (tgt := 26) hx hb dX7_isSign_22 (by decide) ?_
      obtain rfl := Option.some.inj hf
      exact ow_retZ C0 (Or.inr rfl) hP hD hS dX7_isSign_26
abbrev W_X7_takeSign (cs : Nat → ClassId) (a0 : Nat) (p0 : Nat → Nat) (i0_1 : Int32) (i0_2 : Int32) (i0_3 : Int32) (i0_4 : Int32) (i0_5 : Int32) (i0_6 : Int32) (i0_7 : Int32) (i0_8 : Int32) (v0_0 : Nat → Int32) : va_W := wX7 cs a0 p0 i0_1 i0_2 i0_3 i0_4 i0_5 i0_6 i0_7 i0_8 v0_0
abbrev rm_X7_takeSign : Room := { frames := 2, cells := 0, slots := 0, locals := 41 }
def f_X7_takeSign  (i0_2 : Int32) (i0_3 : Int32) (i0_4 : Int32) (i0_5 : Int32) (i0_6 : Int32) (i0_7 : Int32) (i0_8 : Int32) (v0_0 : Nat → Int32) (x1 : Int32) : Option (Int32 × Int32 × Int32 × Int32 × Int32 × Int32) := (f_X7_isSign i0_3 i0_4 v0_0 x1).bind fun q2 => if q2 = 0 then ((f_X7_wrong i0_3 i0_4 i0_7 i0_8 (1)).bind fun q17 => some (q17.1, i0_4, i0_5, i0_6, q17.2.1, q17.2.2)) else ((f_X7_step i0_2 i0_3 i0_4 i0_5 i0_6 i0_7 v0_0).bind fun q9 => some (q9.1, q9.2.1, q9.2.2.1, q9.2.2.2, i0_7, i0_8))
set_option maxHeartbeats 4000000 in
set_option maxRecDepth 100000 in
theorem c_X7_takeSign (l : Launch) (D : va_G) (cs : Nat → ClassId)  (sz : Nat) (a0 : Nat) (p0 : Nat → Nat) (i0_1 : Int32) (i0_2 : Int32) (i0_3 : Int32) (i0_4 : Int32) (i0_5 : Int32) (i0_6 : Int32) (i0_7 : Int32) (i0_8 : Int32) (v0_0 : Nat → Int32) (x1 : Int32) (res : Int32 × Int32 × Int32 × Int32 × Int32 × Int32) (hf : f_X7_takeSign  i0_2 i0_3 i0_4 i0_5 i0_6 i0_7 i0_8 v0_0 x1 = some res) : MV l D cs yX7_takeSign wsX7_takeSign rm_X7_takeSign [.ref a0, .int x1] sz (W_X7_takeSign cs a0 p0 i0_1 i0_2 i0_3 i0_4 i0_5 i0_6 i0_7 i0_8 v0_0) (W_X7_takeSign cs a0 p0 i0_1 i0_2 res.1 res.2.1 res.2.2.1 res.2.2.2.1 res.2.2.2.2.1 res.2.2.2.2.2 v0_0) := by
  rw [f_X7_takeSign] at hf
  refine ow_enter (cc := cX7_takeSign) (nL := 2) (ret := none) (by decide) rfl (Nat.le_of_ble_eq_true rfl) (fun p e s m below meth c ls H locs C0 hP hD hS hA hl => ?_)
  obtain ⟨hx, hb, hr, hlk, hml, hown, hts, hK, hG, hE⟩ := id C0
  have hl : lv_has ls 2 [(0, .ref a0), (1, .int x1)] := hl
  refine lv_aload_n hx hb dX7_takeSign_0 rfl (lv_at hl 0 rfl) ?_
  refine lv_iload_n hx hb dX7_takeSign_1 rfl (lv_at hl 1 rfl) ?_
  obtain ⟨q2, hq, hf⟩ := bd_some hf
  refine ow_callVI (As := [.int x1]) (rest := []) (wr := ow_pk (W_X7_takeSign cs a0 p0 i0_1 i0_2 i0_3 i0_4 i0_5 i0_6 i0_7 i0_8 v0_0) []) (wf := (W_X7_takeSign cs a0 p0 i0_1 i0_2 i0_3 i0_4 i0_5 i0_6 i0_7 i0_8 v0_0)) (r := q2) C0 (c_X7_isSign l D cs H.size a0 p0 i0_1 i0_2 i0_3 i0_4 i0_5 i0_6 i0_7 i0_8 v0_0 x1 q2 hq) (cwV 1 hts gX7_takeSign_X7_isSign rfl rfl rfl (by decide +kernel) ⟨Nat.le_of_ble_eq_true rfl, Nat.le_of_ble_eq_true rfl⟩) 7 rfl rfl hP hD hS (fun q h => Or.inr h) [0, 1] [] [0, 1] rfl (by decide) rfl (by decide) (by decide) rfl (by decide) rfl hl.1 rfl (Nat.le_of_ble_eq_true rfl) ⟨Nat.zero_le _, Nat.zero_le _⟩ dX7_takeSign_2 (fun H locs hP hD hS => ?_)
  refine lv_if_eq (tgt := 15) hx hb dX7_takeSign_5 (by decide) (fun hc => ?_) (fun hc => ?_)
  · replace hf := ow_t hc hf
    refine lv_aload_n hx hb dX7_takeSign_15 rfl (lv_at hl 0 rfl) ?_
    refine lv_iconst (v := 1) hx hb dX7_takeSign_16 (by decide) ?_
    obtain ⟨q17, hq, hf⟩ := bd_some hf
    refine ow_callVV (As := [.int 1]) (rest := []) (wr := ow_pk (W_X7_takeSign cs a0 p0 i0_1 i0_2 i0_3 i0_4 i0_5 i0_6 i0_7 i0_8 v0_0) []) (wf := (W_X7_takeSign cs a0 p0 i0_1 i0_2 q17.1 i0_4 i0_5 i0_6 q17.2.1 q17.2.2 v0_0)) C0 (c_X7_wrong l D cs H.size a0 p0 i0_1 i0_2 i0_3 i0_4 i0_5 i0_6 i0_7 i0_8 v0_0 (1) q17 hq) (cwV 1 hts gX7_takeSign_X7_wrong rfl rfl rfl (by decide +kernel) ⟨Nat.le_of_ble_eq_true rfl, Nat.le_of_ble_eq_true rfl⟩) 7 rfl rfl hP hD hS (fun q h => Or.inr h) [0, 1] [] [0, 1] rfl (by decide) rfl (by decide) (by decide) rfl (by decide) rfl hl.1 rfl (Nat.le_of_ble_eq_true rfl) ⟨Nat.zero_le _, Nat.zero_le _⟩ dX7_takeSign_17 (fun H locs hP hD hS => ?_)
    obtain rfl := Option.some.inj hf
    exact ow_retV C0 hP hD hS dX7_takeSign_20
  · replace hf := ow_f hc hf
    refine lv_aload_n hx hb dX7_takeSign_8 rfl (lv_at hl 0 rfl) ?_
    obtain ⟨q9, hq, hf⟩ := bd_some hf
    refine ow_callVV (As := []) (rest := []) (wr := ow_pk (W_X7_takeSign cs a0 p0 i0_1 i0_2 i0_3 i0_4 i0_5 i0_6 i0_7 i0_8 v0_0) []) (wf := (W_X7_takeSign cs a0 p0 i0_1 i0_2 q9.1 q9.2.1 q9.2.2.1 q9.2.2.2 i0_7 i0_8 v0_0)) C0 (c_X7_step l D cs H.size a0 p0 i0_1 i0_2 i0_3 i0_4 i0_5 i0_6 i0_7 i0_8 v0_0  q9 hq) (cwV 0 hts gX7_takeSign_X7_step rfl rfl rfl (by decide +kernel) ⟨Nat.le_of_ble_eq_true rfl, Nat.le_of_ble_eq_true rfl⟩) 7 rfl rfl hP hD hS (fun q h => Or.inr h) [0, 1] [] [0, 1] rfl (by decide) rfl (by decide) (by decide) rfl (by decide) rfl hl.1 rfl (Nat.le_of_ble_eq_true rfl) ⟨Nat.zero_le _, Nat.zero_le _⟩ dX7_takeSign_9 (fun H locs hP hD hS => ?_)
    refine lv_goto (tgt := 20) hx hb dX7_takeSign_12 (by decide) ?_
    obtain rfl := Option.some.inj hf
    exact ow_retV C0 hP hD hS dX7_takeSign_20
theorem in_X7_isWord_X7 : ∀ w ∈ u_ws RX7 TX7 9, w ∈ wsX7_isWord := fun w h => List.mem_cons_of_mem _ (List.mem_append_right _ h)
abbrev W_X7_isWord (cs : Nat → ClassId) (a0 : Nat) (p0 : Nat → Nat) (i0_1 : Int32) (i0_2 : Int32) (i0_3 : Int32) (i0_4 : Int32) (i0_5 : Int32) (i0_6 : Int32) (i0_7 : Int32) (i0_8 : Int32) (v0_0 : Nat → Int32) : va_W := wX7 cs a0 p0 i0_1 i0_2 i0_3 i0_4 i0_5 i0_6 i0_7 i0_8 v0_0
abbrev rm_X7_isWord : Room := { frames := 8, cells := 0, slots := 0, locals := 200 }
def f_X7_isWord_b28  (i0_3 : Int32) (i0_4 : Int32) (i0_5 : Int32) (v0_0 : Nat → Int32) (s1 : Nat)  : Nat → Int32 → Option (Int32)
  | 0, _ => none
  | n + 1, x2 => if (nI (lenS.getD s1 0)) ≤ x2 then (some (1)) else (ck (i0_4 + x2) 600 (ck x2 (lenS.getD s1 0) (if (v0_0 (i0_4 + x2).toNatClampNeg) = (sCh s1 x2) then (f_X7_isWord_b28 i0_3 i0_4 i0_5 v0_0 s1 n (x2 + 1)) else (some (0)))))
set_option maxHeartbeats 4000000 in
set_option maxRecDepth 100000 in
theorem w_X7_isWord_b28 {p : Program} {l : Launch} {e : Env} {s : State} {m : MethodId} {below : List Frame} {meth : Method} {c : Code} {D : va_G} {cs : Nat → ClassId} {av : Array Value} {w0 : va_W} (C0 : Cx p s m meth c av wsX7_isWord cX7_isWord 3 (some .boolean) RX7 D cs w0)  (a0 : Nat) (p0 : Nat → Nat) (i0_1 : Int32) (i0_2 : Int32) (i0_3 : Int32) (i0_4 : Int32) (i0_5 : Int32) (i0_6 : Int32) (i0_7 : Int32) (i0_8 : Int32) (v0_0 : Nat → Int32) (s1 : Nat) (hs1 : s1 < 22) (res : Int32)  : ∀ (n : Nat) (x2 : Int32), f_X7_isWord_b28 i0_3 i0_4 i0_5 v0_0 s1 n x2 = some res → ∀ (H : Heap) (locs : List Loc) (ls : Array Slot), va_P D vwCl (W_X7_isWord cs a0 p0 i0_1 i0_2 i0_3 i0_4 i0_5 i0_6 i0_7 i0_8 v0_0) H → va_D (va_A w0 s.heap.size) (W_X7_isWord cs a0 p0 i0_1 i0_2 i0_3 i0_4 i0_5 i0_6 i0_7 i0_8 v0_0) → va_S (va_A w0 s.heap.size) s.heap H locs → lv_has ls 3 [(0, .ref a0), (1, .ref (D.2 100 s1)), (2, .int x2)] → W p l e rm_X7_isWord s m av below meth c H locs 0 0 (MQ below (oI D cs w0 (W_X7_isWord cs a0 p0 i0_1 i0_2 i0_3 i0_4 i0_5 i0_6 i0_7 i0_8 v0_0) res s.heap.size) av s 0 0 (va_A w0 s.heap.size)) (F0 m 28 ls []) := by
  obtain ⟨hx, hb, hr, hlk, hml, hown, hts, hK, hG, hE⟩ := id C0
  intro n
  induction n with
  | zero =>
    intro x2 hf
    rw [f_X7_isWord_b28] at hf
    cases hf
  | succ n ih =>
    intro x2 hf H locs ls hP hD hS hl
    rw [f_X7_isWord_b28] at hf
    refine lv_iload_n hx hb dX7_isWord_28 rfl (lv_at hl 2 rfl) ?_
    refine lv_aload_n hx hb dX7_isWord_29 rfl (lv_at hl 1 rfl) ?_
    refine ow_callVIs (As := []) (rest := [.int x2]) (wr := ow_pk (W_X7_isWord cs a0 p0 i0_1 i0_2 i0_3 i0_4 i0_5 i0_6 i0_7 i0_8 v0_0) [0, 1]) (wf := (W_X7_isWord cs a0 p0 i0_1 i0_2 i0_3 i0_4 i0_5 i0_6 i0_7 i0_8 v0_0)) (r := nI (lenS.getD s1 0)) C0 (c_J0_length l D cs H.size s1 hs1) (cwV 0 hts gX7_isWord_J0_length_8abf5 rfl rfl rfl (by decide +kernel) ⟨Nat.le_of_ble_eq_true rfl, Nat.le_of_ble_eq_true rfl⟩) (ow_strv hE hs1 hS) hP hD hS (fun q h => Or.inr h) [] [0, 1] [0, 1] rfl (by decide) rfl (by decide) (by decide) rfl (by decide) rfl hl.1 rfl (Nat.le_of_ble_eq_true rfl) ⟨Nat.zero_le _, Nat.zero_le _⟩ dX7_isWord_30 (fun H locs hP hD hS => ?_)
    refine lv_icmp_ge (tgt := 63) hx hb dX7_isWord_33 (by decide) (fun hc => ?_) (fun hc => ?_)
    · replace hf := ow_t hc hf
      refine lv_iconst (v := 1) hx hb dX7_isWord_63 (by decide) ?_
      obtain rfl := Option.some.inj hf
      exact ow_retZ C0 (Or.inr rfl) hP hD hS dX7_isWord_64
    · replace hf := ow_f hc hf
      refine lv_aload_n hx hb dX7_isWord_36 rfl (lv_at hl 0 rfl) ?_
      refine va_get (D := D) (ci := 7) (v := .ref (p0 0)) (C := RX7) (T := TX7) (N := 9) hx hb hts in_X7_isWord_X7 hown hK hP 0 rfl rfl 0 (by decide) (hts (.fieldLink RX7 11 "PaneDays$Tape" "bytes" "[B") (List.mem_of_getElem? (i := 4) rfl)) (fun _ h9 => h9) rfl dX7_isWord_37 ?_
      refine lv_aload_n hx hb dX7_isWord_40 rfl (lv_at hl 0 rfl) ?_
      refine va_get (D := D) (ci := 7) (v := .int i0_4) (C := RX7) (T := TX7) (N := 9) hx hb hts in_X7_isWord_X7 hown hK hP 0 rfl rfl 4 (by decide) (hts (.fieldLink RX7 34 "PaneDays$Tape" "from" "I") (List.mem_of_getElem? (i := 3) rfl)) (fun _ h9 => h9) rfl dX7_isWord_41 ?_
      refine lv_iload_n hx hb dX7_isWord_44 rfl (lv_at hl 2 rfl) ?_
      refine lv_iadd hx hb dX7_isWord_45 ?_
      obtain ⟨hin, hf⟩ := ck_some hf
      refine va_bald (f := v0_0) hx hb hK hP 1 1 rfl rfl hin dX7_isWord_46 ?_
      refine lv_aload_n hx hb dX7_isWord_47 rfl (lv_at hl 1 rfl) ?_
      refine lv_iload_n hx hb dX7_isWord_48 rfl (lv_at hl 2 rfl) ?_
      obtain ⟨hin, hf⟩ := ck_some hf
      refine ow_callVIs (As := [.int x2]) (rest := [.int (v0_0 (i0_4 + x2).toNatClampNeg)]) (wr := ow_pk (W_X7_isWord cs a0 p0 i0_1 i0_2 i0_3 i0_4 i0_5 i0_6 i0_7 i0_8 v0_0) [0, 1]) (wf := (W_X7_isWord cs a0 p0 i0_1 i0_2 i0_3 i0_4 i0_5 i0_6 i0_7 i0_8 v0_0)) (r := sCh s1 x2) C0 (c_J0_charAt l D cs H.size s1 hs1 x2 hin (vp_ltS hin)) (cwV 1 hts gX7_isWord_J0_charAt_5068e rfl rfl rfl (by decide +kernel) ⟨Nat.le_of_ble_eq_true rfl, Nat.le_of_ble_eq_true rfl⟩) (ow_strv hE hs1 hS) hP hD hS (fun q h => Or.inr h) [] [0, 1] [0, 1] rfl (by decide) rfl (by decide) (by decide) rfl (by decide) rfl hl.1 rfl (Nat.le_of_ble_eq_true rfl) ⟨Nat.zero_le _, Nat.zero_le _⟩ dX7_isWord_49 (fun H locs hP hD hS => ?_)
      refine lv_icmp_eq (tgt := 57) hx hb dX7_isWord_52 (by decide) (fun hc => ?_) (fun hc => ?_)
      · replace hf := ow_t hc hf
        refine lv_iinc (v := x2 + 1) (lv' := [(2, .int (x2 + 1)), (0, .ref a0), (1, .ref (D.2 100 s1))]) hx hb dX7_isWord_57 hl (k := 2) rfl (ow_inc (by decide)) (by decide) rfl (fun ls hl => ?_)
        refine lv_goto (tgt := 28) hx hb dX7_isWord_60 (by decide) ?_
        exact ih (x2 + 1) hf _ _ _ hP hD hS (lv_sub hl [1, 2, 0] rfl)
      · replace hf := ow_f hc hf
        refine lv_iconst (v := 0) hx hb dX7_isWord_55 (by decide) ?_
        obtain rfl := Option.some.inj hf
        exact ow_retZ C0 (Or.inl rfl) hP hD hS dX7_isWord_56
def f_X7_isWord  (i0_3 : Int32) (i0_4 : Int32) (i0_5 : Int32) (v0_0 : Nat → Int32) (s1 : Nat)  : Option (Int32) := if i0_3 = 2 then (if (i0_5 - i0_4) = (nI (lenS.getD s1 0)) then (f_X7_isWord_b28 i0_3 i0_4 i0_5 v0_0 s1 4000 (0)) else (some (0))) else (some (0))
set_option maxHeartbeats 4000000 in
set_option maxRecDepth 100000 in
theorem c_X7_isWord (l : Launch) (D : va_G) (cs : Nat → ClassId)  (sz : Nat) (a0 : Nat) (p0 : Nat → Nat) (i0_1 : Int32) (i0_2 : Int32) (i0_3 : Int32) (i0_4 : Int32) (i0_5 : Int32) (i0_6 : Int32) (i0_7 : Int32) (i0_8 : Int32) (v0_0 : Nat → Int32) (s1 : Nat) (hs1 : s1 < 22)  (res : Int32) (hf : f_X7_isWord  i0_3 i0_4 i0_5 v0_0 s1  = some res) : MI l D cs yX7_isWord wsX7_isWord rm_X7_isWord [.ref a0, .ref (D.2 100 s1)] sz (W_X7_isWord cs a0 p0 i0_1 i0_2 i0_3 i0_4 i0_5 i0_6 i0_7 i0_8 v0_0) (W_X7_isWord cs a0 p0 i0_1 i0_2 i0_3 i0_4 i0_5 i0_6 i0_7 i0_8 v0_0) res := by
  rw [f_X7_isWord] at hf
  refine ow_enter (cc := cX7_isWord) (nL := 3) (ret := (some .boolean)) (by decide) rfl (Nat.le_of_ble_eq_true rfl) (fun p e s m below meth c ls H locs C0 hP hD hS hA hl => ?_)
  obtain ⟨hx, hb, hr, hlk, hml, hown, hts, hK, hG, hE⟩ := id C0
  have hl : lv_has ls 3 [(0, .ref a0), (1, .ref (D.2 100 s1))] := hl
  refine lv_aload_n hx hb dX7_isWord_0 rfl (lv_at hl 0 rfl) ?_
  refine va_get (D := D) (ci := 7) (v := .int i0_3) (C := RX7) (T := TX7) (N := 9) hx hb hts in_X7_isWord_X7 hown hK hP 0 rfl rfl 3 (by decide) (hts (.fieldLink RX7 37 "PaneDays$Tape" "kind" "I") (List.mem_of_getElem? (i := 1) rfl)) (fun _ h9 => h9) rfl dX7_isWord_1 ?_
  refine lv_iconst (v := 2) hx hb dX7_isWord_4 (by decide) ?_
  refine lv_icmp_ne (tgt := 24) hx hb dX7_isWord_5 (by decide) (fun hc => ?_) (fun hc => ?_)
  · replace hf := ow_f hc hf
    refine lv_iconst (v := 0) hx hb dX7_isWord_24 (by decide) ?_
    obtain rfl := Option.some.inj hf
    exact ow_retZ C0 (Or.inl rfl) hP hD hS dX7_isWord_25
  · replace hf := ow_t hc hf
    refine lv_aload_n hx hb dX7_isWord_8 rfl (lv_at hl 0 rfl) ?_
    refine va_get (D := D) (ci := 7) (v := .int i0_5) (C := RX7) (T := TX7) (N := 9) hx hb hts in_X7_isWord_X7 hown hK hP 0 rfl rfl 5 (by decide) (hts (.fieldLink RX7 25 "PaneDays$Tape" "to" "I") (List.mem_of_getElem? (i := 2) rfl)) (fun _ h9 => h9) rfl dX7_isWord_9 ?_
    refine lv_aload_n hx hb dX7_isWord_12 rfl (lv_at hl 0 rfl) ?_
    refine va_get (D := D) (ci := 7) (v := .int i0_4) (C := RX7) (T := TX7) (N := 9) hx hb hts in_X7_isWord_X7 hown hK hP 0 rfl rfl 4 (by decide) (hts (.fieldLink RX7 34 "PaneDays$Tape" "from" "I") (List.mem_of_getElem? (i := 3) rfl)) (fun _ h9 => h9) rfl dX7_isWord_13 ?_
    refine lv_isub hx hb dX7_isWord_16 ?_
    refine lv_aload_n hx hb dX7_isWord_17 rfl (lv_at hl 1 rfl) ?_
    refine ow_callVIs (As := []) (rest := [.int (i0_5 - i0_4)]) (wr := ow_pk (W_X7_isWord cs a0 p0 i0_1 i0_2 i0_3 i0_4 i0_5 i0_6 i0_7 i0_8 v0_0) [0, 1]) (wf := (W_X7_isWord cs a0 p0 i0_1 i0_2 i0_3 i0_4 i0_5 i0_6 i0_7 i0_8 v0_0)) (r := nI (lenS.getD s1 0)) C0 (c_J0_length l D cs H.size s1 hs1) (cwV 0 hts gX7_isWord_J0_length_8abf5 rfl rfl rfl (by decide +kernel) ⟨Nat.le_of_ble_eq_true rfl, Nat.le_of_ble_eq_true rfl⟩) (ow_strv hE hs1 hS) hP hD hS (fun q h => Or.inr h) [] [0, 1] [0, 1] rfl (by decide) rfl (by decide) (by decide) rfl (by decide) rfl hl.1 rfl (Nat.le_of_ble_eq_true rfl) ⟨Nat.zero_le _, Nat.zero_le _⟩ dX7_isWord_18 (fun H locs hP hD hS => ?_)
    refine lv_icmp_eq (tgt := 26) hx hb dX7_isWord_21 (by decide) (fun hc => ?_) (fun hc => ?_)
    · replace hf := ow_t hc hf
      refine lv_iconst (v := 0) hx hb dX7_isWord_26 (by decide) ?_
      refine lv_istore_n (lv' := [(2, .int 0), (0, .ref a0), (1, .ref (D.2 100 s1))]) hx hb dX7_isWord_27 rfl hl (by decide) rfl (fun ls hl => ?_)
      exact w_X7_isWord_b28 C0 a0 p0 i0_1 i0_2 i0_3 i0_4 i0_5 i0_6 i0_7 i0_8 v0_0 s1 hs1 res 4000 (0) hf _ _ _ hP hD hS (lv_sub hl [1, 2, 0] rfl)
    · replace hf := ow_f hc hf
      refine lv_iconst (v := 0) hx hb dX7_isWord_24 (by decide) ?_
      obtain rfl := Option.some.inj hf
      exact ow_retZ C0 (Or.inl rfl) hP hD hS dX7_isWord_25
theorem in_X7_begin_X7 : ∀ w ∈ u_ws RX7 TX7 9, w ∈ wsX7_begin := fun w h => List.mem_cons_of_mem _ (List.mem_append_right _ h)
abbrev W_X7_begin (cs : Nat → ClassId) (a0 : Nat) (p0 : Nat → Nat) (i0_1 : Int32) (i0_2 : Int32) (i0_3 : Int32) (i0_4 : Int32) (i0_5 : Int32) (i0_6 : Int32) (i0_7 : Int32) (i0_8 : Int32) (v0_0 : Nat → Int32) : va_W := wX7 cs a0 p0 i0_1 i0_2 i0_3 i0_4 i0_5 i0_6 i0_7 i0_8 v0_0
abbrev rm_X7_begin : Room := { frames := 2, cells := 0, slots := 0, locals := 41 }
def f_X7_begin  (i0_2 : Int32) (i0_3 : Int32) (i0_4 : Int32) (i0_5 : Int32) (i0_6 : Int32) (i0_7 : Int32) (i0_8 : Int32) (v0_0 : Nat → Int32) (x1 : Int32) : Option (Int32 × Int32 × Int32 × Int32 × Int32 × Int32 × Int32) := (f_X7_step x1 i0_3 i0_4 (0) i0_6 (0) v0_0).bind fun q21 => some (x1, q21.1, q21.2.1, q21.2.2.1, q21.2.2.2, 0, (-1))
set_option maxHeartbeats 4000000 in
set_option maxRecDepth 100000 in
theorem c_X7_begin (l : Launch) (D : va_G) (cs : Nat → ClassId)  (sz : Nat) (a0 : Nat) (p0 : Nat → Nat) (i0_1 : Int32) (i0_2 : Int32) (i0_3 : Int32) (i0_4 : Int32) (i0_5 : Int32) (i0_6 : Int32) (i0_7 : Int32) (i0_8 : Int32) (v0_0 : Nat → Int32) (x1 : Int32) (res : Int32 × Int32 × Int32 × Int32 × Int32 × Int32 × Int32) (hf : f_X7_begin  i0_2 i0_3 i0_4 i0_5 i0_6 i0_7 i0_8 v0_0 x1 = some res) : MV l D cs yX7_begin wsX7_begin rm_X7_begin [.ref a0, .int x1] sz (W_X7_begin cs a0 p0 i0_1 i0_2 i0_3 i0_4 i0_5 i0_6 i0_7 i0_8 v0_0) (W_X7_begin cs a0 p0 i0_1 res.1 res.2.1 res.2.2.1 res.2.2.2.1 res.2.2.2.2.1 res.2.2.2.2.2.1 res.2.2.2.2.2.2 v0_0) := by
  rw [f_X7_begin] at hf
  refine ow_enter (cc := cX7_begin) (nL := 2) (ret := none) (by decide) rfl (Nat.le_of_ble_eq_true rfl) (fun p e s m below meth c ls H locs C0 hP hD hS hA hl => ?_)
  obtain ⟨hx, hb, hr, hlk, hml, hown, hts, hK, hG, hE⟩ := id C0
  have hl : lv_has ls 2 [(0, .ref a0), (1, .int x1)] := hl
  refine lv_aload_n hx hb dX7_begin_0 rfl (lv_at hl 0 rfl) ?_
  refine lv_iload_n hx hb dX7_begin_1 rfl (lv_at hl 1 rfl) ?_
  refine va_put (D := D) (ci := 7) (v := .int x1) (ty := .int) (C := RX7) (T := TX7) (N := 9) hx hb hts in_X7_begin_X7 tyX7 tyX7_ok nmX7 hown hK hP hD hS 0 rfl rfl 2 (by decide) (hts (.fieldLink RX7 22 "PaneDays$Tape" "length" "I") (List.mem_of_getElem? (i := 1) rfl)) (fun _ h9 => h9) rfl (by decide +kernel) rfl rfl (Nat.le_of_ble_eq_true rfl) dX7_begin_2 (fun H locs (hP : va_P D vwCl (W_X7_begin cs a0 p0 i0_1 x1 i0_3 i0_4 i0_5 i0_6 i0_7 i0_8 v0_0) H) (hD : va_D _ (W_X7_begin cs a0 p0 i0_1 x1 i0_3 i0_4 i0_5 i0_6 i0_7 i0_8 v0_0)) hS => ?_)
  refine lv_aload_n hx hb dX7_begin_5 rfl (lv_at hl 0 rfl) ?_
  refine lv_iconst (v := 0) hx hb dX7_begin_6 (by decide) ?_
  refine va_put (D := D) (ci := 7) (v := .int 0) (ty := .int) (C := RX7) (T := TX7) (N := 9) hx hb hts in_X7_begin_X7 tyX7 tyX7_ok nmX7 hown hK hP hD hS 0 rfl rfl 5 (by decide) (hts (.fieldLink RX7 25 "PaneDays$Tape" "to" "I") (List.mem_of_getElem? (i := 2) rfl)) (fun _ h9 => h9) rfl (by decide +kernel) rfl rfl (Nat.le_of_ble_eq_true rfl) dX7_begin_7 (fun H locs (hP : va_P D vwCl (W_X7_begin cs a0 p0 i0_1 x1 i0_3 i0_4 (0) i0_6 i0_7 i0_8 v0_0) H) (hD : va_D _ (W_X7_begin cs a0 p0 i0_1 x1 i0_3 i0_4 (0) i0_6 i0_7 i0_8 v0_0)) hS => ?_)
  refine lv_aload_n hx hb dX7_begin_10 rfl (lv_at hl 0 rfl) ?_
  refine lv_iconst (v := 0) hx hb dX7_begin_11 (by decide) ?_
  refine va_put (D := D) (ci := 7) (v := .int 0) (ty := .int) (C := RX7) (T := TX7) (N := 9) hx hb hts in_X7_begin_X7 tyX7 tyX7_ok nmX7 hown hK hP hD hS 0 rfl rfl 7 (by decide) (hts (.fieldLink RX7 28 "PaneDays$Tape" "fault" "I") (List.mem_of_getElem? (i := 3) rfl)) (fun _ h9 => h9) rfl (by decide +kernel) rfl rfl (Nat.le_of_ble_eq_true rfl) dX7_begin_12 (fun H locs (hP : va_P D vwCl (W_X7_begin cs a0 p0 i0_1 x1 i0_3 i0_4 (0) i0_6 (0) i0_8 v0_0) H) (hD : va_D _ (W_X7_begin cs a0 p0 i0_1 x1 i0_3 i0_4 (0) i0_6 (0) i0_8 v0_0)) hS => ?_)
  refine lv_aload_n hx hb dX7_begin_15 rfl (lv_at hl 0 rfl) ?_
  refine lv_iconst (v := (-1)) hx hb dX7_begin_16 (by decide) ?_
  refine va_put (D := D) (ci := 7) (v := .int ((-1))) (ty := .int) (C := RX7) (T := TX7) (N := 9) hx hb hts in_X7_begin_X7 tyX7 tyX7_ok nmX7 hown hK hP hD hS 0 rfl rfl 8 (by decide) (hts (.fieldLink RX7 15 "PaneDays$Tape" "place" "I") (List.mem_of_getElem? (i := 4) rfl)) (fun _ h9 => h9) rfl (by decide +kernel) rfl rfl (Nat.le_of_ble_eq_true rfl) dX7_begin_17 (fun H locs (hP : va_P D vwCl (W_X7_begin cs a0 p0 i0_1 x1 i0_3 i0_4 (0) i0_6 (0) ((-1)) v0_0) H) (hD : va_D _ (W_X7_begin cs a0 p0 i0_1 x1 i0_3 i0_4 (0) i0_6 (0) ((-1)) v0_0)) hS => ?_)
  refine lv_aload_n hx hb dX7_begin_20 rfl (lv_at hl 0 rfl) ?_
  obtain ⟨q21, hq, hf⟩ := bd_some hf
  refine ow_callVV (As := []) (rest := []) (wr := ow_pk (W_X7_begin cs a0 p0 i0_1 x1 i0_3 i0_4 (0) i0_6 (0) ((-1)) v0_0) []) (wf := (W_X7_begin cs a0 p0 i0_1 x1 q21.1 q21.2.1 q21.2.2.1 q21.2.2.2 (0) ((-1)) v0_0)) C0 (c_X7_step l D cs H.size a0 p0 i0_1 x1 i0_3 i0_4 (0) i0_6 (0) ((-1)) v0_0  q21 hq) (cwV 0 hts gX7_begin_X7_step rfl rfl rfl (by decide +kernel) ⟨Nat.le_of_ble_eq_true rfl, Nat.le_of_ble_eq_true rfl⟩) 7 rfl rfl hP hD hS (fun q h => Or.inr h) [0, 1] [] [0, 1] rfl (by decide) rfl (by decide) (by decide) rfl (by decide) rfl hl.1 rfl (Nat.le_of_ble_eq_true rfl) ⟨Nat.zero_le _, Nat.zero_le _⟩ dX7_begin_21 (fun H locs hP hD hS => ?_)
  obtain rfl := Option.some.inj hf
  exact ow_retV C0 hP hD hS dX7_begin_24
theorem in_X7_put_X7 : ∀ w ∈ u_ws RX7 TX7 9, w ∈ wsX7_put := fun w h => List.mem_cons_of_mem _ (List.mem_append_right _ h)
abbrev W_X7_put (cs : Nat → ClassId) (a0 : Nat) (p0 : Nat → Nat) (i0_1 : Int32) (i0_2 : Int32) (i0_3 : Int32) (i0_4 : Int32) (i0_5 : Int32) (i0_6 : Int32) (i0_7 : Int32) (i0_8 : Int32) (v0_0 : Nat → Int32) : va_W := wX7 cs a0 p0 i0_1 i0_2 i0_3 i0_4 i0_5 i0_6 i0_7 i0_8 v0_0
abbrev rm_X7_put : Room := { frames := 0, cells := 0, slots := 0, locals := 0 }
def f_X7_put_b3    : Nat → (Int32) → (Nat → Int32) → Int32 → Int32 → Option (Int32 × (Nat → Int32))
  | 0, _, _, _, _ => none
  | n + 1, i0_1, v0_0, x1, x2 => if x2 < 0 then (some (i0_1, v0_0)) else (if 600 ≤ i0_1 then (some (i0_1, v0_0)) else (ck i0_1 600 (f_X7_put_b3 n (i0_1 + 1) (upd v0_0 (i0_1).toNatClampNeg (vp_nar .byte ((x1 >>> (x2 &&& 31)).toInt8.toInt32))) x1 (x2 + (-8)))))
set_option maxHeartbeats 4000000 in
set_option maxRecDepth 100000 in
theorem w_X7_put_b3 {p : Program} {l : Launch} {e : Env} {s : State} {m : MethodId} {below : List Frame} {meth : Method} {c : Code} {D : va_G} {cs : Nat → ClassId} {av : Array Value} {w0 : va_W} (C0 : Cx p s m meth c av wsX7_put cX7_put 3 none RX7 D cs w0)  (a0 : Nat) (p0 : Nat → Nat) (i0_2 : Int32) (i0_3 : Int32) (i0_4 : Int32) (i0_5 : Int32) (i0_6 : Int32) (i0_7 : Int32) (i0_8 : Int32) (res : Int32 × (Nat → Int32))  : ∀ (n : Nat) (i0_1 : Int32) (v0_0 : Nat → Int32) (x1 : Int32) (x2 : Int32), f_X7_put_b3 n i0_1 v0_0 x1 x2 = some res → ∀ (H : Heap) (locs : List Loc) (ls : Array Slot), va_P D vwCl (W_X7_put cs a0 p0 i0_1 i0_2 i0_3 i0_4 i0_5 i0_6 i0_7 i0_8 v0_0) H → va_D (va_A w0 s.heap.size) (W_X7_put cs a0 p0 i0_1 i0_2 i0_3 i0_4 i0_5 i0_6 i0_7 i0_8 v0_0) → va_S (va_A w0 s.heap.size) s.heap H locs → lv_has ls 3 [(0, .ref a0), (1, .int x1), (2, .int x2)] → W p l e rm_X7_put s m av below meth c H locs 0 0 (MQ below (oV D cs w0 (W_X7_put cs a0 p0 res.1 i0_2 i0_3 i0_4 i0_5 i0_6 i0_7 i0_8 res.2) s.heap.size) av s 0 0 (va_A w0 s.heap.size)) (F0 m 3 ls []) := by
  obtain ⟨hx, hb, hr, hlk, hml, hown, hts, hK, hG, hE⟩ := id C0
  intro n
  induction n with
  | zero =>
    intro i0_1 v0_0 x1 x2 hf
    rw [f_X7_put_b3] at hf
    cases hf
  | succ n ih =>
    intro i0_1 v0_0 x1 x2 hf H locs ls hP hD hS hl
    rw [f_X7_put_b3] at hf
    refine lv_iload_n hx hb dX7_put_3 rfl (lv_at hl 2 rfl) ?_
    refine lv_if_lt (tgt := 46) hx hb dX7_put_4 (by decide) (fun hc => ?_) (fun hc => ?_)
    · replace hf := ow_t hc hf
      obtain rfl := Option.some.inj hf
      exact ow_retV C0 hP hD hS dX7_put_46
    · replace hf := ow_f hc hf
      refine lv_aload_n hx hb dX7_put_7 rfl (lv_at hl 0 rfl) ?_
      refine va_get (D := D) (ci := 7) (v := .int i0_1) (C := RX7) (T := TX7) (N := 9) hx hb hts in_X7_put_X7 hown hK hP 0 rfl rfl 1 (by decide) (hts (.fieldLink RX7 19 "PaneDays$Tape" "count" "I") (List.mem_of_getElem? (i := 1) rfl)) (fun _ h9 => h9) rfl dX7_put_8 ?_
      refine lv_sipush (v := 600) hx hb dX7_put_11 (by decide) ?_
      refine lv_icmp_ge (tgt := 46) hx hb dX7_put_14 (by decide) (fun hc => ?_) (fun hc => ?_)
      · replace hf := ow_t hc hf
        obtain rfl := Option.some.inj hf
        exact ow_retV C0 hP hD hS dX7_put_46
      · replace hf := ow_f hc hf
        refine lv_aload_n hx hb dX7_put_17 rfl (lv_at hl 0 rfl) ?_
        refine va_get (D := D) (ci := 7) (v := .ref (p0 0)) (C := RX7) (T := TX7) (N := 9) hx hb hts in_X7_put_X7 hown hK hP 0 rfl rfl 0 (by decide) (hts (.fieldLink RX7 11 "PaneDays$Tape" "bytes" "[B") (List.mem_of_getElem? (i := 2) rfl)) (fun _ h9 => h9) rfl dX7_put_18 ?_
        refine lv_aload_n hx hb dX7_put_21 rfl (lv_at hl 0 rfl) ?_
        refine va_get (D := D) (ci := 7) (v := .int i0_1) (C := RX7) (T := TX7) (N := 9) hx hb hts in_X7_put_X7 hown hK hP 0 rfl rfl 1 (by decide) (hts (.fieldLink RX7 19 "PaneDays$Tape" "count" "I") (List.mem_of_getElem? (i := 1) rfl)) (fun _ h9 => h9) rfl dX7_put_22 ?_
        refine lv_iload_n hx hb dX7_put_25 rfl (lv_at hl 1 rfl) ?_
        refine lv_iload_n hx hb dX7_put_26 rfl (lv_at hl 2 rfl) ?_
        refine lv_ishr hx hb dX7_put_27 ?_
        refine lv_i2b (v := (x1 >>> (x2 &&& 31)).toInt8.toInt32) hx hb dX7_put_28 rfl ?_
        obtain ⟨hin, hf⟩ := ck_some hf
        refine va_bast (f := v0_0) hx hb hK hP hD hS 1 1 rfl rfl hin dX7_put_29 (fun H locs (hP : va_P D vwCl (W_X7_put cs a0 p0 i0_1 i0_2 i0_3 i0_4 i0_5 i0_6 i0_7 i0_8 (upd v0_0 (i0_1).toNatClampNeg (vp_nar .byte ((x1 >>> (x2 &&& 31)).toInt8.toInt32)))) H) (hD : va_D _ (W_X7_put cs a0 p0 i0_1 i0_2 i0_3 i0_4 i0_5 i0_6 i0_7 i0_8 (upd v0_0 (i0_1).toNatClampNeg (vp_nar .byte ((x1 >>> (x2 &&& 31)).toInt8.toInt32))))) hS => ?_)
        refine lv_aload_n hx hb dX7_put_30 rfl (lv_at hl 0 rfl) ?_
        refine lv_dup hx hb dX7_put_31 rfl ?_
        refine va_get (D := D) (ci := 7) (v := .int i0_1) (C := RX7) (T := TX7) (N := 9) hx hb hts in_X7_put_X7 hown hK hP 0 rfl rfl 1 (by decide) (hts (.fieldLink RX7 19 "PaneDays$Tape" "count" "I") (List.mem_of_getElem? (i := 1) rfl)) (fun _ h9 => h9) rfl dX7_put_32 ?_
        refine lv_iconst (v := 1) hx hb dX7_put_35 (by decide) ?_
        refine lv_iadd hx hb dX7_put_36 ?_
        refine va_put (D := D) (ci := 7) (v := .int (i0_1 + 1)) (ty := .int) (C := RX7) (T := TX7) (N := 9) hx hb hts in_X7_put_X7 tyX7 tyX7_ok nmX7 hown hK hP hD hS 0 rfl rfl 1 (by decide) (hts (.fieldLink RX7 19 "PaneDays$Tape" "count" "I") (List.mem_of_getElem? (i := 1) rfl)) (fun _ h9 => h9) rfl (by decide +kernel) rfl rfl (Nat.le_of_ble_eq_true rfl) dX7_put_37 (fun H locs (hP : va_P D vwCl (W_X7_put cs a0 p0 (i0_1 + 1) i0_2 i0_3 i0_4 i0_5 i0_6 i0_7 i0_8 (upd v0_0 (i0_1).toNatClampNeg (vp_nar .byte ((x1 >>> (x2 &&& 31)).toInt8.toInt32)))) H) (hD : va_D _ (W_X7_put cs a0 p0 (i0_1 + 1) i0_2 i0_3 i0_4 i0_5 i0_6 i0_7 i0_8 (upd v0_0 (i0_1).toNatClampNeg (vp_nar .byte ((x1 >>> (x2 &&& 31)).toInt8.toInt32))))) hS => ?_)
        refine lv_iinc (v := x2 + (-8)) (lv' := [(2, .int (x2 + (-8))), (0, .ref a0), (1, .int x1)]) hx hb dX7_put_40 hl (k := 2) rfl (ow_inc (by decide)) (by decide) rfl (fun ls hl => ?_)
        refine lv_goto (tgt := 3) hx hb dX7_put_43 (by decide) ?_
        exact ih (i0_1 + 1) (upd v0_0 (i0_1).toNatClampNeg (vp_nar .byte ((x1 >>> (x2 &&& 31)).toInt8.toInt32))) x1 (x2 + (-8)) hf _ _ _ hP hD hS (lv_sub hl [1, 2, 0] rfl)
def f_X7_put  (i0_1 : Int32) (v0_0 : Nat → Int32) (x1 : Int32) : Option (Int32 × (Nat → Int32)) := f_X7_put_b3 4000 i0_1 v0_0 x1 (24)
set_option maxHeartbeats 4000000 in
set_option maxRecDepth 100000 in
theorem c_X7_put (l : Launch) (D : va_G) (cs : Nat → ClassId)  (sz : Nat) (a0 : Nat) (p0 : Nat → Nat) (i0_1 : Int32) (i0_2 : Int32) (i0_3 : Int32) (i0_4 : Int32) (i0_5 : Int32) (i0_6 : Int32) (i0_7 : Int32) (i0_8 : Int32) (v0_0 : Nat → Int32) (x1 : Int32) (res : Int32 × (Nat → Int32)) (hf : f_X7_put  i0_1 v0_0 x1 = some res) : MV l D cs yX7_put wsX7_put rm_X7_put [.ref a0, .int x1] sz (W_X7_put cs a0 p0 i0_1 i0_2 i0_3 i0_4 i0_5 i0_6 i0_7 i0_8 v0_0) (W_X7_put cs a0 p0 res.1 i0_2 i0_3 i0_4 i0_5 i0_6 i0_7 i0_8 res.2) := by
  rw [f_X7_put] at hf
  refine ow_enter (cc := cX7_put) (nL := 3) (ret := none) (by decide) rfl (Nat.le_of_ble_eq_true rfl) (fun p e s m below meth c ls H locs C0 hP hD hS hA hl => ?_)
  obtain ⟨hx, hb, hr, hlk, hml, hown, hts, hK, hG, hE⟩ := id C0
  have hl : lv_has ls 3 [(0, .ref a0), (1, .int x1)] := hl
  refine lv_bipush (v := 24) hx hb dX7_put_0 (by decide) ?_
  refine lv_istore_n (lv' := [(2, .int 24), (0, .ref a0), (1, .int x1)]) hx hb dX7_put_2 rfl hl (by decide) rfl (fun ls hl => ?_)
  exact w_X7_put_b3 C0 a0 p0 i0_2 i0_3 i0_4 i0_5 i0_6 i0_7 i0_8 res 4000 i0_1 v0_0 x1 (24) hf _ _ _ hP hD hS (lv_sub hl [1, 2, 0] rfl)
theorem in_X7_hasRoom_X7 : ∀ w ∈ u_ws RX7 TX7 9, w ∈ wsX7_hasRoom := fun w h => List.mem_cons_of_mem _ (List.mem_append_right _ h)
abbrev W_X7_hasRoom (cs : Nat → ClassId) (a0 : Nat) (p0 : Nat → Nat) (i0_1 : Int32) (i0_2 : Int32) (i0_3 : Int32) (i0_4 : Int32) (i0_5 : Int32) (i0_6 : Int32) (i0_7 : Int32) (i0_8 : Int32) (v0_0 : Nat → Int32) : va_W := wX7 cs a0 p0 i0_1 i0_2 i0_3 i0_4 i0_5 i0_6 i0_7 i0_8 v0_0
abbrev rm_X7_hasRoom : Room := { frames := 0, cells := 0, slots := 0, locals := 0 }
def f_X7_hasRoom  (i0_1 : Int32)  : Option (Int32) := if 600 < (i0_1 + 20) then (some (0)) else (some (1))
set_option maxHeartbeats 4000000 in
set_option maxRecDepth 100000 in
theorem c_X7_hasRoom (l : Launch) (D : va_G) (cs : Nat → ClassId)  (sz : Nat) (a0 : Nat) (p0 : Nat → Nat) (i0_1 : Int32) (i0_2 : Int32) (i0_3 : Int32) (i0_4 : Int32) (i0_5 : Int32) (i0_6 : Int32) (i0_7 : Int32) (i0_8 : Int32) (v0_0 : Nat → Int32)  (res : Int32) (hf : f_X7_hasRoom  i0_1  = some res) : MI l D cs yX7_hasRoom wsX7_hasRoom rm_X7_hasRoom [.ref a0] sz (W_X7_hasRoom cs a0 p0 i0_1 i0_2 i0_3 i0_4 i0_5 i0_6 i0_7 i0_8 v0_0) (W_X7_hasRoom cs a0 p0 i0_1 i0_2 i0_3 i0_4 i0_5 i0_6 i0_7 i0_8 v0_0) res := by
  rw [f_X7_hasRoom] at hf
  refine ow_enter (cc := cX7_hasRoom) (nL := 1) (ret := (some .boolean)) (by decide) rfl (Nat.le_of_ble_eq_true rfl) (fun p e s m below meth c ls H locs C0 hP hD hS hA hl => ?_)
  obtain ⟨hx, hb, hr, hlk, hml, hown, hts, hK, hG, hE⟩ := id C0
  have hl : lv_has ls 1 [(0, .ref a0)] := hl
  refine lv_aload_n hx hb dX7_hasRoom_0 rfl (lv_at hl 0 rfl) ?_
  refine va_get (D := D) (ci := 7) (v := .int i0_1) (C := RX7) (T := TX7) (N := 9) hx hb hts in_X7_hasRoom_X7 hown hK hP 0 rfl rfl 1 (by decide) (hts (.fieldLink RX7 19 "PaneDays$Tape" "count" "I") (List.mem_of_getElem? (i := 1) rfl)) (fun _ h9 => h9) rfl dX7_hasRoom_1 ?_
  refine lv_bipush (v := 20) hx hb dX7_hasRoom_4 (by decide) ?_
  refine lv_iadd hx hb dX7_hasRoom_6 ?_
  refine lv_sipush (v := 600) hx hb dX7_hasRoom_7 (by decide) ?_
  refine lv_icmp_gt (tgt := 17) hx hb dX7_hasRoom_10 (by decide) (fun hc => ?_) (fun hc => ?_)
  · replace hf := ow_t hc hf
    refine lv_iconst (v := 0) hx hb dX7_hasRoom_17 (by decide) ?_
    obtain rfl := Option.some.inj hf
    exact ow_retZ C0 (Or.inl rfl) hP hD hS dX7_hasRoom_18
  · replace hf := ow_f hc hf
    refine lv_iconst (v := 1) hx hb dX7_hasRoom_13 (by decide) ?_
    refine lv_goto (tgt := 18) hx hb dX7_hasRoom_14 (by decide) ?_
    obtain rfl := Option.some.inj hf
    exact ow_retZ C0 (Or.inr rfl) hP hD hS dX7_hasRoom_18

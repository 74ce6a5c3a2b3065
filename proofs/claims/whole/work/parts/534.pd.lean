theorem in_X10_films_X10 : ∀ w ∈ u_ws RX10 TX10 16, w ∈ wsX10_films := fun w h => List.mem_cons_of_mem _ (List.mem_append_left _ (List.mem_append_left _ (List.mem_append_left _ (List.mem_append_right _ h))))
theorem in_X10_films_X2 : ∀ w ∈ u_ws RX2 TX2 8, w ∈ wsX10_films := fun w h => List.mem_cons_of_mem _ (List.mem_append_left _ (List.mem_append_right _ h))
theorem in_X10_films_X4 : ∀ w ∈ u_ws RX4 TX4 3, w ∈ wsX10_films := fun w h => List.mem_cons_of_mem _ (List.mem_append_left _ (List.mem_append_left _ (List.mem_append_right _ h)))
abbrev S_X10_films (cs : Nat → ClassId) (a0 : Nat) (p0 : Nat → Nat) (i0_13 : Int32) (i0_14 : Int32) (v0_15 : Nat → Int32) (p1 : Nat → Nat) (i1_2 : Int32) (p2 : Nat → Nat) (i2_3 : Int32) (i2_4 : Int32) (i2_5 : Int32) (i2_6 : Int32) (i2_7 : Int32) (v2_0 : Nat → Int32) (v2_1 : Nat → Int32) (v2_2 : Nat → Int32) : List va_W := [wX10 cs a0 p0 i0_13 i0_14 v0_15, wX4 cs (p0 9) p1 i1_2, wX2 cs (p1 0) p2 i2_3 i2_4 i2_5 i2_6 i2_7 v2_0 v2_1 v2_2]
abbrev W_X10_films (cs : Nat → ClassId) (a0 : Nat) (p0 : Nat → Nat) (i0_13 : Int32) (i0_14 : Int32) (v0_15 : Nat → Int32) (p1 : Nat → Nat) (i1_2 : Int32) (p2 : Nat → Nat) (i2_3 : Int32) (i2_4 : Int32) (i2_5 : Int32) (i2_6 : Int32) (i2_7 : Int32) (v2_0 : Nat → Int32) (v2_1 : Nat → Int32) (v2_2 : Nat → Int32) : va_W := (S_X10_films cs a0 p0 i0_13 i0_14 v0_15 p1 i1_2 p2 i2_3 i2_4 i2_5 i2_6 i2_7 v2_0 v2_1 v2_2).flatten
abbrev rm_X10_films : Room := { frames := 8, cells := 2, slots := 12, locals := 124 }
def f_X10_films_b18  (v2_0 : Nat → Int32) (v2_1 : Nat → Int32) (v2_2 : Nat → Int32)  (v0_15 : Nat → Int32) (x1 : Int32) (x2 : Int32) (t1 : Int32) : Option (Nat × Int32 × (Nat → Int32)) := (f_X10_need v0_15 t1).bind fun q18 => if q18.1 = 0 then ((f_X10_needWhat q18.2 x2 (1)).bind fun q24 => if q24.1 = 0 then (if x2 = 0 then (ck x1 201 (some (0, v2_2 (x1).toNatClampNeg, q24.2))) else ((f_X2_filmsOf v2_0 v2_1 x1).bind fun q54 => some (0, q54, q24.2))) else (some (q24.1, 0, q24.2))) else (some (q18.1, 0, q18.2))
set_option maxHeartbeats 4000000 in
set_option maxRecDepth 100000 in
theorem w_X10_films_b18 {p : Program} {l : Launch} {e : Env} {s : State} {m : MethodId} {below : List Frame} {meth : Method} {c : Code} {D : va_G} {cs : Nat → ClassId} {av : Array Value} {w0 : va_W} (C0 : Cx p s m meth c av wsX10_films cX10_films 3 (some .int) RX10 D cs w0) (T0 : CxT l s c)  (a0 : Nat) (p0 : Nat → Nat) (i0_13 : Int32) (i0_14 : Int32) (p1 : Nat → Nat) (i1_2 : Int32) (p2 : Nat → Nat) (i2_3 : Int32) (i2_4 : Int32) (i2_5 : Int32) (i2_6 : Int32) (i2_7 : Int32) (v2_0 : Nat → Int32) (v2_1 : Nat → Int32) (v2_2 : Nat → Int32) (res : Nat × Int32 × (Nat → Int32))  : ∀ (v0_15 : Nat → Int32) (x1 : Int32) (x2 : Int32) (t1 : Int32), f_X10_films_b18 v2_0 v2_1 v2_2 v0_15 x1 x2 t1 = some res → ∀ (H : Heap) (locs : List Loc) (ls : Array Slot), va_P D vwCl (W_X10_films cs a0 p0 i0_13 i0_14 v0_15 p1 i1_2 p2 i2_3 i2_4 i2_5 i2_6 i2_7 v2_0 v2_1 v2_2) H → va_D (va_A w0 s.heap.size) (W_X10_films cs a0 p0 i0_13 i0_14 v0_15 p1 i1_2 p2 i2_3 i2_4 i2_5 i2_6 i2_7 v2_0 v2_1 v2_2) → va_S (va_A w0 s.heap.size) s.heap H locs → lv_has ls 3 [(0, .ref a0), (1, .int x1), (2, .int x2)] → W p l e rm_X10_films s m av below meth c H locs 0 0 (vx_MQ below (xI D cs w0 (W_X10_films cs a0 p0 i0_13 i0_14 res.2.2 p1 i1_2 p2 i2_3 i2_4 i2_5 i2_6 i2_7 v2_0 v2_1 v2_2) res.1 res.2.1 s.heap.size) (xX D cs w0 (W_X10_films cs a0 p0 i0_13 i0_14 res.2.2 p1 i1_2 p2 i2_3 i2_4 i2_5 i2_6 i2_7 v2_0 v2_1 v2_2) res.1 s.heap.size) av s 2 12 (va_A w0 s.heap.size)) (F0 m 18 ls [.int t1, .ref a0]) := by
  obtain ⟨hx, hb, hr, hlk, hml, hown, hts, hK, hG, hE⟩ := id C0
  intro v0_15 x1 x2 t1 hf H locs ls hP hD hS hl
  rw [f_X10_films_b18] at hf
  obtain ⟨q18, hq, hf⟩ := bd_some hf
  refine ow_gtVV (As := [.int t1]) (rest := []) (sg := (S_X10_films cs a0 p0 i0_13 i0_14 v0_15 p1 i1_2 p2 i2_3 i2_4 i2_5 i2_6 i2_7 v2_0 v2_1 v2_2)) (sc := [wX10 cs a0 p0 i0_13 i0_14 v0_15]) (sc' := [wX10 cs a0 p0 i0_13 i0_14 q18.2]) (sr := ow_pks (S_X10_films cs a0 p0 i0_13 i0_14 v0_15 p1 i1_2 p2 i2_3 i2_4 i2_5 i2_6 i2_7 v2_0 v2_1 v2_2) [1, 2]) (sf := (S_X10_films cs a0 p0 i0_13 i0_14 q18.2 p1 i1_2 p2 i2_3 i2_4 i2_5 i2_6 i2_7 v2_0 v2_1 v2_2)) (k := q18.1) C0 T0 (c_X10_need l D cs T0.1 H.size a0 p0 i0_13 i0_14 v0_15 t1 q18 hq) (cwV 1 hts gX10_films_X10_need rfl rfl rfl (by decide +kernel) ⟨Nat.le_of_ble_eq_true rfl, Nat.le_of_ble_eq_true rfl⟩) 10 rfl rfl hP hD hS (sg_permL [0] [1, 2] 3 rfl (by decide) rfl rfl) (sg_permG [2, 0, 1] 3 rfl (by decide) rfl) rfl hl.1 rfl (Nat.le_of_ble_eq_true rfl) ⟨(Nat.le_of_ble_eq_true rfl), (Nat.le_of_ble_eq_true rfl)⟩ dX10_films_18 (fun hz => ?_) (Nat.le_of_ble_eq_true rfl) (Nat.le_of_ble_eq_true rfl) (fun hz H locs (hP : va_P D vwCl (W_X10_films cs a0 p0 i0_13 i0_14 q18.2 p1 i1_2 p2 i2_3 i2_4 i2_5 i2_6 i2_7 v2_0 v2_1 v2_2) H) (hD : va_D _ (W_X10_films cs a0 p0 i0_13 i0_14 q18.2 p1 i1_2 p2 i2_3 i2_4 i2_5 i2_6 i2_7 v2_0 v2_1 v2_2)) hS => ?_)
  · replace hf := ow_f hz hf
    obtain rfl := Option.some.inj hf
    exact ⟨rfl, rfl⟩
  replace hf := ow_t hz hf
  refine lv_aload_n hx hb dX10_films_21 rfl (lv_at hl 0 rfl) ?_
  refine lv_iload_n hx hb dX10_films_22 rfl (lv_at hl 2 rfl) ?_
  refine lv_iconst (v := 1) hx hb dX10_films_23 (by decide) ?_
  obtain ⟨q24, hq, hf⟩ := bd_some hf
  refine ow_gtVV (As := [.int x2, .int 1]) (rest := []) (sg := (S_X10_films cs a0 p0 i0_13 i0_14 q18.2 p1 i1_2 p2 i2_3 i2_4 i2_5 i2_6 i2_7 v2_0 v2_1 v2_2)) (sc := [wX10 cs a0 p0 i0_13 i0_14 q18.2]) (sc' := [wX10 cs a0 p0 i0_13 i0_14 q24.2]) (sr := ow_pks (S_X10_films cs a0 p0 i0_13 i0_14 q18.2 p1 i1_2 p2 i2_3 i2_4 i2_5 i2_6 i2_7 v2_0 v2_1 v2_2) [1, 2]) (sf := (S_X10_films cs a0 p0 i0_13 i0_14 q24.2 p1 i1_2 p2 i2_3 i2_4 i2_5 i2_6 i2_7 v2_0 v2_1 v2_2)) (k := q24.1) C0 T0 (c_X10_needWhat l D cs T0.1 H.size a0 p0 i0_13 i0_14 q18.2 x2 (1) q24 hq) (cwV 2 hts gX10_films_X10_needWhat rfl rfl rfl (by decide +kernel) ⟨Nat.le_of_ble_eq_true rfl, Nat.le_of_ble_eq_true rfl⟩) 10 rfl rfl hP hD hS (sg_permL [0] [1, 2] 3 rfl (by decide) rfl rfl) (sg_permG [2, 0, 1] 3 rfl (by decide) rfl) rfl hl.1 rfl (Nat.le_of_ble_eq_true rfl) ⟨(Nat.le_of_ble_eq_true rfl), (Nat.le_of_ble_eq_true rfl)⟩ dX10_films_24 (fun hz => ?_) (Nat.le_of_ble_eq_true rfl) (Nat.le_of_ble_eq_true rfl) (fun hz H locs (hP : va_P D vwCl (W_X10_films cs a0 p0 i0_13 i0_14 q24.2 p1 i1_2 p2 i2_3 i2_4 i2_5 i2_6 i2_7 v2_0 v2_1 v2_2) H) (hD : va_D _ (W_X10_films cs a0 p0 i0_13 i0_14 q24.2 p1 i1_2 p2 i2_3 i2_4 i2_5 i2_6 i2_7 v2_0 v2_1 v2_2)) hS => ?_)
  · replace hf := ow_f hz hf
    obtain rfl := Option.some.inj hf
    exact ⟨rfl, rfl⟩
  replace hf := ow_t hz hf
  refine lv_iload_n hx hb dX10_films_27 rfl (lv_at hl 2 rfl) ?_
  refine lv_if_ne (tgt := 46) hx hb dX10_films_28 (by decide) (fun hc => ?_) (fun hc => ?_)
  · replace hf := ow_f hc hf
    refine lv_aload_n hx hb dX10_films_46 rfl (lv_at hl 0 rfl) ?_
    refine va_get (D := D) (ci := 10) (v := .ref (p0 9)) (C := RX10) (T := TX10) (N := 16) hx hb hts in_X10_films_X10 hown hK hP 0 rfl rfl 9 (by decide) (hts (.fieldLink RX10 63 "PaneDays" "past" "LPaneDays$Past;") (List.mem_of_getElem? (i := 1) rfl)) (fun _ h9 => h9) rfl dX10_films_47 ?_
    refine va_get (D := D) (ci := 4) (v := .ref (p1 0)) (C := RX4) (T := TX4) (N := 3) hx hb hts in_X10_films_X4 hown hK hP 2 rfl rfl 0 (by decide) (hts (.fieldLink RX10 76 "PaneDays$Past" "now" "LPaneDays$Glass;") (List.mem_of_getElem? (i := 2) rfl)) (fun _ h9 => h9) rfl dX10_films_50 ?_
    refine lv_iload_n hx hb dX10_films_53 rfl (lv_at hl 1 rfl) ?_
    obtain ⟨q54, hq, hf⟩ := bd_some hf
    refine ow_gVI (As := [.int x1]) (rest := []) (sg := (S_X10_films cs a0 p0 i0_13 i0_14 q24.2 p1 i1_2 p2 i2_3 i2_4 i2_5 i2_6 i2_7 v2_0 v2_1 v2_2)) (sc := [wX2 cs (p1 0) p2 i2_3 i2_4 i2_5 i2_6 i2_7 v2_0 v2_1 v2_2]) (sc' := [wX2 cs (p1 0) p2 i2_3 i2_4 i2_5 i2_6 i2_7 v2_0 v2_1 v2_2]) (sr := ow_pks (S_X10_films cs a0 p0 i0_13 i0_14 q24.2 p1 i1_2 p2 i2_3 i2_4 i2_5 i2_6 i2_7 v2_0 v2_1 v2_2) [0, 1]) (sf := (S_X10_films cs a0 p0 i0_13 i0_14 q24.2 p1 i1_2 p2 i2_3 i2_4 i2_5 i2_6 i2_7 v2_0 v2_1 v2_2)) (r := q54) C0 (c_X2_filmsOf l D cs H.size (p1 0) p2 i2_3 i2_4 i2_5 i2_6 i2_7 v2_0 v2_1 v2_2 x1 q54 hq) (cwV 1 hts gX10_films_X2_filmsOf rfl rfl rfl (by decide +kernel) ⟨Nat.le_of_ble_eq_true rfl, Nat.le_of_ble_eq_true rfl⟩) 2 rfl rfl hP hD hS (sg_permL [2] [0, 1] 3 rfl (by decide) rfl rfl) (sg_permG [0, 1, 2] 3 rfl (by decide) rfl) rfl hl.1 rfl (Nat.le_of_ble_eq_true rfl) ⟨(Nat.le_of_ble_eq_true rfl), (Nat.le_of_ble_eq_true rfl)⟩ dX10_films_54 (fun H locs (hP : va_P D vwCl (W_X10_films cs a0 p0 i0_13 i0_14 q24.2 p1 i1_2 p2 i2_3 i2_4 i2_5 i2_6 i2_7 v2_0 v2_1 v2_2) H) (hD : va_D _ (W_X10_films cs a0 p0 i0_13 i0_14 q24.2 p1 i1_2 p2 i2_3 i2_4 i2_5 i2_6 i2_7 v2_0 v2_1 v2_2)) hS => ?_)
    obtain rfl := Option.some.inj hf
    exact ow_tretI C0 rfl hP hD hS (Nat.le_of_ble_eq_true rfl) (Nat.le_of_ble_eq_true rfl) dX10_films_57
  · replace hf := ow_t hc hf
    refine lv_aload_n hx hb dX10_films_31 rfl (lv_at hl 0 rfl) ?_
    refine va_get (D := D) (ci := 10) (v := .ref (p0 9)) (C := RX10) (T := TX10) (N := 16) hx hb hts in_X10_films_X10 hown hK hP 0 rfl rfl 9 (by decide) (hts (.fieldLink RX10 63 "PaneDays" "past" "LPaneDays$Past;") (List.mem_of_getElem? (i := 1) rfl)) (fun _ h9 => h9) rfl dX10_films_32 ?_
    refine va_get (D := D) (ci := 4) (v := .ref (p1 0)) (C := RX4) (T := TX4) (N := 3) hx hb hts in_X10_films_X4 hown hK hP 2 rfl rfl 0 (by decide) (hts (.fieldLink RX10 76 "PaneDays$Past" "now" "LPaneDays$Glass;") (List.mem_of_getElem? (i := 2) rfl)) (fun _ h9 => h9) rfl dX10_films_35 ?_
    refine va_get (D := D) (ci := 2) (v := .ref (p2 2)) (C := RX2) (T := TX2) (N := 8) hx hb hts in_X10_films_X2 hown hK hP 3 rfl rfl 2 (by decide) (hts (.fieldLink RX10 227 "PaneDays$Glass" "rag" "[I") (List.mem_of_getElem? (i := 3) rfl)) (fun _ h9 => h9) rfl dX10_films_38 ?_
    refine lv_iload_n hx hb dX10_films_41 rfl (lv_at hl 1 rfl) ?_
    obtain ⟨hin, hf⟩ := ck_some hf
    refine va_iald (f := v2_2) hx hb hK hP 6 0 rfl rfl hin dX10_films_42 ?_
    refine lv_goto (tgt := 57) hx hb dX10_films_43 (by decide) ?_
    obtain rfl := Option.some.inj hf
    exact ow_tretI C0 rfl hP hD hS (Nat.le_of_ble_eq_true rfl) (Nat.le_of_ble_eq_true rfl) dX10_films_57
def f_X10_films_b17  (v2_0 : Nat → Int32) (v2_1 : Nat → Int32) (v2_2 : Nat → Int32)  (v0_15 : Nat → Int32) (x1 : Int32) (x2 : Int32) : Option (Nat × Int32 × (Nat → Int32)) := f_X10_films_b18 v2_0 v2_1 v2_2 v0_15 x1 x2 (0)
set_option maxHeartbeats 4000000 in
set_option maxRecDepth 100000 in
theorem w_X10_films_b17 {p : Program} {l : Launch} {e : Env} {s : State} {m : MethodId} {below : List Frame} {meth : Method} {c : Code} {D : va_G} {cs : Nat → ClassId} {av : Array Value} {w0 : va_W} (C0 : Cx p s m meth c av wsX10_films cX10_films 3 (some .int) RX10 D cs w0) (T0 : CxT l s c)  (a0 : Nat) (p0 : Nat → Nat) (i0_13 : Int32) (i0_14 : Int32) (p1 : Nat → Nat) (i1_2 : Int32) (p2 : Nat → Nat) (i2_3 : Int32) (i2_4 : Int32) (i2_5 : Int32) (i2_6 : Int32) (i2_7 : Int32) (v2_0 : Nat → Int32) (v2_1 : Nat → Int32) (v2_2 : Nat → Int32) (res : Nat × Int32 × (Nat → Int32))  : ∀ (v0_15 : Nat → Int32) (x1 : Int32) (x2 : Int32), f_X10_films_b17 v2_0 v2_1 v2_2 v0_15 x1 x2 = some res → ∀ (H : Heap) (locs : List Loc) (ls : Array Slot), va_P D vwCl (W_X10_films cs a0 p0 i0_13 i0_14 v0_15 p1 i1_2 p2 i2_3 i2_4 i2_5 i2_6 i2_7 v2_0 v2_1 v2_2) H → va_D (va_A w0 s.heap.size) (W_X10_films cs a0 p0 i0_13 i0_14 v0_15 p1 i1_2 p2 i2_3 i2_4 i2_5 i2_6 i2_7 v2_0 v2_1 v2_2) → va_S (va_A w0 s.heap.size) s.heap H locs → lv_has ls 3 [(0, .ref a0), (1, .int x1), (2, .int x2)] → W p l e rm_X10_films s m av below meth c H locs 0 0 (vx_MQ below (xI D cs w0 (W_X10_films cs a0 p0 i0_13 i0_14 res.2.2 p1 i1_2 p2 i2_3 i2_4 i2_5 i2_6 i2_7 v2_0 v2_1 v2_2) res.1 res.2.1 s.heap.size) (xX D cs w0 (W_X10_films cs a0 p0 i0_13 i0_14 res.2.2 p1 i1_2 p2 i2_3 i2_4 i2_5 i2_6 i2_7 v2_0 v2_1 v2_2) res.1 s.heap.size) av s 2 12 (va_A w0 s.heap.size)) (F0 m 17 ls [.ref a0]) := by
  obtain ⟨hx, hb, hr, hlk, hml, hown, hts, hK, hG, hE⟩ := id C0
  intro v0_15 x1 x2 hf H locs ls hP hD hS hl
  rw [f_X10_films_b17] at hf
  refine lv_iconst (v := 0) hx hb dX10_films_17 (by decide) ?_
  refine W.widen (k := 0) (n := 0) (Nat.le_of_ble_eq_true rfl) (Nat.le_of_ble_eq_true rfl) ?_
  exact w_X10_films_b18 C0 T0 a0 p0 i0_13 i0_14 p1 i1_2 p2 i2_3 i2_4 i2_5 i2_6 i2_7 v2_0 v2_1 v2_2 res v0_15 x1 x2 (0) hf _ _ _ hP hD hS (lv_sub hl [0, 1, 2] rfl)
def f_X10_films  (v0_15 : Nat → Int32) (v2_0 : Nat → Int32) (v2_1 : Nat → Int32) (v2_2 : Nat → Int32) (x1 : Int32) (x2 : Int32) : Option (Nat × Int32 × (Nat → Int32)) := if x1 < 1 then (f_X10_films_b17 v2_0 v2_1 v2_2 v0_15 x1 x2) else (if 200 < x1 then (f_X10_films_b17 v2_0 v2_1 v2_2 v0_15 x1 x2) else (f_X10_films_b18 v2_0 v2_1 v2_2 v0_15 x1 x2 (1)))
set_option maxHeartbeats 4000000 in
set_option maxRecDepth 100000 in
theorem c_X10_films (l : Launch) (D : va_G) (cs : Nat → ClassId) (hl0 : l.stackTraces = false)  (sz : Nat) (a0 : Nat) (p0 : Nat → Nat) (i0_13 : Int32) (i0_14 : Int32) (v0_15 : Nat → Int32) (p1 : Nat → Nat) (i1_2 : Int32) (p2 : Nat → Nat) (i2_3 : Int32) (i2_4 : Int32) (i2_5 : Int32) (i2_6 : Int32) (i2_7 : Int32) (v2_0 : Nat → Int32) (v2_1 : Nat → Int32) (v2_2 : Nat → Int32) (x1 : Int32) (x2 : Int32) (res : Nat × Int32 × (Nat → Int32)) (hf : f_X10_films  v0_15 v2_0 v2_1 v2_2 x1 x2 = some res) : XI l D cs yX10_films wsX10_films rm_X10_films [.ref a0, .int x1, .int x2] sz (W_X10_films cs a0 p0 i0_13 i0_14 v0_15 p1 i1_2 p2 i2_3 i2_4 i2_5 i2_6 i2_7 v2_0 v2_1 v2_2) (W_X10_films cs a0 p0 i0_13 i0_14 res.2.2 p1 i1_2 p2 i2_3 i2_4 i2_5 i2_6 i2_7 v2_0 v2_1 v2_2) res.1 res.2.1 2 12 := by
  rw [f_X10_films] at hf
  refine ow_enterT (cc := cX10_films) (nL := 3) (ret := (some .int)) hl0 (by decide) rfl (Nat.le_of_ble_eq_true rfl) (fun p e s m below meth c ls H locs C0 T0 hP hD hS hA hl => ?_)
  obtain ⟨hx, hb, hr, hlk, hml, hown, hts, hK, hG, hE⟩ := id C0
  have hl : lv_has ls 3 [(0, .ref a0), (1, .int x1), (2, .int x2)] := hl
  refine lv_aload_n hx hb dX10_films_0 rfl (lv_at hl 0 rfl) ?_
  refine lv_iload_n hx hb dX10_films_1 rfl (lv_at hl 1 rfl) ?_
  refine lv_iconst (v := 1) hx hb dX10_films_2 (by decide) ?_
  refine lv_icmp_lt (tgt := 17) hx hb dX10_films_3 (by decide) (fun hc => ?_) (fun hc => ?_)
  · replace hf := ow_t hc hf
    refine W.widen (k := 0) (n := 0) (Nat.le_of_ble_eq_true rfl) (Nat.le_of_ble_eq_true rfl) ?_
    exact w_X10_films_b17 C0 T0 a0 p0 i0_13 i0_14 p1 i1_2 p2 i2_3 i2_4 i2_5 i2_6 i2_7 v2_0 v2_1 v2_2 res v0_15 x1 x2 hf _ _ _ hP hD hS (lv_sub hl [0, 1, 2] rfl)
  · replace hf := ow_f hc hf
    refine lv_iload_n hx hb dX10_films_6 rfl (lv_at hl 1 rfl) ?_
    refine lv_sipush (v := 200) hx hb dX10_films_7 (by decide) ?_
    refine lv_icmp_gt (tgt := 17) hx hb dX10_films_10 (by decide) (fun hc => ?_) (fun hc => ?_)
    · replace hf := ow_t hc hf
      refine W.widen (k := 0) (n := 0) (Nat.le_of_ble_eq_true rfl) (Nat.le_of_ble_eq_true rfl) ?_
      exact w_X10_films_b17 C0 T0 a0 p0 i0_13 i0_14 p1 i1_2 p2 i2_3 i2_4 i2_5 i2_6 i2_7 v2_0 v2_1 v2_2 res v0_15 x1 x2 hf _ _ _ hP hD hS (lv_sub hl [0, 1, 2] rfl)
    · replace hf := ow_f hc hf
      refine lv_iconst (v := 1) hx hb dX10_films_13 (by decide) ?_
      refine lv_goto (tgt := 18) hx hb dX10_films_14 (by decide) ?_
      refine W.widen (k := 0) (n := 0) (Nat.le_of_ble_eq_true rfl) (Nat.le_of_ble_eq_true rfl) ?_
      exact w_X10_films_b18 C0 T0 a0 p0 i0_13 i0_14 p1 i1_2 p2 i2_3 i2_4 i2_5 i2_6 i2_7 v2_0 v2_1 v2_2 res v0_15 x1 x2 (1) hf _ _ _ hP hD hS (lv_sub hl [0, 1, 2] rfl)
theorem in_X10_film_X10 : ∀ w ∈ u_ws RX10 TX10 16, w ∈ wsX10_film := fun w h => List.mem_cons_of_mem _ (List.mem_append_left _ (List.mem_append_left _ (List.mem_append_left _ (List.mem_append_left _ (List.mem_append_left _ (List.mem_append_right _ h))))))
theorem in_X10_film_X4 : ∀ w ∈ u_ws RX4 TX4 3, w ∈ wsX10_film := fun w h => List.mem_cons_of_mem _ (List.mem_append_left _ (List.mem_append_left _ (List.mem_append_left _ (List.mem_append_left _ (List.mem_append_right _ h)))))
abbrev S_X10_film (cs : Nat → ClassId) (a0 : Nat) (p0 : Nat → Nat) (i0_13 : Int32) (i0_14 : Int32) (v0_15 : Nat → Int32) (p1 : Nat → Nat) (i1_2 : Int32) (p2 : Nat → Nat) (i2_0 : Int32) (i2_6 : Int32) (i2_8 : Int32) (i2_10 : Int32) (i2_11 : Int32) (i2_12 : Int32) (v2_1 : Nat → Int32) (v2_2 : Nat → Int32) (v2_3 : Nat → Int32) (v2_4 : Nat → Int32) (v2_5 : Nat → Int32) (v2_7 : Nat → Int32) (v2_9 : Nat → Int32) (p3 : Nat → Nat) (i3_3 : Int32) (i3_4 : Int32) (i3_5 : Int32) (i3_6 : Int32) (i3_7 : Int32) (v3_0 : Nat → Int32) (v3_1 : Nat → Int32) (v3_2 : Nat → Int32) : List va_W := [wX10 cs a0 p0 i0_13 i0_14 v0_15, wX4 cs (p0 9) p1 i1_2, wX6 cs (p0 1) p2 i2_0 i2_6 i2_8 i2_10 i2_11 i2_12 v2_1 v2_2 v2_3 v2_4 v2_5 v2_7 v2_9, wX2 cs (p1 0) p3 i3_3 i3_4 i3_5 i3_6 i3_7 v3_0 v3_1 v3_2]
abbrev W_X10_film (cs : Nat → ClassId) (a0 : Nat) (p0 : Nat → Nat) (i0_13 : Int32) (i0_14 : Int32) (v0_15 : Nat → Int32) (p1 : Nat → Nat) (i1_2 : Int32) (p2 : Nat → Nat) (i2_0 : Int32) (i2_6 : Int32) (i2_8 : Int32) (i2_10 : Int32) (i2_11 : Int32) (i2_12 : Int32) (v2_1 : Nat → Int32) (v2_2 : Nat → Int32) (v2_3 : Nat → Int32) (v2_4 : Nat → Int32) (v2_5 : Nat → Int32) (v2_7 : Nat → Int32) (v2_9 : Nat → Int32) (p3 : Nat → Nat) (i3_3 : Int32) (i3_4 : Int32) (i3_5 : Int32) (i3_6 : Int32) (i3_7 : Int32) (v3_0 : Nat → Int32) (v3_1 : Nat → Int32) (v3_2 : Nat → Int32) : va_W := (S_X10_film cs a0 p0 i0_13 i0_14 v0_15 p1 i1_2 p2 i2_0 i2_6 i2_8 i2_10 i2_11 i2_12 v2_1 v2_2 v2_3 v2_4 v2_5 v2_7 v2_9 p3 i3_3 i3_4 i3_5 i3_6 i3_7 v3_0 v3_1 v3_2).flatten
abbrev rm_X10_film : Room := { frames := 8, cells := 2, slots := 12, locals := 125 }
def f_X10_film  (v0_15 : Nat → Int32) (i2_0 : Int32) (v2_1 : Nat → Int32) (v2_2 : Nat → Int32) (v3_0 : Nat → Int32) (v3_1 : Nat → Int32) (x1 : Int32) (x2 : Int32) (x3 : Int32) (x4 : Int32) : Option (Nat × Int32 × (Nat → Int32)) := (f_X10_needCell v0_15 i2_0 v2_1 v2_2 x1 x2 x3).bind fun q11 => if q11.1 = 0 then ((f_X2_behind v3_0 v3_1 q11.2.1 x4).bind fun q16 => some (0, q16, q11.2.2)) else (some (q11.1, 0, q11.2.2))
set_option maxHeartbeats 4000000 in
set_option maxRecDepth 100000 in
theorem c_X10_film (l : Launch) (D : va_G) (cs : Nat → ClassId) (hl0 : l.stackTraces = false)  (sz : Nat) (a0 : Nat) (p0 : Nat → Nat) (i0_13 : Int32) (i0_14 : Int32) (v0_15 : Nat → Int32) (p1 : Nat → Nat) (i1_2 : Int32) (p2 : Nat → Nat) (i2_0 : Int32) (i2_6 : Int32) (i2_8 : Int32) (i2_10 : Int32) (i2_11 : Int32) (i2_12 : Int32) (v2_1 : Nat → Int32) (v2_2 : Nat → Int32) (v2_3 : Nat → Int32) (v2_4 : Nat → Int32) (v2_5 : Nat → Int32) (v2_7 : Nat → Int32) (v2_9 : Nat → Int32) (p3 : Nat → Nat) (i3_3 : Int32) (i3_4 : Int32) (i3_5 : Int32) (i3_6 : Int32) (i3_7 : Int32) (v3_0 : Nat → Int32) (v3_1 : Nat → Int32) (v3_2 : Nat → Int32) (x1 : Int32) (x2 : Int32) (x3 : Int32) (x4 : Int32) (res : Nat × Int32 × (Nat → Int32)) (hf : f_X10_film  v0_15 i2_0 v2_1 v2_2 v3_0 v3_1 x1 x2 x3 x4 = some res) : XI l D cs yX10_film wsX10_film rm_X10_film [.ref a0, .int x1, .int x2, .int x3, .int x4] sz (W_X10_film cs a0 p0 i0_13 i0_14 v0_15 p1 i1_2 p2 i2_0 i2_6 i2_8 i2_10 i2_11 i2_12 v2_1 v2_2 v2_3 v2_4 v2_5 v2_7 v2_9 p3 i3_3 i3_4 i3_5 i3_6 i3_7 v3_0 v3_1 v3_2) (W_X10_film cs a0 p0 i0_13 i0_14 res.2.2 p1 i1_2 p2 i2_0 i2_6 i2_8 i2_10 i2_11 i2_12 v2_1 v2_2 v2_3 v2_4 v2_5 v2_7 v2_9 p3 i3_3 i3_4 i3_5 i3_6 i3_7 v3_0 v3_1 v3_2) res.1 res.2.1 2 12 := by
  rw [f_X10_film] at hf
  refine ow_enterT (cc := cX10_film) (nL := 5) (ret := (some .int)) hl0 (by decide) rfl (Nat.le_of_ble_eq_true rfl) (fun p e s m below meth c ls H locs C0 T0 hP hD hS hA hl => ?_)
  obtain ⟨hx, hb, hr, hlk, hml, hown, hts, hK, hG, hE⟩ := id C0
  have hl : lv_has ls 5 [(0, .ref a0), (1, .int x1), (2, .int x2), (3, .int x3), (4, .int x4)] := hl
  refine lv_aload_n hx hb dX10_film_0 rfl (lv_at hl 0 rfl) ?_
  refine va_get (D := D) (ci := 10) (v := .ref (p0 9)) (C := RX10) (T := TX10) (N := 16) hx hb hts in_X10_film_X10 hown hK hP 0 rfl rfl 9 (by decide) (hts (.fieldLink RX10 63 "PaneDays" "past" "LPaneDays$Past;") (List.mem_of_getElem? (i := 1) rfl)) (fun _ h9 => h9) rfl dX10_film_1 ?_
  refine va_get (D := D) (ci := 4) (v := .ref (p1 0)) (C := RX4) (T := TX4) (N := 3) hx hb hts in_X10_film_X4 hown hK hP 2 rfl rfl 0 (by decide) (hts (.fieldLink RX10 76 "PaneDays$Past" "now" "LPaneDays$Glass;") (List.mem_of_getElem? (i := 2) rfl)) (fun _ h9 => h9) rfl dX10_film_4 ?_
  refine lv_aload_n hx hb dX10_film_7 rfl (lv_at hl 0 rfl) ?_
  refine lv_iload_n hx hb dX10_film_8 rfl (lv_at hl 1 rfl) ?_
  refine lv_iload_n hx hb dX10_film_9 rfl (lv_at hl 2 rfl) ?_
  refine lv_iload_n hx hb dX10_film_10 rfl (lv_at hl 3 rfl) ?_
  obtain ⟨q11, hq, hf⟩ := bd_some hf
  refine ow_gtVI (As := [.int x1, .int x2, .int x3]) (rest := [.ref (p1 0)]) (sg := (S_X10_film cs a0 p0 i0_13 i0_14 v0_15 p1 i1_2 p2 i2_0 i2_6 i2_8 i2_10 i2_11 i2_12 v2_1 v2_2 v2_3 v2_4 v2_5 v2_7 v2_9 p3 i3_3 i3_4 i3_5 i3_6 i3_7 v3_0 v3_1 v3_2)) (sc := [wX10 cs a0 p0 i0_13 i0_14 v0_15, wX6 cs (p0 1) p2 i2_0 i2_6 i2_8 i2_10 i2_11 i2_12 v2_1 v2_2 v2_3 v2_4 v2_5 v2_7 v2_9]) (sc' := [wX10 cs a0 p0 i0_13 i0_14 q11.2.2, wX6 cs (p0 1) p2 i2_0 i2_6 i2_8 i2_10 i2_11 i2_12 v2_1 v2_2 v2_3 v2_4 v2_5 v2_7 v2_9]) (sr := ow_pks (S_X10_film cs a0 p0 i0_13 i0_14 v0_15 p1 i1_2 p2 i2_0 i2_6 i2_8 i2_10 i2_11 i2_12 v2_1 v2_2 v2_3 v2_4 v2_5 v2_7 v2_9 p3 i3_3 i3_4 i3_5 i3_6 i3_7 v3_0 v3_1 v3_2) [1, 3]) (sf := (S_X10_film cs a0 p0 i0_13 i0_14 q11.2.2 p1 i1_2 p2 i2_0 i2_6 i2_8 i2_10 i2_11 i2_12 v2_1 v2_2 v2_3 v2_4 v2_5 v2_7 v2_9 p3 i3_3 i3_4 i3_5 i3_6 i3_7 v3_0 v3_1 v3_2)) (r := q11.2.1) (k := q11.1) C0 T0 (c_X10_needCell l D cs T0.1 H.size a0 p0 i0_13 i0_14 v0_15 p2 i2_0 i2_6 i2_8 i2_10 i2_11 i2_12 v2_1 v2_2 v2_3 v2_4 v2_5 v2_7 v2_9 x1 x2 x3 q11 hq) (cwV 3 hts gX10_film_X10_needCell rfl rfl rfl (by decide +kernel) ⟨Nat.le_of_ble_eq_true rfl, Nat.le_of_ble_eq_true rfl⟩) 10 rfl rfl hP hD hS (sg_permL [0, 2] [1, 3] 4 rfl (by decide) rfl rfl) (sg_permG [2, 0, 3, 1] 4 rfl (by decide) rfl) rfl hl.1 rfl (Nat.le_of_ble_eq_true rfl) ⟨(Nat.le_of_ble_eq_true rfl), (Nat.le_of_ble_eq_true rfl)⟩ dX10_film_11 (fun hz => ?_) (Nat.le_of_ble_eq_true rfl) (Nat.le_of_ble_eq_true rfl) (fun hz H locs (hP : va_P D vwCl (W_X10_film cs a0 p0 i0_13 i0_14 q11.2.2 p1 i1_2 p2 i2_0 i2_6 i2_8 i2_10 i2_11 i2_12 v2_1 v2_2 v2_3 v2_4 v2_5 v2_7 v2_9 p3 i3_3 i3_4 i3_5 i3_6 i3_7 v3_0 v3_1 v3_2) H) (hD : va_D _ (W_X10_film cs a0 p0 i0_13 i0_14 q11.2.2 p1 i1_2 p2 i2_0 i2_6 i2_8 i2_10 i2_11 i2_12 v2_1 v2_2 v2_3 v2_4 v2_5 v2_7 v2_9 p3 i3_3 i3_4 i3_5 i3_6 i3_7 v3_0 v3_1 v3_2)) hS => ?_)
  · replace hf := ow_f hz hf
    obtain rfl := Option.some.inj hf
    exact ⟨rfl, rfl⟩
  replace hf := ow_t hz hf
  refine lv_iload hx hb dX10_film_14 (lv_at hl 4 rfl) ?_
  obtain ⟨q16, hq, hf⟩ := bd_some hf
  refine ow_gVI (As := [.int q11.2.1, .int x4]) (rest := []) (sg := (S_X10_film cs a0 p0 i0_13 i0_14 q11.2.2 p1 i1_2 p2 i2_0 i2_6 i2_8 i2_10 i2_11 i2_12 v2_1 v2_2 v2_3 v2_4 v2_5 v2_7 v2_9 p3 i3_3 i3_4 i3_5 i3_6 i3_7 v3_0 v3_1 v3_2)) (sc := [wX2 cs (p1 0) p3 i3_3 i3_4 i3_5 i3_6 i3_7 v3_0 v3_1 v3_2]) (sc' := [wX2 cs (p1 0) p3 i3_3 i3_4 i3_5 i3_6 i3_7 v3_0 v3_1 v3_2]) (sr := ow_pks (S_X10_film cs a0 p0 i0_13 i0_14 q11.2.2 p1 i1_2 p2 i2_0 i2_6 i2_8 i2_10 i2_11 i2_12 v2_1 v2_2 v2_3 v2_4 v2_5 v2_7 v2_9 p3 i3_3 i3_4 i3_5 i3_6 i3_7 v3_0 v3_1 v3_2) [0, 1, 2]) (sf := (S_X10_film cs a0 p0 i0_13 i0_14 q11.2.2 p1 i1_2 p2 i2_0 i2_6 i2_8 i2_10 i2_11 i2_12 v2_1 v2_2 v2_3 v2_4 v2_5 v2_7 v2_9 p3 i3_3 i3_4 i3_5 i3_6 i3_7 v3_0 v3_1 v3_2)) (r := q16) C0 (c_X2_behind l D cs H.size (p1 0) p3 i3_3 i3_4 i3_5 i3_6 i3_7 v3_0 v3_1 v3_2 q11.2.1 x4 q16 hq) (cwV 2 hts gX10_film_X2_behind rfl rfl rfl (by decide +kernel) ⟨Nat.le_of_ble_eq_true rfl, Nat.le_of_ble_eq_true rfl⟩) 2 rfl rfl hP hD hS (sg_permL [3] [0, 1, 2] 4 rfl (by decide) rfl rfl) (sg_permG [0, 1, 2, 3] 4 rfl (by decide) rfl) rfl hl.1 rfl (Nat.le_of_ble_eq_true rfl) ⟨(Nat.le_of_ble_eq_true rfl), (Nat.le_of_ble_eq_true rfl)⟩ dX10_film_16 (fun H locs (hP : va_P D vwCl (W_X10_film cs a0 p0 i0_13 i0_14 q11.2.2 p1 i1_2 p2 i2_0 i2_6 i2_8 i2_10 i2_11 i2_12 v2_1 v2_2 v2_3 v2_4 v2_5 v2_7 v2_9 p3 i3_3 i3_4 i3_5 i3_6 i3_7 v3_0 v3_1 v3_2) H) (hD : va_D _ (W_X10_film cs a0 p0 i0_13 i0_14 q11.2.2 p1 i1_2 p2 i2_0 i2_6 i2_8 i2_10 i2_11 i2_12 v2_1 v2_2 v2_3 v2_4 v2_5 v2_7 v2_9 p3 i3_3 i3_4 i3_5 i3_6 i3_7 v3_0 v3_1 v3_2)) hS => ?_)
  obtain rfl := Option.some.inj hf
  exact ow_tretI C0 rfl hP hD hS (Nat.le_of_ble_eq_true rfl) (Nat.le_of_ble_eq_true rfl) dX10_film_19
theorem in_X10_deep_X10 : ∀ w ∈ u_ws RX10 TX10 16, w ∈ wsX10_deep := fun w h => List.mem_cons_of_mem _ (List.mem_append_left _ (List.mem_append_left _ (List.mem_append_left _ (List.mem_append_left _ (List.mem_append_left _ (List.mem_append_right _ h))))))
theorem in_X10_deep_X2 : ∀ w ∈ u_ws RX2 TX2 8, w ∈ wsX10_deep := fun w h => List.mem_cons_of_mem _ (List.mem_append_left _ (List.mem_append_left _ (List.mem_append_left _ (List.mem_append_right _ h))))
theorem in_X10_deep_X4 : ∀ w ∈ u_ws RX4 TX4 3, w ∈ wsX10_deep := fun w h => List.mem_cons_of_mem _ (List.mem_append_left _ (List.mem_append_left _ (List.mem_append_left _ (List.mem_append_left _ (List.mem_append_right _ h)))))
abbrev S_X10_deep (cs : Nat → ClassId) (a0 : Nat) (p0 : Nat → Nat) (i0_13 : Int32) (i0_14 : Int32) (v0_15 : Nat → Int32) (p1 : Nat → Nat) (i1_2 : Int32) (p2 : Nat → Nat) (i2_3 : Int32) (i2_4 : Int32) (i2_5 : Int32) (i2_6 : Int32) (i2_7 : Int32) (v2_0 : Nat → Int32) (v2_1 : Nat → Int32) (v2_2 : Nat → Int32) (p3 : Nat → Nat) (i3_0 : Int32) (i3_6 : Int32) (i3_8 : Int32) (i3_10 : Int32) (i3_11 : Int32) (i3_12 : Int32) (v3_1 : Nat → Int32) (v3_2 : Nat → Int32) (v3_3 : Nat → Int32) (v3_4 : Nat → Int32) (v3_5 : Nat → Int32) (v3_7 : Nat → Int32) (v3_9 : Nat → Int32) : List va_W := [wX10 cs a0 p0 i0_13 i0_14 v0_15, wX4 cs (p0 9) p1 i1_2, wX2 cs (p1 0) p2 i2_3 i2_4 i2_5 i2_6 i2_7 v2_0 v2_1 v2_2, wX6 cs (p0 1) p3 i3_0 i3_6 i3_8 i3_10 i3_11 i3_12 v3_1 v3_2 v3_3 v3_4 v3_5 v3_7 v3_9]
abbrev W_X10_deep (cs : Nat → ClassId) (a0 : Nat) (p0 : Nat → Nat) (i0_13 : Int32) (i0_14 : Int32) (v0_15 : Nat → Int32) (p1 : Nat → Nat) (i1_2 : Int32) (p2 : Nat → Nat) (i2_3 : Int32) (i2_4 : Int32) (i2_5 : Int32) (i2_6 : Int32) (i2_7 : Int32) (v2_0 : Nat → Int32) (v2_1 : Nat → Int32) (v2_2 : Nat → Int32) (p3 : Nat → Nat) (i3_0 : Int32) (i3_6 : Int32) (i3_8 : Int32) (i3_10 : Int32) (i3_11 : Int32) (i3_12 : Int32) (v3_1 : Nat → Int32) (v3_2 : Nat → Int32) (v3_3 : Nat → Int32) (v3_4 : Nat → Int32) (v3_5 : Nat → Int32) (v3_7 : Nat → Int32) (v3_9 : Nat → Int32) : va_W := (S_X10_deep cs a0 p0 i0_13 i0_14 v0_15 p1 i1_2 p2 i2_3 i2_4 i2_5 i2_6 i2_7 v2_0 v2_1 v2_2 p3 i3_0 i3_6 i3_8 i3_10 i3_11 i3_12 v3_1 v3_2 v3_3 v3_4 v3_5 v3_7 v3_9).flatten
abbrev rm_X10_deep : Room := { frames := 8, cells := 2, slots := 12, locals := 125 }
def f_X10_deep  (v0_15 : Nat → Int32) (v2_1 : Nat → Int32) (i3_0 : Int32) (v3_1 : Nat → Int32) (v3_2 : Nat → Int32) (x1 : Int32) (x2 : Int32) (x3 : Int32) : Option (Nat × Int32 × (Nat → Int32)) := (f_X10_needCell v0_15 i3_0 v3_1 v3_2 x1 x2 x3).bind fun q14 => if q14.1 = 0 then (ck q14.2.1 80 (some (0, v2_1 (q14.2.1).toNatClampNeg, q14.2.2))) else (some (q14.1, 0, q14.2.2))
set_option maxHeartbeats 4000000 in
set_option maxRecDepth 100000 in
theorem c_X10_deep (l : Launch) (D : va_G) (cs : Nat → ClassId) (hl0 : l.stackTraces = false)  (sz : Nat) (a0 : Nat) (p0 : Nat → Nat) (i0_13 : Int32) (i0_14 : Int32) (v0_15 : Nat → Int32) (p1 : Nat → Nat) (i1_2 : Int32) (p2 : Nat → Nat) (i2_3 : Int32) (i2_4 : Int32) (i2_5 : Int32) (i2_6 : Int32) (i2_7 : Int32) (v2_0 : Nat → Int32) (v2_1 : Nat → Int32) (v2_2 : Nat → Int32) (p3 : Nat → Nat) (i3_0 : Int32) (i3_6 : Int32) (i3_8 : Int32) (i3_10 : Int32) (i3_11 : Int32) (i3_12 : Int32) (v3_1 : Nat → Int32) (v3_2 : Nat → Int32) (v3_3 : Nat → Int32) (v3_4 : Nat → Int32) (v3_5 : Nat → Int32) (v3_7 : Nat → Int32) (v3_9 : Nat → Int32) (x1 : Int32) (x2 : Int32) (x3 : Int32) (res : Nat × Int32 × (Nat → Int32)) (hf : f_X10_deep  v0_15 v2_1 i3_0 v3_1 v3_2 x1 x2 x3 = some res) : XI l D cs yX10_deep wsX10_deep rm_X10_deep [.ref a0, .int x1, .int x2, .int x3] sz (W_X10_deep cs a0 p0 i0_13 i0_14 v0_15 p1 i1_2 p2 i2_3 i2_4 i2_5 i2_6 i2_7 v2_0 v2_1 v2_2 p3 i3_0 i3_6 i3_8 i3_10 i3_11 i3_12 v3_1 v3_2 v3_3 v3_4 v3_5 v3_7 v3_9) (W_X10_deep cs a0 p0 i0_13 i0_14 res.2.2 p1 i1_2 p2 i2_3 i2_4 i2_5 i2_6 i2_7 v2_0 v2_1 v2_2 p3 i3_0 i3_6 i3_8 i3_10 i3_11 i3_12 v3_1 v3_2 v3_3 v3_4 v3_5 v3_7 v3_9) res.1 res.2.1 2 12 := by
  rw [f_X10_deep] at hf
  refine ow_enterT (cc := cX10_deep) (nL := 4) (ret := (some .int)) hl0 (by decide) rfl (Nat.le_of_ble_eq_true rfl) (fun p e s m below meth c ls H locs C0 T0 hP hD hS hA hl => ?_)
  obtain ⟨hx, hb, hr, hlk, hml, hown, hts, hK, hG, hE⟩ := id C0
  have hl : lv_has ls 4 [(0, .ref a0), (1, .int x1), (2, .int x2), (3, .int x3)] := hl
  refine lv_aload_n hx hb dX10_deep_0 rfl (lv_at hl 0 rfl) ?_
  refine va_get (D := D) (ci := 10) (v := .ref (p0 9)) (C := RX10) (T := TX10) (N := 16) hx hb hts in_X10_deep_X10 hown hK hP 0 rfl rfl 9 (by decide) (hts (.fieldLink RX10 63 "PaneDays" "past" "LPaneDays$Past;") (List.mem_of_getElem? (i := 1) rfl)) (fun _ h9 => h9) rfl dX10_deep_1 ?_
  refine va_get (D := D) (ci := 4) (v := .ref (p1 0)) (C := RX4) (T := TX4) (N := 3) hx hb hts in_X10_deep_X4 hown hK hP 2 rfl rfl 0 (by decide) (hts (.fieldLink RX10 76 "PaneDays$Past" "now" "LPaneDays$Glass;") (List.mem_of_getElem? (i := 2) rfl)) (fun _ h9 => h9) rfl dX10_deep_4 ?_
  refine va_get (D := D) (ci := 2) (v := .ref (p2 1)) (C := RX2) (T := TX2) (N := 8) hx hb hts in_X10_deep_X2 hown hK hP 3 rfl rfl 1 (by decide) (hts (.fieldLink RX10 216 "PaneDays$Glass" "depth" "[I") (List.mem_of_getElem? (i := 3) rfl)) (fun _ h9 => h9) rfl dX10_deep_7 ?_
  refine lv_aload_n hx hb dX10_deep_10 rfl (lv_at hl 0 rfl) ?_
  refine lv_iload_n hx hb dX10_deep_11 rfl (lv_at hl 1 rfl) ?_
  refine lv_iload_n hx hb dX10_deep_12 rfl (lv_at hl 2 rfl) ?_
  refine lv_iload_n hx hb dX10_deep_13 rfl (lv_at hl 3 rfl) ?_
  obtain ⟨q14, hq, hf⟩ := bd_some hf
  refine ow_gtVI (As := [.int x1, .int x2, .int x3]) (rest := [.ref (p2 1)]) (sg := (S_X10_deep cs a0 p0 i0_13 i0_14 v0_15 p1 i1_2 p2 i2_3 i2_4 i2_5 i2_6 i2_7 v2_0 v2_1 v2_2 p3 i3_0 i3_6 i3_8 i3_10 i3_11 i3_12 v3_1 v3_2 v3_3 v3_4 v3_5 v3_7 v3_9)) (sc := [wX10 cs a0 p0 i0_13 i0_14 v0_15, wX6 cs (p0 1) p3 i3_0 i3_6 i3_8 i3_10 i3_11 i3_12 v3_1 v3_2 v3_3 v3_4 v3_5 v3_7 v3_9]) (sc' := [wX10 cs a0 p0 i0_13 i0_14 q14.2.2, wX6 cs (p0 1) p3 i3_0 i3_6 i3_8 i3_10 i3_11 i3_12 v3_1 v3_2 v3_3 v3_4 v3_5 v3_7 v3_9]) (sr := ow_pks (S_X10_deep cs a0 p0 i0_13 i0_14 v0_15 p1 i1_2 p2 i2_3 i2_4 i2_5 i2_6 i2_7 v2_0 v2_1 v2_2 p3 i3_0 i3_6 i3_8 i3_10 i3_11 i3_12 v3_1 v3_2 v3_3 v3_4 v3_5 v3_7 v3_9) [1, 2]) (sf := (S_X10_deep cs a0 p0 i0_13 i0_14 q14.2.2 p1 i1_2 p2 i2_3 i2_4 i2_5 i2_6 i2_7 v2_0 v2_1 v2_2 p3 i3_0 i3_6 i3_8 i3_10 i3_11 i3_12 v3_1 v3_2 v3_3 v3_4 v3_5 v3_7 v3_9)) (r := q14.2.1) (k := q14.1) C0 T0 (c_X10_needCell l D cs T0.1 H.size a0 p0 i0_13 i0_14 v0_15 p3 i3_0 i3_6 i3_8 i3_10 i3_11 i3_12 v3_1 v3_2 v3_3 v3_4 v3_5 v3_7 v3_9 x1 x2 x3 q14 hq) (cwV 3 hts gX10_deep_X10_needCell rfl rfl rfl (by decide +kernel) ⟨Nat.le_of_ble_eq_true rfl, Nat.le_of_ble_eq_true rfl⟩) 10 rfl rfl hP hD hS (sg_permL [0, 3] [1, 2] 4 rfl (by decide) rfl rfl) (sg_permG [2, 0, 1, 3] 4 rfl (by decide) rfl) rfl hl.1 rfl (Nat.le_of_ble_eq_true rfl) ⟨(Nat.le_of_ble_eq_true rfl), (Nat.le_of_ble_eq_true rfl)⟩ dX10_deep_14 (fun hz => ?_) (Nat.le_of_ble_eq_true rfl) (Nat.le_of_ble_eq_true rfl) (fun hz H locs (hP : va_P D vwCl (W_X10_deep cs a0 p0 i0_13 i0_14 q14.2.2 p1 i1_2 p2 i2_3 i2_4 i2_5 i2_6 i2_7 v2_0 v2_1 v2_2 p3 i3_0 i3_6 i3_8 i3_10 i3_11 i3_12 v3_1 v3_2 v3_3 v3_4 v3_5 v3_7 v3_9) H) (hD : va_D _ (W_X10_deep cs a0 p0 i0_13 i0_14 q14.2.2 p1 i1_2 p2 i2_3 i2_4 i2_5 i2_6 i2_7 v2_0 v2_1 v2_2 p3 i3_0 i3_6 i3_8 i3_10 i3_11 i3_12 v3_1 v3_2 v3_3 v3_4 v3_5 v3_7 v3_9)) hS => ?_)
  · replace hf := ow_f hz hf
    obtain rfl := Option.some.inj hf
    exact ⟨rfl, rfl⟩
  replace hf := ow_t hz hf
  obtain ⟨hin, hf⟩ := ck_some hf
  refine va_iald (f := v2_1) hx hb hK hP 5 0 rfl rfl hin dX10_deep_17 ?_
  obtain rfl := Option.some.inj hf
  exact ow_tretI C0 rfl hP hD hS (Nat.le_of_ble_eq_true rfl) (Nat.le_of_ble_eq_true rfl) dX10_deep_18
theorem in_X10_shows_X10 : ∀ w ∈ u_ws RX10 TX10 16, w ∈ wsX10_shows := fun w h => List.mem_cons_of_mem _ (List.mem_append_left _ (List.mem_append_left _ (List.mem_append_left _ (List.mem_append_left _ (List.mem_append_left _ (List.mem_append_right _ h))))))
theorem in_X10_shows_X4 : ∀ w ∈ u_ws RX4 TX4 3, w ∈ wsX10_shows := fun w h => List.mem_cons_of_mem _ (List.mem_append_left _ (List.mem_append_left _ (List.mem_append_left _ (List.mem_append_left _ (List.mem_append_right _ h)))))
abbrev S_X10_shows (cs : Nat → ClassId) (a0 : Nat) (p0 : Nat → Nat) (i0_13 : Int32) (i0_14 : Int32) (v0_15 : Nat → Int32) (p1 : Nat → Nat) (i1_2 : Int32) (p2 : Nat → Nat) (i2_0 : Int32) (i2_6 : Int32) (i2_8 : Int32) (i2_10 : Int32) (i2_11 : Int32) (i2_12 : Int32) (v2_1 : Nat → Int32) (v2_2 : Nat → Int32) (v2_3 : Nat → Int32) (v2_4 : Nat → Int32) (v2_5 : Nat → Int32) (v2_7 : Nat → Int32) (v2_9 : Nat → Int32) (p3 : Nat → Nat) (i3_3 : Int32) (i3_4 : Int32) (i3_5 : Int32) (i3_6 : Int32) (i3_7 : Int32) (v3_0 : Nat → Int32) (v3_1 : Nat → Int32) (v3_2 : Nat → Int32) : List va_W := [wX10 cs a0 p0 i0_13 i0_14 v0_15, wX4 cs (p0 9) p1 i1_2, wX6 cs (p0 1) p2 i2_0 i2_6 i2_8 i2_10 i2_11 i2_12 v2_1 v2_2 v2_3 v2_4 v2_5 v2_7 v2_9, wX2 cs (p1 0) p3 i3_3 i3_4 i3_5 i3_6 i3_7 v3_0 v3_1 v3_2]
abbrev W_X10_shows (cs : Nat → ClassId) (a0 : Nat) (p0 : Nat → Nat) (i0_13 : Int32) (i0_14 : Int32) (v0_15 : Nat → Int32) (p1 : Nat → Nat) (i1_2 : Int32) (p2 : Nat → Nat) (i2_0 : Int32) (i2_6 : Int32) (i2_8 : Int32) (i2_10 : Int32) (i2_11 : Int32) (i2_12 : Int32) (v2_1 : Nat → Int32) (v2_2 : Nat → Int32) (v2_3 : Nat → Int32) (v2_4 : Nat → Int32) (v2_5 : Nat → Int32) (v2_7 : Nat → Int32) (v2_9 : Nat → Int32) (p3 : Nat → Nat) (i3_3 : Int32) (i3_4 : Int32) (i3_5 : Int32) (i3_6 : Int32) (i3_7 : Int32) (v3_0 : Nat → Int32) (v3_1 : Nat → Int32) (v3_2 : Nat → Int32) : va_W := (S_X10_shows cs a0 p0 i0_13 i0_14 v0_15 p1 i1_2 p2 i2_0 i2_6 i2_8 i2_10 i2_11 i2_12 v2_1 v2_2 v2_3 v2_4 v2_5 v2_7 v2_9 p3 i3_3 i3_4 i3_5 i3_6 i3_7 v3_0 v3_1 v3_2).flatten
abbrev rm_X10_shows : Room := { frames := 8, cells := 2, slots := 12, locals := 125 }
def f_X10_shows  (v0_15 : Nat → Int32) (i2_0 : Int32) (v2_1 : Nat → Int32) (v2_2 : Nat → Int32) (v3_0 : Nat → Int32) (v3_1 : Nat → Int32) (x1 : Int32) (x2 : Int32) (x3 : Int32) : Option (Nat × Int32 × (Nat → Int32)) := (f_X10_needCell v0_15 i2_0 v2_1 v2_2 x1 x2 x3).bind fun q11 => if q11.1 = 0 then ((f_X2_shown v3_0 v3_1 q11.2.1).bind fun q14 => some (0, q14, q11.2.2)) else (some (q11.1, 0, q11.2.2))
set_option maxHeartbeats 4000000 in
set_option maxRecDepth 100000 in
theorem c_X10_shows (l : Launch) (D : va_G) (cs : Nat → ClassId) (hl0 : l.stackTraces = false)  (sz : Nat) (a0 : Nat) (p0 : Nat → Nat) (i0_13 : Int32) (i0_14 : Int32) (v0_15 : Nat → Int32) (p1 : Nat → Nat) (i1_2 : Int32) (p2 : Nat → Nat) (i2_0 : Int32) (i2_6 : Int32) (i2_8 : Int32) (i2_10 : Int32) (i2_11 : Int32) (i2_12 : Int32) (v2_1 : Nat → Int32) (v2_2 : Nat → Int32) (v2_3 : Nat → Int32) (v2_4 : Nat → Int32) (v2_5 : Nat → Int32) (v2_7 : Nat → Int32) (v2_9 : Nat → Int32) (p3 : Nat → Nat) (i3_3 : Int32) (i3_4 : Int32) (i3_5 : Int32) (i3_6 : Int32) (i3_7 : Int32) (v3_0 : Nat → Int32) (v3_1 : Nat → Int32) (v3_2 : Nat → Int32) (x1 : Int32) (x2 : Int32) (x3 : Int32) (res : Nat × Int32 × (Nat → Int32)) (hf : f_X10_shows  v0_15 i2_0 v2_1 v2_2 v3_0 v3_1 x1 x2 x3 = some res) : XI l D cs yX10_shows wsX10_shows rm_X10_shows [.ref a0, .int x1, .int x2, .int x3] sz (W_X10_shows cs a0 p0 i0_13 i0_14 v0_15 p1 i1_2 p2 i2_0 i2_6 i2_8 i2_10 i2_11 i2_12 v2_1 v2_2 v2_3 v2_4 v2_5 v2_7 v2_9 p3 i3_3 i3_4 i3_5 i3_6 i3_7 v3_0 v3_1 v3_2) (W_X10_shows cs a0 p0 i0_13 i0_14 res.2.2 p1 i1_2 p2 i2_0 i2_6 i2_8 i2_10 i2_11 i2_12 v2_1 v2_2 v2_3 v2_4 v2_5 v2_7 v2_9 p3 i3_3 i3_4 i3_5 i3_6 i3_7 v3_0 v3_1 v3_2) res.1 res.2.1 2 12 := by
  rw [f_X10_shows] at hf
  refine ow_enterT (cc := cX10_shows) (nL := 4) (ret := (some .int)) hl0 (by decide) rfl (Nat.le_of_ble_eq_true rfl) (fun p e s m below meth c ls H locs C0 T0 hP hD hS hA hl => ?_)
  obtain ⟨hx, hb, hr, hlk, hml, hown, hts, hK, hG, hE⟩ := id C0
  have hl : lv_has ls 4 [(0, .ref a0), (1, .int x1), (2, .int x2), (3, .int x3)] := hl
  refine lv_aload_n hx hb dX10_shows_0 rfl (lv_at hl 0 rfl) ?_
  refine va_get (D := D) (ci := 10) (v := .ref (p0 9)) (C := RX10) (T := TX10) (N := 16) hx hb hts in_X10_shows_X10 hown hK hP 0 rfl rfl 9 (by decide) (hts (.fieldLink RX10 63 "PaneDays" "past" "LPaneDays$Past;") (List.mem_of_getElem? (i := 1) rfl)) (fun _ h9 => h9) rfl dX10_shows_1 ?_
  refine va_get (D := D) (ci := 4) (v := .ref (p1 0)) (C := RX4) (T := TX4) (N := 3) hx hb hts in_X10_shows_X4 hown hK hP 2 rfl rfl 0 (by decide) (hts (.fieldLink RX10 76 "PaneDays$Past" "now" "LPaneDays$Glass;") (List.mem_of_getElem? (i := 2) rfl)) (fun _ h9 => h9) rfl dX10_shows_4 ?_
  refine lv_aload_n hx hb dX10_shows_7 rfl (lv_at hl 0 rfl) ?_
  refine lv_iload_n hx hb dX10_shows_8 rfl (lv_at hl 1 rfl) ?_
  refine lv_iload_n hx hb dX10_shows_9 rfl (lv_at hl 2 rfl) ?_
  refine lv_iload_n hx hb dX10_shows_10 rfl (lv_at hl 3 rfl) ?_
  obtain ⟨q11, hq, hf⟩ := bd_some hf
  refine ow_gtVI (As := [.int x1, .int x2, .int x3]) (rest := [.ref (p1 0)]) (sg := (S_X10_shows cs a0 p0 i0_13 i0_14 v0_15 p1 i1_2 p2 i2_0 i2_6 i2_8 i2_10 i2_11 i2_12 v2_1 v2_2 v2_3 v2_4 v2_5 v2_7 v2_9 p3 i3_3 i3_4 i3_5 i3_6 i3_7 v3_0 v3_1 v3_2)) (sc := [wX10 cs a0 p0 i0_13 i0_14 v0_15, wX6 cs (p0 1) p2 i2_0 i2_6 i2_8 i2_10 i2_11 i2_12 v2_1 v2_2 v2_3 v2_4 v2_5 v2_7 v2_9]) (sc' := [wX10 cs a0 p0 i0_13 i0_14 q11.2.2, wX6 cs (p0 1) p2 i2_0 i2_6 i2_8 i2_10 i2_11 i2_12 v2_1 v2_2 v2_3 v2_4 v2_5 v2_7 v2_9]) (sr := ow_pks (S_X10_shows cs a0 p0 i0_13 i0_14 v0_15 p1 i1_2 p2 i2_0 i2_6 i2_8 i2_10 i2_11 i2_12 v2_1 v2_2 v2_3 v2_4 v2_5 v2_7 v2_9 p3 i3_3 i3_4 i3_5 i3_6 i3_7 v3_0 v3_1 v3_2) [1, 3]) (sf := (S_X10_shows cs a0 p0 i0_13 i0_14 q11.2.2 p1 i1_2 p2 i2_0 i2_6 i2_8 i2_10 i2_11 i2_12 v2_1 v2_2 v2_3 v2_4 v2_5 v2_7 v2_9 p3 i3_3 i3_4 i3_5 i3_6 i3_7 v3_0 v3_1 v3_2)) (r := q11.2.1) (k := q11.1) C0 T0 (c_X10_needCell l D cs T0.1 H.size a0 p0 i0_13 i0_14 v0_15 p2 i2_0 i2_6 i2_8 i2_10 i2_11 i2_12 v2_1 v2_2 v2_3 v2_4 v2_5 v2_7 v2_9 x1 x2 x3 q11 hq) (cwV 3 hts gX10_shows_X10_needCell rfl rfl rfl (by decide +kernel) ⟨Nat.le_of_ble_eq_true rfl, Nat.le_of_ble_eq_true rfl⟩) 10 rfl rfl hP hD hS (sg_permL [0, 2] [1, 3] 4 rfl (by decide) rfl rfl) (sg_permG [2, 0, 3, 1] 4 rfl (by decide) rfl) rfl hl.1 rfl (Nat.le_of_ble_eq_true rfl) ⟨(Nat.le_of_ble_eq_true rfl), (Nat.le_of_ble_eq_true rfl)⟩ dX10_shows_11 (fun hz => ?_) (Nat.le_of_ble_eq_true rfl) (Nat.le_of_ble_eq_true rfl) (fun hz H locs (hP : va_P D vwCl (W_X10_shows cs a0 p0 i0_13 i0_14 q11.2.2 p1 i1_2 p2 i2_0 i2_6 i2_8 i2_10 i2_11 i2_12 v2_1 v2_2 v2_3 v2_4 v2_5 v2_7 v2_9 p3 i3_3 i3_4 i3_5 i3_6 i3_7 v3_0 v3_1 v3_2) H) (hD : va_D _ (W_X10_shows cs a0 p0 i0_13 i0_14 q11.2.2 p1 i1_2 p2 i2_0 i2_6 i2_8 i2_10 i2_11 i2_12 v2_1 v2_2 v2_3 v2_4 v2_5 v2_7 v2_9 p3 i3_3 i3_4 i3_5 i3_6 i3_7 v3_0 v3_1 v3_2)) hS => ?_)
  · replace hf := ow_f hz hf
    obtain rfl := Option.some.inj hf
    exact ⟨rfl, rfl⟩
  replace hf := ow_t hz hf
  obtain ⟨q14, hq, hf⟩ := bd_some hf
  refine ow_gVI (As := [.int q11.2.1]) (rest := []) (sg := (S_X10_shows cs a0 p0 i0_13 i0_14 q11.2.2 p1 i1_2 p2 i2_0 i2_6 i2_8 i2_10 i2_11 i2_12 v2_1 v2_2 v2_3 v2_4 v2_5 v2_7 v2_9 p3 i3_3 i3_4 i3_5 i3_6 i3_7 v3_0 v3_1 v3_2)) (sc := [wX2 cs (p1 0) p3 i3_3 i3_4 i3_5 i3_6 i3_7 v3_0 v3_1 v3_2]) (sc' := [wX2 cs (p1 0) p3 i3_3 i3_4 i3_5 i3_6 i3_7 v3_0 v3_1 v3_2]) (sr := ow_pks (S_X10_shows cs a0 p0 i0_13 i0_14 q11.2.2 p1 i1_2 p2 i2_0 i2_6 i2_8 i2_10 i2_11 i2_12 v2_1 v2_2 v2_3 v2_4 v2_5 v2_7 v2_9 p3 i3_3 i3_4 i3_5 i3_6 i3_7 v3_0 v3_1 v3_2) [0, 1, 2]) (sf := (S_X10_shows cs a0 p0 i0_13 i0_14 q11.2.2 p1 i1_2 p2 i2_0 i2_6 i2_8 i2_10 i2_11 i2_12 v2_1 v2_2 v2_3 v2_4 v2_5 v2_7 v2_9 p3 i3_3 i3_4 i3_5 i3_6 i3_7 v3_0 v3_1 v3_2)) (r := q14) C0 (c_X2_shown l D cs H.size (p1 0) p3 i3_3 i3_4 i3_5 i3_6 i3_7 v3_0 v3_1 v3_2 q11.2.1 q14 hq) (cwV 1 hts gX10_shows_X2_shown rfl rfl rfl (by decide +kernel) ⟨Nat.le_of_ble_eq_true rfl, Nat.le_of_ble_eq_true rfl⟩) 2 rfl rfl hP hD hS (sg_permL [3] [0, 1, 2] 4 rfl (by decide) rfl rfl) (sg_permG [0, 1, 2, 3] 4 rfl (by decide) rfl) rfl hl.1 rfl (Nat.le_of_ble_eq_true rfl) ⟨(Nat.le_of_ble_eq_true rfl), (Nat.le_of_ble_eq_true rfl)⟩ dX10_shows_14 (fun H locs (hP : va_P D vwCl (W_X10_shows cs a0 p0 i0_13 i0_14 q11.2.2 p1 i1_2 p2 i2_0 i2_6 i2_8 i2_10 i2_11 i2_12 v2_1 v2_2 v2_3 v2_4 v2_5 v2_7 v2_9 p3 i3_3 i3_4 i3_5 i3_6 i3_7 v3_0 v3_1 v3_2) H) (hD : va_D _ (W_X10_shows cs a0 p0 i0_13 i0_14 q11.2.2 p1 i1_2 p2 i2_0 i2_6 i2_8 i2_10 i2_11 i2_12 v2_1 v2_2 v2_3 v2_4 v2_5 v2_7 v2_9 p3 i3_3 i3_4 i3_5 i3_6 i3_7 v3_0 v3_1 v3_2)) hS => ?_)
  obtain rfl := Option.some.inj hf
  exact ow_tretI C0 rfl hP hD hS (Nat.le_of_ble_eq_true rfl) (Nat.le_of_ble_eq_true rfl) dX10_shows_17
theorem in_X10_pane_X10 : ∀ w ∈ u_ws RX10 TX10 16, w ∈ wsX10_pane := fun w h => List.mem_cons_of_mem _ (List.mem_append_left _ (List.mem_append_left _ (List.mem_append_left _ (List.mem_append_left _ (List.mem_append_left _ (List.mem_append_right _ h))))))
theorem in_X10_pane_X4 : ∀ w ∈ u_ws RX4 TX4 3, w ∈ wsX10_pane := fun w h => List.mem_cons_of_mem _ (List.mem_append_left _ (List.mem_append_left _ (List.mem_append_left _ (List.mem_append_right _ h))))
theorem in_X10_pane_X6 : ∀ w ∈ u_ws RX6 TX6 13, w ∈ wsX10_pane := fun w h => List.mem_cons_of_mem _ (List.mem_append_left _ (List.mem_append_left _ (List.mem_append_left _ (List.mem_append_left _ (List.mem_append_right _ h)))))
abbrev S_X10_pane (cs : Nat → ClassId) (a0 : Nat) (p0 : Nat → Nat) (i0_13 : Int32) (i0_14 : Int32) (v0_15 : Nat → Int32) (p1 : Nat → Nat) (i1_0 : Int32) (i1_6 : Int32) (i1_8 : Int32) (i1_10 : Int32) (i1_11 : Int32) (i1_12 : Int32) (v1_1 : Nat → Int32) (v1_2 : Nat → Int32) (v1_3 : Nat → Int32) (v1_4 : Nat → Int32) (v1_5 : Nat → Int32) (v1_7 : Nat → Int32) (v1_9 : Nat → Int32) (p2 : Nat → Nat) (i2_2 : Int32) (p3 : Nat → Nat) (i3_3 : Int32) (i3_4 : Int32) (i3_5 : Int32) (i3_6 : Int32) (i3_7 : Int32) (v3_0 : Nat → Int32) (v3_1 : Nat → Int32) (v3_2 : Nat → Int32) : List va_W := [wX10 cs a0 p0 i0_13 i0_14 v0_15, wX6 cs (p0 1) p1 i1_0 i1_6 i1_8 i1_10 i1_11 i1_12 v1_1 v1_2 v1_3 v1_4 v1_5 v1_7 v1_9, wX4 cs (p0 9) p2 i2_2, wX2 cs (p2 0) p3 i3_3 i3_4 i3_5 i3_6 i3_7 v3_0 v3_1 v3_2]
abbrev W_X10_pane (cs : Nat → ClassId) (a0 : Nat) (p0 : Nat → Nat) (i0_13 : Int32) (i0_14 : Int32) (v0_15 : Nat → Int32) (p1 : Nat → Nat) (i1_0 : Int32) (i1_6 : Int32) (i1_8 : Int32) (i1_10 : Int32) (i1_11 : Int32) (i1_12 : Int32) (v1_1 : Nat → Int32) (v1_2 : Nat → Int32) (v1_3 : Nat → Int32) (v1_4 : Nat → Int32) (v1_5 : Nat → Int32) (v1_7 : Nat → Int32) (v1_9 : Nat → Int32) (p2 : Nat → Nat) (i2_2 : Int32) (p3 : Nat → Nat) (i3_3 : Int32) (i3_4 : Int32) (i3_5 : Int32) (i3_6 : Int32) (i3_7 : Int32) (v3_0 : Nat → Int32) (v3_1 : Nat → Int32) (v3_2 : Nat → Int32) : va_W := (S_X10_pane cs a0 p0 i0_13 i0_14 v0_15 p1 i1_0 i1_6 i1_8 i1_10 i1_11 i1_12 v1_1 v1_2 v1_3 v1_4 v1_5 v1_7 v1_9 p2 i2_2 p3 i3_3 i3_4 i3_5 i3_6 i3_7 v3_0 v3_1 v3_2).flatten
abbrev rm_X10_pane : Room := { frames := 8, cells := 2, slots := 12, locals := 124 }
def f_X10_pane  (v0_15 : Nat → Int32) (i1_0 : Int32) (v1_1 : Nat → Int32) (v1_2 : Nat → Int32) (v1_3 : Nat → Int32) (v1_4 : Nat → Int32) (i3_6 : Int32) (v3_1 : Nat → Int32) (x1 : Int32) (x2 : Int32) : Option (Nat × Int32 × (Nat → Int32)) := (f_X10_needPane v0_15 i1_0 x1).bind fun q2 => if q2.1 = 0 then ((f_X10_needWhat q2.2 x2 (5)).bind fun q8 => if q8.1 = 0 then (if x2 = 0 then (ck x1 5 (some (0, v1_1 (x1).toNatClampNeg, q8.2))) else (if x2 = 1 then (ck x1 5 (some (0, v1_2 (x1).toNatClampNeg, q8.2))) else (if x2 = 2 then (ck x1 5 (some (0, v1_3 (x1).toNatClampNeg, q8.2))) else (if x2 = 3 then (ck x1 5 (some (0, v1_4 (x1).toNatClampNeg, q8.2))) else (if x2 = 4 then ((f_X2_filmsOn v3_1 x1).bind fun q96 => some (0, q96, q8.2)) else ((f_X2_isBroken i3_6 x1).bind fun q108 => if q108 = 0 then (some (0, 0, q8.2)) else (some (0, 1, q8.2)))))))) else (some (q8.1, 0, q8.2))) else (some (q2.1, 0, q2.2))
set_option maxHeartbeats 4000000 in
set_option maxRecDepth 100000 in
theorem c_X10_pane (l : Launch) (D : va_G) (cs : Nat → ClassId) (hl0 : l.stackTraces = false)  (sz : Nat) (a0 : Nat) (p0 : Nat → Nat) (i0_13 : Int32) (i0_14 : Int32) (v0_15 : Nat → Int32) (p1 : Nat → Nat) (i1_0 : Int32) (i1_6 : Int32) (i1_8 : Int32) (i1_10 : Int32) (i1_11 : Int32) (i1_12 : Int32) (v1_1 : Nat → Int32) (v1_2 : Nat → Int32) (v1_3 : Nat → Int32) (v1_4 : Nat → Int32) (v1_5 : Nat → Int32) (v1_7 : Nat → Int32) (v1_9 : Nat → Int32) (p2 : Nat → Nat) (i2_2 : Int32) (p3 : Nat → Nat) (i3_3 : Int32) (i3_4 : Int32) (i3_5 : Int32) (i3_6 : Int32) (i3_7 : Int32) (v3_0 : Nat → Int32) (v3_1 : Nat → Int32) (v3_2 : Nat → Int32) (x1 : Int32) (x2 : Int32) (res : Nat × Int32 × (Nat → Int32)) (hf : f_X10_pane  v0_15 i1_0 v1_1 v1_2 v1_3 v1_4 i3_6 v3_1 x1 x2 = some res) : XI l D cs yX10_pane wsX10_pane rm_X10_pane [.ref a0, .int x1, .int x2] sz (W_X10_pane cs a0 p0 i0_13 i0_14 v0_15 p1 i1_0 i1_6 i1_8 i1_10 i1_11 i1_12 v1_1 v1_2 v1_3 v1_4 v1_5 v1_7 v1_9 p2 i2_2 p3 i3_3 i3_4 i3_5 i3_6 i3_7 v3_0 v3_1 v3_2) (W_X10_pane cs a0 p0 i0_13 i0_14 res.2.2 p1 i1_0 i1_6 i1_8 i1_10 i1_11 i1_12 v1_1 v1_2 v1_3 v1_4 v1_5 v1_7 v1_9 p2 i2_2 p3 i3_3 i3_4 i3_5 i3_6 i3_7 v3_0 v3_1 v3_2) res.1 res.2.1 2 12 := by
  rw [f_X10_pane] at hf
  refine ow_enterT (cc := cX10_pane) (nL := 3) (ret := (some .int)) hl0 (by decide) rfl (Nat.le_of_ble_eq_true rfl) (fun p e s m below meth c ls H locs C0 T0 hP hD hS hA hl => ?_)
  obtain ⟨hx, hb, hr, hlk, hml, hown, hts, hK, hG, hE⟩ := id C0
  have hl : lv_has ls 3 [(0, .ref a0), (1, .int x1), (2, .int x2)] := hl
  refine lv_aload_n hx hb dX10_pane_0 rfl (lv_at hl 0 rfl) ?_
  refine lv_iload_n hx hb dX10_pane_1 rfl (lv_at hl 1 rfl) ?_
  obtain ⟨q2, hq, hf⟩ := bd_some hf
  refine ow_gtVV (As := [.int x1]) (rest := []) (sg := (S_X10_pane cs a0 p0 i0_13 i0_14 v0_15 p1 i1_0 i1_6 i1_8 i1_10 i1_11 i1_12 v1_1 v1_2 v1_3 v1_4 v1_5 v1_7 v1_9 p2 i2_2 p3 i3_3 i3_4 i3_5 i3_6 i3_7 v3_0 v3_1 v3_2)) (sc := [wX10 cs a0 p0 i0_13 i0_14 v0_15, wX6 cs (p0 1) p1 i1_0 i1_6 i1_8 i1_10 i1_11 i1_12 v1_1 v1_2 v1_3 v1_4 v1_5 v1_7 v1_9]) (sc' := [wX10 cs a0 p0 i0_13 i0_14 q2.2, wX6 cs (p0 1) p1 i1_0 i1_6 i1_8 i1_10 i1_11 i1_12 v1_1 v1_2 v1_3 v1_4 v1_5 v1_7 v1_9]) (sr := ow_pks (S_X10_pane cs a0 p0 i0_13 i0_14 v0_15 p1 i1_0 i1_6 i1_8 i1_10 i1_11 i1_12 v1_1 v1_2 v1_3 v1_4 v1_5 v1_7 v1_9 p2 i2_2 p3 i3_3 i3_4 i3_5 i3_6 i3_7 v3_0 v3_1 v3_2) [2, 3]) (sf := (S_X10_pane cs a0 p0 i0_13 i0_14 q2.2 p1 i1_0 i1_6 i1_8 i1_10 i1_11 i1_12 v1_1 v1_2 v1_3 v1_4 v1_5 v1_7 v1_9 p2 i2_2 p3 i3_3 i3_4 i3_5 i3_6 i3_7 v3_0 v3_1 v3_2)) (k := q2.1) C0 T0 (c_X10_needPane l D cs T0.1 H.size a0 p0 i0_13 i0_14 v0_15 p1 i1_0 i1_6 i1_8 i1_10 i1_11 i1_12 v1_1 v1_2 v1_3 v1_4 v1_5 v1_7 v1_9 x1 q2 hq) (cwV 1 hts gX10_pane_X10_needPane rfl rfl rfl (by decide +kernel) ⟨Nat.le_of_ble_eq_true rfl, Nat.le_of_ble_eq_true rfl⟩) 10 rfl rfl hP hD hS (sg_permL [0, 1] [2, 3] 4 rfl (by decide) rfl rfl) (sg_permG [2, 3, 0, 1] 4 rfl (by decide) rfl) rfl hl.1 rfl (Nat.le_of_ble_eq_true rfl) ⟨(Nat.le_of_ble_eq_true rfl), (Nat.le_of_ble_eq_true rfl)⟩ dX10_pane_2 (fun hz => ?_) (Nat.le_of_ble_eq_true rfl) (Nat.le_of_ble_eq_true rfl) (fun hz H locs (hP : va_P D vwCl (W_X10_pane cs a0 p0 i0_13 i0_14 q2.2 p1 i1_0 i1_6 i1_8 i1_10 i1_11 i1_12 v1_1 v1_2 v1_3 v1_4 v1_5 v1_7 v1_9 p2 i2_2 p3 i3_3 i3_4 i3_5 i3_6 i3_7 v3_0 v3_1 v3_2) H) (hD : va_D _ (W_X10_pane cs a0 p0 i0_13 i0_14 q2.2 p1 i1_0 i1_6 i1_8 i1_10 i1_11 i1_12 v1_1 v1_2 v1_3 v1_4 v1_5 v1_7 v1_9 p2 i2_2 p3 i3_3 i3_4 i3_5 i3_6 i3_7 v3_0 v3_1 v3_2)) hS => ?_)
  · replace hf := ow_f hz hf
    obtain rfl := Option.some.inj hf
    exact ⟨rfl, rfl⟩
  replace hf := ow_t hz hf
  refine lv_aload_n hx hb dX10_pane_5 rfl (lv_at hl 0 rfl) ?_
  refine lv_iload_n hx hb dX10_pane_6 rfl (lv_at hl 2 rfl) ?_
  refine lv_iconst (v := 5) hx hb dX10_pane_7 (by decide) ?_
  obtain ⟨q8, hq, hf⟩ := bd_some hf
  refine ow_gtVV (As := [.int x2, .int 5]) (rest := []) (sg := (S_X10_pane cs a0 p0 i0_13 i0_14 q2.2 p1 i1_0 i1_6 i1_8 i1_10 i1_11 i1_12 v1_1 v1_2 v1_3 v1_4 v1_5 v1_7 v1_9 p2 i2_2 p3 i3_3 i3_4 i3_5 i3_6 i3_7 v3_0 v3_1 v3_2)) (sc := [wX10 cs a0 p0 i0_13 i0_14 q2.2]) (sc' := [wX10 cs a0 p0 i0_13 i0_14 q8.2]) (sr := ow_pks (S_X10_pane cs a0 p0 i0_13 i0_14 q2.2 p1 i1_0 i1_6 i1_8 i1_10 i1_11 i1_12 v1_1 v1_2 v1_3 v1_4 v1_5 v1_7 v1_9 p2 i2_2 p3 i3_3 i3_4 i3_5 i3_6 i3_7 v3_0 v3_1 v3_2) [1, 2, 3]) (sf := (S_X10_pane cs a0 p0 i0_13 i0_14 q8.2 p1 i1_0 i1_6 i1_8 i1_10 i1_11 i1_12 v1_1 v1_2 v1_3 v1_4 v1_5 v1_7 v1_9 p2 i2_2 p3 i3_3 i3_4 i3_5 i3_6 i3_7 v3_0 v3_1 v3_2)) (k := q8.1) C0 T0 (c_X10_needWhat l D cs T0.1 H.size a0 p0 i0_13 i0_14 q2.2 x2 (5) q8 hq) (cwV 2 hts gX10_pane_X10_needWhat rfl rfl rfl (by decide +kernel) ⟨Nat.le_of_ble_eq_true rfl, Nat.le_of_ble_eq_true rfl⟩) 10 rfl rfl hP hD hS (sg_permL [0] [1, 2, 3] 4 rfl (by decide) rfl rfl) (sg_permG [3, 0, 1, 2] 4 rfl (by decide) rfl) rfl hl.1 rfl (Nat.le_of_ble_eq_true rfl) ⟨(Nat.le_of_ble_eq_true rfl), (Nat.le_of_ble_eq_true rfl)⟩ dX10_pane_8 (fun hz => ?_) (Nat.le_of_ble_eq_true rfl) (Nat.le_of_ble_eq_true rfl) (fun hz H locs (hP : va_P D vwCl (W_X10_pane cs a0 p0 i0_13 i0_14 q8.2 p1 i1_0 i1_6 i1_8 i1_10 i1_11 i1_12 v1_1 v1_2 v1_3 v1_4 v1_5 v1_7 v1_9 p2 i2_2 p3 i3_3 i3_4 i3_5 i3_6 i3_7 v3_0 v3_1 v3_2) H) (hD : va_D _ (W_X10_pane cs a0 p0 i0_13 i0_14 q8.2 p1 i1_0 i1_6 i1_8 i1_10 i1_11 i1_12 v1_1 v1_2 v1_3 v1_4 v1_5 v1_7 v1_9 p2 i2_2 p3 i3_3 i3_4 i3_5 i3_6 i3_7 v3_0 v3_1 v3_2)) hS => ?_)
  · replace hf := ow_f hz hf
    obtain rfl := Option.some.inj hf
    exact ⟨rfl, rfl⟩
  replace hf := ow_t hz hf
  refine lv_iload_n hx hb dX10_pane_11 rfl (lv_at hl 2 rfl) ?_
  rcases Decidable.em (x2 = 0) with hc | hc
  · replace hf := ow_t hc hf
    refine lv_tableIn (tgt := 48) hx hb dX10_pane_12 (by rw [hc]; decide) (by rw [hc]; decide) (by rw [hc]; rfl) (by decide) ?_
    refine lv_aload_n hx hb dX10_pane_48 rfl (lv_at hl 0 rfl) ?_
    refine va_get (D := D) (ci := 10) (v := .ref (p0 1)) (C := RX10) (T := TX10) (N := 16) hx hb hts in_X10_pane_X10 hown hK hP 0 rfl rfl 1 (by decide) (hts (.fieldLink RX10 19 "PaneDays" "street" "LPaneDays$Street;") (List.mem_of_getElem? (i := 1) rfl)) (fun _ h9 => h9) rfl dX10_pane_49 ?_
    refine va_get (D := D) (ci := 6) (v := .ref (p1 1)) (C := RX6) (T := TX6) (N := 13) hx hb hts in_X10_pane_X6 hown hK hP 2 rfl rfl 1 (by decide) (hts (.fieldLink RX10 189 "PaneDays$Street" "wide" "[I") (List.mem_of_getElem? (i := 2) rfl)) (fun _ h9 => h9) rfl dX10_pane_52 ?_
    refine lv_iload_n hx hb dX10_pane_55 rfl (lv_at hl 1 rfl) ?_
    obtain ⟨hin, hf⟩ := ck_some hf
    refine va_iald (f := v1_1) hx hb hK hP 3 0 rfl rfl hin dX10_pane_56 ?_
    obtain rfl := Option.some.inj hf
    exact ow_tretI C0 rfl hP hD hS (Nat.le_of_ble_eq_true rfl) (Nat.le_of_ble_eq_true rfl) dX10_pane_57
  replace hf := ow_f hc hf
  have hn0 := hc
  rcases Decidable.em (x2 = 1) with hc | hc
  · replace hf := ow_t hc hf
    refine lv_tableIn (tgt := 58) hx hb dX10_pane_12 (by rw [hc]; decide) (by rw [hc]; decide) (by rw [hc]; rfl) (by decide) ?_
    refine lv_aload_n hx hb dX10_pane_58 rfl (lv_at hl 0 rfl) ?_
    refine va_get (D := D) (ci := 10) (v := .ref (p0 1)) (C := RX10) (T := TX10) (N := 16) hx hb hts in_X10_pane_X10 hown hK hP 0 rfl rfl 1 (by decide) (hts (.fieldLink RX10 19 "PaneDays" "street" "LPaneDays$Street;") (List.mem_of_getElem? (i := 1) rfl)) (fun _ h9 => h9) rfl dX10_pane_59 ?_
    refine va_get (D := D) (ci := 6) (v := .ref (p1 2)) (C := RX6) (T := TX6) (N := 13) hx hb hts in_X10_pane_X6 hown hK hP 2 rfl rfl 2 (by decide) (hts (.fieldLink RX10 192 "PaneDays$Street" "high" "[I") (List.mem_of_getElem? (i := 3) rfl)) (fun _ h9 => h9) rfl dX10_pane_62 ?_
    refine lv_iload_n hx hb dX10_pane_65 rfl (lv_at hl 1 rfl) ?_
    obtain ⟨hin, hf⟩ := ck_some hf
    refine va_iald (f := v1_2) hx hb hK hP 4 0 rfl rfl hin dX10_pane_66 ?_
    obtain rfl := Option.some.inj hf
    exact ow_tretI C0 rfl hP hD hS (Nat.le_of_ble_eq_true rfl) (Nat.le_of_ble_eq_true rfl) dX10_pane_67
  replace hf := ow_f hc hf
  have hn1 := hc
  rcases Decidable.em (x2 = 2) with hc | hc
  · replace hf := ow_t hc hf
    refine lv_tableIn (tgt := 68) hx hb dX10_pane_12 (by rw [hc]; decide) (by rw [hc]; decide) (by rw [hc]; rfl) (by decide) ?_
    refine lv_aload_n hx hb dX10_pane_68 rfl (lv_at hl 0 rfl) ?_
    refine va_get (D := D) (ci := 10) (v := .ref (p0 1)) (C := RX10) (T := TX10) (N := 16) hx hb hts in_X10_pane_X10 hown hK hP 0 rfl rfl 1 (by decide) (hts (.fieldLink RX10 19 "PaneDays" "street" "LPaneDays$Street;") (List.mem_of_getElem? (i := 1) rfl)) (fun _ h9 => h9) rfl dX10_pane_69 ?_
    refine va_get (D := D) (ci := 6) (v := .ref (p1 3)) (C := RX6) (T := TX6) (N := 13) hx hb hts in_X10_pane_X6 hown hK hP 2 rfl rfl 3 (by decide) (hts (.fieldLink RX10 195 "PaneDays$Street" "along" "[I") (List.mem_of_getElem? (i := 4) rfl)) (fun _ h9 => h9) rfl dX10_pane_72 ?_
    refine lv_iload_n hx hb dX10_pane_75 rfl (lv_at hl 1 rfl) ?_
    obtain ⟨hin, hf⟩ := ck_some hf
    refine va_iald (f := v1_3) hx hb hK hP 5 0 rfl rfl hin dX10_pane_76 ?_
    obtain rfl := Option.some.inj hf
    exact ow_tretI C0 rfl hP hD hS (Nat.le_of_ble_eq_true rfl) (Nat.le_of_ble_eq_true rfl) dX10_pane_77
  replace hf := ow_f hc hf
  have hn2 := hc
  rcases Decidable.em (x2 = 3) with hc | hc
  · replace hf := ow_t hc hf
    refine lv_tableIn (tgt := 78) hx hb dX10_pane_12 (by rw [hc]; decide) (by rw [hc]; decide) (by rw [hc]; rfl) (by decide) ?_
    refine lv_aload_n hx hb dX10_pane_78 rfl (lv_at hl 0 rfl) ?_
    refine va_get (D := D) (ci := 10) (v := .ref (p0 1)) (C := RX10) (T := TX10) (N := 16) hx hb hts in_X10_pane_X10 hown hK hP 0 rfl rfl 1 (by decide) (hts (.fieldLink RX10 19 "PaneDays" "street" "LPaneDays$Street;") (List.mem_of_getElem? (i := 1) rfl)) (fun _ h9 => h9) rfl dX10_pane_79 ?_
    refine va_get (D := D) (ci := 6) (v := .ref (p1 4)) (C := RX6) (T := TX6) (N := 13) hx hb hts in_X10_pane_X6 hown hK hP 2 rfl rfl 4 (by decide) (hts (.fieldLink RX10 198 "PaneDays$Street" "floor" "[I") (List.mem_of_getElem? (i := 5) rfl)) (fun _ h9 => h9) rfl dX10_pane_82 ?_
    refine lv_iload_n hx hb dX10_pane_85 rfl (lv_at hl 1 rfl) ?_
    obtain ⟨hin, hf⟩ := ck_some hf
    refine va_iald (f := v1_4) hx hb hK hP 6 0 rfl rfl hin dX10_pane_86 ?_
    obtain rfl := Option.some.inj hf
    exact ow_tretI C0 rfl hP hD hS (Nat.le_of_ble_eq_true rfl) (Nat.le_of_ble_eq_true rfl) dX10_pane_87
  replace hf := ow_f hc hf
  have hn3 := hc
  rcases Decidable.em (x2 = 4) with hc | hc
  · replace hf := ow_t hc hf
    refine lv_tableIn (tgt := 88) hx hb dX10_pane_12 (by rw [hc]; decide) (by rw [hc]; decide) (by rw [hc]; rfl) (by decide) ?_
    refine lv_aload_n hx hb dX10_pane_88 rfl (lv_at hl 0 rfl) ?_
    refine va_get (D := D) (ci := 10) (v := .ref (p0 9)) (C := RX10) (T := TX10) (N := 16) hx hb hts in_X10_pane_X10 hown hK hP 0 rfl rfl 9 (by decide) (hts (.fieldLink RX10 63 "PaneDays" "past" "LPaneDays$Past;") (List.mem_of_getElem? (i := 6) rfl)) (fun _ h9 => h9) rfl dX10_pane_89 ?_
    refine va_get (D := D) (ci := 4) (v := .ref (p2 0)) (C := RX4) (T := TX4) (N := 3) hx hb hts in_X10_pane_X4 hown hK hP 10 rfl rfl 0 (by decide) (hts (.fieldLink RX10 76 "PaneDays$Past" "now" "LPaneDays$Glass;") (List.mem_of_getElem? (i := 7) rfl)) (fun _ h9 => h9) rfl dX10_pane_92 ?_
    refine lv_iload_n hx hb dX10_pane_95 rfl (lv_at hl 1 rfl) ?_
    obtain ⟨q96, hq, hf⟩ := bd_some hf
    refine ow_gVI (As := [.int x1]) (rest := []) (sg := (S_X10_pane cs a0 p0 i0_13 i0_14 q8.2 p1 i1_0 i1_6 i1_8 i1_10 i1_11 i1_12 v1_1 v1_2 v1_3 v1_4 v1_5 v1_7 v1_9 p2 i2_2 p3 i3_3 i3_4 i3_5 i3_6 i3_7 v3_0 v3_1 v3_2)) (sc := [wX2 cs (p2 0) p3 i3_3 i3_4 i3_5 i3_6 i3_7 v3_0 v3_1 v3_2]) (sc' := [wX2 cs (p2 0) p3 i3_3 i3_4 i3_5 i3_6 i3_7 v3_0 v3_1 v3_2]) (sr := ow_pks (S_X10_pane cs a0 p0 i0_13 i0_14 q8.2 p1 i1_0 i1_6 i1_8 i1_10 i1_11 i1_12 v1_1 v1_2 v1_3 v1_4 v1_5 v1_7 v1_9 p2 i2_2 p3 i3_3 i3_4 i3_5 i3_6 i3_7 v3_0 v3_1 v3_2) [0, 1, 2]) (sf := (S_X10_pane cs a0 p0 i0_13 i0_14 q8.2 p1 i1_0 i1_6 i1_8 i1_10 i1_11 i1_12 v1_1 v1_2 v1_3 v1_4 v1_5 v1_7 v1_9 p2 i2_2 p3 i3_3 i3_4 i3_5 i3_6 i3_7 v3_0 v3_1 v3_2)) (r := q96) C0 (c_X2_filmsOn l D cs H.size (p2 0) p3 i3_3 i3_4 i3_5 i3_6 i3_7 v3_0 v3_1 v3_2 x1 q96 hq) (cwV 1 hts gX10_pane_X2_filmsOn rfl rfl rfl (by decide +kernel) ⟨Nat.le_of_ble_eq_true rfl, Nat.le_of_ble_eq_true rfl⟩) 2 rfl rfl hP hD hS (sg_permL [3] [0, 1, 2] 4 rfl (by decide) rfl rfl) (sg_permG [0, 1, 2, 3] 4 rfl (by decide) rfl) rfl hl.1 rfl (Nat.le_of_ble_eq_true rfl) ⟨(Nat.le_of_ble_eq_true rfl), (Nat.le_of_ble_eq_true rfl)⟩ dX10_pane_96 (fun H locs (hP : va_P D vwCl (W_X10_pane cs a0 p0 i0_13 i0_14 q8.2 p1 i1_0 i1_6 i1_8 i1_10 i1_11 i1_12 v1_1 v1_2 v1_3 v1_4 v1_5 v1_7 v1_9 p2 i2_2 p3 i3_3 i3_4 i3_5 i3_6 i3_7 v3_0 v3_1 v3_2) H) (hD : va_D _ (W_X10_pane cs a0 p0 i0_13 i0_14 q8.2 p1 i1_0 i1_6 i1_8 i1_10 i1_11 i1_12 v1_1 v1_2 v1_3 v1_4 v1_5 v1_7 v1_9 p2 i2_2 p3 i3_3 i3_4 i3_5 i3_6 i3_7 v3_0 v3_1 v3_2)) hS => ?_)
    obtain rfl := Option.some.inj hf
    exact ow_tretI C0 rfl hP hD hS (Nat.le_of_ble_eq_true rfl) (Nat.le_of_ble_eq_true rfl) dX10_pane_99
  replace hf := ow_f hc hf
  have hn4 := hc
  refine lv_tableOut (x := x2) (tgt := 100) hx hb dX10_pane_12 (ow_out (fun z h1 h2 => by rcases (show z = 0 ∨ z = 1 ∨ z = 2 ∨ z = 3 ∨ z = 4 by omega) with rfl | rfl | rfl | rfl | rfl <;> first | exact lv_neT hn0 (by decide) | exact lv_neT hn1 (by decide) | exact lv_neT hn2 (by decide) | exact lv_neT hn3 (by decide) | exact lv_neT hn4 (by decide))) (by decide) ?_
  refine lv_aload_n hx hb dX10_pane_100 rfl (lv_at hl 0 rfl) ?_
  refine va_get (D := D) (ci := 10) (v := .ref (p0 9)) (C := RX10) (T := TX10) (N := 16) hx hb hts in_X10_pane_X10 hown hK hP 0 rfl rfl 9 (by decide) (hts (.fieldLink RX10 63 "PaneDays" "past" "LPaneDays$Past;") (List.mem_of_getElem? (i := 6) rfl)) (fun _ h9 => h9) rfl dX10_pane_101 ?_
  refine va_get (D := D) (ci := 4) (v := .ref (p2 0)) (C := RX4) (T := TX4) (N := 3) hx hb hts in_X10_pane_X4 hown hK hP 10 rfl rfl 0 (by decide) (hts (.fieldLink RX10 76 "PaneDays$Past" "now" "LPaneDays$Glass;") (List.mem_of_getElem? (i := 7) rfl)) (fun _ h9 => h9) rfl dX10_pane_104 ?_
  refine lv_iload_n hx hb dX10_pane_107 rfl (lv_at hl 1 rfl) ?_
  obtain ⟨q108, hq, hf⟩ := bd_some hf
  refine ow_gVI (As := [.int x1]) (rest := []) (sg := (S_X10_pane cs a0 p0 i0_13 i0_14 q8.2 p1 i1_0 i1_6 i1_8 i1_10 i1_11 i1_12 v1_1 v1_2 v1_3 v1_4 v1_5 v1_7 v1_9 p2 i2_2 p3 i3_3 i3_4 i3_5 i3_6 i3_7 v3_0 v3_1 v3_2)) (sc := [wX2 cs (p2 0) p3 i3_3 i3_4 i3_5 i3_6 i3_7 v3_0 v3_1 v3_2]) (sc' := [wX2 cs (p2 0) p3 i3_3 i3_4 i3_5 i3_6 i3_7 v3_0 v3_1 v3_2]) (sr := ow_pks (S_X10_pane cs a0 p0 i0_13 i0_14 q8.2 p1 i1_0 i1_6 i1_8 i1_10 i1_11 i1_12 v1_1 v1_2 v1_3 v1_4 v1_5 v1_7 v1_9 p2 i2_2 p3 i3_3 i3_4 i3_5 i3_6 i3_7 v3_0 v3_1 v3_2) [0, 1, 2]) (sf := (S_X10_pane cs a0 p0 i0_13 i0_14 q8.2 p1 i1_0 i1_6 i1_8 i1_10 i1_11 i1_12 v1_1 v1_2 v1_3 v1_4 v1_5 v1_7 v1_9 p2 i2_2 p3 i3_3 i3_4 i3_5 i3_6 i3_7 v3_0 v3_1 v3_2)) (r := q108) C0 (c_X2_isBroken l D cs H.size (p2 0) p3 i3_3 i3_4 i3_5 i3_6 i3_7 v3_0 v3_1 v3_2 x1 q108 hq) (cwV 1 hts gX10_pane_X2_isBroken rfl rfl rfl (by decide +kernel) ⟨Nat.le_of_ble_eq_true rfl, Nat.le_of_ble_eq_true rfl⟩) 2 rfl rfl hP hD hS (sg_permL [3] [0, 1, 2] 4 rfl (by decide) rfl rfl) (sg_permG [0, 1, 2, 3] 4 rfl (by decide) rfl) rfl hl.1 rfl (Nat.le_of_ble_eq_true rfl) ⟨(Nat.le_of_ble_eq_true rfl), (Nat.le_of_ble_eq_true rfl)⟩ dX10_pane_108 (fun H locs (hP : va_P D vwCl (W_X10_pane cs a0 p0 i0_13 i0_14 q8.2 p1 i1_0 i1_6 i1_8 i1_10 i1_11 i1_12 v1_1 v1_2 v1_3 v1_4 v1_5 v1_7 v1_9 p2 i2_2 p3 i3_3 i3_4 i3_5 i3_6 i3_7 v3_0 v3_1 v3_2) H) (hD : va_D _ (W_X10_pane cs a0 p0 i0_13 i0_14 q8.2 p1 i1_0 i1_6 i1_8 i1_10 i1_11 i1_12 v1_1 v1_2 v1_3 v1_4 v1_5 v1_7 v1_9 p2 i2_2 p3 i3_3 i3_4 i3_5 i3_6 i3_7 v3_0 v3_1 v3_2)) hS => ?_)
  refine lv_if_eq (tgt := 118) hx hb dX10_pane_111 (by decide) (fun hc => ?_) (fun hc => ?_)
  · replace hf := ow_t hc hf
    refine lv_iconst (v := 0) hx hb dX10_pane_118 (by decide) ?_
    obtain rfl := Option.some.inj hf
    exact ow_tretI C0 rfl hP hD hS (Nat.le_of_ble_eq_true rfl) (Nat.le_of_ble_eq_true rfl) dX10_pane_119
  · replace hf := ow_f hc hf
    refine lv_iconst (v := 1) hx hb dX10_pane_114 (by decide) ?_
    refine lv_goto (tgt := 119) hx hb dX10_pane_115 (by decide) ?_
    obtain rfl := Option.some.inj hf
    exact ow_tretI C0 rfl hP hD hS (Nat.le_of_ble_eq_true rfl) (Nat.le_of_ble_eq_true rfl) dX10_pane_119
theorem in_X10_told_X0 : ∀ w ∈ u_ws RX0 TX0 4, w ∈ wsX10_told := fun w h => List.mem_cons_of_mem _ (List.mem_append_left _ (List.mem_append_right _ h))
theorem in_X10_told_X10 : ∀ w ∈ u_ws RX10 TX10 16, w ∈ wsX10_told := fun w h => List.mem_cons_of_mem _ (List.mem_append_left _ (List.mem_append_left _ (List.mem_append_left _ (List.mem_append_left _ (List.mem_append_left _ (List.mem_append_right _ h))))))
theorem in_X10_told_X2 : ∀ w ∈ u_ws RX2 TX2 8, w ∈ wsX10_told := fun w h => List.mem_cons_of_mem _ (List.mem_append_left _ (List.mem_append_left _ (List.mem_append_right _ h)))
theorem in_X10_told_X4 : ∀ w ∈ u_ws RX4 TX4 3, w ∈ wsX10_told := fun w h => List.mem_cons_of_mem _ (List.mem_append_left _ (List.mem_append_left _ (List.mem_append_left _ (List.mem_append_right _ h))))
theorem in_X10_told_X6 : ∀ w ∈ u_ws RX6 TX6 13, w ∈ wsX10_told := fun w h => List.mem_cons_of_mem _ (List.mem_append_left _ (List.mem_append_left _ (List.mem_append_left _ (List.mem_append_left _ (List.mem_append_right _ h)))))
abbrev S_X10_told (cs : Nat → ClassId) (a0 : Nat) (p0 : Nat → Nat) (i0_13 : Int32) (i0_14 : Int32) (v0_15 : Nat → Int32) (p1 : Nat → Nat) (i1_0 : Int32) (i1_1 : Int32) (v1_2 : Nat → Int32) (v1_3 : Nat → Int32) (p2 : Nat → Nat) (i2_2 : Int32) (p3 : Nat → Nat) (i3_3 : Int32) (i3_4 : Int32) (i3_5 : Int32) (i3_6 : Int32) (i3_7 : Int32) (v3_0 : Nat → Int32) (v3_1 : Nat → Int32) (v3_2 : Nat → Int32) (p4 : Nat → Nat) (i4_0 : Int32) (i4_6 : Int32) (i4_8 : Int32) (i4_10 : Int32) (i4_11 : Int32) (i4_12 : Int32) (v4_1 : Nat → Int32) (v4_2 : Nat → Int32) (v4_3 : Nat → Int32) (v4_4 : Nat → Int32) (v4_5 : Nat → Int32) (v4_7 : Nat → Int32) (v4_9 : Nat → Int32) : List va_W := [wX10 cs a0 p0 i0_13 i0_14 v0_15, wX0 cs (p0 5) p1 i1_0 i1_1 v1_2 v1_3, wX4 cs (p0 9) p2 i2_2, wX2 cs (p2 0) p3 i3_3 i3_4 i3_5 i3_6 i3_7 v3_0 v3_1 v3_2, wX6 cs (p0 1) p4 i4_0 i4_6 i4_8 i4_10 i4_11 i4_12 v4_1 v4_2 v4_3 v4_4 v4_5 v4_7 v4_9]
abbrev W_X10_told (cs : Nat → ClassId) (a0 : Nat) (p0 : Nat → Nat) (i0_13 : Int32) (i0_14 : Int32) (v0_15 : Nat → Int32) (p1 : Nat → Nat) (i1_0 : Int32) (i1_1 : Int32) (v1_2 : Nat → Int32) (v1_3 : Nat → Int32) (p2 : Nat → Nat) (i2_2 : Int32) (p3 : Nat → Nat) (i3_3 : Int32) (i3_4 : Int32) (i3_5 : Int32) (i3_6 : Int32) (i3_7 : Int32) (v3_0 : Nat → Int32) (v3_1 : Nat → Int32) (v3_2 : Nat → Int32) (p4 : Nat → Nat) (i4_0 : Int32) (i4_6 : Int32) (i4_8 : Int32) (i4_10 : Int32) (i4_11 : Int32) (i4_12 : Int32) (v4_1 : Nat → Int32) (v4_2 : Nat → Int32) (v4_3 : Nat → Int32) (v4_4 : Nat → Int32) (v4_5 : Nat → Int32) (v4_7 : Nat → Int32) (v4_9 : Nat → Int32) : va_W := (S_X10_told cs a0 p0 i0_13 i0_14 v0_15 p1 i1_0 i1_1 v1_2 v1_3 p2 i2_2 p3 i3_3 i3_4 i3_5 i3_6 i3_7 v3_0 v3_1 v3_2 p4 i4_0 i4_6 i4_8 i4_10 i4_11 i4_12 v4_1 v4_2 v4_3 v4_4 v4_5 v4_7 v4_9).flatten
abbrev rm_X10_told : Room := { frames := 8, cells := 1, slots := 6, locals := 124 }
def f_X10_told  (i0_14 : Int32) (v0_15 : Nat → Int32) (i1_0 : Int32) (i3_3 : Int32) (i3_4 : Int32) (i3_5 : Int32) (v3_1 : Nat → Int32) (i4_0 : Int32) (i4_6 : Int32) (i4_8 : Int32) (x1 : Int32) : Option (Nat × Int32 × (Nat → Int32)) := (f_X10_needWhat v0_15 x1 (8)).bind fun q4 => if q4.1 = 0 then (if x1 = 0 then (some (0, i4_0, q4.2)) else (if x1 = 1 then (some (0, i4_8, q4.2)) else (if x1 = 2 then (some (0, i4_6, q4.2)) else (if x1 = 3 then (some (0, i3_4, q4.2)) else (if x1 = 4 then ((f_X2_filmsOnAll v3_1).bind fun q98 => some (0, q98, q4.2)) else (if x1 = 5 then (some (0, i3_3, q4.2)) else (if x1 = 6 then (some (0, i3_5, q4.2)) else (if x1 = 7 then (some (0, i1_0, q4.2)) else (some (0, i0_14, q4.2)))))))))) else (some (q4.1, 0, q4.2))
set_option maxHeartbeats 4000000 in
set_option maxRecDepth 100000 in
theorem c_X10_told (l : Launch) (D : va_G) (cs : Nat → ClassId) (hl0 : l.stackTraces = false)  (sz : Nat) (a0 : Nat) (p0 : Nat → Nat) (i0_13 : Int32) (i0_14 : Int32) (v0_15 : Nat → Int32) (p1 : Nat → Nat) (i1_0 : Int32) (i1_1 : Int32) (v1_2 : Nat → Int32) (v1_3 : Nat → Int32) (p2 : Nat → Nat) (i2_2 : Int32) (p3 : Nat → Nat) (i3_3 : Int32) (i3_4 : Int32) (i3_5 : Int32) (i3_6 : Int32) (i3_7 : Int32) (v3_0 : Nat → Int32) (v3_1 : Nat → Int32) (v3_2 : Nat → Int32) (p4 : Nat → Nat) (i4_0 : Int32) (i4_6 : Int32) (i4_8 : Int32) (i4_10 : Int32) (i4_11 : Int32) (i4_12 : Int32) (v4_1 : Nat → Int32) (v4_2 : Nat → Int32) (v4_3 : Nat → Int32) (v4_4 : Nat → Int32) (v4_5 : Nat → Int32) (v4_7 : Nat → Int32) (v4_9 : Nat → Int32) (x1 : Int32) (res : Nat × Int32 × (Nat → Int32)) (hf : f_X10_told  i0_14 v0_15 i1_0 i3_3 i3_4 i3_5 v3_1 i4_0 i4_6 i4_8 x1 = some res) : XI l D cs yX10_told wsX10_told rm_X10_told [.ref a0, .int x1] sz (W_X10_told cs a0 p0 i0_13 i0_14 v0_15 p1 i1_0 i1_1 v1_2 v1_3 p2 i2_2 p3 i3_3 i3_4 i3_5 i3_6 i3_7 v3_0 v3_1 v3_2 p4 i4_0 i4_6 i4_8 i4_10 i4_11 i4_12 v4_1 v4_2 v4_3 v4_4 v4_5 v4_7 v4_9) (W_X10_told cs a0 p0 i0_13 i0_14 res.2.2 p1 i1_0 i1_1 v1_2 v1_3 p2 i2_2 p3 i3_3 i3_4 i3_5 i3_6 i3_7 v3_0 v3_1 v3_2 p4 i4_0 i4_6 i4_8 i4_10 i4_11 i4_12 v4_1 v4_2 v4_3 v4_4 v4_5 v4_7 v4_9) res.1 res.2.1 1 6 := by
  rw [f_X10_told] at hf
  refine ow_enterT (cc := cX10_told) (nL := 2) (ret := (some .int)) hl0 (by decide) rfl (Nat.le_of_ble_eq_true rfl) (fun p e s m below meth c ls H locs C0 T0 hP hD hS hA hl => ?_)
  obtain ⟨hx, hb, hr, hlk, hml, hown, hts, hK, hG, hE⟩ := id C0
  have hl : lv_has ls 2 [(0, .ref a0), (1, .int x1)] := hl
  refine lv_aload_n hx hb dX10_told_0 rfl (lv_at hl 0 rfl) ?_
  refine lv_iload_n hx hb dX10_told_1 rfl (lv_at hl 1 rfl) ?_
  refine lv_bipush (v := 8) hx hb dX10_told_2 (by decide) ?_
  obtain ⟨q4, hq, hf⟩ := bd_some hf
  refine ow_gtVV (As := [.int x1, .int 8]) (rest := []) (sg := (S_X10_told cs a0 p0 i0_13 i0_14 v0_15 p1 i1_0 i1_1 v1_2 v1_3 p2 i2_2 p3 i3_3 i3_4 i3_5 i3_6 i3_7 v3_0 v3_1 v3_2 p4 i4_0 i4_6 i4_8 i4_10 i4_11 i4_12 v4_1 v4_2 v4_3 v4_4 v4_5 v4_7 v4_9)) (sc := [wX10 cs a0 p0 i0_13 i0_14 v0_15]) (sc' := [wX10 cs a0 p0 i0_13 i0_14 q4.2]) (sr := ow_pks (S_X10_told cs a0 p0 i0_13 i0_14 v0_15 p1 i1_0 i1_1 v1_2 v1_3 p2 i2_2 p3 i3_3 i3_4 i3_5 i3_6 i3_7 v3_0 v3_1 v3_2 p4 i4_0 i4_6 i4_8 i4_10 i4_11 i4_12 v4_1 v4_2 v4_3 v4_4 v4_5 v4_7 v4_9) [1, 2, 3, 4]) (sf := (S_X10_told cs a0 p0 i0_13 i0_14 q4.2 p1 i1_0 i1_1 v1_2 v1_3 p2 i2_2 p3 i3_3 i3_4 i3_5 i3_6 i3_7 v3_0 v3_1 v3_2 p4 i4_0 i4_6 i4_8 i4_10 i4_11 i4_12 v4_1 v4_2 v4_3 v4_4 v4_5 v4_7 v4_9)) (k := q4.1) C0 T0 (c_X10_needWhat l D cs T0.1 H.size a0 p0 i0_13 i0_14 v0_15 x1 (8) q4 hq) (cwV 2 hts gX10_told_X10_needWhat rfl rfl rfl (by decide +kernel) ⟨Nat.le_of_ble_eq_true rfl, Nat.le_of_ble_eq_true rfl⟩) 10 rfl rfl hP hD hS (sg_permL [0] [1, 2, 3, 4] 5 rfl (by decide) rfl rfl) (sg_permG [4, 0, 1, 2, 3] 5 rfl (by decide) rfl) rfl hl.1 rfl (Nat.le_of_ble_eq_true rfl) ⟨(Nat.le_of_ble_eq_true rfl), (Nat.le_of_ble_eq_true rfl)⟩ dX10_told_4 (fun hz => ?_) (Nat.le_of_ble_eq_true rfl) (Nat.le_of_ble_eq_true rfl) (fun hz H locs (hP : va_P D vwCl (W_X10_told cs a0 p0 i0_13 i0_14 q4.2 p1 i1_0 i1_1 v1_2 v1_3 p2 i2_2 p3 i3_3 i3_4 i3_5 i3_6 i3_7 v3_0 v3_1 v3_2 p4 i4_0 i4_6 i4_8 i4_10 i4_11 i4_12 v4_1 v4_2 v4_3 v4_4 v4_5 v4_7 v4_9) H) (hD : va_D _ (W_X10_told cs a0 p0 i0_13 i0_14 q4.2 p1 i1_0 i1_1 v1_2 v1_3 p2 i2_2 p3 i3_3 i3_4 i3_5 i3_6 i3_7 v3_0 v3_1 v3_2 p4 i4_0 i4_6 i4_8 i4_10 i4_11 i4_12 v4_1 v4_2 v4_3 v4_4 v4_5 v4_7 v4_9)) hS => ?_)
  · replace hf := ow_f hz hf
    obtain rfl := Option.some.inj hf
    exact ⟨rfl, rfl⟩
  replace hf := ow_t hz hf
  refine lv_iload_n hx hb dX10_told_7 rfl (lv_at hl 1 rfl) ?_
  rcases Decidable.em (x1 = 0) with hc | hc
  · replace hf := ow_t hc hf
    refine lv_tableIn (tgt := 56) hx hb dX10_told_8 (by rw [hc]; decide) (by rw [hc]; decide) (by rw [hc]; rfl) (by decide) ?_
    refine lv_aload_n hx hb dX10_told_56 rfl (lv_at hl 0 rfl) ?_
    refine va_get (D := D) (ci := 10) (v := .ref (p0 1)) (C := RX10) (T := TX10) (N := 16) hx hb hts in_X10_told_X10 hown hK hP 0 rfl rfl 1 (by decide) (hts (.fieldLink RX10 19 "PaneDays" "street" "LPaneDays$Street;") (List.mem_of_getElem? (i := 1) rfl)) (fun _ h9 => h9) rfl dX10_told_57 ?_
    refine va_get (D := D) (ci := 6) (v := .int i4_0) (C := RX6) (T := TX6) (N := 13) hx hb hts in_X10_told_X6 hown hK hP 10 rfl rfl 0 (by decide) (hts (.fieldLink RX10 129 "PaneDays$Street" "panes" "I") (List.mem_of_getElem? (i := 2) rfl)) (fun _ h9 => h9) rfl dX10_told_60 ?_
    obtain rfl := Option.some.inj hf
    exact ow_tretI C0 rfl hP hD hS (Nat.le_of_ble_eq_true rfl) (Nat.le_of_ble_eq_true rfl) dX10_told_63
  replace hf := ow_f hc hf
  have hn0 := hc
  rcases Decidable.em (x1 = 1) with hc | hc
  · replace hf := ow_t hc hf
    refine lv_tableIn (tgt := 64) hx hb dX10_told_8 (by rw [hc]; decide) (by rw [hc]; decide) (by rw [hc]; rfl) (by decide) ?_
    refine lv_aload_n hx hb dX10_told_64 rfl (lv_at hl 0 rfl) ?_
    refine va_get (D := D) (ci := 10) (v := .ref (p0 1)) (C := RX10) (T := TX10) (N := 16) hx hb hts in_X10_told_X10 hown hK hP 0 rfl rfl 1 (by decide) (hts (.fieldLink RX10 19 "PaneDays" "street" "LPaneDays$Street;") (List.mem_of_getElem? (i := 1) rfl)) (fun _ h9 => h9) rfl dX10_told_65 ?_
    refine va_get (D := D) (ci := 6) (v := .int i4_8) (C := RX6) (T := TX6) (N := 13) hx hb hts in_X10_told_X6 hown hK hP 10 rfl rfl 8 (by decide) (hts (.fieldLink RX10 165 "PaneDays$Street" "orders" "I") (List.mem_of_getElem? (i := 3) rfl)) (fun _ h9 => h9) rfl dX10_told_68 ?_
    obtain rfl := Option.some.inj hf
    exact ow_tretI C0 rfl hP hD hS (Nat.le_of_ble_eq_true rfl) (Nat.le_of_ble_eq_true rfl) dX10_told_71
  replace hf := ow_f hc hf
  have hn1 := hc
  rcases Decidable.em (x1 = 2) with hc | hc
  · replace hf := ow_t hc hf
    refine lv_tableIn (tgt := 72) hx hb dX10_told_8 (by rw [hc]; decide) (by rw [hc]; decide) (by rw [hc]; rfl) (by decide) ?_
    refine lv_aload_n hx hb dX10_told_72 rfl (lv_at hl 0 rfl) ?_
    refine va_get (D := D) (ci := 10) (v := .ref (p0 1)) (C := RX10) (T := TX10) (N := 16) hx hb hts in_X10_told_X10 hown hK hP 0 rfl rfl 1 (by decide) (hts (.fieldLink RX10 19 "PaneDays" "street" "LPaneDays$Street;") (List.mem_of_getElem? (i := 1) rfl)) (fun _ h9 => h9) rfl dX10_told_73 ?_
    refine va_get (D := D) (ci := 6) (v := .int i4_6) (C := RX6) (T := TX6) (N := 13) hx hb hts in_X10_told_X6 hown hK hP 10 rfl rfl 6 (by decide) (hts (.fieldLink RX10 168 "PaneDays$Street" "rains" "I") (List.mem_of_getElem? (i := 4) rfl)) (fun _ h9 => h9) rfl dX10_told_76 ?_
    obtain rfl := Option.some.inj hf
    exact ow_tretI C0 rfl hP hD hS (Nat.le_of_ble_eq_true rfl) (Nat.le_of_ble_eq_true rfl) dX10_told_79
  replace hf := ow_f hc hf
  have hn2 := hc
  rcases Decidable.em (x1 = 3) with hc | hc
  · replace hf := ow_t hc hf
    refine lv_tableIn (tgt := 80) hx hb dX10_told_8 (by rw [hc]; decide) (by rw [hc]; decide) (by rw [hc]; rfl) (by decide) ?_
    refine lv_aload_n hx hb dX10_told_80 rfl (lv_at hl 0 rfl) ?_
    refine va_get (D := D) (ci := 10) (v := .ref (p0 9)) (C := RX10) (T := TX10) (N := 16) hx hb hts in_X10_told_X10 hown hK hP 0 rfl rfl 9 (by decide) (hts (.fieldLink RX10 63 "PaneDays" "past" "LPaneDays$Past;") (List.mem_of_getElem? (i := 5) rfl)) (fun _ h9 => h9) rfl dX10_told_81 ?_
    refine va_get (D := D) (ci := 4) (v := .ref (p2 0)) (C := RX4) (T := TX4) (N := 3) hx hb hts in_X10_told_X4 hown hK hP 5 rfl rfl 0 (by decide) (hts (.fieldLink RX10 76 "PaneDays$Past" "now" "LPaneDays$Glass;") (List.mem_of_getElem? (i := 6) rfl)) (fun _ h9 => h9) rfl dX10_told_84 ?_
    refine va_get (D := D) (ci := 2) (v := .int i3_4) (C := RX2) (T := TX2) (N := 8) hx hb hts in_X10_told_X2 hown hK hP 6 rfl rfl 4 (by decide) (hts (.fieldLink RX10 171 "PaneDays$Glass" "day" "I") (List.mem_of_getElem? (i := 7) rfl)) (fun _ h9 => h9) rfl dX10_told_87 ?_
    obtain rfl := Option.some.inj hf
    exact ow_tretI C0 rfl hP hD hS (Nat.le_of_ble_eq_true rfl) (Nat.le_of_ble_eq_true rfl) dX10_told_90
  replace hf := ow_f hc hf
  have hn3 := hc
  rcases Decidable.em (x1 = 4) with hc | hc
  · replace hf := ow_t hc hf
    refine lv_tableIn (tgt := 91) hx hb dX10_told_8 (by rw [hc]; decide) (by rw [hc]; decide) (by rw [hc]; rfl) (by decide) ?_
    refine lv_aload_n hx hb dX10_told_91 rfl (lv_at hl 0 rfl) ?_
    refine va_get (D := D) (ci := 10) (v := .ref (p0 9)) (C := RX10) (T := TX10) (N := 16) hx hb hts in_X10_told_X10 hown hK hP 0 rfl rfl 9 (by decide) (hts (.fieldLink RX10 63 "PaneDays" "past" "LPaneDays$Past;") (List.mem_of_getElem? (i := 5) rfl)) (fun _ h9 => h9) rfl dX10_told_92 ?_
    refine va_get (D := D) (ci := 4) (v := .ref (p2 0)) (C := RX4) (T := TX4) (N := 3) hx hb hts in_X10_told_X4 hown hK hP 5 rfl rfl 0 (by decide) (hts (.fieldLink RX10 76 "PaneDays$Past" "now" "LPaneDays$Glass;") (List.mem_of_getElem? (i := 6) rfl)) (fun _ h9 => h9) rfl dX10_told_95 ?_
    obtain ⟨q98, hq, hf⟩ := bd_some hf
    refine ow_gVI (As := []) (rest := []) (sg := (S_X10_told cs a0 p0 i0_13 i0_14 q4.2 p1 i1_0 i1_1 v1_2 v1_3 p2 i2_2 p3 i3_3 i3_4 i3_5 i3_6 i3_7 v3_0 v3_1 v3_2 p4 i4_0 i4_6 i4_8 i4_10 i4_11 i4_12 v4_1 v4_2 v4_3 v4_4 v4_5 v4_7 v4_9)) (sc := [wX2 cs (p2 0) p3 i3_3 i3_4 i3_5 i3_6 i3_7 v3_0 v3_1 v3_2]) (sc' := [wX2 cs (p2 0) p3 i3_3 i3_4 i3_5 i3_6 i3_7 v3_0 v3_1 v3_2]) (sr := ow_pks (S_X10_told cs a0 p0 i0_13 i0_14 q4.2 p1 i1_0 i1_1 v1_2 v1_3 p2 i2_2 p3 i3_3 i3_4 i3_5 i3_6 i3_7 v3_0 v3_1 v3_2 p4 i4_0 i4_6 i4_8 i4_10 i4_11 i4_12 v4_1 v4_2 v4_3 v4_4 v4_5 v4_7 v4_9) [0, 1, 2, 4]) (sf := (S_X10_told cs a0 p0 i0_13 i0_14 q4.2 p1 i1_0 i1_1 v1_2 v1_3 p2 i2_2 p3 i3_3 i3_4 i3_5 i3_6 i3_7 v3_0 v3_1 v3_2 p4 i4_0 i4_6 i4_8 i4_10 i4_11 i4_12 v4_1 v4_2 v4_3 v4_4 v4_5 v4_7 v4_9)) (r := q98) C0 (c_X2_filmsOnAll l D cs H.size (p2 0) p3 i3_3 i3_4 i3_5 i3_6 i3_7 v3_0 v3_1 v3_2  q98 hq) (cwV 0 hts gX10_told_X2_filmsOnAll rfl rfl rfl (by decide +kernel) ⟨Nat.le_of_ble_eq_true rfl, Nat.le_of_ble_eq_true rfl⟩) 2 rfl rfl hP hD hS (sg_permL [3] [0, 1, 2, 4] 5 rfl (by decide) rfl rfl) (sg_permG [0, 1, 2, 4, 3] 5 rfl (by decide) rfl) rfl hl.1 rfl (Nat.le_of_ble_eq_true rfl) ⟨(Nat.le_of_ble_eq_true rfl), (Nat.le_of_ble_eq_true rfl)⟩ dX10_told_98 (fun H locs (hP : va_P D vwCl (W_X10_told cs a0 p0 i0_13 i0_14 q4.2 p1 i1_0 i1_1 v1_2 v1_3 p2 i2_2 p3 i3_3 i3_4 i3_5 i3_6 i3_7 v3_0 v3_1 v3_2 p4 i4_0 i4_6 i4_8 i4_10 i4_11 i4_12 v4_1 v4_2 v4_3 v4_4 v4_5 v4_7 v4_9) H) (hD : va_D _ (W_X10_told cs a0 p0 i0_13 i0_14 q4.2 p1 i1_0 i1_1 v1_2 v1_3 p2 i2_2 p3 i3_3 i3_4 i3_5 i3_6 i3_7 v3_0 v3_1 v3_2 p4 i4_0 i4_6 i4_8 i4_10 i4_11 i4_12 v4_1 v4_2 v4_3 v4_4 v4_5 v4_7 v4_9)) hS => ?_)
    obtain rfl := Option.some.inj hf
    exact ow_tretI C0 rfl hP hD hS (Nat.le_of_ble_eq_true rfl) (Nat.le_of_ble_eq_true rfl) dX10_told_101
  replace hf := ow_f hc hf
  have hn4 := hc
  rcases Decidable.em (x1 = 5) with hc | hc
  · replace hf := ow_t hc hf
    refine lv_tableIn (tgt := 102) hx hb dX10_told_8 (by rw [hc]; decide) (by rw [hc]; decide) (by rw [hc]; rfl) (by decide) ?_
    refine lv_aload_n hx hb dX10_told_102 rfl (lv_at hl 0 rfl) ?_
    refine va_get (D := D) (ci := 10) (v := .ref (p0 9)) (C := RX10) (T := TX10) (N := 16) hx hb hts in_X10_told_X10 hown hK hP 0 rfl rfl 9 (by decide) (hts (.fieldLink RX10 63 "PaneDays" "past" "LPaneDays$Past;") (List.mem_of_getElem? (i := 5) rfl)) (fun _ h9 => h9) rfl dX10_told_103 ?_
    refine va_get (D := D) (ci := 4) (v := .ref (p2 0)) (C := RX4) (T := TX4) (N := 3) hx hb hts in_X10_told_X4 hown hK hP 5 rfl rfl 0 (by decide) (hts (.fieldLink RX10 76 "PaneDays$Past" "now" "LPaneDays$Glass;") (List.mem_of_getElem? (i := 6) rfl)) (fun _ h9 => h9) rfl dX10_told_106 ?_
    refine va_get (D := D) (ci := 2) (v := .int i3_3) (C := RX2) (T := TX2) (N := 8) hx hb hts in_X10_told_X2 hown hK hP 6 rfl rfl 3 (by decide) (hts (.fieldLink RX10 180 "PaneDays$Glass" "onRag" "I") (List.mem_of_getElem? (i := 8) rfl)) (fun _ h9 => h9) rfl dX10_told_109 ?_
    obtain rfl := Option.some.inj hf
    exact ow_tretI C0 rfl hP hD hS (Nat.le_of_ble_eq_true rfl) (Nat.le_of_ble_eq_true rfl) dX10_told_112
  replace hf := ow_f hc hf
  have hn5 := hc
  rcases Decidable.em (x1 = 6) with hc | hc
  · replace hf := ow_t hc hf
    refine lv_tableIn (tgt := 113) hx hb dX10_told_8 (by rw [hc]; decide) (by rw [hc]; decide) (by rw [hc]; rfl) (by decide) ?_
    refine lv_aload_n hx hb dX10_told_113 rfl (lv_at hl 0 rfl) ?_
    refine va_get (D := D) (ci := 10) (v := .ref (p0 9)) (C := RX10) (T := TX10) (N := 16) hx hb hts in_X10_told_X10 hown hK hP 0 rfl rfl 9 (by decide) (hts (.fieldLink RX10 63 "PaneDays" "past" "LPaneDays$Past;") (List.mem_of_getElem? (i := 5) rfl)) (fun _ h9 => h9) rfl dX10_told_114 ?_
    refine va_get (D := D) (ci := 4) (v := .ref (p2 0)) (C := RX4) (T := TX4) (N := 3) hx hb hts in_X10_told_X4 hown hK hP 5 rfl rfl 0 (by decide) (hts (.fieldLink RX10 76 "PaneDays$Past" "now" "LPaneDays$Glass;") (List.mem_of_getElem? (i := 6) rfl)) (fun _ h9 => h9) rfl dX10_told_117 ?_
    refine va_get (D := D) (ci := 2) (v := .int i3_5) (C := RX2) (T := TX2) (N := 8) hx hb hts in_X10_told_X2 hown hK hP 6 rfl rfl 5 (by decide) (hts (.fieldLink RX10 183 "PaneDays$Glass" "washed" "I") (List.mem_of_getElem? (i := 9) rfl)) (fun _ h9 => h9) rfl dX10_told_120 ?_
    obtain rfl := Option.some.inj hf
    exact ow_tretI C0 rfl hP hD hS (Nat.le_of_ble_eq_true rfl) (Nat.le_of_ble_eq_true rfl) dX10_told_123
  replace hf := ow_f hc hf
  have hn6 := hc
  rcases Decidable.em (x1 = 7) with hc | hc
  · replace hf := ow_t hc hf
    refine lv_tableIn (tgt := 124) hx hb dX10_told_8 (by rw [hc]; decide) (by rw [hc]; decide) (by rw [hc]; rfl) (by decide) ?_
    refine lv_aload_n hx hb dX10_told_124 rfl (lv_at hl 0 rfl) ?_
    refine va_get (D := D) (ci := 10) (v := .ref (p0 5)) (C := RX10) (T := TX10) (N := 16) hx hb hts in_X10_told_X10 hown hK hP 0 rfl rfl 5 (by decide) (hts (.fieldLink RX10 39 "PaneDays" "book" "LPaneDays$Book;") (List.mem_of_getElem? (i := 10) rfl)) (fun _ h9 => h9) rfl dX10_told_125 ?_
    refine va_get (D := D) (ci := 0) (v := .int i1_0) (C := RX0) (T := TX0) (N := 4) hx hb hts in_X10_told_X0 hown hK hP 2 rfl rfl 0 (by decide) (hts (.fieldLink RX10 153 "PaneDays$Book" "lines" "I") (List.mem_of_getElem? (i := 11) rfl)) (fun _ h9 => h9) rfl dX10_told_128 ?_
    obtain rfl := Option.some.inj hf
    exact ow_tretI C0 rfl hP hD hS (Nat.le_of_ble_eq_true rfl) (Nat.le_of_ble_eq_true rfl) dX10_told_131
  replace hf := ow_f hc hf
  have hn7 := hc
  refine lv_tableOut (x := x1) (tgt := 132) hx hb dX10_told_8 (ow_out (fun z h1 h2 => by rcases (show z = 0 ∨ z = 1 ∨ z = 2 ∨ z = 3 ∨ z = 4 ∨ z = 5 ∨ z = 6 ∨ z = 7 by omega) with rfl | rfl | rfl | rfl | rfl | rfl | rfl | rfl <;> first | exact lv_neT hn0 (by decide) | exact lv_neT hn1 (by decide) | exact lv_neT hn2 (by decide) | exact lv_neT hn3 (by decide) | exact lv_neT hn4 (by decide) | exact lv_neT hn5 (by decide) | exact lv_neT hn6 (by decide) | exact lv_neT hn7 (by decide))) (by decide) ?_
  refine lv_aload_n hx hb dX10_told_132 rfl (lv_at hl 0 rfl) ?_
  refine va_get (D := D) (ci := 10) (v := .int i0_14) (C := RX10) (T := TX10) (N := 16) hx hb hts in_X10_told_X10 hown hK hP 0 rfl rfl 14 (by decide) (hts (.fieldLink RX10 126 "PaneDays" "refusedSteps" "I") (List.mem_of_getElem? (i := 12) rfl)) (fun _ h9 => h9) rfl dX10_told_133 ?_
  obtain rfl := Option.some.inj hf
  exact ow_tretI C0 rfl hP hD hS (Nat.le_of_ble_eq_true rfl) (Nat.le_of_ble_eq_true rfl) dX10_told_136
theorem in_X10_fault_X10 : ∀ w ∈ u_ws RX10 TX10 16, w ∈ wsX10_fault := fun w h => List.mem_cons_of_mem _ (List.mem_append_left _ (List.mem_append_right _ h))
theorem in_X10_fault_X7 : ∀ w ∈ u_ws RX7 TX7 9, w ∈ wsX10_fault := fun w h => List.mem_cons_of_mem _ (List.mem_append_right _ h)
abbrev S_X10_fault (cs : Nat → ClassId) (a0 : Nat) (p0 : Nat → Nat) (i0_13 : Int32) (i0_14 : Int32) (v0_15 : Nat → Int32) (p1 : Nat → Nat) (i1_1 : Int32) (i1_2 : Int32) (i1_3 : Int32) (i1_4 : Int32) (i1_5 : Int32) (i1_6 : Int32) (i1_7 : Int32) (i1_8 : Int32) (v1_0 : Nat → Int32) : List va_W := [wX10 cs a0 p0 i0_13 i0_14 v0_15, wX7 cs (p0 0) p1 i1_1 i1_2 i1_3 i1_4 i1_5 i1_6 i1_7 i1_8 v1_0]
abbrev W_X10_fault (cs : Nat → ClassId) (a0 : Nat) (p0 : Nat → Nat) (i0_13 : Int32) (i0_14 : Int32) (v0_15 : Nat → Int32) (p1 : Nat → Nat) (i1_1 : Int32) (i1_2 : Int32) (i1_3 : Int32) (i1_4 : Int32) (i1_5 : Int32) (i1_6 : Int32) (i1_7 : Int32) (i1_8 : Int32) (v1_0 : Nat → Int32) : va_W := (S_X10_fault cs a0 p0 i0_13 i0_14 v0_15 p1 i1_1 i1_2 i1_3 i1_4 i1_5 i1_6 i1_7 i1_8 v1_0).flatten
abbrev rm_X10_fault : Room := { frames := 0, cells := 0, slots := 0, locals := 0 }
def f_X10_fault  (i1_8 : Int32)  : Option (Int32) := some (i1_8)
set_option maxHeartbeats 4000000 in
set_option maxRecDepth 100000 in
theorem c_X10_fault (l : Launch) (D : va_G) (cs : Nat → ClassId)  (sz : Nat) (a0 : Nat) (p0 : Nat → Nat) (i0_13 : Int32) (i0_14 : Int32) (v0_15 : Nat → Int32) (p1 : Nat → Nat) (i1_1 : Int32) (i1_2 : Int32) (i1_3 : Int32) (i1_4 : Int32) (i1_5 : Int32) (i1_6 : Int32) (i1_7 : Int32) (i1_8 : Int32) (v1_0 : Nat → Int32)  (res : Int32) (hf : f_X10_fault  i1_8  = some res) : MI l D cs yX10_fault wsX10_fault rm_X10_fault [.ref a0] sz (W_X10_fault cs a0 p0 i0_13 i0_14 v0_15 p1 i1_1 i1_2 i1_3 i1_4 i1_5 i1_6 i1_7 i1_8 v1_0) (W_X10_fault cs a0 p0 i0_13 i0_14 v0_15 p1 i1_1 i1_2 i1_3 i1_4 i1_5 i1_6 i1_7 i1_8 v1_0) res := by
  rw [f_X10_fault] at hf
  refine ow_enter (cc := cX10_fault) (nL := 1) (ret := (some .int)) (by decide) rfl (Nat.le_of_ble_eq_true rfl) (fun p e s m below meth c ls H locs C0 hP hD hS hA hl => ?_)
  obtain ⟨hx, hb, hr, hlk, hml, hown, hts, hK, hG, hE⟩ := id C0
  have hl : lv_has ls 1 [(0, .ref a0)] := hl
  refine lv_aload_n hx hb dX10_fault_0 rfl (lv_at hl 0 rfl) ?_
  refine va_get (D := D) (ci := 10) (v := .ref (p0 0)) (C := RX10) (T := TX10) (N := 16) hx hb hts in_X10_fault_X10 hown hK hP 0 rfl rfl 0 (by decide) (hts (.fieldLink RX10 10 "PaneDays" "tape" "LPaneDays$Tape;") (List.mem_of_getElem? (i := 1) rfl)) (fun _ h9 => h9) rfl dX10_fault_1 ?_
  refine va_get (D := D) (ci := 7) (v := .int i1_8) (C := RX7) (T := TX7) (N := 9) hx hb hts in_X10_fault_X7 hown hK hP 2 rfl rfl 8 (by decide) (hts (.fieldLink RX10 156 "PaneDays$Tape" "place" "I") (List.mem_of_getElem? (i := 2) rfl)) (fun _ h9 => h9) rfl dX10_fault_4 ?_
  obtain rfl := Option.some.inj hf
  exact ow_retI C0 hP hD hS dX10_fault_7
theorem in_X10_feed_X10 : ∀ w ∈ u_ws RX10 TX10 16, w ∈ wsX10_feed := fun w h => List.mem_cons_of_mem _ (List.mem_append_left _ (List.mem_append_right _ h))
theorem in_X10_feed_X7 : ∀ w ∈ u_ws RX7 TX7 9, w ∈ wsX10_feed := fun w h => List.mem_cons_of_mem _ (List.mem_append_right _ h)
abbrev S_X10_feed (cs : Nat → ClassId) (a0 : Nat) (p0 : Nat → Nat) (i0_13 : Int32) (i0_14 : Int32) (v0_15 : Nat → Int32) (p1 : Nat → Nat) (i1_1 : Int32) (i1_2 : Int32) (i1_3 : Int32) (i1_4 : Int32) (i1_5 : Int32) (i1_6 : Int32) (i1_7 : Int32) (i1_8 : Int32) (v1_0 : Nat → Int32) : List va_W := [wX10 cs a0 p0 i0_13 i0_14 v0_15, wX7 cs (p0 0) p1 i1_1 i1_2 i1_3 i1_4 i1_5 i1_6 i1_7 i1_8 v1_0]
abbrev W_X10_feed (cs : Nat → ClassId) (a0 : Nat) (p0 : Nat → Nat) (i0_13 : Int32) (i0_14 : Int32) (v0_15 : Nat → Int32) (p1 : Nat → Nat) (i1_1 : Int32) (i1_2 : Int32) (i1_3 : Int32) (i1_4 : Int32) (i1_5 : Int32) (i1_6 : Int32) (i1_7 : Int32) (i1_8 : Int32) (v1_0 : Nat → Int32) : va_W := (S_X10_feed cs a0 p0 i0_13 i0_14 v0_15 p1 i1_1 i1_2 i1_3 i1_4 i1_5 i1_6 i1_7 i1_8 v1_0).flatten
abbrev rm_X10_feed : Room := { frames := 1, cells := 0, slots := 0, locals := 22 }
def f_X10_feed  (i1_1 : Int32) (v1_0 : Nat → Int32) (x1 : Int32) (x2 : Int32) (x3 : Int32) (x4 : Int32) (x5 : Int32) : Option (Int32 × Int32 × (Nat → Int32)) := (f_X7_hasRoom i1_1).bind fun q4 => if q4 = 0 then (some ((-1), i1_1, v1_0)) else ((f_X7_put i1_1 v1_0 x1).bind fun q17 => (f_X7_put q17.1 q17.2 x2).bind fun q25 => (f_X7_put q25.1 q25.2 x3).bind fun q33 => (f_X7_put q33.1 q33.2 x4).bind fun q42 => (f_X7_put q42.1 q42.2 x5).bind fun q51 => some (q51.1, q51.1, q51.2))
set_option maxHeartbeats 4000000 in
set_option maxRecDepth 100000 in
theorem c_X10_feed (l : Launch) (D : va_G) (cs : Nat → ClassId)  (sz : Nat) (a0 : Nat) (p0 : Nat → Nat) (i0_13 : Int32) (i0_14 : Int32) (v0_15 : Nat → Int32) (p1 : Nat → Nat) (i1_1 : Int32) (i1_2 : Int32) (i1_3 : Int32) (i1_4 : Int32) (i1_5 : Int32) (i1_6 : Int32) (i1_7 : Int32) (i1_8 : Int32) (v1_0 : Nat → Int32) (x1 : Int32) (x2 : Int32) (x3 : Int32) (x4 : Int32) (x5 : Int32) (res : Int32 × Int32 × (Nat → Int32)) (hf : f_X10_feed  i1_1 v1_0 x1 x2 x3 x4 x5 = some res) : MI l D cs yX10_feed wsX10_feed rm_X10_feed [.ref a0, .int x1, .int x2, .int x3, .int x4, .int x5] sz (W_X10_feed cs a0 p0 i0_13 i0_14 v0_15 p1 i1_1 i1_2 i1_3 i1_4 i1_5 i1_6 i1_7 i1_8 v1_0) (W_X10_feed cs a0 p0 i0_13 i0_14 v0_15 p1 res.2.1 i1_2 i1_3 i1_4 i1_5 i1_6 i1_7 i1_8 res.2.2) res.1 := by
  rw [f_X10_feed] at hf
  refine ow_enter (cc := cX10_feed) (nL := 6) (ret := (some .int)) (by decide) rfl (Nat.le_of_ble_eq_true rfl) (fun p e s m below meth c ls H locs C0 hP hD hS hA hl => ?_)
  obtain ⟨hx, hb, hr, hlk, hml, hown, hts, hK, hG, hE⟩ := id C0
  have hl : lv_has ls 6 [(0, .ref a0), (1, .int x1), (2, .int x2), (3, .int x3), (4, .int x4), (5, .int x5)] := hl
  refine lv_aload_n hx hb dX10_feed_0 rfl (lv_at hl 0 rfl) ?_
  refine va_get (D := D) (ci := 10) (v := .ref (p0 0)) (C := RX10) (T := TX10) (N := 16) hx hb hts in_X10_feed_X10 hown hK hP 0 rfl rfl 0 (by decide) (hts (.fieldLink RX10 10 "PaneDays" "tape" "LPaneDays$Tape;") (List.mem_of_getElem? (i := 1) rfl)) (fun _ h9 => h9) rfl dX10_feed_1 ?_
  obtain ⟨q4, hq, hf⟩ := bd_some hf
  refine ow_gVI (As := []) (rest := []) (sg := (S_X10_feed cs a0 p0 i0_13 i0_14 v0_15 p1 i1_1 i1_2 i1_3 i1_4 i1_5 i1_6 i1_7 i1_8 v1_0)) (sc := [wX7 cs (p0 0) p1 i1_1 i1_2 i1_3 i1_4 i1_5 i1_6 i1_7 i1_8 v1_0]) (sc' := [wX7 cs (p0 0) p1 i1_1 i1_2 i1_3 i1_4 i1_5 i1_6 i1_7 i1_8 v1_0]) (sr := ow_pks (S_X10_feed cs a0 p0 i0_13 i0_14 v0_15 p1 i1_1 i1_2 i1_3 i1_4 i1_5 i1_6 i1_7 i1_8 v1_0) [0]) (sf := (S_X10_feed cs a0 p0 i0_13 i0_14 v0_15 p1 i1_1 i1_2 i1_3 i1_4 i1_5 i1_6 i1_7 i1_8 v1_0)) (r := q4) C0 (c_X7_hasRoom l D cs H.size (p0 0) p1 i1_1 i1_2 i1_3 i1_4 i1_5 i1_6 i1_7 i1_8 v1_0  q4 hq) (cwV 0 hts gX10_feed_X7_hasRoom rfl rfl rfl (by decide +kernel) ⟨Nat.le_of_ble_eq_true rfl, Nat.le_of_ble_eq_true rfl⟩) 7 rfl rfl hP hD hS (sg_permL [1] [0] 2 rfl (by decide) rfl rfl) (sg_permG [0, 1] 2 rfl (by decide) rfl) rfl hl.1 rfl (Nat.le_of_ble_eq_true rfl) ⟨(Nat.le_of_ble_eq_true rfl), (Nat.le_of_ble_eq_true rfl)⟩ dX10_feed_4 (fun H locs (hP : va_P D vwCl (W_X10_feed cs a0 p0 i0_13 i0_14 v0_15 p1 i1_1 i1_2 i1_3 i1_4 i1_5 i1_6 i1_7 i1_8 v1_0) H) (hD : va_D _ (W_X10_feed cs a0 p0 i0_13 i0_14 v0_15 p1 i1_1 i1_2 i1_3 i1_4 i1_5 i1_6 i1_7 i1_8 v1_0)) hS => ?_)
  refine lv_if_ne (tgt := 12) hx hb dX10_feed_7 (by decide) (fun hc => ?_) (fun hc => ?_)
  · replace hf := ow_f hc hf
    refine lv_aload_n hx hb dX10_feed_12 rfl (lv_at hl 0 rfl) ?_
    refine va_get (D := D) (ci := 10) (v := .ref (p0 0)) (C := RX10) (T := TX10) (N := 16) hx hb hts in_X10_feed_X10 hown hK hP 0 rfl rfl 0 (by decide) (hts (.fieldLink RX10 10 "PaneDays" "tape" "LPaneDays$Tape;") (List.mem_of_getElem? (i := 1) rfl)) (fun _ h9 => h9) rfl dX10_feed_13 ?_
    refine lv_iload_n hx hb dX10_feed_16 rfl (lv_at hl 1 rfl) ?_
    obtain ⟨q17, hq, hf⟩ := bd_some hf
    refine ow_gVV (As := [.int x1]) (rest := []) (sg := (S_X10_feed cs a0 p0 i0_13 i0_14 v0_15 p1 i1_1 i1_2 i1_3 i1_4 i1_5 i1_6 i1_7 i1_8 v1_0)) (sc := [wX7 cs (p0 0) p1 i1_1 i1_2 i1_3 i1_4 i1_5 i1_6 i1_7 i1_8 v1_0]) (sc' := [wX7 cs (p0 0) p1 q17.1 i1_2 i1_3 i1_4 i1_5 i1_6 i1_7 i1_8 q17.2]) (sr := ow_pks (S_X10_feed cs a0 p0 i0_13 i0_14 v0_15 p1 i1_1 i1_2 i1_3 i1_4 i1_5 i1_6 i1_7 i1_8 v1_0) [0]) (sf := (S_X10_feed cs a0 p0 i0_13 i0_14 v0_15 p1 q17.1 i1_2 i1_3 i1_4 i1_5 i1_6 i1_7 i1_8 q17.2)) C0 (c_X7_put l D cs H.size (p0 0) p1 i1_1 i1_2 i1_3 i1_4 i1_5 i1_6 i1_7 i1_8 v1_0 x1 q17 hq) (cwV 1 hts gX10_feed_X7_put rfl rfl rfl (by decide +kernel) ⟨Nat.le_of_ble_eq_true rfl, Nat.le_of_ble_eq_true rfl⟩) 7 rfl rfl hP hD hS (sg_permL [1] [0] 2 rfl (by decide) rfl rfl) (sg_permG [0, 1] 2 rfl (by decide) rfl) rfl hl.1 rfl (Nat.le_of_ble_eq_true rfl) ⟨(Nat.le_of_ble_eq_true rfl), (Nat.le_of_ble_eq_true rfl)⟩ dX10_feed_17 (fun H locs (hP : va_P D vwCl (W_X10_feed cs a0 p0 i0_13 i0_14 v0_15 p1 q17.1 i1_2 i1_3 i1_4 i1_5 i1_6 i1_7 i1_8 q17.2) H) (hD : va_D _ (W_X10_feed cs a0 p0 i0_13 i0_14 v0_15 p1 q17.1 i1_2 i1_3 i1_4 i1_5 i1_6 i1_7 i1_8 q17.2)) hS => ?_)
    refine lv_aload_n hx hb dX10_feed_20 rfl (lv_at hl 0 rfl) ?_
    refine va_get (D := D) (ci := 10) (v := .ref (p0 0)) (C := RX10) (T := TX10) (N := 16) hx hb hts in_X10_feed_X10 hown hK hP 0 rfl rfl 0 (by decide) (hts (.fieldLink RX10 10 "PaneDays" "tape" "LPaneDays$Tape;") (List.mem_of_getElem? (i := 1) rfl)) (fun _ h9 => h9) rfl dX10_feed_21 ?_
    refine lv_iload_n hx hb dX10_feed_24 rfl (lv_at hl 2 rfl) ?_
    obtain ⟨q25, hq, hf⟩ := bd_some hf
    refine ow_gVV (As := [.int x2]) (rest := []) (sg := (S_X10_feed cs a0 p0 i0_13 i0_14 v0_15 p1 q17.1 i1_2 i1_3 i1_4 i1_5 i1_6 i1_7 i1_8 q17.2)) (sc := [wX7 cs (p0 0) p1 q17.1 i1_2 i1_3 i1_4 i1_5 i1_6 i1_7 i1_8 q17.2]) (sc' := [wX7 cs (p0 0) p1 q25.1 i1_2 i1_3 i1_4 i1_5 i1_6 i1_7 i1_8 q25.2]) (sr := ow_pks (S_X10_feed cs a0 p0 i0_13 i0_14 v0_15 p1 q17.1 i1_2 i1_3 i1_4 i1_5 i1_6 i1_7 i1_8 q17.2) [0]) (sf := (S_X10_feed cs a0 p0 i0_13 i0_14 v0_15 p1 q25.1 i1_2 i1_3 i1_4 i1_5 i1_6 i1_7 i1_8 q25.2)) C0 (c_X7_put l D cs H.size (p0 0) p1 q17.1 i1_2 i1_3 i1_4 i1_5 i1_6 i1_7 i1_8 q17.2 x2 q25 hq) (cwV 1 hts gX10_feed_X7_put rfl rfl rfl (by decide +kernel) ⟨Nat.le_of_ble_eq_true rfl, Nat.le_of_ble_eq_true rfl⟩) 7 rfl rfl hP hD hS (sg_permL [1] [0] 2 rfl (by decide) rfl rfl) (sg_permG [0, 1] 2 rfl (by decide) rfl) rfl hl.1 rfl (Nat.le_of_ble_eq_true rfl) ⟨(Nat.le_of_ble_eq_true rfl), (Nat.le_of_ble_eq_true rfl)⟩ dX10_feed_25 (fun H locs (hP : va_P D vwCl (W_X10_feed cs a0 p0 i0_13 i0_14 v0_15 p1 q25.1 i1_2 i1_3 i1_4 i1_5 i1_6 i1_7 i1_8 q25.2) H) (hD : va_D _ (W_X10_feed cs a0 p0 i0_13 i0_14 v0_15 p1 q25.1 i1_2 i1_3 i1_4 i1_5 i1_6 i1_7 i1_8 q25.2)) hS => ?_)
    refine lv_aload_n hx hb dX10_feed_28 rfl (lv_at hl 0 rfl) ?_
    refine va_get (D := D) (ci := 10) (v := .ref (p0 0)) (C := RX10) (T := TX10) (N := 16) hx hb hts in_X10_feed_X10 hown hK hP 0 rfl rfl 0 (by decide) (hts (.fieldLink RX10 10 "PaneDays" "tape" "LPaneDays$Tape;") (List.mem_of_getElem? (i := 1) rfl)) (fun _ h9 => h9) rfl dX10_feed_29 ?_
    refine lv_iload_n hx hb dX10_feed_32 rfl (lv_at hl 3 rfl) ?_
    obtain ⟨q33, hq, hf⟩ := bd_some hf
    refine ow_gVV (As := [.int x3]) (rest := []) (sg := (S_X10_feed cs a0 p0 i0_13 i0_14 v0_15 p1 q25.1 i1_2 i1_3 i1_4 i1_5 i1_6 i1_7 i1_8 q25.2)) (sc := [wX7 cs (p0 0) p1 q25.1 i1_2 i1_3 i1_4 i1_5 i1_6 i1_7 i1_8 q25.2]) (sc' := [wX7 cs (p0 0) p1 q33.1 i1_2 i1_3 i1_4 i1_5 i1_6 i1_7 i1_8 q33.2]) (sr := ow_pks (S_X10_feed cs a0 p0 i0_13 i0_14 v0_15 p1 q25.1 i1_2 i1_3 i1_4 i1_5 i1_6 i1_7 i1_8 q25.2) [0]) (sf := (S_X10_feed cs a0 p0 i0_13 i0_14 v0_15 p1 q33.1 i1_2 i1_3 i1_4 i1_5 i1_6 i1_7 i1_8 q33.2)) C0 (c_X7_put l D cs H.size (p0 0) p1 q25.1 i1_2 i1_3 i1_4 i1_5 i1_6 i1_7 i1_8 q25.2 x3 q33 hq) (cwV 1 hts gX10_feed_X7_put rfl rfl rfl (by decide +kernel) ⟨Nat.le_of_ble_eq_true rfl, Nat.le_of_ble_eq_true rfl⟩) 7 rfl rfl hP hD hS (sg_permL [1] [0] 2 rfl (by decide) rfl rfl) (sg_permG [0, 1] 2 rfl (by decide) rfl) rfl hl.1 rfl (Nat.le_of_ble_eq_true rfl) ⟨(Nat.le_of_ble_eq_true rfl), (Nat.le_of_ble_eq_true rfl)⟩ dX10_feed_33 (fun H locs (hP : va_P D vwCl (W_X10_feed cs a0 p0 i0_13 i0_14 v0_15 p1 q33.1 i1_2 i1_3 i1_4 i1_5 i1_6 i1_7 i1_8 q33.2) H) (hD : va_D _ (W_X10_feed cs a0 p0 i0_13 i0_14 v0_15 p1 q33.1 i1_2 i1_3 i1_4 i1_5 i1_6 i1_7 i1_8 q33.2)) hS => ?_)
    refine lv_aload_n hx hb dX10_feed_36 rfl (lv_at hl 0 rfl) ?_
    refine va_get (D := D) (ci := 10) (v := .ref (p0 0)) (C := RX10) (T := TX10) (N := 16) hx hb hts in_X10_feed_X10 hown hK hP 0 rfl rfl 0 (by decide) (hts (.fieldLink RX10 10 "PaneDays" "tape" "LPaneDays$Tape;") (List.mem_of_getElem? (i := 1) rfl)) (fun _ h9 => h9) rfl dX10_feed_37 ?_
    refine lv_iload hx hb dX10_feed_40 (lv_at hl 4 rfl) ?_
    obtain ⟨q42, hq, hf⟩ := bd_some hf
    refine ow_gVV (As := [.int x4]) (rest := []) (sg := (S_X10_feed cs a0 p0 i0_13 i0_14 v0_15 p1 q33.1 i1_2 i1_3 i1_4 i1_5 i1_6 i1_7 i1_8 q33.2)) (sc := [wX7 cs (p0 0) p1 q33.1 i1_2 i1_3 i1_4 i1_5 i1_6 i1_7 i1_8 q33.2]) (sc' := [wX7 cs (p0 0) p1 q42.1 i1_2 i1_3 i1_4 i1_5 i1_6 i1_7 i1_8 q42.2]) (sr := ow_pks (S_X10_feed cs a0 p0 i0_13 i0_14 v0_15 p1 q33.1 i1_2 i1_3 i1_4 i1_5 i1_6 i1_7 i1_8 q33.2) [0]) (sf := (S_X10_feed cs a0 p0 i0_13 i0_14 v0_15 p1 q42.1 i1_2 i1_3 i1_4 i1_5 i1_6 i1_7 i1_8 q42.2)) C0 (c_X7_put l D cs H.size (p0 0) p1 q33.1 i1_2 i1_3 i1_4 i1_5 i1_6 i1_7 i1_8 q33.2 x4 q42 hq) (cwV 1 hts gX10_feed_X7_put rfl rfl rfl (by decide +kernel) ⟨Nat.le_of_ble_eq_true rfl, Nat.le_of_ble_eq_true rfl⟩) 7 rfl rfl hP hD hS (sg_permL [1] [0] 2 rfl (by decide) rfl rfl) (sg_permG [0, 1] 2 rfl (by decide) rfl) rfl hl.1 rfl (Nat.le_of_ble_eq_true rfl) ⟨(Nat.le_of_ble_eq_true rfl), (Nat.le_of_ble_eq_true rfl)⟩ dX10_feed_42 (fun H locs (hP : va_P D vwCl (W_X10_feed cs a0 p0 i0_13 i0_14 v0_15 p1 q42.1 i1_2 i1_3 i1_4 i1_5 i1_6 i1_7 i1_8 q42.2) H) (hD : va_D _ (W_X10_feed cs a0 p0 i0_13 i0_14 v0_15 p1 q42.1 i1_2 i1_3 i1_4 i1_5 i1_6 i1_7 i1_8 q42.2)) hS => ?_)
    refine lv_aload_n hx hb dX10_feed_45 rfl (lv_at hl 0 rfl) ?_
    refine va_get (D := D) (ci := 10) (v := .ref (p0 0)) (C := RX10) (T := TX10) (N := 16) hx hb hts in_X10_feed_X10 hown hK hP 0 rfl rfl 0 (by decide) (hts (.fieldLink RX10 10 "PaneDays" "tape" "LPaneDays$Tape;") (List.mem_of_getElem? (i := 1) rfl)) (fun _ h9 => h9) rfl dX10_feed_46 ?_
    refine lv_iload hx hb dX10_feed_49 (lv_at hl 5 rfl) ?_
    obtain ⟨q51, hq, hf⟩ := bd_some hf
    refine ow_gVV (As := [.int x5]) (rest := []) (sg := (S_X10_feed cs a0 p0 i0_13 i0_14 v0_15 p1 q42.1 i1_2 i1_3 i1_4 i1_5 i1_6 i1_7 i1_8 q42.2)) (sc := [wX7 cs (p0 0) p1 q42.1 i1_2 i1_3 i1_4 i1_5 i1_6 i1_7 i1_8 q42.2]) (sc' := [wX7 cs (p0 0) p1 q51.1 i1_2 i1_3 i1_4 i1_5 i1_6 i1_7 i1_8 q51.2]) (sr := ow_pks (S_X10_feed cs a0 p0 i0_13 i0_14 v0_15 p1 q42.1 i1_2 i1_3 i1_4 i1_5 i1_6 i1_7 i1_8 q42.2) [0]) (sf := (S_X10_feed cs a0 p0 i0_13 i0_14 v0_15 p1 q51.1 i1_2 i1_3 i1_4 i1_5 i1_6 i1_7 i1_8 q51.2)) C0 (c_X7_put l D cs H.size (p0 0) p1 q42.1 i1_2 i1_3 i1_4 i1_5 i1_6 i1_7 i1_8 q42.2 x5 q51 hq) (cwV 1 hts gX10_feed_X7_put rfl rfl rfl (by decide +kernel) ⟨Nat.le_of_ble_eq_true rfl, Nat.le_of_ble_eq_true rfl⟩) 7 rfl rfl hP hD hS (sg_permL [1] [0] 2 rfl (by decide) rfl rfl) (sg_permG [0, 1] 2 rfl (by decide) rfl) rfl hl.1 rfl (Nat.le_of_ble_eq_true rfl) ⟨(Nat.le_of_ble_eq_true rfl), (Nat.le_of_ble_eq_true rfl)⟩ dX10_feed_51 (fun H locs (hP : va_P D vwCl (W_X10_feed cs a0 p0 i0_13 i0_14 v0_15 p1 q51.1 i1_2 i1_3 i1_4 i1_5 i1_6 i1_7 i1_8 q51.2) H) (hD : va_D _ (W_X10_feed cs a0 p0 i0_13 i0_14 v0_15 p1 q51.1 i1_2 i1_3 i1_4 i1_5 i1_6 i1_7 i1_8 q51.2)) hS => ?_)
    refine lv_aload_n hx hb dX10_feed_54 rfl (lv_at hl 0 rfl) ?_
    refine va_get (D := D) (ci := 10) (v := .ref (p0 0)) (C := RX10) (T := TX10) (N := 16) hx hb hts in_X10_feed_X10 hown hK hP 0 rfl rfl 0 (by decide) (hts (.fieldLink RX10 10 "PaneDays" "tape" "LPaneDays$Tape;") (List.mem_of_getElem? (i := 1) rfl)) (fun _ h9 => h9) rfl dX10_feed_55 ?_
    refine va_get (D := D) (ci := 7) (v := .int q51.1) (C := RX7) (T := TX7) (N := 9) hx hb hts in_X10_feed_X7 hown hK hP 2 rfl rfl 1 (by decide) (hts (.fieldLink RX10 103 "PaneDays$Tape" "count" "I") (List.mem_of_getElem? (i := 2) rfl)) (fun _ h9 => h9) rfl dX10_feed_58 ?_
    obtain rfl := Option.some.inj hf
    exact ow_retI C0 hP hD hS dX10_feed_61
  · replace hf := ow_t hc hf
    refine lv_iconst (v := (-1)) hx hb dX10_feed_10 (by decide) ?_
    obtain rfl := Option.some.inj hf
    exact ow_retI C0 hP hD hS dX10_feed_11

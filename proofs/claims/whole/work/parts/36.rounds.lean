theorem in_X5_goOn_X5 : ∀ w ∈ u_ws RX5 TX5 3, w ∈ wsX5_goOn := fun w h => List.mem_cons_of_mem _ (List.mem_append_left _ (List.mem_append_right _ h))
theorem in_X5_goOn_X6 : ∀ w ∈ u_ws RX6 TX6 13, w ∈ wsX5_goOn := fun w h => List.mem_cons_of_mem _ (List.mem_append_right _ h)
abbrev W_X5_goOn (cs : Nat → ClassId) (a0 : Nat) (p0 : Nat → Nat) (i0_0 : Int32) (i0_1 : Int32) (v0_2 : Nat → Int32) (a1 : Nat) (p1 : Nat → Nat) (i1_0 : Int32) (i1_6 : Int32) (i1_8 : Int32) (i1_10 : Int32) (i1_11 : Int32) (i1_12 : Int32) (v1_1 : Nat → Int32) (v1_2 : Nat → Int32) (v1_3 : Nat → Int32) (v1_4 : Nat → Int32) (v1_5 : Nat → Int32) (v1_7 : Nat → Int32) (v1_9 : Nat → Int32) : va_W := wX5 cs a0 p0 i0_0 i0_1 v0_2 ++ wX6 cs a1 p1 i1_0 i1_6 i1_8 i1_10 i1_11 i1_12 v1_1 v1_2 v1_3 v1_4 v1_5 v1_7 v1_9
abbrev rm_X5_goOn (n : Nat) : Room := { frames := 1 * n, cells := 0, slots := 0, locals := 30 * n }
def f_X5_goOn_b21 (F : (Int32) → (Int32) → (Nat → Int32) → (Int32) → (Int32) → (Nat → Int32) → (Nat → Int32) → Int32 → Int32 → Int32 → Int32 → Int32 → Option (Int32 × Int32)) (v0_2 : Nat → Int32) (i1_10 : Int32) (i1_11 : Int32) (v1_3 : Nat → Int32) (v1_4 : Nat → Int32)  (i0_0 : Int32) (i0_1 : Int32) (x5 : Int32) (x6 : Int32) : Option (Int32 × Int32) := some (x5, x6)
set_option maxHeartbeats 4000000 in
set_option maxRecDepth 100000 in
theorem w_X5_goOn_b21 {p : Program} {l : Launch} {e : Env} {s : State} {m : MethodId} {below : List Frame} {meth : Method} {c : Code} {D : va_G} {cs : Nat → ClassId} {av : Array Value} {w0 : va_W} (C0 : Cx p s m meth c av wsX5_goOn cX5_goOn 11 none RX5 D cs w0) (F : (Int32) → (Int32) → (Nat → Int32) → (Int32) → (Int32) → (Nat → Int32) → (Nat → Int32) → Int32 → Int32 → Int32 → Int32 → Int32 → Option (Int32 × Int32)) (n0 : Nat) (hF : ∀ (sz : Nat) (a0 : Nat) (p0 : Nat → Nat) (i0_0 : Int32) (i0_1 : Int32) (v0_2 : Nat → Int32) (a1 : Nat) (p1 : Nat → Nat) (i1_0 : Int32) (i1_6 : Int32) (i1_8 : Int32) (i1_10 : Int32) (i1_11 : Int32) (i1_12 : Int32) (v1_1 : Nat → Int32) (v1_2 : Nat → Int32) (v1_3 : Nat → Int32) (v1_4 : Nat → Int32) (v1_5 : Nat → Int32) (v1_7 : Nat → Int32) (v1_9 : Nat → Int32) (x2 : Int32) (x3 : Int32) (x4 : Int32) (x5 : Int32) (x6 : Int32) (res : Int32 × Int32), F i0_0 i0_1 v0_2 i1_10 i1_11 v1_3 v1_4 x2 x3 x4 x5 x6 = some res → MV l D cs yX5_goOn wsX5_goOn (rm_X5_goOn n0) [.ref a0, .ref a1, .int x2, .int x3, .int x4, .int x5, .int x6] sz (W_X5_goOn cs a0 p0 i0_0 i0_1 v0_2 a1 p1 i1_0 i1_6 i1_8 i1_10 i1_11 i1_12 v1_1 v1_2 v1_3 v1_4 v1_5 v1_7 v1_9) (W_X5_goOn cs a0 p0 res.1 res.2 v0_2 a1 p1 i1_0 i1_6 i1_8 i1_10 i1_11 i1_12 v1_1 v1_2 v1_3 v1_4 v1_5 v1_7 v1_9)) (a0 : Nat) (p0 : Nat → Nat) (v0_2 : Nat → Int32) (a1 : Nat) (p1 : Nat → Nat) (i1_0 : Int32) (i1_6 : Int32) (i1_8 : Int32) (i1_10 : Int32) (i1_11 : Int32) (i1_12 : Int32) (v1_1 : Nat → Int32) (v1_2 : Nat → Int32) (v1_3 : Nat → Int32) (v1_4 : Nat → Int32) (v1_5 : Nat → Int32) (v1_7 : Nat → Int32) (v1_9 : Nat → Int32) (res : Int32 × Int32)  : ∀ (i0_0 : Int32) (i0_1 : Int32) (x5 : Int32) (x6 : Int32), f_X5_goOn_b21 F v0_2 i1_10 i1_11 v1_3 v1_4 i0_0 i0_1 x5 x6 = some res → ∀ (H : Heap) (locs : List Loc) (ls : Array Slot), va_P D vwCl (W_X5_goOn cs a0 p0 i0_0 i0_1 v0_2 a1 p1 i1_0 i1_6 i1_8 i1_10 i1_11 i1_12 v1_1 v1_2 v1_3 v1_4 v1_5 v1_7 v1_9) H → va_D (va_A w0 s.heap.size) (W_X5_goOn cs a0 p0 i0_0 i0_1 v0_2 a1 p1 i1_0 i1_6 i1_8 i1_10 i1_11 i1_12 v1_1 v1_2 v1_3 v1_4 v1_5 v1_7 v1_9) → va_S (va_A w0 s.heap.size) s.heap H locs → lv_has ls 11 [(0, .ref a0), (5, .int x5), (6, .int x6)] → W p l e (rm_X5_goOn (n0 + 1)) s m av below meth c H locs 0 0 (MQ below (oV D cs w0 (W_X5_goOn cs a0 p0 res.1 res.2 v0_2 a1 p1 i1_0 i1_6 i1_8 i1_10 i1_11 i1_12 v1_1 v1_2 v1_3 v1_4 v1_5 v1_7 v1_9) s.heap.size) av s 0 0 (va_A w0 s.heap.size)) (F0 m 21 ls []) := by
  obtain ⟨hx, hb, hr, hlk, hml, hown, hts, hK, hG, hE⟩ := id C0
  intro i0_0 i0_1 x5 x6 hf H locs ls hP hD hS hl
  rw [f_X5_goOn_b21] at hf
  refine lv_aload_n hx hb dX5_goOn_21 rfl (lv_at hl 0 rfl) ?_
  refine lv_iload hx hb dX5_goOn_22 (lv_at hl 1 rfl) ?_
  refine va_put (D := D) (ci := 5) (v := .int x5) (ty := .int) (C := RX5) (T := TX5) (N := 3) hx hb hts in_X5_goOn_X5 tyX5 tyX5_ok nmX5 hown hK hP hD hS 0 rfl rfl 0 (by decide) (hts (.fieldLink RX5 41 "PaneDays$Rounds" "fewest" "I") (List.mem_of_getElem? (i := 1) rfl)) (fun _ h9 => h9) rfl (by decide +kernel) rfl rfl (Nat.le_of_ble_eq_true rfl) dX5_goOn_24 (fun H locs (hP : va_P D vwCl (W_X5_goOn cs a0 p0 x5 i0_1 v0_2 a1 p1 i1_0 i1_6 i1_8 i1_10 i1_11 i1_12 v1_1 v1_2 v1_3 v1_4 v1_5 v1_7 v1_9) H) (hD : va_D _ (W_X5_goOn cs a0 p0 x5 i0_1 v0_2 a1 p1 i1_0 i1_6 i1_8 i1_10 i1_11 i1_12 v1_1 v1_2 v1_3 v1_4 v1_5 v1_7 v1_9)) hS => ?_)
  refine lv_aload_n hx hb dX5_goOn_27 rfl (lv_at hl 0 rfl) ?_
  refine lv_iload hx hb dX5_goOn_28 (lv_at hl 2 rfl) ?_
  refine va_put (D := D) (ci := 5) (v := .int x6) (ty := .int) (C := RX5) (T := TX5) (N := 3) hx hb hts in_X5_goOn_X5 tyX5 tyX5_ok nmX5 hown hK hP hD hS 0 rfl rfl 1 (by decide) (hts (.fieldLink RX5 44 "PaneDays$Rounds" "bestRow" "I") (List.mem_of_getElem? (i := 2) rfl)) (fun _ h9 => h9) rfl (by decide +kernel) rfl rfl (Nat.le_of_ble_eq_true rfl) dX5_goOn_30 (fun H locs (hP : va_P D vwCl (W_X5_goOn cs a0 p0 x5 x6 v0_2 a1 p1 i1_0 i1_6 i1_8 i1_10 i1_11 i1_12 v1_1 v1_2 v1_3 v1_4 v1_5 v1_7 v1_9) H) (hD : va_D _ (W_X5_goOn cs a0 p0 x5 x6 v0_2 a1 p1 i1_0 i1_6 i1_8 i1_10 i1_11 i1_12 v1_1 v1_2 v1_3 v1_4 v1_5 v1_7 v1_9)) hS => ?_)
  obtain rfl := Option.some.inj hf
  exact ow_retV C0 hP hD hS dX5_goOn_33
def f_X5_goOn_b153 (F : (Int32) → (Int32) → (Nat → Int32) → (Int32) → (Int32) → (Nat → Int32) → (Nat → Int32) → Int32 → Int32 → Int32 → Int32 → Int32 → Option (Int32 × Int32)) (v0_2 : Nat → Int32) (i1_10 : Int32) (i1_11 : Int32) (v1_3 : Nat → Int32) (v1_4 : Nat → Int32) (k37 : (Int32) → (Int32) → Int32 → Int32 → Int32 → Int32 → Int32 → Int32 → Option (Int32 × Int32)) (i0_0 : Int32) (i0_1 : Int32) (x2 : Int32) (x3 : Int32) (x4 : Int32) (x5 : Int32) (x6 : Int32) (x7 : Int32) : Option (Int32 × Int32) := k37 i0_0 i0_1 x2 x3 x4 x5 x6 (x7 + 1)
set_option maxHeartbeats 4000000 in
set_option maxRecDepth 100000 in
theorem w_X5_goOn_b153 {p : Program} {l : Launch} {e : Env} {s : State} {m : MethodId} {below : List Frame} {meth : Method} {c : Code} {D : va_G} {cs : Nat → ClassId} {av : Array Value} {w0 : va_W} (C0 : Cx p s m meth c av wsX5_goOn cX5_goOn 11 none RX5 D cs w0) (F : (Int32) → (Int32) → (Nat → Int32) → (Int32) → (Int32) → (Nat → Int32) → (Nat → Int32) → Int32 → Int32 → Int32 → Int32 → Int32 → Option (Int32 × Int32)) (n0 : Nat) (hF : ∀ (sz : Nat) (a0 : Nat) (p0 : Nat → Nat) (i0_0 : Int32) (i0_1 : Int32) (v0_2 : Nat → Int32) (a1 : Nat) (p1 : Nat → Nat) (i1_0 : Int32) (i1_6 : Int32) (i1_8 : Int32) (i1_10 : Int32) (i1_11 : Int32) (i1_12 : Int32) (v1_1 : Nat → Int32) (v1_2 : Nat → Int32) (v1_3 : Nat → Int32) (v1_4 : Nat → Int32) (v1_5 : Nat → Int32) (v1_7 : Nat → Int32) (v1_9 : Nat → Int32) (x2 : Int32) (x3 : Int32) (x4 : Int32) (x5 : Int32) (x6 : Int32) (res : Int32 × Int32), F i0_0 i0_1 v0_2 i1_10 i1_11 v1_3 v1_4 x2 x3 x4 x5 x6 = some res → MV l D cs yX5_goOn wsX5_goOn (rm_X5_goOn n0) [.ref a0, .ref a1, .int x2, .int x3, .int x4, .int x5, .int x6] sz (W_X5_goOn cs a0 p0 i0_0 i0_1 v0_2 a1 p1 i1_0 i1_6 i1_8 i1_10 i1_11 i1_12 v1_1 v1_2 v1_3 v1_4 v1_5 v1_7 v1_9) (W_X5_goOn cs a0 p0 res.1 res.2 v0_2 a1 p1 i1_0 i1_6 i1_8 i1_10 i1_11 i1_12 v1_1 v1_2 v1_3 v1_4 v1_5 v1_7 v1_9)) (a0 : Nat) (p0 : Nat → Nat) (v0_2 : Nat → Int32) (a1 : Nat) (p1 : Nat → Nat) (i1_0 : Int32) (i1_6 : Int32) (i1_8 : Int32) (i1_10 : Int32) (i1_11 : Int32) (i1_12 : Int32) (v1_1 : Nat → Int32) (v1_2 : Nat → Int32) (v1_3 : Nat → Int32) (v1_4 : Nat → Int32) (v1_5 : Nat → Int32) (v1_7 : Nat → Int32) (v1_9 : Nat → Int32) (res : Int32 × Int32) (k37 : (Int32) → (Int32) → Int32 → Int32 → Int32 → Int32 → Int32 → Int32 → Option (Int32 × Int32)) (hk37 : ∀ (i0_0 : Int32) (i0_1 : Int32) (x2 : Int32) (x3 : Int32) (x4 : Int32) (x5 : Int32) (x6 : Int32) (x7 : Int32), k37 i0_0 i0_1 x2 x3 x4 x5 x6 x7 = some res → ∀ (H : Heap) (locs : List Loc) (ls : Array Slot), va_P D vwCl (W_X5_goOn cs a0 p0 i0_0 i0_1 v0_2 a1 p1 i1_0 i1_6 i1_8 i1_10 i1_11 i1_12 v1_1 v1_2 v1_3 v1_4 v1_5 v1_7 v1_9) H → va_D (va_A w0 s.heap.size) (W_X5_goOn cs a0 p0 i0_0 i0_1 v0_2 a1 p1 i1_0 i1_6 i1_8 i1_10 i1_11 i1_12 v1_1 v1_2 v1_3 v1_4 v1_5 v1_7 v1_9) → va_S (va_A w0 s.heap.size) s.heap H locs → lv_has ls 11 [(0, .ref a0), (1, .ref a1), (2, .int x2), (3, .int x3), (4, .int x4), (5, .int x5), (6, .int x6), (7, .int x7)] → W p l e (rm_X5_goOn (n0 + 1)) s m av below meth c H locs 0 0 (MQ below (oV D cs w0 (W_X5_goOn cs a0 p0 res.1 res.2 v0_2 a1 p1 i1_0 i1_6 i1_8 i1_10 i1_11 i1_12 v1_1 v1_2 v1_3 v1_4 v1_5 v1_7 v1_9) s.heap.size) av s 0 0 (va_A w0 s.heap.size)) (F0 m 37 ls [])) : ∀ (i0_0 : Int32) (i0_1 : Int32) (x2 : Int32) (x3 : Int32) (x4 : Int32) (x5 : Int32) (x6 : Int32) (x7 : Int32), f_X5_goOn_b153 F v0_2 i1_10 i1_11 v1_3 v1_4 k37 i0_0 i0_1 x2 x3 x4 x5 x6 x7 = some res → ∀ (H : Heap) (locs : List Loc) (ls : Array Slot), va_P D vwCl (W_X5_goOn cs a0 p0 i0_0 i0_1 v0_2 a1 p1 i1_0 i1_6 i1_8 i1_10 i1_11 i1_12 v1_1 v1_2 v1_3 v1_4 v1_5 v1_7 v1_9) H → va_D (va_A w0 s.heap.size) (W_X5_goOn cs a0 p0 i0_0 i0_1 v0_2 a1 p1 i1_0 i1_6 i1_8 i1_10 i1_11 i1_12 v1_1 v1_2 v1_3 v1_4 v1_5 v1_7 v1_9) → va_S (va_A w0 s.heap.size) s.heap H locs → lv_has ls 11 [(0, .ref a0), (1, .ref a1), (2, .int x2), (3, .int x3), (4, .int x4), (5, .int x5), (6, .int x6), (7, .int x7)] → W p l e (rm_X5_goOn (n0 + 1)) s m av below meth c H locs 0 0 (MQ below (oV D cs w0 (W_X5_goOn cs a0 p0 res.1 res.2 v0_2 a1 p1 i1_0 i1_6 i1_8 i1_10 i1_11 i1_12 v1_1 v1_2 v1_3 v1_4 v1_5 v1_7 v1_9) s.heap.size) av s 0 0 (va_A w0 s.heap.size)) (F0 m 153 ls []) := by
  obtain ⟨hx, hb, hr, hlk, hml, hown, hts, hK, hG, hE⟩ := id C0
  intro i0_0 i0_1 x2 x3 x4 x5 x6 x7 hf H locs ls hP hD hS hl
  rw [f_X5_goOn_b153] at hf
  refine lv_iinc (v := x7 + 1) (lv' := [(7, .int (x7 + 1)), (0, .ref a0), (1, .ref a1), (2, .int x2), (3, .int x3), (4, .int x4), (5, .int x5), (6, .int x6)]) hx hb dX5_goOn_153 hl (k := 7) rfl (ow_inc (by decide)) (by decide) rfl (fun ls hl => ?_)
  refine lv_goto (tgt := 37) hx hb dX5_goOn_156 (by decide) ?_
  exact hk37 i0_0 i0_1 x2 x3 x4 x5 x6 (x7 + 1) hf _ _ _ hP hD hS (lv_sub hl [1, 2, 3, 4, 5, 6, 7, 0] rfl)
def f_X5_goOn_b37 (F : (Int32) → (Int32) → (Nat → Int32) → (Int32) → (Int32) → (Nat → Int32) → (Nat → Int32) → Int32 → Int32 → Int32 → Int32 → Int32 → Option (Int32 × Int32)) (v0_2 : Nat → Int32) (i1_10 : Int32) (i1_11 : Int32) (v1_3 : Nat → Int32) (v1_4 : Nat → Int32)  : Nat → (Int32) → (Int32) → Int32 → Int32 → Int32 → Int32 → Int32 → Int32 → Option (Int32 × Int32)
  | 0, _, _, _, _, _, _, _, _ => none
  | n + 1, i0_0, i0_1, x2, x3, x4, x5, x6, x7 => if 5 ≤ x7 then (some (i0_0, i0_1)) else (if ((x2 >>> (x7 &&& 31)) &&& 1) = 1 then (ck x7 5 (ck x7 5 (ck x7 5 (if (v0_2 (x7).toNatClampNeg) < ((x5 + (i1_10 * (if 0 ≤ ((v1_3 (x7).toNatClampNeg) - x3) then ((v1_3 (x7).toNatClampNeg) - x3) else 0 - ((v1_3 (x7).toNatClampNeg) - x3)))) + (i1_11 * (if 0 ≤ ((v1_4 (x7).toNatClampNeg) - x4) then ((v1_4 (x7).toNatClampNeg) - x4) else 0 - ((v1_4 (x7).toNatClampNeg) - x4)))) then (f_X5_goOn_b153 F v0_2 i1_10 i1_11 v1_3 v1_4 (f_X5_goOn_b37 F v0_2 i1_10 i1_11 v1_3 v1_4 n) i0_0 i0_1 x2 x3 x4 x5 x6 x7) else (ck x7 5 (ck x7 5 ((F i0_0 i0_1 v0_2 i1_10 i1_11 v1_3 v1_4 (x2 &&& ((((1 : Int32)) <<< (x7 &&& 31)) ^^^ ((-1)))) (v1_3 (x7).toNatClampNeg) (v1_4 (x7).toNatClampNeg) ((x5 + (i1_10 * (if 0 ≤ ((v1_3 (x7).toNatClampNeg) - x3) then ((v1_3 (x7).toNatClampNeg) - x3) else 0 - ((v1_3 (x7).toNatClampNeg) - x3)))) + (i1_11 * (if 0 ≤ ((v1_4 (x7).toNatClampNeg) - x4) then ((v1_4 (x7).toNatClampNeg) - x4) else 0 - ((v1_4 (x7).toNatClampNeg) - x4)))) (((10 * x6) + x7) + 1)).bind fun q150 => f_X5_goOn_b153 F v0_2 i1_10 i1_11 v1_3 v1_4 (f_X5_goOn_b37 F v0_2 i1_10 i1_11 v1_3 v1_4 n) q150.1 q150.2 x2 x3 x4 x5 x6 x7))))))) else (f_X5_goOn_b153 F v0_2 i1_10 i1_11 v1_3 v1_4 (f_X5_goOn_b37 F v0_2 i1_10 i1_11 v1_3 v1_4 n) i0_0 i0_1 x2 x3 x4 x5 x6 x7))
set_option maxHeartbeats 4000000 in
set_option maxRecDepth 100000 in
theorem w_X5_goOn_b37 {p : Program} {l : Launch} {e : Env} {s : State} {m : MethodId} {below : List Frame} {meth : Method} {c : Code} {D : va_G} {cs : Nat → ClassId} {av : Array Value} {w0 : va_W} (C0 : Cx p s m meth c av wsX5_goOn cX5_goOn 11 none RX5 D cs w0) (F : (Int32) → (Int32) → (Nat → Int32) → (Int32) → (Int32) → (Nat → Int32) → (Nat → Int32) → Int32 → Int32 → Int32 → Int32 → Int32 → Option (Int32 × Int32)) (n0 : Nat) (hF : ∀ (sz : Nat) (a0 : Nat) (p0 : Nat → Nat) (i0_0 : Int32) (i0_1 : Int32) (v0_2 : Nat → Int32) (a1 : Nat) (p1 : Nat → Nat) (i1_0 : Int32) (i1_6 : Int32) (i1_8 : Int32) (i1_10 : Int32) (i1_11 : Int32) (i1_12 : Int32) (v1_1 : Nat → Int32) (v1_2 : Nat → Int32) (v1_3 : Nat → Int32) (v1_4 : Nat → Int32) (v1_5 : Nat → Int32) (v1_7 : Nat → Int32) (v1_9 : Nat → Int32) (x2 : Int32) (x3 : Int32) (x4 : Int32) (x5 : Int32) (x6 : Int32) (res : Int32 × Int32), F i0_0 i0_1 v0_2 i1_10 i1_11 v1_3 v1_4 x2 x3 x4 x5 x6 = some res → MV l D cs yX5_goOn wsX5_goOn (rm_X5_goOn n0) [.ref a0, .ref a1, .int x2, .int x3, .int x4, .int x5, .int x6] sz (W_X5_goOn cs a0 p0 i0_0 i0_1 v0_2 a1 p1 i1_0 i1_6 i1_8 i1_10 i1_11 i1_12 v1_1 v1_2 v1_3 v1_4 v1_5 v1_7 v1_9) (W_X5_goOn cs a0 p0 res.1 res.2 v0_2 a1 p1 i1_0 i1_6 i1_8 i1_10 i1_11 i1_12 v1_1 v1_2 v1_3 v1_4 v1_5 v1_7 v1_9)) (a0 : Nat) (p0 : Nat → Nat) (v0_2 : Nat → Int32) (a1 : Nat) (p1 : Nat → Nat) (i1_0 : Int32) (i1_6 : Int32) (i1_8 : Int32) (i1_10 : Int32) (i1_11 : Int32) (i1_12 : Int32) (v1_1 : Nat → Int32) (v1_2 : Nat → Int32) (v1_3 : Nat → Int32) (v1_4 : Nat → Int32) (v1_5 : Nat → Int32) (v1_7 : Nat → Int32) (v1_9 : Nat → Int32) (res : Int32 × Int32)  : ∀ (n : Nat) (i0_0 : Int32) (i0_1 : Int32) (x2 : Int32) (x3 : Int32) (x4 : Int32) (x5 : Int32) (x6 : Int32) (x7 : Int32), f_X5_goOn_b37 F v0_2 i1_10 i1_11 v1_3 v1_4 n i0_0 i0_1 x2 x3 x4 x5 x6 x7 = some res → ∀ (H : Heap) (locs : List Loc) (ls : Array Slot), va_P D vwCl (W_X5_goOn cs a0 p0 i0_0 i0_1 v0_2 a1 p1 i1_0 i1_6 i1_8 i1_10 i1_11 i1_12 v1_1 v1_2 v1_3 v1_4 v1_5 v1_7 v1_9) H → va_D (va_A w0 s.heap.size) (W_X5_goOn cs a0 p0 i0_0 i0_1 v0_2 a1 p1 i1_0 i1_6 i1_8 i1_10 i1_11 i1_12 v1_1 v1_2 v1_3 v1_4 v1_5 v1_7 v1_9) → va_S (va_A w0 s.heap.size) s.heap H locs → lv_has ls 11 [(0, .ref a0), (1, .ref a1), (2, .int x2), (3, .int x3), (4, .int x4), (5, .int x5), (6, .int x6), (7, .int x7)] → W p l e (rm_X5_goOn (n0 + 1)) s m av below meth c H locs 0 0 (MQ below (oV D cs w0 (W_X5_goOn cs a0 p0 res.1 res.2 v0_2 a1 p1 i1_0 i1_6 i1_8 i1_10 i1_11 i1_12 v1_1 v1_2 v1_3 v1_4 v1_5 v1_7 v1_9) s.heap.size) av s 0 0 (va_A w0 s.heap.size)) (F0 m 37 ls []) := by
  obtain ⟨hx, hb, hr, hlk, hml, hown, hts, hK, hG, hE⟩ := id C0
  intro n
  induction n with
  | zero =>
    intro i0_0 i0_1 x2 x3 x4 x5 x6 x7 hf
    rw [f_X5_goOn_b37] at hf
    cases hf
  | succ n ih =>
    intro i0_0 i0_1 x2 x3 x4 x5 x6 x7 hf H locs ls hP hD hS hl
    rw [f_X5_goOn_b37] at hf
    refine lv_iload hx hb dX5_goOn_37 (lv_at hl 7 rfl) ?_
    refine lv_iconst (v := 5) hx hb dX5_goOn_39 (by decide) ?_
    refine lv_icmp_ge (tgt := 159) hx hb dX5_goOn_40 (by decide) (fun hc => ?_) (fun hc => ?_)
    · replace hf := ow_t hc hf
      obtain rfl := Option.some.inj hf
      exact ow_retV C0 hP hD hS dX5_goOn_159
    · replace hf := ow_f hc hf
      refine lv_iload_n hx hb dX5_goOn_43 rfl (lv_at hl 2 rfl) ?_
      refine lv_iload hx hb dX5_goOn_44 (lv_at hl 7 rfl) ?_
      refine lv_ishr hx hb dX5_goOn_46 ?_
      refine lv_iconst (v := 1) hx hb dX5_goOn_47 (by decide) ?_
      refine lv_iand hx hb dX5_goOn_48 ?_
      refine lv_iconst (v := 1) hx hb dX5_goOn_49 (by decide) ?_
      refine lv_icmp_ne (tgt := 153) hx hb dX5_goOn_50 (by decide) (fun hc => ?_) (fun hc => ?_)
      · replace hf := ow_f hc hf
        exact w_X5_goOn_b153 C0 F n0 hF a0 p0 v0_2 a1 p1 i1_0 i1_6 i1_8 i1_10 i1_11 i1_12 v1_1 v1_2 v1_3 v1_4 v1_5 v1_7 v1_9 res (f_X5_goOn_b37 F v0_2 i1_10 i1_11 v1_3 v1_4 n) ih i0_0 i0_1 x2 x3 x4 x5 x6 x7 hf _ _ _ hP hD hS (lv_sub hl [0, 1, 2, 3, 4, 5, 6, 7] rfl)
      · replace hf := ow_t hc hf
        refine lv_aload_n hx hb dX5_goOn_53 rfl (lv_at hl 1 rfl) ?_
        refine va_get (D := D) (ci := 6) (v := .ref (p1 3)) (C := RX6) (T := TX6) (N := 13) hx hb hts in_X5_goOn_X6 hown hK hP 2 rfl rfl 3 (by decide) (hts (.fieldLink RX5 51 "PaneDays$Street" "along" "[I") (List.mem_of_getElem? (i := 3) rfl)) (fun _ h9 => h9) rfl dX5_goOn_54 ?_
        refine lv_iload hx hb dX5_goOn_57 (lv_at hl 7 rfl) ?_
        obtain ⟨hin, hf⟩ := ck_some hf
        refine va_iald (f := v1_3) hx hb hK hP 5 0 rfl rfl hin dX5_goOn_59 ?_
        refine lv_iload_n hx hb dX5_goOn_60 rfl (lv_at hl 3 rfl) ?_
        refine lv_isub hx hb dX5_goOn_61 ?_
        refine va_mabs hx hb (hml.trans hl.1.symm) hown (hts (.methodLink RX5 54 Lib.Math.abs.name) (by decide +kernel)) (hts (.static Lib.Math.abs.name) (by decide +kernel)) (hts (.initialized "java/lang/Math") (by decide +kernel)) (hts (.code Lib.Math.abs.name Lib.Math.abs.code 1 (some .int)) (by decide +kernel)) (by first | exact Nat.le_of_ble_eq_true rfl | (simp [rm_X5_goOn, Value.category]; omega) | (simp [rm_X5_goOn, Value.category])) (by first | exact Nat.le_of_ble_eq_true rfl | (simp [rm_X5_goOn, Value.category]; omega) | (simp [rm_X5_goOn, Value.category])) (Nat.zero_le _) (Nat.zero_le _) dX5_goOn_62 ?_
        refine lv_istore (lv' := [(8, .int (if 0 ≤ ((v1_3 (x7).toNatClampNeg) - x3) then ((v1_3 (x7).toNatClampNeg) - x3) else 0 - ((v1_3 (x7).toNatClampNeg) - x3))), (0, .ref a0), (1, .ref a1), (2, .int x2), (3, .int x3), (4, .int x4), (5, .int x5), (6, .int x6), (7, .int x7)]) hx hb dX5_goOn_65 hl (by decide) rfl (fun ls hl => ?_)
        refine lv_aload_n hx hb dX5_goOn_67 rfl (lv_at hl 2 rfl) ?_
        refine va_get (D := D) (ci := 6) (v := .ref (p1 4)) (C := RX6) (T := TX6) (N := 13) hx hb hts in_X5_goOn_X6 hown hK hP 2 rfl rfl 4 (by decide) (hts (.fieldLink RX5 58 "PaneDays$Street" "floor" "[I") (List.mem_of_getElem? (i := 8) rfl)) (fun _ h9 => h9) rfl dX5_goOn_68 ?_
        refine lv_iload hx hb dX5_goOn_71 (lv_at hl 8 rfl) ?_
        obtain ⟨hin, hf⟩ := ck_some hf
        refine va_iald (f := v1_4) hx hb hK hP 6 0 rfl rfl hin dX5_goOn_73 ?_
        refine lv_iload hx hb dX5_goOn_74 (lv_at hl 5 rfl) ?_
        refine lv_isub hx hb dX5_goOn_76 ?_
        refine va_mabs hx hb (hml.trans hl.1.symm) hown (hts (.methodLink RX5 54 Lib.Math.abs.name) (by decide +kernel)) (hts (.static Lib.Math.abs.name) (by decide +kernel)) (hts (.initialized "java/lang/Math") (by decide +kernel)) (hts (.code Lib.Math.abs.name Lib.Math.abs.code 1 (some .int)) (by decide +kernel)) (by first | exact Nat.le_of_ble_eq_true rfl | (simp [rm_X5_goOn, Value.category]; omega) | (simp [rm_X5_goOn, Value.category])) (by first | exact Nat.le_of_ble_eq_true rfl | (simp [rm_X5_goOn, Value.category]; omega) | (simp [rm_X5_goOn, Value.category])) (Nat.zero_le _) (Nat.zero_le _) dX5_goOn_77 ?_
        refine lv_istore (lv' := [(9, .int (if 0 ≤ ((v1_4 (x7).toNatClampNeg) - x4) then ((v1_4 (x7).toNatClampNeg) - x4) else 0 - ((v1_4 (x7).toNatClampNeg) - x4))), (8, .int (if 0 ≤ ((v1_3 (x7).toNatClampNeg) - x3) then ((v1_3 (x7).toNatClampNeg) - x3) else 0 - ((v1_3 (x7).toNatClampNeg) - x3))), (0, .ref a0), (1, .ref a1), (2, .int x2), (3, .int x3), (4, .int x4), (5, .int x5), (6, .int x6), (7, .int x7)]) hx hb dX5_goOn_80 hl (by decide) rfl (fun ls hl => ?_)
        refine lv_iload hx hb dX5_goOn_82 (lv_at hl 7 rfl) ?_
        refine lv_aload_n hx hb dX5_goOn_84 rfl (lv_at hl 3 rfl) ?_
        refine va_get (D := D) (ci := 6) (v := .int i1_10) (C := RX6) (T := TX6) (N := 13) hx hb hts in_X5_goOn_X6 hown hK hP 2 rfl rfl 10 (by decide) (hts (.fieldLink RX5 61 "PaneDays$Street" "stepMinutes" "I") (List.mem_of_getElem? (i := 9) rfl)) (fun _ h9 => h9) rfl dX5_goOn_85 ?_
        refine lv_iload hx hb dX5_goOn_88 (lv_at hl 1 rfl) ?_
        refine lv_imul hx hb dX5_goOn_90 ?_
        refine lv_iadd hx hb dX5_goOn_91 ?_
        refine lv_aload_n hx hb dX5_goOn_92 rfl (lv_at hl 3 rfl) ?_
        refine va_get (D := D) (ci := 6) (v := .int i1_11) (C := RX6) (T := TX6) (N := 13) hx hb hts in_X5_goOn_X6 hown hK hP 2 rfl rfl 11 (by decide) (hts (.fieldLink RX5 64 "PaneDays$Street" "floorMinutes" "I") (List.mem_of_getElem? (i := 10) rfl)) (fun _ h9 => h9) rfl dX5_goOn_93 ?_
        refine lv_iload hx hb dX5_goOn_96 (lv_at hl 0 rfl) ?_
        refine lv_imul hx hb dX5_goOn_98 ?_
        refine lv_iadd hx hb dX5_goOn_99 ?_
        refine lv_istore (lv' := [(10, .int ((x5 + (i1_10 * (if 0 ≤ ((v1_3 (x7).toNatClampNeg) - x3) then ((v1_3 (x7).toNatClampNeg) - x3) else 0 - ((v1_3 (x7).toNatClampNeg) - x3)))) + (i1_11 * (if 0 ≤ ((v1_4 (x7).toNatClampNeg) - x4) then ((v1_4 (x7).toNatClampNeg) - x4) else 0 - ((v1_4 (x7).toNatClampNeg) - x4))))), (9, .int (if 0 ≤ ((v1_4 (x7).toNatClampNeg) - x4) then ((v1_4 (x7).toNatClampNeg) - x4) else 0 - ((v1_4 (x7).toNatClampNeg) - x4))), (8, .int (if 0 ≤ ((v1_3 (x7).toNatClampNeg) - x3) then ((v1_3 (x7).toNatClampNeg) - x3) else 0 - ((v1_3 (x7).toNatClampNeg) - x3))), (0, .ref a0), (1, .ref a1), (2, .int x2), (3, .int x3), (4, .int x4), (5, .int x5), (6, .int x6), (7, .int x7)]) hx hb dX5_goOn_100 hl (by decide) rfl (fun ls hl => ?_)
        refine lv_iload hx hb dX5_goOn_102 (lv_at hl 0 rfl) ?_
        refine lv_aload_n hx hb dX5_goOn_104 rfl (lv_at hl 3 rfl) ?_
        refine va_get (D := D) (ci := 5) (v := .ref (p0 2)) (C := RX5) (T := TX5) (N := 3) hx hb hts in_X5_goOn_X5 hown hK hP 0 rfl rfl 2 (by decide) (hts (.fieldLink RX5 9 "PaneDays$Rounds" "latest" "[I") (List.mem_of_getElem? (i := 11) rfl)) (fun _ h9 => h9) rfl dX5_goOn_105 ?_
        refine lv_iload hx hb dX5_goOn_108 (lv_at hl 10 rfl) ?_
        obtain ⟨hin, hf⟩ := ck_some hf
        refine va_iald (f := v0_2) hx hb hK hP 1 0 rfl rfl hin dX5_goOn_110 ?_
        refine lv_icmp_gt (tgt := 153) hx hb dX5_goOn_111 (by decide) (fun hc => ?_) (fun hc => ?_)
        · replace hf := ow_t hc hf
          exact w_X5_goOn_b153 C0 F n0 hF a0 p0 v0_2 a1 p1 i1_0 i1_6 i1_8 i1_10 i1_11 i1_12 v1_1 v1_2 v1_3 v1_4 v1_5 v1_7 v1_9 res (f_X5_goOn_b37 F v0_2 i1_10 i1_11 v1_3 v1_4 n) ih i0_0 i0_1 x2 x3 x4 x5 x6 x7 hf _ _ _ hP hD hS (lv_sub hl [3, 4, 5, 6, 7, 8, 9, 10] rfl)
        · replace hf := ow_f hc hf
          refine lv_aload_n hx hb dX5_goOn_114 rfl (lv_at hl 3 rfl) ?_
          refine lv_aload_n hx hb dX5_goOn_115 rfl (lv_at hl 4 rfl) ?_
          refine lv_iload_n hx hb dX5_goOn_116 rfl (lv_at hl 5 rfl) ?_
          refine lv_iconst (v := 1) hx hb dX5_goOn_117 (by decide) ?_
          refine lv_iload hx hb dX5_goOn_118 (lv_at hl 10 rfl) ?_
          refine lv_ishl hx hb dX5_goOn_120 ?_
          refine lv_iconst (v := (-1)) hx hb dX5_goOn_121 (by decide) ?_
          refine lv_ixor hx hb dX5_goOn_122 ?_
          refine lv_iand hx hb dX5_goOn_123 ?_
          refine lv_aload_n hx hb dX5_goOn_124 rfl (lv_at hl 4 rfl) ?_
          refine va_get (D := D) (ci := 6) (v := .ref (p1 3)) (C := RX6) (T := TX6) (N := 13) hx hb hts in_X5_goOn_X6 hown hK hP 2 rfl rfl 3 (by decide) (hts (.fieldLink RX5 51 "PaneDays$Street" "along" "[I") (List.mem_of_getElem? (i := 3) rfl)) (fun _ h9 => h9) rfl dX5_goOn_125 ?_
          refine lv_iload hx hb dX5_goOn_128 (lv_at hl 10 rfl) ?_
          obtain ⟨hin, hf⟩ := ck_some hf
          refine va_iald (f := v1_3) hx hb hK hP 5 0 rfl rfl hin dX5_goOn_130 ?_
          refine lv_aload_n hx hb dX5_goOn_131 rfl (lv_at hl 4 rfl) ?_
          refine va_get (D := D) (ci := 6) (v := .ref (p1 4)) (C := RX6) (T := TX6) (N := 13) hx hb hts in_X5_goOn_X6 hown hK hP 2 rfl rfl 4 (by decide) (hts (.fieldLink RX5 58 "PaneDays$Street" "floor" "[I") (List.mem_of_getElem? (i := 8) rfl)) (fun _ h9 => h9) rfl dX5_goOn_132 ?_
          refine lv_iload hx hb dX5_goOn_135 (lv_at hl 10 rfl) ?_
          obtain ⟨hin, hf⟩ := ck_some hf
          refine va_iald (f := v1_4) hx hb hK hP 6 0 rfl rfl hin dX5_goOn_137 ?_
          refine lv_iload hx hb dX5_goOn_138 (lv_at hl 0 rfl) ?_
          refine lv_bipush (v := 10) hx hb dX5_goOn_140 (by decide) ?_
          refine lv_iload hx hb dX5_goOn_142 (lv_at hl 9 rfl) ?_
          refine lv_imul hx hb dX5_goOn_144 ?_
          refine lv_iload hx hb dX5_goOn_145 (lv_at hl 10 rfl) ?_
          refine lv_iadd hx hb dX5_goOn_147 ?_
          refine lv_iconst (v := 1) hx hb dX5_goOn_148 (by decide) ?_
          refine lv_iadd hx hb dX5_goOn_149 ?_
          obtain ⟨q150, hq, hf⟩ := bd_some hf
          refine ow_callVV (As := [.ref a1, .int (x2 &&& ((((1 : Int32)) <<< (x7 &&& 31)) ^^^ ((-1)))), .int (v1_3 (x7).toNatClampNeg), .int (v1_4 (x7).toNatClampNeg), .int ((x5 + (i1_10 * (if 0 ≤ ((v1_3 (x7).toNatClampNeg) - x3) then ((v1_3 (x7).toNatClampNeg) - x3) else 0 - ((v1_3 (x7).toNatClampNeg) - x3)))) + (i1_11 * (if 0 ≤ ((v1_4 (x7).toNatClampNeg) - x4) then ((v1_4 (x7).toNatClampNeg) - x4) else 0 - ((v1_4 (x7).toNatClampNeg) - x4)))), .int (((10 * x6) + x7) + 1)]) (rest := []) (wr := ow_pk (W_X5_goOn cs a0 p0 i0_0 i0_1 v0_2 a1 p1 i1_0 i1_6 i1_8 i1_10 i1_11 i1_12 v1_1 v1_2 v1_3 v1_4 v1_5 v1_7 v1_9) []) (wf := (W_X5_goOn cs a0 p0 q150.1 q150.2 v0_2 a1 p1 i1_0 i1_6 i1_8 i1_10 i1_11 i1_12 v1_1 v1_2 v1_3 v1_4 v1_5 v1_7 v1_9)) C0 (hF H.size a0 p0 i0_0 i0_1 v0_2 a1 p1 i1_0 i1_6 i1_8 i1_10 i1_11 i1_12 v1_1 v1_2 v1_3 v1_4 v1_5 v1_7 v1_9 (x2 &&& ((((1 : Int32)) <<< (x7 &&& 31)) ^^^ ((-1)))) (v1_3 (x7).toNatClampNeg) (v1_4 (x7).toNatClampNeg) ((x5 + (i1_10 * (if 0 ≤ ((v1_3 (x7).toNatClampNeg) - x3) then ((v1_3 (x7).toNatClampNeg) - x3) else 0 - ((v1_3 (x7).toNatClampNeg) - x3)))) + (i1_11 * (if 0 ≤ ((v1_4 (x7).toNatClampNeg) - x4) then ((v1_4 (x7).toNatClampNeg) - x4) else 0 - ((v1_4 (x7).toNatClampNeg) - x4)))) (((10 * x6) + x7) + 1) q150 hq) (cwV 6 hts gX5_goOn_X5_goOn rfl rfl rfl (by decide +kernel) ⟨by simp only [rm_X5_goOn, rm_X5_goOn]; omega, by simp only [rm_X5_goOn, rm_X5_goOn]; omega⟩) 5 rfl rfl hP hD hS (fun q h => Or.inr h) [0, 1, 2, 3, 4, 5, 6, 7, 8, 9] [] [0, 1, 2, 3, 4, 5, 6, 7, 8, 9] rfl (by decide) rfl (by decide) (by decide) rfl (by decide) rfl hl.1 rfl (Nat.le_of_ble_eq_true rfl) ⟨Nat.zero_le _, Nat.zero_le _⟩ dX5_goOn_150 (fun H locs hP hD hS => ?_)
          exact w_X5_goOn_b153 C0 F n0 hF a0 p0 v0_2 a1 p1 i1_0 i1_6 i1_8 i1_10 i1_11 i1_12 v1_1 v1_2 v1_3 v1_4 v1_5 v1_7 v1_9 res (f_X5_goOn_b37 F v0_2 i1_10 i1_11 v1_3 v1_4 n) ih q150.1 q150.2 x2 x3 x4 x5 x6 x7 hf _ _ _ hP hD hS (lv_sub hl [3, 4, 5, 6, 7, 8, 9, 10] rfl)
def fb_X5_goOn (F : (Int32) → (Int32) → (Nat → Int32) → (Int32) → (Int32) → (Nat → Int32) → (Nat → Int32) → Int32 → Int32 → Int32 → Int32 → Int32 → Option (Int32 × Int32)) (i0_0 : Int32) (i0_1 : Int32) (v0_2 : Nat → Int32) (i1_10 : Int32) (i1_11 : Int32) (v1_3 : Nat → Int32) (v1_4 : Nat → Int32) (x2 : Int32) (x3 : Int32) (x4 : Int32) (x5 : Int32) (x6 : Int32) : Option (Int32 × Int32) := if x2 = 0 then (if i0_0 = ((-1)) then (f_X5_goOn_b21 F v0_2 i1_10 i1_11 v1_3 v1_4 i0_0 i0_1 x5 x6) else (if i0_0 ≤ x5 then (some (i0_0, i0_1)) else (f_X5_goOn_b21 F v0_2 i1_10 i1_11 v1_3 v1_4 i0_0 i0_1 x5 x6))) else (f_X5_goOn_b37 F v0_2 i1_10 i1_11 v1_3 v1_4 4000 i0_0 i0_1 x2 x3 x4 x5 x6 (0))
def f_X5_goOn : Nat → (Int32) → (Int32) → (Nat → Int32) → (Int32) → (Int32) → (Nat → Int32) → (Nat → Int32) → Int32 → Int32 → Int32 → Int32 → Int32 → Option (Int32 × Int32)
  | 0, _, _, _, _, _, _, _, _, _, _, _, _ => none
  | n + 1, i0_0, i0_1, v0_2, i1_10, i1_11, v1_3, v1_4, x2, x3, x4, x5, x6 => fb_X5_goOn (f_X5_goOn n) i0_0 i0_1 v0_2 i1_10 i1_11 v1_3 v1_4 x2 x3 x4 x5 x6
set_option maxHeartbeats 4000000 in
set_option maxRecDepth 100000 in
theorem c_X5_goOn (l : Launch) (D : va_G) (cs : Nat → ClassId) : ∀ (n0 sz : Nat) (a0 : Nat) (p0 : Nat → Nat) (i0_0 : Int32) (i0_1 : Int32) (v0_2 : Nat → Int32) (a1 : Nat) (p1 : Nat → Nat) (i1_0 : Int32) (i1_6 : Int32) (i1_8 : Int32) (i1_10 : Int32) (i1_11 : Int32) (i1_12 : Int32) (v1_1 : Nat → Int32) (v1_2 : Nat → Int32) (v1_3 : Nat → Int32) (v1_4 : Nat → Int32) (v1_5 : Nat → Int32) (v1_7 : Nat → Int32) (v1_9 : Nat → Int32) (x2 : Int32) (x3 : Int32) (x4 : Int32) (x5 : Int32) (x6 : Int32) (res : Int32 × Int32), f_X5_goOn n0 i0_0 i0_1 v0_2 i1_10 i1_11 v1_3 v1_4 x2 x3 x4 x5 x6 = some res → MV l D cs yX5_goOn wsX5_goOn (rm_X5_goOn n0) [.ref a0, .ref a1, .int x2, .int x3, .int x4, .int x5, .int x6] sz (W_X5_goOn cs a0 p0 i0_0 i0_1 v0_2 a1 p1 i1_0 i1_6 i1_8 i1_10 i1_11 i1_12 v1_1 v1_2 v1_3 v1_4 v1_5 v1_7 v1_9) (W_X5_goOn cs a0 p0 res.1 res.2 v0_2 a1 p1 i1_0 i1_6 i1_8 i1_10 i1_11 i1_12 v1_1 v1_2 v1_3 v1_4 v1_5 v1_7 v1_9) := by
  intro n0
  induction n0 with
  | zero =>
    intro sz a0 p0 i0_0 i0_1 v0_2 a1 p1 i1_0 i1_6 i1_8 i1_10 i1_11 i1_12 v1_1 v1_2 v1_3 v1_4 v1_5 v1_7 v1_9 x2 x3 x4 x5 x6 res hf
    rw [f_X5_goOn] at hf
    cases hf
  | succ n0 hF =>
  intro sz a0 p0 i0_0 i0_1 v0_2 a1 p1 i1_0 i1_6 i1_8 i1_10 i1_11 i1_12 v1_1 v1_2 v1_3 v1_4 v1_5 v1_7 v1_9 x2 x3 x4 x5 x6 res hf
  rw [f_X5_goOn] at hf
  revert hF hf
  generalize f_X5_goOn n0 = F
  intro hF hf
  rw [fb_X5_goOn] at hf
  refine ow_enter (cc := cX5_goOn) (nL := 11) (ret := none) (by decide) rfl (Nat.le_of_ble_eq_true rfl) (fun p e s m below meth c ls H locs C0 hP hD hS hA hl => ?_)
  obtain ⟨hx, hb, hr, hlk, hml, hown, hts, hK, hG, hE⟩ := id C0
  have hl : lv_has ls 11 [(0, .ref a0), (1, .ref a1), (2, .int x2), (3, .int x3), (4, .int x4), (5, .int x5), (6, .int x6)] := hl
  refine lv_iload_n hx hb dX5_goOn_0 rfl (lv_at hl 2 rfl) ?_
  refine lv_if_ne (tgt := 34) hx hb dX5_goOn_1 (by decide) (fun hc => ?_) (fun hc => ?_)
  · replace hf := ow_f hc hf
    refine lv_iconst (v := 0) hx hb dX5_goOn_34 (by decide) ?_
    refine lv_istore (lv' := [(7, .int 0), (0, .ref a0), (1, .ref a1), (2, .int x2), (3, .int x3), (4, .int x4), (5, .int x5), (6, .int x6)]) hx hb dX5_goOn_35 hl (by decide) rfl (fun ls hl => ?_)
    exact w_X5_goOn_b37 C0 F n0 hF a0 p0 v0_2 a1 p1 i1_0 i1_6 i1_8 i1_10 i1_11 i1_12 v1_1 v1_2 v1_3 v1_4 v1_5 v1_7 v1_9 res 4000 i0_0 i0_1 x2 x3 x4 x5 x6 (0) hf _ _ _ hP hD hS (lv_sub hl [1, 2, 3, 4, 5, 6, 7, 0] rfl)
  · replace hf := ow_t hc hf
    refine lv_aload_n hx hb dX5_goOn_4 rfl (lv_at hl 0 rfl) ?_
    refine va_get (D := D) (ci := 5) (v := .int i0_0) (C := RX5) (T := TX5) (N := 3) hx hb hts in_X5_goOn_X5 hown hK hP 0 rfl rfl 0 (by decide) (hts (.fieldLink RX5 41 "PaneDays$Rounds" "fewest" "I") (List.mem_of_getElem? (i := 1) rfl)) (fun _ h9 => h9) rfl dX5_goOn_5 ?_
    refine lv_iconst (v := (-1)) hx hb dX5_goOn_8 (by decide) ?_
    refine lv_icmp_eq (tgt := 21) hx hb dX5_goOn_9 (by decide) (fun hc => ?_) (fun hc => ?_)
    · replace hf := ow_t hc hf
      exact w_X5_goOn_b21 C0 F n0 hF a0 p0 v0_2 a1 p1 i1_0 i1_6 i1_8 i1_10 i1_11 i1_12 v1_1 v1_2 v1_3 v1_4 v1_5 v1_7 v1_9 res i0_0 i0_1 x5 x6 hf _ _ _ hP hD hS (lv_sub hl [0, 5, 6] rfl)
    · replace hf := ow_f hc hf
      refine lv_iload hx hb dX5_goOn_12 (lv_at hl 5 rfl) ?_
      refine lv_aload_n hx hb dX5_goOn_14 rfl (lv_at hl 0 rfl) ?_
      refine va_get (D := D) (ci := 5) (v := .int i0_0) (C := RX5) (T := TX5) (N := 3) hx hb hts in_X5_goOn_X5 hown hK hP 0 rfl rfl 0 (by decide) (hts (.fieldLink RX5 41 "PaneDays$Rounds" "fewest" "I") (List.mem_of_getElem? (i := 1) rfl)) (fun _ h9 => h9) rfl dX5_goOn_15 ?_
      refine lv_icmp_ge (tgt := 33) hx hb dX5_goOn_18 (by decide) (fun hc => ?_) (fun hc => ?_)
      · replace hf := ow_t hc hf
        obtain rfl := Option.some.inj hf
        exact ow_retV C0 hP hD hS dX5_goOn_33
      · replace hf := ow_f hc hf
        exact w_X5_goOn_b21 C0 F n0 hF a0 p0 v0_2 a1 p1 i1_0 i1_6 i1_8 i1_10 i1_11 i1_12 v1_1 v1_2 v1_3 v1_4 v1_5 v1_7 v1_9 res i0_0 i0_1 x5 x6 hf _ _ _ hP hD hS (lv_sub hl [0, 5, 6] rfl)
theorem in_X5_walk_X5 : ∀ w ∈ u_ws RX5 TX5 3, w ∈ wsX5_walk := fun w h => List.mem_cons_of_mem _ (List.mem_append_left _ (List.mem_append_right _ h))
theorem in_X5_walk_X6 : ∀ w ∈ u_ws RX6 TX6 13, w ∈ wsX5_walk := fun w h => List.mem_cons_of_mem _ (List.mem_append_right _ h)
abbrev W_X5_walk (cs : Nat → ClassId) (a0 : Nat) (p0 : Nat → Nat) (i0_0 : Int32) (i0_1 : Int32) (v0_2 : Nat → Int32) (a1 : Nat) (p1 : Nat → Nat) (i1_0 : Int32) (i1_6 : Int32) (i1_8 : Int32) (i1_10 : Int32) (i1_11 : Int32) (i1_12 : Int32) (v1_1 : Nat → Int32) (v1_2 : Nat → Int32) (v1_3 : Nat → Int32) (v1_4 : Nat → Int32) (v1_5 : Nat → Int32) (v1_7 : Nat → Int32) (v1_9 : Nat → Int32) : va_W := wX5 cs a0 p0 i0_0 i0_1 v0_2 ++ wX6 cs a1 p1 i1_0 i1_6 i1_8 i1_10 i1_11 i1_12 v1_1 v1_2 v1_3 v1_4 v1_5 v1_7 v1_9
abbrev rm_X5_walk : Room := { frames := 10, cells := 0, slots := 0, locals := 300 }
def f_X5_walk_b46  (v0_2 : Nat → Int32) (i1_8 : Int32) (i1_10 : Int32) (i1_11 : Int32) (v1_3 : Nat → Int32) (v1_4 : Nat → Int32) (v1_9 : Nat → Int32) (k15 : (Int32) → (Int32) → Int32 → Int32 → Int32 → Option (Int32 × Int32)) (i0_0 : Int32) (i0_1 : Int32) (x2 : Int32) (x3 : Int32) (x4 : Int32) : Option (Int32 × Int32) := k15 i0_0 i0_1 x2 x3 (x4 + 1)
set_option maxHeartbeats 4000000 in
set_option maxRecDepth 100000 in
theorem w_X5_walk_b46 {p : Program} {l : Launch} {e : Env} {s : State} {m : MethodId} {below : List Frame} {meth : Method} {c : Code} {D : va_G} {cs : Nat → ClassId} {av : Array Value} {w0 : va_W} (C0 : Cx p s m meth c av wsX5_walk cX5_walk 5 none RX5 D cs w0)  (a0 : Nat) (p0 : Nat → Nat) (v0_2 : Nat → Int32) (a1 : Nat) (p1 : Nat → Nat) (i1_0 : Int32) (i1_6 : Int32) (i1_8 : Int32) (i1_10 : Int32) (i1_11 : Int32) (i1_12 : Int32) (v1_1 : Nat → Int32) (v1_2 : Nat → Int32) (v1_3 : Nat → Int32) (v1_4 : Nat → Int32) (v1_5 : Nat → Int32) (v1_7 : Nat → Int32) (v1_9 : Nat → Int32) (res : Int32 × Int32) (k15 : (Int32) → (Int32) → Int32 → Int32 → Int32 → Option (Int32 × Int32)) (hk15 : ∀ (i0_0 : Int32) (i0_1 : Int32) (x2 : Int32) (x3 : Int32) (x4 : Int32), k15 i0_0 i0_1 x2 x3 x4 = some res → ∀ (H : Heap) (locs : List Loc) (ls : Array Slot), va_P D vwCl (W_X5_walk cs a0 p0 i0_0 i0_1 v0_2 a1 p1 i1_0 i1_6 i1_8 i1_10 i1_11 i1_12 v1_1 v1_2 v1_3 v1_4 v1_5 v1_7 v1_9) H → va_D (va_A w0 s.heap.size) (W_X5_walk cs a0 p0 i0_0 i0_1 v0_2 a1 p1 i1_0 i1_6 i1_8 i1_10 i1_11 i1_12 v1_1 v1_2 v1_3 v1_4 v1_5 v1_7 v1_9) → va_S (va_A w0 s.heap.size) s.heap H locs → lv_has ls 5 [(0, .ref a0), (1, .ref a1), (2, .int x2), (3, .int x3), (4, .int x4)] → W p l e rm_X5_walk s m av below meth c H locs 0 0 (MQ below (oV D cs w0 (W_X5_walk cs a0 p0 res.1 res.2 v0_2 a1 p1 i1_0 i1_6 i1_8 i1_10 i1_11 i1_12 v1_1 v1_2 v1_3 v1_4 v1_5 v1_7 v1_9) s.heap.size) av s 0 0 (va_A w0 s.heap.size)) (F0 m 15 ls [])) : ∀ (i0_0 : Int32) (i0_1 : Int32) (x2 : Int32) (x3 : Int32) (x4 : Int32), f_X5_walk_b46 v0_2 i1_8 i1_10 i1_11 v1_3 v1_4 v1_9 k15 i0_0 i0_1 x2 x3 x4 = some res → ∀ (H : Heap) (locs : List Loc) (ls : Array Slot), va_P D vwCl (W_X5_walk cs a0 p0 i0_0 i0_1 v0_2 a1 p1 i1_0 i1_6 i1_8 i1_10 i1_11 i1_12 v1_1 v1_2 v1_3 v1_4 v1_5 v1_7 v1_9) H → va_D (va_A w0 s.heap.size) (W_X5_walk cs a0 p0 i0_0 i0_1 v0_2 a1 p1 i1_0 i1_6 i1_8 i1_10 i1_11 i1_12 v1_1 v1_2 v1_3 v1_4 v1_5 v1_7 v1_9) → va_S (va_A w0 s.heap.size) s.heap H locs → lv_has ls 5 [(0, .ref a0), (1, .ref a1), (2, .int x2), (3, .int x3), (4, .int x4)] → W p l e rm_X5_walk s m av below meth c H locs 0 0 (MQ below (oV D cs w0 (W_X5_walk cs a0 p0 res.1 res.2 v0_2 a1 p1 i1_0 i1_6 i1_8 i1_10 i1_11 i1_12 v1_1 v1_2 v1_3 v1_4 v1_5 v1_7 v1_9) s.heap.size) av s 0 0 (va_A w0 s.heap.size)) (F0 m 46 ls []) := by
  obtain ⟨hx, hb, hr, hlk, hml, hown, hts, hK, hG, hE⟩ := id C0
  intro i0_0 i0_1 x2 x3 x4 hf H locs ls hP hD hS hl
  rw [f_X5_walk_b46] at hf
  refine lv_iinc (v := x4 + 1) (lv' := [(4, .int (x4 + 1)), (0, .ref a0), (1, .ref a1), (2, .int x2), (3, .int x3)]) hx hb dX5_walk_46 hl (k := 4) rfl (ow_inc (by decide)) (by decide) rfl (fun ls hl => ?_)
  refine lv_goto (tgt := 15) hx hb dX5_walk_49 (by decide) ?_
  exact hk15 i0_0 i0_1 x2 x3 (x4 + 1) hf _ _ _ hP hD hS (lv_sub hl [1, 2, 3, 4, 0] rfl)
def f_X5_walk_b15  (v0_2 : Nat → Int32) (i1_8 : Int32) (i1_10 : Int32) (i1_11 : Int32) (v1_3 : Nat → Int32) (v1_4 : Nat → Int32) (v1_9 : Nat → Int32)  : Nat → (Int32) → (Int32) → Int32 → Int32 → Int32 → Option (Int32 × Int32)
  | 0, _, _, _, _, _ => none
  | n + 1, i0_0, i0_1, x2, x3, x4 => if i1_8 ≤ x4 then ((f_X5_goOn 9 i0_0 i0_1 v0_2 i1_10 i1_11 v1_3 v1_4 x3 (0) (0) (0) (0)).bind fun q59 => some (q59.1, q59.2)) else (if ((x2 >>> (x4 &&& 31)) &&& 1) = 1 then ((f_X6_part v1_9 x4 (0)).bind fun q40 => f_X5_walk_b46 v0_2 i1_8 i1_10 i1_11 v1_3 v1_4 v1_9 (f_X5_walk_b15 v0_2 i1_8 i1_10 i1_11 v1_3 v1_4 v1_9 n) i0_0 i0_1 x2 (x3 ||| (((1 : Int32)) <<< (q40 &&& 31))) x4) else (f_X5_walk_b46 v0_2 i1_8 i1_10 i1_11 v1_3 v1_4 v1_9 (f_X5_walk_b15 v0_2 i1_8 i1_10 i1_11 v1_3 v1_4 v1_9 n) i0_0 i0_1 x2 x3 x4))
set_option maxHeartbeats 4000000 in
set_option maxRecDepth 100000 in
theorem w_X5_walk_b15 {p : Program} {l : Launch} {e : Env} {s : State} {m : MethodId} {below : List Frame} {meth : Method} {c : Code} {D : va_G} {cs : Nat → ClassId} {av : Array Value} {w0 : va_W} (C0 : Cx p s m meth c av wsX5_walk cX5_walk 5 none RX5 D cs w0)  (a0 : Nat) (p0 : Nat → Nat) (v0_2 : Nat → Int32) (a1 : Nat) (p1 : Nat → Nat) (i1_0 : Int32) (i1_6 : Int32) (i1_8 : Int32) (i1_10 : Int32) (i1_11 : Int32) (i1_12 : Int32) (v1_1 : Nat → Int32) (v1_2 : Nat → Int32) (v1_3 : Nat → Int32) (v1_4 : Nat → Int32) (v1_5 : Nat → Int32) (v1_7 : Nat → Int32) (v1_9 : Nat → Int32) (res : Int32 × Int32)  : ∀ (n : Nat) (i0_0 : Int32) (i0_1 : Int32) (x2 : Int32) (x3 : Int32) (x4 : Int32), f_X5_walk_b15 v0_2 i1_8 i1_10 i1_11 v1_3 v1_4 v1_9 n i0_0 i0_1 x2 x3 x4 = some res → ∀ (H : Heap) (locs : List Loc) (ls : Array Slot), va_P D vwCl (W_X5_walk cs a0 p0 i0_0 i0_1 v0_2 a1 p1 i1_0 i1_6 i1_8 i1_10 i1_11 i1_12 v1_1 v1_2 v1_3 v1_4 v1_5 v1_7 v1_9) H → va_D (va_A w0 s.heap.size) (W_X5_walk cs a0 p0 i0_0 i0_1 v0_2 a1 p1 i1_0 i1_6 i1_8 i1_10 i1_11 i1_12 v1_1 v1_2 v1_3 v1_4 v1_5 v1_7 v1_9) → va_S (va_A w0 s.heap.size) s.heap H locs → lv_has ls 5 [(0, .ref a0), (1, .ref a1), (2, .int x2), (3, .int x3), (4, .int x4)] → W p l e rm_X5_walk s m av below meth c H locs 0 0 (MQ below (oV D cs w0 (W_X5_walk cs a0 p0 res.1 res.2 v0_2 a1 p1 i1_0 i1_6 i1_8 i1_10 i1_11 i1_12 v1_1 v1_2 v1_3 v1_4 v1_5 v1_7 v1_9) s.heap.size) av s 0 0 (va_A w0 s.heap.size)) (F0 m 15 ls []) := by
  obtain ⟨hx, hb, hr, hlk, hml, hown, hts, hK, hG, hE⟩ := id C0
  intro n
  induction n with
  | zero =>
    intro i0_0 i0_1 x2 x3 x4 hf
    rw [f_X5_walk_b15] at hf
    cases hf
  | succ n ih =>
    intro i0_0 i0_1 x2 x3 x4 hf H locs ls hP hD hS hl
    rw [f_X5_walk_b15] at hf
    refine lv_iload hx hb dX5_walk_15 (lv_at hl 4 rfl) ?_
    refine lv_aload_n hx hb dX5_walk_17 rfl (lv_at hl 1 rfl) ?_
    refine va_get (D := D) (ci := 6) (v := .int i1_8) (C := RX6) (T := TX6) (N := 13) hx hb hts in_X5_walk_X6 hown hK hP 2 rfl rfl 8 (by decide) (hts (.fieldLink RX5 26 "PaneDays$Street" "orders" "I") (List.mem_of_getElem? (i := 3) rfl)) (fun _ h9 => h9) rfl dX5_walk_18 ?_
    refine lv_icmp_ge (tgt := 52) hx hb dX5_walk_21 (by decide) (fun hc => ?_) (fun hc => ?_)
    · replace hf := ow_t hc hf
      refine lv_aload_n hx hb dX5_walk_52 rfl (lv_at hl 0 rfl) ?_
      refine lv_aload_n hx hb dX5_walk_53 rfl (lv_at hl 1 rfl) ?_
      refine lv_iload_n hx hb dX5_walk_54 rfl (lv_at hl 3 rfl) ?_
      refine lv_iconst (v := 0) hx hb dX5_walk_55 (by decide) ?_
      refine lv_iconst (v := 0) hx hb dX5_walk_56 (by decide) ?_
      refine lv_iconst (v := 0) hx hb dX5_walk_57 (by decide) ?_
      refine lv_iconst (v := 0) hx hb dX5_walk_58 (by decide) ?_
      obtain ⟨q59, hq, hf⟩ := bd_some hf
      refine ow_callVV (As := [.ref a1, .int x3, .int 0, .int 0, .int 0, .int 0]) (rest := []) (wr := ow_pk (W_X5_walk cs a0 p0 i0_0 i0_1 v0_2 a1 p1 i1_0 i1_6 i1_8 i1_10 i1_11 i1_12 v1_1 v1_2 v1_3 v1_4 v1_5 v1_7 v1_9) []) (wf := (W_X5_walk cs a0 p0 q59.1 q59.2 v0_2 a1 p1 i1_0 i1_6 i1_8 i1_10 i1_11 i1_12 v1_1 v1_2 v1_3 v1_4 v1_5 v1_7 v1_9)) C0 (c_X5_goOn l D cs 9 H.size a0 p0 i0_0 i0_1 v0_2 a1 p1 i1_0 i1_6 i1_8 i1_10 i1_11 i1_12 v1_1 v1_2 v1_3 v1_4 v1_5 v1_7 v1_9 x3 (0) (0) (0) (0) q59 hq) (cwV 6 hts gX5_walk_X5_goOn rfl rfl rfl (by decide +kernel) ⟨Nat.le_of_ble_eq_true rfl, Nat.le_of_ble_eq_true rfl⟩) 5 rfl rfl hP hD hS (fun q h => Or.inr h) [0, 1, 2, 3, 4, 5, 6, 7, 8, 9] [] [0, 1, 2, 3, 4, 5, 6, 7, 8, 9] rfl (by decide) rfl (by decide) (by decide) rfl (by decide) rfl hl.1 rfl (Nat.le_of_ble_eq_true rfl) ⟨Nat.zero_le _, Nat.zero_le _⟩ dX5_walk_59 (fun H locs hP hD hS => ?_)
      obtain rfl := Option.some.inj hf
      exact ow_retV C0 hP hD hS dX5_walk_62
    · replace hf := ow_f hc hf
      refine lv_iload_n hx hb dX5_walk_24 rfl (lv_at hl 2 rfl) ?_
      refine lv_iload hx hb dX5_walk_25 (lv_at hl 4 rfl) ?_
      refine lv_ishr hx hb dX5_walk_27 ?_
      refine lv_iconst (v := 1) hx hb dX5_walk_28 (by decide) ?_
      refine lv_iand hx hb dX5_walk_29 ?_
      refine lv_iconst (v := 1) hx hb dX5_walk_30 (by decide) ?_
      refine lv_icmp_ne (tgt := 46) hx hb dX5_walk_31 (by decide) (fun hc => ?_) (fun hc => ?_)
      · replace hf := ow_f hc hf
        exact w_X5_walk_b46 C0 a0 p0 v0_2 a1 p1 i1_0 i1_6 i1_8 i1_10 i1_11 i1_12 v1_1 v1_2 v1_3 v1_4 v1_5 v1_7 v1_9 res (f_X5_walk_b15 v0_2 i1_8 i1_10 i1_11 v1_3 v1_4 v1_9 n) ih i0_0 i0_1 x2 x3 x4 hf _ _ _ hP hD hS (lv_sub hl [0, 1, 2, 3, 4] rfl)
      · replace hf := ow_t hc hf
        refine lv_iload_n hx hb dX5_walk_34 rfl (lv_at hl 3 rfl) ?_
        refine lv_iconst (v := 1) hx hb dX5_walk_35 (by decide) ?_
        refine lv_aload_n hx hb dX5_walk_36 rfl (lv_at hl 1 rfl) ?_
        refine lv_iload hx hb dX5_walk_37 (lv_at hl 4 rfl) ?_
        refine lv_iconst (v := 0) hx hb dX5_walk_39 (by decide) ?_
        obtain ⟨q40, hq, hf⟩ := bd_some hf
        refine ow_callVI (As := [.int x4, .int 0]) (rest := [.int 1, .int x3]) (wr := ow_pk (W_X5_walk cs a0 p0 i0_0 i0_1 v0_2 a1 p1 i1_0 i1_6 i1_8 i1_10 i1_11 i1_12 v1_1 v1_2 v1_3 v1_4 v1_5 v1_7 v1_9) [0, 1]) (wf := (W_X5_walk cs a0 p0 i0_0 i0_1 v0_2 a1 p1 i1_0 i1_6 i1_8 i1_10 i1_11 i1_12 v1_1 v1_2 v1_3 v1_4 v1_5 v1_7 v1_9)) (r := q40) C0 (c_X6_part l D cs H.size a1 p1 i1_0 i1_6 i1_8 i1_10 i1_11 i1_12 v1_1 v1_2 v1_3 v1_4 v1_5 v1_7 v1_9 x4 (0) q40 hq) (cwV 2 hts gX5_walk_X6_part rfl rfl rfl (by decide +kernel) ⟨Nat.le_of_ble_eq_true rfl, Nat.le_of_ble_eq_true rfl⟩) 6 rfl rfl hP hD hS (fun q h => Or.inr h) [2, 3, 4, 5, 6, 7, 8, 9] [0, 1] [0, 1, 2, 3, 4, 5, 6, 7, 8, 9] rfl (by decide) rfl (by decide) (by decide) rfl (by decide) rfl hl.1 rfl (Nat.le_of_ble_eq_true rfl) ⟨Nat.zero_le _, Nat.zero_le _⟩ dX5_walk_40 (fun H locs hP hD hS => ?_)
        refine lv_ishl hx hb dX5_walk_43 ?_
        refine lv_ior hx hb dX5_walk_44 ?_
        refine lv_istore_n (lv' := [(3, .int (x3 ||| (((1 : Int32)) <<< (q40 &&& 31)))), (0, .ref a0), (1, .ref a1), (2, .int x2), (4, .int x4)]) hx hb dX5_walk_45 rfl hl (by decide) rfl (fun ls hl => ?_)
        exact w_X5_walk_b46 C0 a0 p0 v0_2 a1 p1 i1_0 i1_6 i1_8 i1_10 i1_11 i1_12 v1_1 v1_2 v1_3 v1_4 v1_5 v1_7 v1_9 res (f_X5_walk_b15 v0_2 i1_8 i1_10 i1_11 v1_3 v1_4 v1_9 n) ih i0_0 i0_1 x2 (x3 ||| (((1 : Int32)) <<< (q40 &&& 31))) x4 hf _ _ _ hP hD hS (lv_sub hl [1, 2, 3, 0, 4] rfl)
def f_X5_walk  (i0_0 : Int32) (i0_1 : Int32) (v0_2 : Nat → Int32) (i1_8 : Int32) (i1_10 : Int32) (i1_11 : Int32) (v1_3 : Nat → Int32) (v1_4 : Nat → Int32) (v1_9 : Nat → Int32) (x2 : Int32) : Option (Int32 × Int32) := f_X5_walk_b15 v0_2 i1_8 i1_10 i1_11 v1_3 v1_4 v1_9 4000 ((-1)) (0) x2 (0) (0)
set_option maxHeartbeats 4000000 in
set_option maxRecDepth 100000 in
theorem c_X5_walk (l : Launch) (D : va_G) (cs : Nat → ClassId)  (sz : Nat) (a0 : Nat) (p0 : Nat → Nat) (i0_0 : Int32) (i0_1 : Int32) (v0_2 : Nat → Int32) (a1 : Nat) (p1 : Nat → Nat) (i1_0 : Int32) (i1_6 : Int32) (i1_8 : Int32) (i1_10 : Int32) (i1_11 : Int32) (i1_12 : Int32) (v1_1 : Nat → Int32) (v1_2 : Nat → Int32) (v1_3 : Nat → Int32) (v1_4 : Nat → Int32) (v1_5 : Nat → Int32) (v1_7 : Nat → Int32) (v1_9 : Nat → Int32) (x2 : Int32) (res : Int32 × Int32) (hf : f_X5_walk  i0_0 i0_1 v0_2 i1_8 i1_10 i1_11 v1_3 v1_4 v1_9 x2 = some res) : MV l D cs yX5_walk wsX5_walk rm_X5_walk [.ref a0, .ref a1, .int x2] sz (W_X5_walk cs a0 p0 i0_0 i0_1 v0_2 a1 p1 i1_0 i1_6 i1_8 i1_10 i1_11 i1_12 v1_1 v1_2 v1_3 v1_4 v1_5 v1_7 v1_9) (W_X5_walk cs a0 p0 res.1 res.2 v0_2 a1 p1 i1_0 i1_6 i1_8 i1_10 i1_11 i1_12 v1_1 v1_2 v1_3 v1_4 v1_5 v1_7 v1_9) := by
  rw [f_X5_walk] at hf
  refine ow_enter (cc := cX5_walk) (nL := 5) (ret := none) (by decide) rfl (Nat.le_of_ble_eq_true rfl) (fun p e s m below meth c ls H locs C0 hP hD hS hA hl => ?_)
  obtain ⟨hx, hb, hr, hlk, hml, hown, hts, hK, hG, hE⟩ := id C0
  have hl : lv_has ls 5 [(0, .ref a0), (1, .ref a1), (2, .int x2)] := hl
  refine lv_aload_n hx hb dX5_walk_0 rfl (lv_at hl 0 rfl) ?_
  refine lv_iconst (v := (-1)) hx hb dX5_walk_1 (by decide) ?_
  refine va_put (D := D) (ci := 5) (v := .int ((-1))) (ty := .int) (C := RX5) (T := TX5) (N := 3) hx hb hts in_X5_walk_X5 tyX5 tyX5_ok nmX5 hown hK hP hD hS 0 rfl rfl 0 (by decide) (hts (.fieldLink RX5 41 "PaneDays$Rounds" "fewest" "I") (List.mem_of_getElem? (i := 1) rfl)) (fun _ h9 => h9) rfl (by decide +kernel) rfl rfl (Nat.le_of_ble_eq_true rfl) dX5_walk_2 (fun H locs (hP : va_P D vwCl (W_X5_walk cs a0 p0 ((-1)) i0_1 v0_2 a1 p1 i1_0 i1_6 i1_8 i1_10 i1_11 i1_12 v1_1 v1_2 v1_3 v1_4 v1_5 v1_7 v1_9) H) (hD : va_D _ (W_X5_walk cs a0 p0 ((-1)) i0_1 v0_2 a1 p1 i1_0 i1_6 i1_8 i1_10 i1_11 i1_12 v1_1 v1_2 v1_3 v1_4 v1_5 v1_7 v1_9)) hS => ?_)
  refine lv_aload_n hx hb dX5_walk_5 rfl (lv_at hl 0 rfl) ?_
  refine lv_iconst (v := 0) hx hb dX5_walk_6 (by decide) ?_
  refine va_put (D := D) (ci := 5) (v := .int 0) (ty := .int) (C := RX5) (T := TX5) (N := 3) hx hb hts in_X5_walk_X5 tyX5 tyX5_ok nmX5 hown hK hP hD hS 0 rfl rfl 1 (by decide) (hts (.fieldLink RX5 44 "PaneDays$Rounds" "bestRow" "I") (List.mem_of_getElem? (i := 2) rfl)) (fun _ h9 => h9) rfl (by decide +kernel) rfl rfl (Nat.le_of_ble_eq_true rfl) dX5_walk_7 (fun H locs (hP : va_P D vwCl (W_X5_walk cs a0 p0 ((-1)) (0) v0_2 a1 p1 i1_0 i1_6 i1_8 i1_10 i1_11 i1_12 v1_1 v1_2 v1_3 v1_4 v1_5 v1_7 v1_9) H) (hD : va_D _ (W_X5_walk cs a0 p0 ((-1)) (0) v0_2 a1 p1 i1_0 i1_6 i1_8 i1_10 i1_11 i1_12 v1_1 v1_2 v1_3 v1_4 v1_5 v1_7 v1_9)) hS => ?_)
  refine lv_iconst (v := 0) hx hb dX5_walk_10 (by decide) ?_
  refine lv_istore_n (lv' := [(3, .int 0), (0, .ref a0), (1, .ref a1), (2, .int x2)]) hx hb dX5_walk_11 rfl hl (by decide) rfl (fun ls hl => ?_)
  refine lv_iconst (v := 0) hx hb dX5_walk_12 (by decide) ?_
  refine lv_istore (lv' := [(4, .int 0), (3, .int 0), (0, .ref a0), (1, .ref a1), (2, .int x2)]) hx hb dX5_walk_13 hl (by decide) rfl (fun ls hl => ?_)
  exact w_X5_walk_b15 C0 a0 p0 v0_2 a1 p1 i1_0 i1_6 i1_8 i1_10 i1_11 i1_12 v1_1 v1_2 v1_3 v1_4 v1_5 v1_7 v1_9 res 4000 ((-1)) (0) x2 (0) (0) hf _ _ _ hP hD hS (lv_sub hl [2, 3, 4, 1, 0] rfl)
theorem in_X5_walkInTime_X5 : ∀ w ∈ u_ws RX5 TX5 3, w ∈ wsX5_walkInTime := fun w h => List.mem_cons_of_mem _ (List.mem_append_left _ (List.mem_append_right _ h))
theorem in_X5_walkInTime_X6 : ∀ w ∈ u_ws RX6 TX6 13, w ∈ wsX5_walkInTime := fun w h => List.mem_cons_of_mem _ (List.mem_append_right _ h)
abbrev W_X5_walkInTime (cs : Nat → ClassId) (a0 : Nat) (p0 : Nat → Nat) (i0_0 : Int32) (i0_1 : Int32) (v0_2 : Nat → Int32) (a1 : Nat) (p1 : Nat → Nat) (i1_0 : Int32) (i1_6 : Int32) (i1_8 : Int32) (i1_10 : Int32) (i1_11 : Int32) (i1_12 : Int32) (v1_1 : Nat → Int32) (v1_2 : Nat → Int32) (v1_3 : Nat → Int32) (v1_4 : Nat → Int32) (v1_5 : Nat → Int32) (v1_7 : Nat → Int32) (v1_9 : Nat → Int32) : va_W := wX5 cs a0 p0 i0_0 i0_1 v0_2 ++ wX6 cs a1 p1 i1_0 i1_6 i1_8 i1_10 i1_11 i1_12 v1_1 v1_2 v1_3 v1_4 v1_5 v1_7 v1_9
abbrev rm_X5_walkInTime : Room := { frames := 11, cells := 0, slots := 0, locals := 324 }
def f_X5_walkInTime_b84  (i1_8 : Int32) (i1_10 : Int32) (i1_11 : Int32) (v1_3 : Nat → Int32) (v1_4 : Nat → Int32) (v1_9 : Nat → Int32) (k12 : (Int32) → (Int32) → (Nat → Int32) → Int32 → Int32 → Int32 → Int32 → Option (Int32 × Int32 × (Nat → Int32))) (i0_0 : Int32) (i0_1 : Int32) (v0_2 : Nat → Int32) (x2 : Int32) (x3 : Int32) (x4 : Int32) (x5 : Int32) : Option (Int32 × Int32 × (Nat → Int32)) := k12 i0_0 i0_1 v0_2 x2 x3 x4 (x5 + 1)
set_option maxHeartbeats 4000000 in
set_option maxRecDepth 100000 in
theorem w_X5_walkInTime_b84 {p : Program} {l : Launch} {e : Env} {s : State} {m : MethodId} {below : List Frame} {meth : Method} {c : Code} {D : va_G} {cs : Nat → ClassId} {av : Array Value} {w0 : va_W} (C0 : Cx p s m meth c av wsX5_walkInTime cX5_walkInTime 8 none RX5 D cs w0)  (a0 : Nat) (p0 : Nat → Nat) (a1 : Nat) (p1 : Nat → Nat) (i1_0 : Int32) (i1_6 : Int32) (i1_8 : Int32) (i1_10 : Int32) (i1_11 : Int32) (i1_12 : Int32) (v1_1 : Nat → Int32) (v1_2 : Nat → Int32) (v1_3 : Nat → Int32) (v1_4 : Nat → Int32) (v1_5 : Nat → Int32) (v1_7 : Nat → Int32) (v1_9 : Nat → Int32) (res : Int32 × Int32 × (Nat → Int32)) (k12 : (Int32) → (Int32) → (Nat → Int32) → Int32 → Int32 → Int32 → Int32 → Option (Int32 × Int32 × (Nat → Int32))) (hk12 : ∀ (i0_0 : Int32) (i0_1 : Int32) (v0_2 : Nat → Int32) (x2 : Int32) (x3 : Int32) (x4 : Int32) (x5 : Int32), k12 i0_0 i0_1 v0_2 x2 x3 x4 x5 = some res → ∀ (H : Heap) (locs : List Loc) (ls : Array Slot), va_P D vwCl (W_X5_walkInTime cs a0 p0 i0_0 i0_1 v0_2 a1 p1 i1_0 i1_6 i1_8 i1_10 i1_11 i1_12 v1_1 v1_2 v1_3 v1_4 v1_5 v1_7 v1_9) H → va_D (va_A w0 s.heap.size) (W_X5_walkInTime cs a0 p0 i0_0 i0_1 v0_2 a1 p1 i1_0 i1_6 i1_8 i1_10 i1_11 i1_12 v1_1 v1_2 v1_3 v1_4 v1_5 v1_7 v1_9) → va_S (va_A w0 s.heap.size) s.heap H locs → lv_has ls 8 [(0, .ref a0), (1, .ref a1), (2, .int x2), (3, .int x3), (4, .int x4), (5, .int x5)] → W p l e rm_X5_walkInTime s m av below meth c H locs 0 0 (MQ below (oV D cs w0 (W_X5_walkInTime cs a0 p0 res.1 res.2.1 res.2.2 a1 p1 i1_0 i1_6 i1_8 i1_10 i1_11 i1_12 v1_1 v1_2 v1_3 v1_4 v1_5 v1_7 v1_9) s.heap.size) av s 0 0 (va_A w0 s.heap.size)) (F0 m 12 ls [])) : ∀ (i0_0 : Int32) (i0_1 : Int32) (v0_2 : Nat → Int32) (x2 : Int32) (x3 : Int32) (x4 : Int32) (x5 : Int32), f_X5_walkInTime_b84 i1_8 i1_10 i1_11 v1_3 v1_4 v1_9 k12 i0_0 i0_1 v0_2 x2 x3 x4 x5 = some res → ∀ (H : Heap) (locs : List Loc) (ls : Array Slot), va_P D vwCl (W_X5_walkInTime cs a0 p0 i0_0 i0_1 v0_2 a1 p1 i1_0 i1_6 i1_8 i1_10 i1_11 i1_12 v1_1 v1_2 v1_3 v1_4 v1_5 v1_7 v1_9) H → va_D (va_A w0 s.heap.size) (W_X5_walkInTime cs a0 p0 i0_0 i0_1 v0_2 a1 p1 i1_0 i1_6 i1_8 i1_10 i1_11 i1_12 v1_1 v1_2 v1_3 v1_4 v1_5 v1_7 v1_9) → va_S (va_A w0 s.heap.size) s.heap H locs → lv_has ls 8 [(0, .ref a0), (1, .ref a1), (2, .int x2), (3, .int x3), (4, .int x4), (5, .int x5)] → W p l e rm_X5_walkInTime s m av below meth c H locs 0 0 (MQ below (oV D cs w0 (W_X5_walkInTime cs a0 p0 res.1 res.2.1 res.2.2 a1 p1 i1_0 i1_6 i1_8 i1_10 i1_11 i1_12 v1_1 v1_2 v1_3 v1_4 v1_5 v1_7 v1_9) s.heap.size) av s 0 0 (va_A w0 s.heap.size)) (F0 m 84 ls []) := by
  obtain ⟨hx, hb, hr, hlk, hml, hown, hts, hK, hG, hE⟩ := id C0
  intro i0_0 i0_1 v0_2 x2 x3 x4 x5 hf H locs ls hP hD hS hl
  rw [f_X5_walkInTime_b84] at hf
  refine lv_iinc (v := x5 + 1) (lv' := [(5, .int (x5 + 1)), (0, .ref a0), (1, .ref a1), (2, .int x2), (3, .int x3), (4, .int x4)]) hx hb dX5_walkInTime_84 hl (k := 5) rfl (ow_inc (by decide)) (by decide) rfl (fun ls hl => ?_)
  refine lv_goto (tgt := 12) hx hb dX5_walkInTime_87 (by decide) ?_
  exact hk12 i0_0 i0_1 v0_2 x2 x3 x4 (x5 + 1) hf _ _ _ hP hD hS (lv_sub hl [1, 2, 3, 4, 5, 0] rfl)
def f_X5_walkInTime_b80  (i1_8 : Int32) (i1_10 : Int32) (i1_11 : Int32) (v1_3 : Nat → Int32) (v1_4 : Nat → Int32) (v1_9 : Nat → Int32) (k12 : (Int32) → (Int32) → (Nat → Int32) → Int32 → Int32 → Int32 → Int32 → Option (Int32 × Int32 × (Nat → Int32))) (i0_0 : Int32) (i0_1 : Int32) (v0_2 : Nat → Int32) (x2 : Int32) (x3 : Int32) (x4 : Int32) (x5 : Int32) (t1 : Int32) (t2 : Int32) (t3 : Int32) : Option (Int32 × Int32 × (Nat → Int32)) := ck t1 5 (f_X5_walkInTime_b84 i1_8 i1_10 i1_11 v1_3 v1_4 v1_9 k12 i0_0 i0_1 (upd v0_2 (t1).toNatClampNeg (if t3 < t2 then t3 else t2)) x2 x3 x4 x5)
set_option maxHeartbeats 4000000 in
set_option maxRecDepth 100000 in
theorem w_X5_walkInTime_b80 {p : Program} {l : Launch} {e : Env} {s : State} {m : MethodId} {below : List Frame} {meth : Method} {c : Code} {D : va_G} {cs : Nat → ClassId} {av : Array Value} {w0 : va_W} (C0 : Cx p s m meth c av wsX5_walkInTime cX5_walkInTime 8 none RX5 D cs w0)  (a0 : Nat) (p0 : Nat → Nat) (a1 : Nat) (p1 : Nat → Nat) (i1_0 : Int32) (i1_6 : Int32) (i1_8 : Int32) (i1_10 : Int32) (i1_11 : Int32) (i1_12 : Int32) (v1_1 : Nat → Int32) (v1_2 : Nat → Int32) (v1_3 : Nat → Int32) (v1_4 : Nat → Int32) (v1_5 : Nat → Int32) (v1_7 : Nat → Int32) (v1_9 : Nat → Int32) (res : Int32 × Int32 × (Nat → Int32)) (k12 : (Int32) → (Int32) → (Nat → Int32) → Int32 → Int32 → Int32 → Int32 → Option (Int32 × Int32 × (Nat → Int32))) (hk12 : ∀ (i0_0 : Int32) (i0_1 : Int32) (v0_2 : Nat → Int32) (x2 : Int32) (x3 : Int32) (x4 : Int32) (x5 : Int32), k12 i0_0 i0_1 v0_2 x2 x3 x4 x5 = some res → ∀ (H : Heap) (locs : List Loc) (ls : Array Slot), va_P D vwCl (W_X5_walkInTime cs a0 p0 i0_0 i0_1 v0_2 a1 p1 i1_0 i1_6 i1_8 i1_10 i1_11 i1_12 v1_1 v1_2 v1_3 v1_4 v1_5 v1_7 v1_9) H → va_D (va_A w0 s.heap.size) (W_X5_walkInTime cs a0 p0 i0_0 i0_1 v0_2 a1 p1 i1_0 i1_6 i1_8 i1_10 i1_11 i1_12 v1_1 v1_2 v1_3 v1_4 v1_5 v1_7 v1_9) → va_S (va_A w0 s.heap.size) s.heap H locs → lv_has ls 8 [(0, .ref a0), (1, .ref a1), (2, .int x2), (3, .int x3), (4, .int x4), (5, .int x5)] → W p l e rm_X5_walkInTime s m av below meth c H locs 0 0 (MQ below (oV D cs w0 (W_X5_walkInTime cs a0 p0 res.1 res.2.1 res.2.2 a1 p1 i1_0 i1_6 i1_8 i1_10 i1_11 i1_12 v1_1 v1_2 v1_3 v1_4 v1_5 v1_7 v1_9) s.heap.size) av s 0 0 (va_A w0 s.heap.size)) (F0 m 12 ls [])) : ∀ (i0_0 : Int32) (i0_1 : Int32) (v0_2 : Nat → Int32) (x2 : Int32) (x3 : Int32) (x4 : Int32) (x5 : Int32) (t1 : Int32) (t2 : Int32) (t3 : Int32), f_X5_walkInTime_b80 i1_8 i1_10 i1_11 v1_3 v1_4 v1_9 k12 i0_0 i0_1 v0_2 x2 x3 x4 x5 t1 t2 t3 = some res → ∀ (H : Heap) (locs : List Loc) (ls : Array Slot), va_P D vwCl (W_X5_walkInTime cs a0 p0 i0_0 i0_1 v0_2 a1 p1 i1_0 i1_6 i1_8 i1_10 i1_11 i1_12 v1_1 v1_2 v1_3 v1_4 v1_5 v1_7 v1_9) H → va_D (va_A w0 s.heap.size) (W_X5_walkInTime cs a0 p0 i0_0 i0_1 v0_2 a1 p1 i1_0 i1_6 i1_8 i1_10 i1_11 i1_12 v1_1 v1_2 v1_3 v1_4 v1_5 v1_7 v1_9) → va_S (va_A w0 s.heap.size) s.heap H locs → lv_has ls 8 [(0, .ref a0), (1, .ref a1), (2, .int x2), (3, .int x3), (4, .int x4), (5, .int x5)] → W p l e rm_X5_walkInTime s m av below meth c H locs 0 0 (MQ below (oV D cs w0 (W_X5_walkInTime cs a0 p0 res.1 res.2.1 res.2.2 a1 p1 i1_0 i1_6 i1_8 i1_10 i1_11 i1_12 v1_1 v1_2 v1_3 v1_4 v1_5 v1_7 v1_9) s.heap.size) av s 0 0 (va_A w0 s.heap.size)) (F0 m 80 ls [.int t3, .int t2, .int t1, .ref (p0 2)]) := by
  obtain ⟨hx, hb, hr, hlk, hml, hown, hts, hK, hG, hE⟩ := id C0
  intro i0_0 i0_1 v0_2 x2 x3 x4 x5 t1 t2 t3 hf H locs ls hP hD hS hl
  rw [f_X5_walkInTime_b80] at hf
  refine va_mmin hx hb (hml.trans hl.1.symm) hown (hts (.methodLink RX5 36 Lib.Math.min.name) (by decide +kernel)) (hts (.static Lib.Math.min.name) (by decide +kernel)) (hts (.initialized "java/lang/Math") (by decide +kernel)) (hts (.code Lib.Math.min.name Lib.Math.min.code 2 (some .int)) (by decide +kernel)) (Nat.le_of_ble_eq_true rfl) (Nat.le_of_ble_eq_true rfl) (Nat.zero_le _) (Nat.zero_le _) dX5_walkInTime_80 ?_
  obtain ⟨hin, hf⟩ := ck_some hf
  refine va_iast (f := v0_2) hx hb hK hP hD hS 1 0 rfl rfl hin dX5_walkInTime_83 (fun H locs (hP : va_P D vwCl (W_X5_walkInTime cs a0 p0 i0_0 i0_1 (upd v0_2 (t1).toNatClampNeg (if t3 < t2 then t3 else t2)) a1 p1 i1_0 i1_6 i1_8 i1_10 i1_11 i1_12 v1_1 v1_2 v1_3 v1_4 v1_5 v1_7 v1_9) H) (hD : va_D _ (W_X5_walkInTime cs a0 p0 i0_0 i0_1 (upd v0_2 (t1).toNatClampNeg (if t3 < t2 then t3 else t2)) a1 p1 i1_0 i1_6 i1_8 i1_10 i1_11 i1_12 v1_1 v1_2 v1_3 v1_4 v1_5 v1_7 v1_9)) hS => ?_)
  exact w_X5_walkInTime_b84 C0 a0 p0 a1 p1 i1_0 i1_6 i1_8 i1_10 i1_11 i1_12 v1_1 v1_2 v1_3 v1_4 v1_5 v1_7 v1_9 res k12 hk12 i0_0 i0_1 (upd v0_2 (t1).toNatClampNeg (if t3 < t2 then t3 else t2)) x2 x3 x4 x5 hf _ _ _ hP hD hS (lv_sub hl [0, 1, 2, 3, 4, 5] rfl)
def f_X5_walkInTime_b12  (i1_8 : Int32) (i1_10 : Int32) (i1_11 : Int32) (v1_3 : Nat → Int32) (v1_4 : Nat → Int32) (v1_9 : Nat → Int32)  : Nat → (Int32) → (Int32) → (Nat → Int32) → Int32 → Int32 → Int32 → Int32 → Option (Int32 × Int32 × (Nat → Int32))
  | 0, _, _, _, _, _, _, _ => none
  | n + 1, i0_0, i0_1, v0_2, x2, x3, x4, x5 => if i1_8 ≤ x5 then ((f_X5_walk i0_0 i0_1 v0_2 i1_8 i1_10 i1_11 v1_3 v1_4 v1_9 x2).bind fun q93 => some (q93.1, q93.2, v0_2)) else (if ((x2 >>> (x5 &&& 31)) &&& 1) = 1 then ((f_X6_part v1_9 x5 (0)).bind fun q35 => (f_X6_part v1_9 x5 (4)).bind fun q44 => ck q35 5 (if ((q44 - x3) + 1) ≤ 0 then (f_X5_walkInTime_b80 i1_8 i1_10 i1_11 v1_3 v1_4 v1_9 (f_X5_walkInTime_b12 i1_8 i1_10 i1_11 v1_3 v1_4 v1_9 n) i0_0 i0_1 v0_2 x2 x3 x4 x5 q35 (v0_2 (q35).toNatClampNeg) ((-1))) else (f_X5_walkInTime_b80 i1_8 i1_10 i1_11 v1_3 v1_4 v1_9 (f_X5_walkInTime_b12 i1_8 i1_10 i1_11 v1_3 v1_4 v1_9 n) i0_0 i0_1 v0_2 x2 x3 x4 x5 q35 (v0_2 (q35).toNatClampNeg) (((q44 - x3) + 1) * x4)))) else (f_X5_walkInTime_b84 i1_8 i1_10 i1_11 v1_3 v1_4 v1_9 (f_X5_walkInTime_b12 i1_8 i1_10 i1_11 v1_3 v1_4 v1_9 n) i0_0 i0_1 v0_2 x2 x3 x4 x5))
set_option maxHeartbeats 4000000 in
set_option maxRecDepth 100000 in
theorem w_X5_walkInTime_b12 {p : Program} {l : Launch} {e : Env} {s : State} {m : MethodId} {below : List Frame} {meth : Method} {c : Code} {D : va_G} {cs : Nat → ClassId} {av : Array Value} {w0 : va_W} (C0 : Cx p s m meth c av wsX5_walkInTime cX5_walkInTime 8 none RX5 D cs w0)  (a0 : Nat) (p0 : Nat → Nat) (a1 : Nat) (p1 : Nat → Nat) (i1_0 : Int32) (i1_6 : Int32) (i1_8 : Int32) (i1_10 : Int32) (i1_11 : Int32) (i1_12 : Int32) (v1_1 : Nat → Int32) (v1_2 : Nat → Int32) (v1_3 : Nat → Int32) (v1_4 : Nat → Int32) (v1_5 : Nat → Int32) (v1_7 : Nat → Int32) (v1_9 : Nat → Int32) (res : Int32 × Int32 × (Nat → Int32))  : ∀ (n : Nat) (i0_0 : Int32) (i0_1 : Int32) (v0_2 : Nat → Int32) (x2 : Int32) (x3 : Int32) (x4 : Int32) (x5 : Int32), f_X5_walkInTime_b12 i1_8 i1_10 i1_11 v1_3 v1_4 v1_9 n i0_0 i0_1 v0_2 x2 x3 x4 x5 = some res → ∀ (H : Heap) (locs : List Loc) (ls : Array Slot), va_P D vwCl (W_X5_walkInTime cs a0 p0 i0_0 i0_1 v0_2 a1 p1 i1_0 i1_6 i1_8 i1_10 i1_11 i1_12 v1_1 v1_2 v1_3 v1_4 v1_5 v1_7 v1_9) H → va_D (va_A w0 s.heap.size) (W_X5_walkInTime cs a0 p0 i0_0 i0_1 v0_2 a1 p1 i1_0 i1_6 i1_8 i1_10 i1_11 i1_12 v1_1 v1_2 v1_3 v1_4 v1_5 v1_7 v1_9) → va_S (va_A w0 s.heap.size) s.heap H locs → lv_has ls 8 [(0, .ref a0), (1, .ref a1), (2, .int x2), (3, .int x3), (4, .int x4), (5, .int x5)] → W p l e rm_X5_walkInTime s m av below meth c H locs 0 0 (MQ below (oV D cs w0 (W_X5_walkInTime cs a0 p0 res.1 res.2.1 res.2.2 a1 p1 i1_0 i1_6 i1_8 i1_10 i1_11 i1_12 v1_1 v1_2 v1_3 v1_4 v1_5 v1_7 v1_9) s.heap.size) av s 0 0 (va_A w0 s.heap.size)) (F0 m 12 ls []) := by
  obtain ⟨hx, hb, hr, hlk, hml, hown, hts, hK, hG, hE⟩ := id C0
  intro n
  induction n with
  | zero =>
    intro i0_0 i0_1 v0_2 x2 x3 x4 x5 hf
    rw [f_X5_walkInTime_b12] at hf
    cases hf
  | succ n ih =>
    intro i0_0 i0_1 v0_2 x2 x3 x4 x5 hf H locs ls hP hD hS hl
    rw [f_X5_walkInTime_b12] at hf
    refine lv_iload hx hb dX5_walkInTime_12 (lv_at hl 5 rfl) ?_
    refine lv_aload_n hx hb dX5_walkInTime_14 rfl (lv_at hl 1 rfl) ?_
    refine va_get (D := D) (ci := 6) (v := .int i1_8) (C := RX6) (T := TX6) (N := 13) hx hb hts in_X5_walkInTime_X6 hown hK hP 2 rfl rfl 8 (by decide) (hts (.fieldLink RX5 26 "PaneDays$Street" "orders" "I") (List.mem_of_getElem? (i := 3) rfl)) (fun _ h9 => h9) rfl dX5_walkInTime_15 ?_
    refine lv_icmp_ge (tgt := 90) hx hb dX5_walkInTime_18 (by decide) (fun hc => ?_) (fun hc => ?_)
    · replace hf := ow_t hc hf
      refine lv_aload_n hx hb dX5_walkInTime_90 rfl (lv_at hl 0 rfl) ?_
      refine lv_aload_n hx hb dX5_walkInTime_91 rfl (lv_at hl 1 rfl) ?_
      refine lv_iload_n hx hb dX5_walkInTime_92 rfl (lv_at hl 2 rfl) ?_
      obtain ⟨q93, hq, hf⟩ := bd_some hf
      refine ow_callVV (As := [.ref a1, .int x2]) (rest := []) (wr := ow_pk (W_X5_walkInTime cs a0 p0 i0_0 i0_1 v0_2 a1 p1 i1_0 i1_6 i1_8 i1_10 i1_11 i1_12 v1_1 v1_2 v1_3 v1_4 v1_5 v1_7 v1_9) []) (wf := (W_X5_walkInTime cs a0 p0 q93.1 q93.2 v0_2 a1 p1 i1_0 i1_6 i1_8 i1_10 i1_11 i1_12 v1_1 v1_2 v1_3 v1_4 v1_5 v1_7 v1_9)) C0 (c_X5_walk l D cs H.size a0 p0 i0_0 i0_1 v0_2 a1 p1 i1_0 i1_6 i1_8 i1_10 i1_11 i1_12 v1_1 v1_2 v1_3 v1_4 v1_5 v1_7 v1_9 x2 q93 hq) (cwV 2 hts gX5_walkInTime_X5_walk rfl rfl rfl (by decide +kernel) ⟨Nat.le_of_ble_eq_true rfl, Nat.le_of_ble_eq_true rfl⟩) 5 rfl rfl hP hD hS (fun q h => Or.inr h) [0, 1, 2, 3, 4, 5, 6, 7, 8, 9] [] [0, 1, 2, 3, 4, 5, 6, 7, 8, 9] rfl (by decide) rfl (by decide) (by decide) rfl (by decide) rfl hl.1 rfl (Nat.le_of_ble_eq_true rfl) ⟨Nat.zero_le _, Nat.zero_le _⟩ dX5_walkInTime_93 (fun H locs hP hD hS => ?_)
      obtain rfl := Option.some.inj hf
      exact ow_retV C0 hP hD hS dX5_walkInTime_96
    · replace hf := ow_f hc hf
      refine lv_iload_n hx hb dX5_walkInTime_21 rfl (lv_at hl 2 rfl) ?_
      refine lv_iload hx hb dX5_walkInTime_22 (lv_at hl 5 rfl) ?_
      refine lv_ishr hx hb dX5_walkInTime_24 ?_
      refine lv_iconst (v := 1) hx hb dX5_walkInTime_25 (by decide) ?_
      refine lv_iand hx hb dX5_walkInTime_26 ?_
      refine lv_iconst (v := 1) hx hb dX5_walkInTime_27 (by decide) ?_
      refine lv_icmp_ne (tgt := 84) hx hb dX5_walkInTime_28 (by decide) (fun hc => ?_) (fun hc => ?_)
      · replace hf := ow_f hc hf
        exact w_X5_walkInTime_b84 C0 a0 p0 a1 p1 i1_0 i1_6 i1_8 i1_10 i1_11 i1_12 v1_1 v1_2 v1_3 v1_4 v1_5 v1_7 v1_9 res (f_X5_walkInTime_b12 i1_8 i1_10 i1_11 v1_3 v1_4 v1_9 n) ih i0_0 i0_1 v0_2 x2 x3 x4 x5 hf _ _ _ hP hD hS (lv_sub hl [0, 1, 2, 3, 4, 5] rfl)
      · replace hf := ow_t hc hf
        refine lv_aload_n hx hb dX5_walkInTime_31 rfl (lv_at hl 1 rfl) ?_
        refine lv_iload hx hb dX5_walkInTime_32 (lv_at hl 5 rfl) ?_
        refine lv_iconst (v := 0) hx hb dX5_walkInTime_34 (by decide) ?_
        obtain ⟨q35, hq, hf⟩ := bd_some hf
        refine ow_callVI (As := [.int x5, .int 0]) (rest := []) (wr := ow_pk (W_X5_walkInTime cs a0 p0 i0_0 i0_1 v0_2 a1 p1 i1_0 i1_6 i1_8 i1_10 i1_11 i1_12 v1_1 v1_2 v1_3 v1_4 v1_5 v1_7 v1_9) [0, 1]) (wf := (W_X5_walkInTime cs a0 p0 i0_0 i0_1 v0_2 a1 p1 i1_0 i1_6 i1_8 i1_10 i1_11 i1_12 v1_1 v1_2 v1_3 v1_4 v1_5 v1_7 v1_9)) (r := q35) C0 (c_X6_part l D cs H.size a1 p1 i1_0 i1_6 i1_8 i1_10 i1_11 i1_12 v1_1 v1_2 v1_3 v1_4 v1_5 v1_7 v1_9 x5 (0) q35 hq) (cwV 2 hts gX5_walkInTime_X6_part rfl rfl rfl (by decide +kernel) ⟨Nat.le_of_ble_eq_true rfl, Nat.le_of_ble_eq_true rfl⟩) 6 rfl rfl hP hD hS (fun q h => Or.inr h) [2, 3, 4, 5, 6, 7, 8, 9] [0, 1] [0, 1, 2, 3, 4, 5, 6, 7, 8, 9] rfl (by decide) rfl (by decide) (by decide) rfl (by decide) rfl hl.1 rfl (Nat.le_of_ble_eq_true rfl) ⟨Nat.zero_le _, Nat.zero_le _⟩ dX5_walkInTime_35 (fun H locs hP hD hS => ?_)
        refine lv_istore (lv' := [(6, .int q35), (0, .ref a0), (1, .ref a1), (2, .int x2), (3, .int x3), (4, .int x4), (5, .int x5)]) hx hb dX5_walkInTime_38 hl (by decide) rfl (fun ls hl => ?_)
        refine lv_aload_n hx hb dX5_walkInTime_40 rfl (lv_at hl 2 rfl) ?_
        refine lv_iload hx hb dX5_walkInTime_41 (lv_at hl 6 rfl) ?_
        refine lv_iconst (v := 4) hx hb dX5_walkInTime_43 (by decide) ?_
        obtain ⟨q44, hq, hf⟩ := bd_some hf
        refine ow_callVI (As := [.int x5, .int 4]) (rest := []) (wr := ow_pk (W_X5_walkInTime cs a0 p0 i0_0 i0_1 v0_2 a1 p1 i1_0 i1_6 i1_8 i1_10 i1_11 i1_12 v1_1 v1_2 v1_3 v1_4 v1_5 v1_7 v1_9) [0, 1]) (wf := (W_X5_walkInTime cs a0 p0 i0_0 i0_1 v0_2 a1 p1 i1_0 i1_6 i1_8 i1_10 i1_11 i1_12 v1_1 v1_2 v1_3 v1_4 v1_5 v1_7 v1_9)) (r := q44) C0 (c_X6_part l D cs H.size a1 p1 i1_0 i1_6 i1_8 i1_10 i1_11 i1_12 v1_1 v1_2 v1_3 v1_4 v1_5 v1_7 v1_9 x5 (4) q44 hq) (cwV 2 hts gX5_walkInTime_X6_part rfl rfl rfl (by decide +kernel) ⟨Nat.le_of_ble_eq_true rfl, Nat.le_of_ble_eq_true rfl⟩) 6 rfl rfl hP hD hS (fun q h => Or.inr h) [2, 3, 4, 5, 6, 7, 8, 9] [0, 1] [0, 1, 2, 3, 4, 5, 6, 7, 8, 9] rfl (by decide) rfl (by decide) (by decide) rfl (by decide) rfl hl.1 rfl (Nat.le_of_ble_eq_true rfl) ⟨Nat.zero_le _, Nat.zero_le _⟩ dX5_walkInTime_44 (fun H locs hP hD hS => ?_)
        refine lv_iload_n hx hb dX5_walkInTime_47 rfl (lv_at hl 4 rfl) ?_
        refine lv_isub hx hb dX5_walkInTime_48 ?_
        refine lv_iconst (v := 1) hx hb dX5_walkInTime_49 (by decide) ?_
        refine lv_iadd hx hb dX5_walkInTime_50 ?_
        refine lv_istore (lv' := [(7, .int ((q44 - x3) + 1)), (6, .int q35), (0, .ref a0), (1, .ref a1), (2, .int x2), (3, .int x3), (4, .int x4), (5, .int x5)]) hx hb dX5_walkInTime_51 hl (by decide) rfl (fun ls hl => ?_)
        refine lv_aload_n hx hb dX5_walkInTime_53 rfl (lv_at hl 2 rfl) ?_
        refine va_get (D := D) (ci := 5) (v := .ref (p0 2)) (C := RX5) (T := TX5) (N := 3) hx hb hts in_X5_walkInTime_X5 hown hK hP 0 rfl rfl 2 (by decide) (hts (.fieldLink RX5 9 "PaneDays$Rounds" "latest" "[I") (List.mem_of_getElem? (i := 1) rfl)) (fun _ h9 => h9) rfl dX5_walkInTime_54 ?_
        refine lv_iload hx hb dX5_walkInTime_57 (lv_at hl 1 rfl) ?_
        refine lv_aload_n hx hb dX5_walkInTime_59 rfl (lv_at hl 2 rfl) ?_
        refine va_get (D := D) (ci := 5) (v := .ref (p0 2)) (C := RX5) (T := TX5) (N := 3) hx hb hts in_X5_walkInTime_X5 hown hK hP 0 rfl rfl 2 (by decide) (hts (.fieldLink RX5 9 "PaneDays$Rounds" "latest" "[I") (List.mem_of_getElem? (i := 1) rfl)) (fun _ h9 => h9) rfl dX5_walkInTime_60 ?_
        refine lv_iload hx hb dX5_walkInTime_63 (lv_at hl 1 rfl) ?_
        obtain ⟨hin, hf⟩ := ck_some hf
        refine va_iald (f := v0_2) hx hb hK hP 1 0 rfl rfl hin dX5_walkInTime_65 ?_
        refine lv_iload hx hb dX5_walkInTime_66 (lv_at hl 0 rfl) ?_
        refine lv_if_le (tgt := 79) hx hb dX5_walkInTime_68 (by decide) (fun hc => ?_) (fun hc => ?_)
        · replace hf := ow_t hc hf
          refine lv_iconst (v := (-1)) hx hb dX5_walkInTime_79 (by decide) ?_
          exact w_X5_walkInTime_b80 C0 a0 p0 a1 p1 i1_0 i1_6 i1_8 i1_10 i1_11 i1_12 v1_1 v1_2 v1_3 v1_4 v1_5 v1_7 v1_9 res (f_X5_walkInTime_b12 i1_8 i1_10 i1_11 v1_3 v1_4 v1_9 n) ih i0_0 i0_1 v0_2 x2 x3 x4 x5 q35 (v0_2 (q35).toNatClampNeg) ((-1)) hf _ _ _ hP hD hS (lv_sub hl [2, 3, 4, 5, 6, 7] rfl)
        · replace hf := ow_f hc hf
          refine lv_iload hx hb dX5_walkInTime_71 (lv_at hl 0 rfl) ?_
          refine lv_iload hx hb dX5_walkInTime_73 (lv_at hl 6 rfl) ?_
          refine lv_imul hx hb dX5_walkInTime_75 ?_
          refine lv_goto (tgt := 80) hx hb dX5_walkInTime_76 (by decide) ?_
          exact w_X5_walkInTime_b80 C0 a0 p0 a1 p1 i1_0 i1_6 i1_8 i1_10 i1_11 i1_12 v1_1 v1_2 v1_3 v1_4 v1_5 v1_7 v1_9 res (f_X5_walkInTime_b12 i1_8 i1_10 i1_11 v1_3 v1_4 v1_9 n) ih i0_0 i0_1 v0_2 x2 x3 x4 x5 q35 (v0_2 (q35).toNatClampNeg) (((q44 - x3) + 1) * x4) hf _ _ _ hP hD hS (lv_sub hl [2, 3, 4, 5, 6, 7] rfl)
def f_X5_walkInTime  (i0_0 : Int32) (i0_1 : Int32) (v0_2 : Nat → Int32) (i1_8 : Int32) (i1_10 : Int32) (i1_11 : Int32) (v1_3 : Nat → Int32) (v1_4 : Nat → Int32) (v1_9 : Nat → Int32) (x2 : Int32) (x3 : Int32) (x4 : Int32) : Option (Int32 × Int32 × (Nat → Int32)) := (f_J7_fill_53178 5 v0_2 (1000000)).bind fun q6 => f_X5_walkInTime_b12 i1_8 i1_10 i1_11 v1_3 v1_4 v1_9 4000 i0_0 i0_1 q6 x2 x3 x4 (0)
set_option maxHeartbeats 4000000 in
set_option maxRecDepth 100000 in
theorem c_X5_walkInTime (l : Launch) (D : va_G) (cs : Nat → ClassId)  (sz : Nat) (a0 : Nat) (p0 : Nat → Nat) (i0_0 : Int32) (i0_1 : Int32) (v0_2 : Nat → Int32) (a1 : Nat) (p1 : Nat → Nat) (i1_0 : Int32) (i1_6 : Int32) (i1_8 : Int32) (i1_10 : Int32) (i1_11 : Int32) (i1_12 : Int32) (v1_1 : Nat → Int32) (v1_2 : Nat → Int32) (v1_3 : Nat → Int32) (v1_4 : Nat → Int32) (v1_5 : Nat → Int32) (v1_7 : Nat → Int32) (v1_9 : Nat → Int32) (x2 : Int32) (x3 : Int32) (x4 : Int32) (res : Int32 × Int32 × (Nat → Int32)) (hf : f_X5_walkInTime  i0_0 i0_1 v0_2 i1_8 i1_10 i1_11 v1_3 v1_4 v1_9 x2 x3 x4 = some res) : MV l D cs yX5_walkInTime wsX5_walkInTime rm_X5_walkInTime [.ref a0, .ref a1, .int x2, .int x3, .int x4] sz (W_X5_walkInTime cs a0 p0 i0_0 i0_1 v0_2 a1 p1 i1_0 i1_6 i1_8 i1_10 i1_11 i1_12 v1_1 v1_2 v1_3 v1_4 v1_5 v1_7 v1_9) (W_X5_walkInTime cs a0 p0 res.1 res.2.1 res.2.2 a1 p1 i1_0 i1_6 i1_8 i1_10 i1_11 i1_12 v1_1 v1_2 v1_3 v1_4 v1_5 v1_7 v1_9) := by
  rw [f_X5_walkInTime] at hf
  refine ow_enter (cc := cX5_walkInTime) (nL := 8) (ret := none) (by decide) rfl (Nat.le_of_ble_eq_true rfl) (fun p e s m below meth c ls H locs C0 hP hD hS hA hl => ?_)
  obtain ⟨hx, hb, hr, hlk, hml, hown, hts, hK, hG, hE⟩ := id C0
  have hl : lv_has ls 8 [(0, .ref a0), (1, .ref a1), (2, .int x2), (3, .int x3), (4, .int x4)] := hl
  refine lv_aload_n hx hb dX5_walkInTime_0 rfl (lv_at hl 0 rfl) ?_
  refine va_get (D := D) (ci := 5) (v := .ref (p0 2)) (C := RX5) (T := TX5) (N := 3) hx hb hts in_X5_walkInTime_X5 hown hK hP 0 rfl rfl 2 (by decide) (hts (.fieldLink RX5 9 "PaneDays$Rounds" "latest" "[I") (List.mem_of_getElem? (i := 1) rfl)) (fun _ h9 => h9) rfl dX5_walkInTime_1 ?_
  refine lv_ldc (own := RX5) (v := 1000000) hx hb hown (hts (.constant RX5 15 (1000000)) (List.mem_of_getElem? (i := 2) rfl)) dX5_walkInTime_4 ?_
  obtain ⟨q6, hq, hf⟩ := bd_some hf
  refine ow_callSV (As := [.ref (p0 2), .int 1000000]) (rest := []) (wr := ow_pk (W_X5_walkInTime cs a0 p0 i0_0 i0_1 v0_2 a1 p1 i1_0 i1_6 i1_8 i1_10 i1_11 i1_12 v1_1 v1_2 v1_3 v1_4 v1_5 v1_7 v1_9) [0, 2, 3, 4, 5, 6, 7, 8, 9]) (wf := (W_X5_walkInTime cs a0 p0 i0_0 i0_1 q6 a1 p1 i1_0 i1_6 i1_8 i1_10 i1_11 i1_12 v1_1 v1_2 v1_3 v1_4 v1_5 v1_7 v1_9)) C0 (c_J7_fill_53178 l D cs H.size (p0 2) 5 v0_2 (1000000) q6 hq) (va_cwS 2 hts gX5_walkInTime_J7_fill_53178 rfl rfl rfl (by decide +kernel) ⟨Nat.le_of_ble_eq_true rfl, Nat.le_of_ble_eq_true rfl⟩) hP hD hS (fun q h => Or.inr h) [1] [0, 2, 3, 4, 5, 6, 7, 8, 9] [0, 9, 1, 2, 3, 4, 5, 6, 7, 8] rfl (by decide) rfl (by decide) (by decide) rfl (by decide) rfl hl.1 rfl (Nat.le_of_ble_eq_true rfl) ⟨Nat.zero_le _, Nat.zero_le _⟩ dX5_walkInTime_6 (fun H locs hP hD hS => ?_)
  refine lv_iconst (v := 0) hx hb dX5_walkInTime_9 (by decide) ?_
  refine lv_istore (lv' := [(5, .int 0), (0, .ref a0), (1, .ref a1), (2, .int x2), (3, .int x3), (4, .int x4)]) hx hb dX5_walkInTime_10 hl (by decide) rfl (fun ls hl => ?_)
  exact w_X5_walkInTime_b12 C0 a0 p0 a1 p1 i1_0 i1_6 i1_8 i1_10 i1_11 i1_12 v1_1 v1_2 v1_3 v1_4 v1_5 v1_7 v1_9 res 4000 i0_0 i0_1 q6 x2 x3 x4 (0) hf _ _ _ hP hD hS (lv_sub hl [1, 2, 3, 4, 5, 0] rfl)
theorem in_X5_walkFreely_X5 : ∀ w ∈ u_ws RX5 TX5 3, w ∈ wsX5_walkFreely := fun w h => List.mem_cons_of_mem _ (List.mem_append_left _ (List.mem_append_right _ h))
abbrev W_X5_walkFreely (cs : Nat → ClassId) (a0 : Nat) (p0 : Nat → Nat) (i0_0 : Int32) (i0_1 : Int32) (v0_2 : Nat → Int32) (a1 : Nat) (p1 : Nat → Nat) (i1_0 : Int32) (i1_6 : Int32) (i1_8 : Int32) (i1_10 : Int32) (i1_11 : Int32) (i1_12 : Int32) (v1_1 : Nat → Int32) (v1_2 : Nat → Int32) (v1_3 : Nat → Int32) (v1_4 : Nat → Int32) (v1_5 : Nat → Int32) (v1_7 : Nat → Int32) (v1_9 : Nat → Int32) : va_W := wX5 cs a0 p0 i0_0 i0_1 v0_2 ++ wX6 cs a1 p1 i1_0 i1_6 i1_8 i1_10 i1_11 i1_12 v1_1 v1_2 v1_3 v1_4 v1_5 v1_7 v1_9
abbrev rm_X5_walkFreely : Room := { frames := 11, cells := 0, slots := 0, locals := 324 }
def f_X5_walkFreely  (i0_0 : Int32) (i0_1 : Int32) (v0_2 : Nat → Int32) (i1_8 : Int32) (i1_10 : Int32) (i1_11 : Int32) (v1_3 : Nat → Int32) (v1_4 : Nat → Int32) (v1_9 : Nat → Int32) (x2 : Int32) : Option (Int32 × Int32 × (Nat → Int32)) := (f_J7_fill_53178 5 v0_2 (1000000)).bind fun q6 => (f_X5_walk i0_0 i0_1 q6 i1_8 i1_10 i1_11 v1_3 v1_4 v1_9 x2).bind fun q12 => some (q12.1, q12.2, q6)
set_option maxHeartbeats 4000000 in
set_option maxRecDepth 100000 in
theorem c_X5_walkFreely (l : Launch) (D : va_G) (cs : Nat → ClassId)  (sz : Nat) (a0 : Nat) (p0 : Nat → Nat) (i0_0 : Int32) (i0_1 : Int32) (v0_2 : Nat → Int32) (a1 : Nat) (p1 : Nat → Nat) (i1_0 : Int32) (i1_6 : Int32) (i1_8 : Int32) (i1_10 : Int32) (i1_11 : Int32) (i1_12 : Int32) (v1_1 : Nat → Int32) (v1_2 : Nat → Int32) (v1_3 : Nat → Int32) (v1_4 : Nat → Int32) (v1_5 : Nat → Int32) (v1_7 : Nat → Int32) (v1_9 : Nat → Int32) (x2 : Int32) (res : Int32 × Int32 × (Nat → Int32)) (hf : f_X5_walkFreely  i0_0 i0_1 v0_2 i1_8 i1_10 i1_11 v1_3 v1_4 v1_9 x2 = some res) : MV l D cs yX5_walkFreely wsX5_walkFreely rm_X5_walkFreely [.ref a0, .ref a1, .int x2] sz (W_X5_walkFreely cs a0 p0 i0_0 i0_1 v0_2 a1 p1 i1_0 i1_6 i1_8 i1_10 i1_11 i1_12 v1_1 v1_2 v1_3 v1_4 v1_5 v1_7 v1_9) (W_X5_walkFreely cs a0 p0 res.1 res.2.1 res.2.2 a1 p1 i1_0 i1_6 i1_8 i1_10 i1_11 i1_12 v1_1 v1_2 v1_3 v1_4 v1_5 v1_7 v1_9) := by
  rw [f_X5_walkFreely] at hf
  refine ow_enter (cc := cX5_walkFreely) (nL := 3) (ret := none) (by decide) rfl (Nat.le_of_ble_eq_true rfl) (fun p e s m below meth c ls H locs C0 hP hD hS hA hl => ?_)
  obtain ⟨hx, hb, hr, hlk, hml, hown, hts, hK, hG, hE⟩ := id C0
  have hl : lv_has ls 3 [(0, .ref a0), (1, .ref a1), (2, .int x2)] := hl
  refine lv_aload_n hx hb dX5_walkFreely_0 rfl (lv_at hl 0 rfl) ?_
  refine va_get (D := D) (ci := 5) (v := .ref (p0 2)) (C := RX5) (T := TX5) (N := 3) hx hb hts in_X5_walkFreely_X5 hown hK hP 0 rfl rfl 2 (by decide) (hts (.fieldLink RX5 9 "PaneDays$Rounds" "latest" "[I") (List.mem_of_getElem? (i := 1) rfl)) (fun _ h9 => h9) rfl dX5_walkFreely_1 ?_
  refine lv_ldc (own := RX5) (v := 1000000) hx hb hown (hts (.constant RX5 15 (1000000)) (List.mem_of_getElem? (i := 2) rfl)) dX5_walkFreely_4 ?_
  obtain ⟨q6, hq, hf⟩ := bd_some hf
  refine ow_callSV (As := [.ref (p0 2), .int 1000000]) (rest := []) (wr := ow_pk (W_X5_walkFreely cs a0 p0 i0_0 i0_1 v0_2 a1 p1 i1_0 i1_6 i1_8 i1_10 i1_11 i1_12 v1_1 v1_2 v1_3 v1_4 v1_5 v1_7 v1_9) [0, 2, 3, 4, 5, 6, 7, 8, 9]) (wf := (W_X5_walkFreely cs a0 p0 i0_0 i0_1 q6 a1 p1 i1_0 i1_6 i1_8 i1_10 i1_11 i1_12 v1_1 v1_2 v1_3 v1_4 v1_5 v1_7 v1_9)) C0 (c_J7_fill_53178 l D cs H.size (p0 2) 5 v0_2 (1000000) q6 hq) (va_cwS 2 hts gX5_walkFreely_J7_fill_53178 rfl rfl rfl (by decide +kernel) ⟨Nat.le_of_ble_eq_true rfl, Nat.le_of_ble_eq_true rfl⟩) hP hD hS (fun q h => Or.inr h) [1] [0, 2, 3, 4, 5, 6, 7, 8, 9] [0, 9, 1, 2, 3, 4, 5, 6, 7, 8] rfl (by decide) rfl (by decide) (by decide) rfl (by decide) rfl hl.1 rfl (Nat.le_of_ble_eq_true rfl) ⟨Nat.zero_le _, Nat.zero_le _⟩ dX5_walkFreely_6 (fun H locs hP hD hS => ?_)
  refine lv_aload_n hx hb dX5_walkFreely_9 rfl (lv_at hl 0 rfl) ?_
  refine lv_aload_n hx hb dX5_walkFreely_10 rfl (lv_at hl 1 rfl) ?_
  refine lv_iload_n hx hb dX5_walkFreely_11 rfl (lv_at hl 2 rfl) ?_
  obtain ⟨q12, hq, hf⟩ := bd_some hf
  refine ow_callVV (As := [.ref a1, .int x2]) (rest := []) (wr := ow_pk (W_X5_walkFreely cs a0 p0 i0_0 i0_1 q6 a1 p1 i1_0 i1_6 i1_8 i1_10 i1_11 i1_12 v1_1 v1_2 v1_3 v1_4 v1_5 v1_7 v1_9) []) (wf := (W_X5_walkFreely cs a0 p0 q12.1 q12.2 q6 a1 p1 i1_0 i1_6 i1_8 i1_10 i1_11 i1_12 v1_1 v1_2 v1_3 v1_4 v1_5 v1_7 v1_9)) C0 (c_X5_walk l D cs H.size a0 p0 i0_0 i0_1 q6 a1 p1 i1_0 i1_6 i1_8 i1_10 i1_11 i1_12 v1_1 v1_2 v1_3 v1_4 v1_5 v1_7 v1_9 x2 q12 hq) (cwV 2 hts gX5_walkFreely_X5_walk rfl rfl rfl (by decide +kernel) ⟨Nat.le_of_ble_eq_true rfl, Nat.le_of_ble_eq_true rfl⟩) 5 rfl rfl hP hD hS (fun q h => Or.inr h) [0, 1, 2, 3, 4, 5, 6, 7, 8, 9] [] [0, 1, 2, 3, 4, 5, 6, 7, 8, 9] rfl (by decide) rfl (by decide) (by decide) rfl (by decide) rfl hl.1 rfl (Nat.le_of_ble_eq_true rfl) ⟨Nat.zero_le _, Nat.zero_le _⟩ dX5_walkFreely_12 (fun H locs hP hD hS => ?_)
  obtain rfl := Option.some.inj hf
  exact ow_retV C0 hP hD hS dX5_walkFreely_15

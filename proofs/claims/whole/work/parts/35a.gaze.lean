abbrev rm_X1_circleAt : Room := { frames := 1, cells := 0, slots := 0, locals := 21 }
def f_X1_circleAt_b42   (k5 : Int32 → Int32 → Int32 → Int32 → Int32 → Option (Int32))  (x0 : Int32) (x1 : Int32) (x2 : Int32) (x3 : Int32) (x4 : Int32) : Option (Int32) := k5 x0 x1 x2 x3 (x4 + 1)
set_option maxHeartbeats 4000000 in
set_option maxRecDepth 100000 in
theorem w_X1_circleAt_b42 {p : Program} {l : Launch} {e : Env} {s : State} {m : MethodId} {below : List Frame} {meth : Method} {c : Code} {D : va_G} {cs : Nat → ClassId} {av : Array Value} {w0 : va_W} (C0 : Cx p s m meth c av wsX1_circleAt cX1_circleAt 5 (some .int) RX1 D cs w0)   (res : Int32) (k5 : Int32 → Int32 → Int32 → Int32 → Int32 → Option (Int32)) (hk5 : ∀ (x0 : Int32) (x1 : Int32) (x2 : Int32) (x3 : Int32) (x4 : Int32), k5 x0 x1 x2 x3 x4 = some res → ∀ (H : Heap) (locs : List Loc) (ls : Array Slot), va_P D vwCl ([] : va_W) H → va_D (va_A w0 s.heap.size) ([] : va_W) → va_S (va_A w0 s.heap.size) s.heap H locs → lv_has ls 5 [(0, .int x0), (1, .int x1), (2, .int x2), (3, .int x3), (4, .int x4)] → W p l e rm_X1_circleAt s m av below meth c H locs 0 0 (MQ below (oI D cs w0 ([] : va_W) res s.heap.size) av s 0 0 (va_A w0 s.heap.size)) (F0 m 5 ls [])) : ∀ (x0 : Int32) (x1 : Int32) (x2 : Int32) (x3 : Int32) (x4 : Int32), f_X1_circleAt_b42 k5 x0 x1 x2 x3 x4 = some res → ∀ (H : Heap) (locs : List Loc) (ls : Array Slot), va_P D vwCl ([] : va_W) H → va_D (va_A w0 s.heap.size) ([] : va_W) → va_S (va_A w0 s.heap.size) s.heap H locs → lv_has ls 5 [(0, .int x0), (1, .int x1), (2, .int x2), (3, .int x3), (4, .int x4)] → W p l e rm_X1_circleAt s m av below meth c H locs 0 0 (MQ below (oI D cs w0 ([] : va_W) res s.heap.size) av s 0 0 (va_A w0 s.heap.size)) (F0 m 42 ls []) := by
  obtain ⟨hx, hb, hr, hlk, hml, hown, hts, hK, hG, hE⟩ := id C0
  intro x0 x1 x2 x3 x4 hf H locs ls hP hD hS hl
  rw [f_X1_circleAt_b42] at hf
  refine lv_iinc (v := x4 + 1) (lv' := [(4, .int (x4 + 1)), (0, .int x0), (1, .int x1), (2, .int x2), (3, .int x3)]) hx hb dX1_circleAt_42 hl (k := 4) rfl (ow_inc (by decide)) (by decide) rfl (fun ls hl => ?_)
  refine lv_goto (tgt := 5) hx hb dX1_circleAt_45 (by decide) ?_
  exact hk5 x0 x1 x2 x3 (x4 + 1) hf _ _ _ hP hD hS (lv_sub hl [1, 2, 3, 4, 0] rfl)
def f_X1_circleAt_b5    : Nat → Int32 → Int32 → Int32 → Int32 → Int32 → Option (Int32)
  | 0, _, _, _, _, _ => none
  | n + 1, x0, x1, x2, x3, x4 => if 16 ≤ x4 then (some (x3)) else (if x2 < ((if 0 ≤ ((x4 &&& 3) - x0) then ((x4 &&& 3) - x0) else 0 - ((x4 &&& 3) - x0)) + (if 0 ≤ ((x4 >>> (((2 : Int32)) &&& 31)) - x1) then ((x4 >>> (((2 : Int32)) &&& 31)) - x1) else 0 - ((x4 >>> (((2 : Int32)) &&& 31)) - x1))) then (f_X1_circleAt_b42 (f_X1_circleAt_b5 n) x0 x1 x2 x3 x4) else (f_X1_circleAt_b42 (f_X1_circleAt_b5 n) x0 x1 x2 (x3 ||| (((1 : Int32)) <<< (x4 &&& 31))) x4))
set_option maxHeartbeats 4000000 in
set_option maxRecDepth 100000 in
theorem w_X1_circleAt_b5 {p : Program} {l : Launch} {e : Env} {s : State} {m : MethodId} {below : List Frame} {meth : Method} {c : Code} {D : va_G} {cs : Nat → ClassId} {av : Array Value} {w0 : va_W} (C0 : Cx p s m meth c av wsX1_circleAt cX1_circleAt 5 (some .int) RX1 D cs w0)   (res : Int32)  : ∀ (n : Nat) (x0 : Int32) (x1 : Int32) (x2 : Int32) (x3 : Int32) (x4 : Int32), f_X1_circleAt_b5 n x0 x1 x2 x3 x4 = some res → ∀ (H : Heap) (locs : List Loc) (ls : Array Slot), va_P D vwCl ([] : va_W) H → va_D (va_A w0 s.heap.size) ([] : va_W) → va_S (va_A w0 s.heap.size) s.heap H locs → lv_has ls 5 [(0, .int x0), (1, .int x1), (2, .int x2), (3, .int x3), (4, .int x4)] → W p l e rm_X1_circleAt s m av below meth c H locs 0 0 (MQ below (oI D cs w0 ([] : va_W) res s.heap.size) av s 0 0 (va_A w0 s.heap.size)) (F0 m 5 ls []) := by
  obtain ⟨hx, hb, hr, hlk, hml, hown, hts, hK, hG, hE⟩ := id C0
  intro n
  induction n with
  | zero =>
    intro x0 x1 x2 x3 x4 hf
    rw [f_X1_circleAt_b5] at hf
    cases hf
  | succ n ih =>
    intro x0 x1 x2 x3 x4 hf H locs ls hP hD hS hl
    rw [f_X1_circleAt_b5] at hf
    refine lv_iload hx hb dX1_circleAt_5 (lv_at hl 4 rfl) ?_
    refine lv_bipush (v := 16) hx hb dX1_circleAt_7 (by decide) ?_
    refine lv_icmp_ge (tgt := 48) hx hb dX1_circleAt_9 (by decide) (fun hc => ?_) (fun hc => ?_)
    · replace hf := ow_t hc hf
      refine lv_iload_n hx hb dX1_circleAt_48 rfl (lv_at hl 3 rfl) ?_
      obtain rfl := Option.some.inj hf
      exact ow_retI C0 hP hD hS dX1_circleAt_49
    · replace hf := ow_f hc hf
      refine lv_iload hx hb dX1_circleAt_12 (lv_at hl 4 rfl) ?_
      refine lv_iconst (v := 3) hx hb dX1_circleAt_14 (by decide) ?_
      refine lv_iand hx hb dX1_circleAt_15 ?_
      refine lv_iload_n hx hb dX1_circleAt_16 rfl (lv_at hl 0 rfl) ?_
      refine lv_isub hx hb dX1_circleAt_17 ?_
      refine va_mabs hx hb (hml.trans hl.1.symm) hown (hts (.methodLink RX1 18 Lib.Math.abs.name) (by decide +kernel)) (hts (.static Lib.Math.abs.name) (by decide +kernel)) (hts (.initialized "java/lang/Math") (by decide +kernel)) (hts (.code Lib.Math.abs.name Lib.Math.abs.code 1 (some .int)) (by decide +kernel)) (Nat.le_of_ble_eq_true rfl) (Nat.le_of_ble_eq_true rfl) (Nat.zero_le _) (Nat.zero_le _) dX1_circleAt_18 ?_
      refine lv_iload hx hb dX1_circleAt_21 (lv_at hl 4 rfl) ?_
      refine lv_iconst (v := 2) hx hb dX1_circleAt_23 (by decide) ?_
      refine lv_ishr hx hb dX1_circleAt_24 ?_
      refine lv_iload_n hx hb dX1_circleAt_25 rfl (lv_at hl 1 rfl) ?_
      refine lv_isub hx hb dX1_circleAt_26 ?_
      refine va_mabs hx hb (hml.trans hl.1.symm) hown (hts (.methodLink RX1 18 Lib.Math.abs.name) (by decide +kernel)) (hts (.static Lib.Math.abs.name) (by decide +kernel)) (hts (.initialized "java/lang/Math") (by decide +kernel)) (hts (.code Lib.Math.abs.name Lib.Math.abs.code 1 (some .int)) (by decide +kernel)) (Nat.le_of_ble_eq_true rfl) (Nat.le_of_ble_eq_true rfl) (Nat.zero_le _) (Nat.zero_le _) dX1_circleAt_27 ?_
      refine lv_iadd hx hb dX1_circleAt_30 ?_
      refine lv_iload_n hx hb dX1_circleAt_31 rfl (lv_at hl 2 rfl) ?_
      refine lv_icmp_gt (tgt := 42) hx hb dX1_circleAt_32 (by decide) (fun hc => ?_) (fun hc => ?_)
      · replace hf := ow_t hc hf
        exact w_X1_circleAt_b42 C0 res (f_X1_circleAt_b5 n) ih x0 x1 x2 x3 x4 hf _ _ _ hP hD hS (lv_sub hl [0, 1, 2, 3, 4] rfl)
      · replace hf := ow_f hc hf
        refine lv_iload_n hx hb dX1_circleAt_35 rfl (lv_at hl 3 rfl) ?_
        refine lv_iconst (v := 1) hx hb dX1_circleAt_36 (by decide) ?_
        refine lv_iload hx hb dX1_circleAt_37 (lv_at hl 4 rfl) ?_
        refine lv_ishl hx hb dX1_circleAt_39 ?_
        refine lv_ior hx hb dX1_circleAt_40 ?_
        refine lv_istore_n (lv' := [(3, .int (x3 ||| (((1 : Int32)) <<< (x4 &&& 31)))), (0, .int x0), (1, .int x1), (2, .int x2), (4, .int x4)]) hx hb dX1_circleAt_41 rfl hl (by decide) rfl (fun ls hl => ?_)
        exact w_X1_circleAt_b42 C0 res (f_X1_circleAt_b5 n) ih x0 x1 x2 (x3 ||| (((1 : Int32)) <<< (x4 &&& 31))) x4 hf _ _ _ hP hD hS (lv_sub hl [1, 2, 3, 0, 4] rfl)
def f_X1_circleAt   (x0 : Int32) (x1 : Int32) (x2 : Int32) : Option (Int32) := f_X1_circleAt_b5 4000 x0 x1 x2 (0) (0)
set_option maxHeartbeats 4000000 in
set_option maxRecDepth 100000 in
theorem c_X1_circleAt (l : Launch) (D : va_G) (cs : Nat → ClassId)  (sz : Nat)  (x0 : Int32) (x1 : Int32) (x2 : Int32) (res : Int32) (hf : f_X1_circleAt   x0 x1 x2 = some res) : MI l D cs yX1_circleAt wsX1_circleAt rm_X1_circleAt [.int x0, .int x1, .int x2] sz ([] : va_W) ([] : va_W) res := by
  rw [f_X1_circleAt] at hf
  refine ow_enter (cc := cX1_circleAt) (nL := 5) (ret := (some .int)) (by decide) rfl (Nat.le_of_ble_eq_true rfl) (fun p e s m below meth c ls H locs C0 hP hD hS hA hl => ?_)
  obtain ⟨hx, hb, hr, hlk, hml, hown, hts, hK, hG, hE⟩ := id C0
  have hl : lv_has ls 5 [(0, .int x0), (1, .int x1), (2, .int x2)] := hl
  refine lv_iconst (v := 0) hx hb dX1_circleAt_0 (by decide) ?_
  refine lv_istore_n (lv' := [(3, .int 0), (0, .int x0), (1, .int x1), (2, .int x2)]) hx hb dX1_circleAt_1 rfl hl (by decide) rfl (fun ls hl => ?_)
  refine lv_iconst (v := 0) hx hb dX1_circleAt_2 (by decide) ?_
  refine lv_istore (lv' := [(4, .int 0), (3, .int 0), (0, .int x0), (1, .int x1), (2, .int x2)]) hx hb dX1_circleAt_3 hl (by decide) rfl (fun ls hl => ?_)
  exact w_X1_circleAt_b5 C0 res 4000 x0 x1 x2 (0) (0) hf _ _ _ hP hD hS (lv_sub hl [2, 3, 4, 1, 0] rfl)
theorem in_X1_pickCircles_X1 : ∀ w ∈ u_ws RX1 TX1 4, w ∈ wsX1_pickCircles := fun w h => List.mem_cons_of_mem _ (List.mem_append_right _ h)
abbrev W_X1_pickCircles (cs : Nat → ClassId) (a0 : Nat) (p0 : Nat → Nat) (i0_0 : Int32) (i0_1 : Int32) (v0_2 : Nat → Int32) (v0_3 : Nat → Int32) : va_W := wX1 cs a0 p0 i0_0 i0_1 v0_2 v0_3
abbrev rm_X1_pickCircles (n : Nat) : Room := { frames := 1 * n, cells := 0, slots := 0, locals := 27 * n }
def f_X1_pickCircles_b79 (F : (Nat → Int32) → Int32 → Int32 → Int32 → Int32 → Int32 → Option (Int32)) (v0_3 : Nat → Int32) (k19 : Int32 → Int32 → Int32 → Int32 → Int32 → Option (Int32))  (x1 : Int32) (x3 : Int32) (x4 : Int32) (x5 : Int32) (x6 : Int32) : Option (Int32) := k19 x1 x3 x4 x5 (x6 + 1)
set_option maxHeartbeats 4000000 in
set_option maxRecDepth 100000 in
theorem w_X1_pickCircles_b79 {p : Program} {l : Launch} {e : Env} {s : State} {m : MethodId} {below : List Frame} {meth : Method} {c : Code} {D : va_G} {cs : Nat → ClassId} {av : Array Value} {w0 : va_W} (C0 : Cx p s m meth c av wsX1_pickCircles cX1_pickCircles 8 (some .int) RX1 D cs w0) (F : (Nat → Int32) → Int32 → Int32 → Int32 → Int32 → Int32 → Option (Int32)) (n0 : Nat) (hF : ∀ (sz : Nat) (a0 : Nat) (p0 : Nat → Nat) (i0_0 : Int32) (i0_1 : Int32) (v0_2 : Nat → Int32) (v0_3 : Nat → Int32) (x1 : Int32) (x2 : Int32) (x3 : Int32) (x4 : Int32) (x5 : Int32) (res : Int32), F v0_3 x1 x2 x3 x4 x5 = some res → MI l D cs yX1_pickCircles wsX1_pickCircles (rm_X1_pickCircles n0) [.ref a0, .int x1, .int x2, .int x3, .int x4, .int x5] sz (W_X1_pickCircles cs a0 p0 i0_0 i0_1 v0_2 v0_3) (W_X1_pickCircles cs a0 p0 i0_0 i0_1 v0_2 v0_3) res) (a0 : Nat) (p0 : Nat → Nat) (i0_0 : Int32) (i0_1 : Int32) (v0_2 : Nat → Int32) (v0_3 : Nat → Int32) (res : Int32) (k19 : Int32 → Int32 → Int32 → Int32 → Int32 → Option (Int32)) (hk19 : ∀ (x1 : Int32) (x3 : Int32) (x4 : Int32) (x5 : Int32) (x6 : Int32), k19 x1 x3 x4 x5 x6 = some res → ∀ (H : Heap) (locs : List Loc) (ls : Array Slot), va_P D vwCl (W_X1_pickCircles cs a0 p0 i0_0 i0_1 v0_2 v0_3) H → va_D (va_A w0 s.heap.size) (W_X1_pickCircles cs a0 p0 i0_0 i0_1 v0_2 v0_3) → va_S (va_A w0 s.heap.size) s.heap H locs → lv_has ls 8 [(0, .ref a0), (1, .int x1), (3, .int x3), (4, .int x4), (5, .int x5), (6, .int x6)] → W p l e (rm_X1_pickCircles (n0 + 1)) s m av below meth c H locs 0 0 (MQ below (oI D cs w0 (W_X1_pickCircles cs a0 p0 i0_0 i0_1 v0_2 v0_3) res s.heap.size) av s 0 0 (va_A w0 s.heap.size)) (F0 m 19 ls [])) : ∀ (x1 : Int32) (x3 : Int32) (x4 : Int32) (x5 : Int32) (x6 : Int32), f_X1_pickCircles_b79 F v0_3 k19 x1 x3 x4 x5 x6 = some res → ∀ (H : Heap) (locs : List Loc) (ls : Array Slot), va_P D vwCl (W_X1_pickCircles cs a0 p0 i0_0 i0_1 v0_2 v0_3) H → va_D (va_A w0 s.heap.size) (W_X1_pickCircles cs a0 p0 i0_0 i0_1 v0_2 v0_3) → va_S (va_A w0 s.heap.size) s.heap H locs → lv_has ls 8 [(0, .ref a0), (1, .int x1), (3, .int x3), (4, .int x4), (5, .int x5), (6, .int x6)] → W p l e (rm_X1_pickCircles (n0 + 1)) s m av below meth c H locs 0 0 (MQ below (oI D cs w0 (W_X1_pickCircles cs a0 p0 i0_0 i0_1 v0_2 v0_3) res s.heap.size) av s 0 0 (va_A w0 s.heap.size)) (F0 m 79 ls []) := by
  obtain ⟨hx, hb, hr, hlk, hml, hown, hts, hK, hG, hE⟩ := id C0
  intro x1 x3 x4 x5 x6 hf H locs ls hP hD hS hl
  rw [f_X1_pickCircles_b79] at hf
  refine lv_iinc (v := x6 + 1) (lv' := [(6, .int (x6 + 1)), (0, .ref a0), (1, .int x1), (3, .int x3), (4, .int x4), (5, .int x5)]) hx hb dX1_pickCircles_79 hl (k := 5) rfl (ow_inc (by decide)) (by decide) rfl (fun ls hl => ?_)
  refine lv_goto (tgt := 19) hx hb dX1_pickCircles_82 (by decide) ?_
  exact hk19 x1 x3 x4 x5 (x6 + 1) hf _ _ _ hP hD hS (lv_sub hl [1, 2, 3, 4, 5, 0] rfl)
def f_X1_pickCircles_b19 (F : (Nat → Int32) → Int32 → Int32 → Int32 → Int32 → Int32 → Option (Int32)) (v0_3 : Nat → Int32)  : Nat → Int32 → Int32 → Int32 → Int32 → Int32 → Option (Int32)
  | 0, _, _, _, _, _ => none
  | n + 1, x1, x3, x4, x5, x6 => if 16 ≤ x6 then (some ((-1))) else (if ((x1 >>> (x6 &&& 31)) &&& 1) = 1 then (ck x6 16 ((F v0_3 x1 (x6 + 1) (x3 - 1) (x4 &&& ((v0_3 (x6).toNatClampNeg) ^^^ ((-1)))) ((16 * x5) + x6)).bind fun q65 => if q65 = ((-1)) then (f_X1_pickCircles_b79 F v0_3 (f_X1_pickCircles_b19 F v0_3 n) x1 x3 x4 x5 x6) else (some (q65)))) else (f_X1_pickCircles_b79 F v0_3 (f_X1_pickCircles_b19 F v0_3 n) x1 x3 x4 x5 x6))
set_option maxHeartbeats 4000000 in
set_option maxRecDepth 100000 in
theorem w_X1_pickCircles_b19 {p : Program} {l : Launch} {e : Env} {s : State} {m : MethodId} {below : List Frame} {meth : Method} {c : Code} {D : va_G} {cs : Nat → ClassId} {av : Array Value} {w0 : va_W} (C0 : Cx p s m meth c av wsX1_pickCircles cX1_pickCircles 8 (some .int) RX1 D cs w0) (F : (Nat → Int32) → Int32 → Int32 → Int32 → Int32 → Int32 → Option (Int32)) (n0 : Nat) (hF : ∀ (sz : Nat) (a0 : Nat) (p0 : Nat → Nat) (i0_0 : Int32) (i0_1 : Int32) (v0_2 : Nat → Int32) (v0_3 : Nat → Int32) (x1 : Int32) (x2 : Int32) (x3 : Int32) (x4 : Int32) (x5 : Int32) (res : Int32), F v0_3 x1 x2 x3 x4 x5 = some res → MI l D cs yX1_pickCircles wsX1_pickCircles (rm_X1_pickCircles n0) [.ref a0, .int x1, .int x2, .int x3, .int x4, .int x5] sz (W_X1_pickCircles cs a0 p0 i0_0 i0_1 v0_2 v0_3) (W_X1_pickCircles cs a0 p0 i0_0 i0_1 v0_2 v0_3) res) (a0 : Nat) (p0 : Nat → Nat) (i0_0 : Int32) (i0_1 : Int32) (v0_2 : Nat → Int32) (v0_3 : Nat → Int32) (res : Int32)  : ∀ (n : Nat) (x1 : Int32) (x3 : Int32) (x4 : Int32) (x5 : Int32) (x6 : Int32), f_X1_pickCircles_b19 F v0_3 n x1 x3 x4 x5 x6 = some res → ∀ (H : Heap) (locs : List Loc) (ls : Array Slot), va_P D vwCl (W_X1_pickCircles cs a0 p0 i0_0 i0_1 v0_2 v0_3) H → va_D (va_A w0 s.heap.size) (W_X1_pickCircles cs a0 p0 i0_0 i0_1 v0_2 v0_3) → va_S (va_A w0 s.heap.size) s.heap H locs → lv_has ls 8 [(0, .ref a0), (1, .int x1), (3, .int x3), (4, .int x4), (5, .int x5), (6, .int x6)] → W p l e (rm_X1_pickCircles (n0 + 1)) s m av below meth c H locs 0 0 (MQ below (oI D cs w0 (W_X1_pickCircles cs a0 p0 i0_0 i0_1 v0_2 v0_3) res s.heap.size) av s 0 0 (va_A w0 s.heap.size)) (F0 m 19 ls []) := by
  obtain ⟨hx, hb, hr, hlk, hml, hown, hts, hK, hG, hE⟩ := id C0
  intro n
  induction n with
  | zero =>
    intro x1 x3 x4 x5 x6 hf
    rw [f_X1_pickCircles_b19] at hf
    cases hf
  | succ n ih =>
    intro x1 x3 x4 x5 x6 hf H locs ls hP hD hS hl
    rw [f_X1_pickCircles_b19] at hf
    refine lv_iload hx hb dX1_pickCircles_19 (lv_at hl 5 rfl) ?_
    refine lv_bipush (v := 16) hx hb dX1_pickCircles_21 (by decide) ?_
    refine lv_icmp_ge (tgt := 85) hx hb dX1_pickCircles_23 (by decide) (fun hc => ?_) (fun hc => ?_)
    · replace hf := ow_t hc hf
      refine lv_iconst (v := (-1)) hx hb dX1_pickCircles_85 (by decide) ?_
      obtain rfl := Option.some.inj hf
      exact ow_retI C0 hP hD hS dX1_pickCircles_86
    · replace hf := ow_f hc hf
      refine lv_iload_n hx hb dX1_pickCircles_26 rfl (lv_at hl 1 rfl) ?_
      refine lv_iload hx hb dX1_pickCircles_27 (lv_at hl 5 rfl) ?_
      refine lv_ishr hx hb dX1_pickCircles_29 ?_
      refine lv_iconst (v := 1) hx hb dX1_pickCircles_30 (by decide) ?_
      refine lv_iand hx hb dX1_pickCircles_31 ?_
      refine lv_iconst (v := 1) hx hb dX1_pickCircles_32 (by decide) ?_
      refine lv_icmp_ne (tgt := 79) hx hb dX1_pickCircles_33 (by decide) (fun hc => ?_) (fun hc => ?_)
      · replace hf := ow_f hc hf
        exact w_X1_pickCircles_b79 C0 F n0 hF a0 p0 i0_0 i0_1 v0_2 v0_3 res (f_X1_pickCircles_b19 F v0_3 n) ih x1 x3 x4 x5 x6 hf _ _ _ hP hD hS (lv_sub hl [0, 1, 2, 3, 4, 5] rfl)
      · replace hf := ow_t hc hf
        refine lv_aload_n hx hb dX1_pickCircles_36 rfl (lv_at hl 0 rfl) ?_
        refine lv_iload_n hx hb dX1_pickCircles_37 rfl (lv_at hl 1 rfl) ?_
        refine lv_iload hx hb dX1_pickCircles_38 (lv_at hl 5 rfl) ?_
        refine lv_iconst (v := 1) hx hb dX1_pickCircles_40 (by decide) ?_
        refine lv_iadd hx hb dX1_pickCircles_41 ?_
        refine lv_iload_n hx hb dX1_pickCircles_42 rfl (lv_at hl 2 rfl) ?_
        refine lv_iconst (v := 1) hx hb dX1_pickCircles_43 (by decide) ?_
        refine lv_isub hx hb dX1_pickCircles_44 ?_
        refine lv_iload hx hb dX1_pickCircles_45 (lv_at hl 3 rfl) ?_
        refine lv_aload_n hx hb dX1_pickCircles_47 rfl (lv_at hl 0 rfl) ?_
        refine va_get (D := D) (ci := 1) (v := .ref (p0 3)) (C := RX1) (T := TX1) (N := 4) hx hb hts in_X1_pickCircles_X1 hown hK hP 0 rfl rfl 3 (by decide) (hts (.fieldLink RX1 15 "PaneDays$Gaze" "circles" "[I") (List.mem_of_getElem? (i := 1) rfl)) (fun _ h9 => h9) rfl dX1_pickCircles_48 ?_
        refine lv_iload hx hb dX1_pickCircles_51 (lv_at hl 5 rfl) ?_
        obtain ⟨hin, hf⟩ := ck_some hf
        refine va_iald (f := v0_3) hx hb hK hP 2 0 rfl rfl hin dX1_pickCircles_53 ?_
        refine lv_iconst (v := (-1)) hx hb dX1_pickCircles_54 (by decide) ?_
        refine lv_ixor hx hb dX1_pickCircles_55 ?_
        refine lv_iand hx hb dX1_pickCircles_56 ?_
        refine lv_bipush (v := 16) hx hb dX1_pickCircles_57 (by decide) ?_
        refine lv_iload hx hb dX1_pickCircles_59 (lv_at hl 4 rfl) ?_
        refine lv_imul hx hb dX1_pickCircles_61 ?_
        refine lv_iload hx hb dX1_pickCircles_62 (lv_at hl 5 rfl) ?_
        refine lv_iadd hx hb dX1_pickCircles_64 ?_
        obtain ⟨q65, hq, hf⟩ := bd_some hf
        refine ow_callVI (As := [.int x1, .int (x6 + 1), .int (x3 - 1), .int (x4 &&& ((v0_3 (x6).toNatClampNeg) ^^^ ((-1)))), .int ((16 * x5) + x6)]) (rest := []) (wr := ow_pk (W_X1_pickCircles cs a0 p0 i0_0 i0_1 v0_2 v0_3) []) (wf := (W_X1_pickCircles cs a0 p0 i0_0 i0_1 v0_2 v0_3)) (r := q65) C0 (hF H.size a0 p0 i0_0 i0_1 v0_2 v0_3 x1 (x6 + 1) (x3 - 1) (x4 &&& ((v0_3 (x6).toNatClampNeg) ^^^ ((-1)))) ((16 * x5) + x6) q65 hq) (cwV 5 hts gX1_pickCircles_X1_pickCircles rfl rfl rfl (by decide +kernel) ⟨by simp only [rm_X1_pickCircles, rm_X1_pickCircles]; omega, by simp only [rm_X1_pickCircles, rm_X1_pickCircles]; omega⟩) 1 rfl rfl hP hD hS (fun q h => Or.inr h) [0, 1, 2] [] [0, 1, 2] rfl (by decide) rfl (by decide) (by decide) rfl (by decide) rfl hl.1 rfl (Nat.le_of_ble_eq_true rfl) ⟨Nat.zero_le _, Nat.zero_le _⟩ dX1_pickCircles_65 (fun H locs hP hD hS => ?_)
        refine lv_istore (lv' := [(7, .int q65), (0, .ref a0), (1, .int x1), (3, .int x3), (4, .int x4), (5, .int x5), (6, .int x6)]) hx hb dX1_pickCircles_68 hl (by decide) rfl (fun ls hl => ?_)
        refine lv_iload hx hb dX1_pickCircles_70 (lv_at hl 0 rfl) ?_
        refine lv_iconst (v := (-1)) hx hb dX1_pickCircles_72 (by decide) ?_
        refine lv_icmp_eq (tgt := 79) hx hb dX1_pickCircles_73 (by decide) (fun hc => ?_) (fun hc => ?_)
        · replace hf := ow_t hc hf
          exact w_X1_pickCircles_b79 C0 F n0 hF a0 p0 i0_0 i0_1 v0_2 v0_3 res (f_X1_pickCircles_b19 F v0_3 n) ih x1 x3 x4 x5 x6 hf _ _ _ hP hD hS (lv_sub hl [1, 2, 3, 4, 5, 6] rfl)
        · replace hf := ow_f hc hf
          refine lv_iload hx hb dX1_pickCircles_76 (lv_at hl 0 rfl) ?_
          obtain rfl := Option.some.inj hf
          exact ow_retI C0 hP hD hS dX1_pickCircles_78
def fb_X1_pickCircles (F : (Nat → Int32) → Int32 → Int32 → Int32 → Int32 → Int32 → Option (Int32)) (v0_3 : Nat → Int32) (x1 : Int32) (x2 : Int32) (x3 : Int32) (x4 : Int32) (x5 : Int32) : Option (Int32) := if 0 < x3 then (f_X1_pickCircles_b19 F v0_3 4000 x1 x3 x4 x5 x2) else (if x4 = 0 then (some (x5)) else (some ((-1))))
def f_X1_pickCircles : Nat → (Nat → Int32) → Int32 → Int32 → Int32 → Int32 → Int32 → Option (Int32)
  | 0, _, _, _, _, _, _ => none
  | n + 1, v0_3, x1, x2, x3, x4, x5 => fb_X1_pickCircles (f_X1_pickCircles n) v0_3 x1 x2 x3 x4 x5
set_option maxHeartbeats 4000000 in
set_option maxRecDepth 100000 in
theorem c_X1_pickCircles (l : Launch) (D : va_G) (cs : Nat → ClassId) : ∀ (n0 sz : Nat) (a0 : Nat) (p0 : Nat → Nat) (i0_0 : Int32) (i0_1 : Int32) (v0_2 : Nat → Int32) (v0_3 : Nat → Int32) (x1 : Int32) (x2 : Int32) (x3 : Int32) (x4 : Int32) (x5 : Int32) (res : Int32), f_X1_pickCircles n0 v0_3 x1 x2 x3 x4 x5 = some res → MI l D cs yX1_pickCircles wsX1_pickCircles (rm_X1_pickCircles n0) [.ref a0, .int x1, .int x2, .int x3, .int x4, .int x5] sz (W_X1_pickCircles cs a0 p0 i0_0 i0_1 v0_2 v0_3) (W_X1_pickCircles cs a0 p0 i0_0 i0_1 v0_2 v0_3) res := by
  intro n0
  induction n0 with
  | zero =>
    intro sz a0 p0 i0_0 i0_1 v0_2 v0_3 x1 x2 x3 x4 x5 res hf
    rw [f_X1_pickCircles] at hf
    cases hf
  | succ n0 hF =>
  intro sz a0 p0 i0_0 i0_1 v0_2 v0_3 x1 x2 x3 x4 x5 res hf
  rw [f_X1_pickCircles] at hf
  revert hF hf
  generalize f_X1_pickCircles n0 = F
  intro hF hf
  rw [fb_X1_pickCircles] at hf
  refine ow_enter (cc := cX1_pickCircles) (nL := 8) (ret := (some .int)) (by decide) rfl (Nat.le_of_ble_eq_true rfl) (fun p e s m below meth c ls H locs C0 hP hD hS hA hl => ?_)
  obtain ⟨hx, hb, hr, hlk, hml, hown, hts, hK, hG, hE⟩ := id C0
  have hl : lv_has ls 8 [(0, .ref a0), (1, .int x1), (2, .int x2), (3, .int x3), (4, .int x4), (5, .int x5)] := hl
  refine lv_iload_n hx hb dX1_pickCircles_0 rfl (lv_at hl 3 rfl) ?_
  refine lv_if_gt (tgt := 16) hx hb dX1_pickCircles_1 (by decide) (fun hc => ?_) (fun hc => ?_)
  · replace hf := ow_t hc hf
    refine lv_iload_n hx hb dX1_pickCircles_16 rfl (lv_at hl 2 rfl) ?_
    refine lv_istore (lv' := [(6, .int x2), (0, .ref a0), (1, .int x1), (2, .int x2), (3, .int x3), (4, .int x4), (5, .int x5)]) hx hb dX1_pickCircles_17 hl (by decide) rfl (fun ls hl => ?_)
    exact w_X1_pickCircles_b19 C0 F n0 hF a0 p0 i0_0 i0_1 v0_2 v0_3 res 4000 x1 x3 x4 x5 x2 hf _ _ _ hP hD hS (lv_sub hl [1, 2, 4, 5, 6, 0] rfl)
  · replace hf := ow_f hc hf
    refine lv_iload hx hb dX1_pickCircles_4 (lv_at hl 4 rfl) ?_
    refine lv_if_ne (tgt := 14) hx hb dX1_pickCircles_6 (by decide) (fun hc => ?_) (fun hc => ?_)
    · replace hf := ow_f hc hf
      refine lv_iconst (v := (-1)) hx hb dX1_pickCircles_14 (by decide) ?_
      obtain rfl := Option.some.inj hf
      exact ow_retI C0 hP hD hS dX1_pickCircles_15
    · replace hf := ow_t hc hf
      refine lv_iload hx hb dX1_pickCircles_9 (lv_at hl 5 rfl) ?_
      refine lv_goto (tgt := 15) hx hb dX1_pickCircles_11 (by decide) ?_
      obtain rfl := Option.some.inj hf
      exact ow_retI C0 hP hD hS dX1_pickCircles_15
theorem in_X1_fewestCircles_X1 : ∀ w ∈ u_ws RX1 TX1 4, w ∈ wsX1_fewestCircles := fun w h => List.mem_cons_of_mem _ (List.mem_append_right _ h)
abbrev W_X1_fewestCircles (cs : Nat → ClassId) (a0 : Nat) (p0 : Nat → Nat) (i0_0 : Int32) (i0_1 : Int32) (v0_2 : Nat → Int32) (v0_3 : Nat → Int32) : va_W := wX1 cs a0 p0 i0_0 i0_1 v0_2 v0_3
abbrev rm_X1_fewestCircles : Room := { frames := 10, cells := 0, slots := 0, locals := 270 }
def f_X1_fewestCircles_b38    : Nat → (Nat → Int32) → Int32 → Int32 → Int32 → Int32 → Option (Int32 × (Nat → Int32))
  | 0, _, _, _, _, _ => none
  | n + 1, v0_3, x1, x2, x4, x5 => if 4 < x5 then (some ((-1), v0_3)) else ((f_X1_pickCircles 9 v0_3 x1 (0) x5 x2 (0)).bind fun q51 => if q51 = ((-1)) then (f_X1_fewestCircles_b38 n v0_3 x1 x2 x4 (x5 + 1)) else (if x4 = 0 then (some (x5, v0_3)) else (some (q51, v0_3))))
set_option maxHeartbeats 4000000 in
set_option maxRecDepth 100000 in
theorem w_X1_fewestCircles_b38 {p : Program} {l : Launch} {e : Env} {s : State} {m : MethodId} {below : List Frame} {meth : Method} {c : Code} {D : va_G} {cs : Nat → ClassId} {av : Array Value} {w0 : va_W} (C0 : Cx p s m meth c av wsX1_fewestCircles cX1_fewestCircles 7 (some .int) RX1 D cs w0)  (a0 : Nat) (p0 : Nat → Nat) (i0_0 : Int32) (i0_1 : Int32) (v0_2 : Nat → Int32) (res : Int32 × (Nat → Int32))  : ∀ (n : Nat) (v0_3 : Nat → Int32) (x1 : Int32) (x2 : Int32) (x4 : Int32) (x5 : Int32), f_X1_fewestCircles_b38 n v0_3 x1 x2 x4 x5 = some res → ∀ (H : Heap) (locs : List Loc) (ls : Array Slot), va_P D vwCl (W_X1_fewestCircles cs a0 p0 i0_0 i0_1 v0_2 v0_3) H → va_D (va_A w0 s.heap.size) (W_X1_fewestCircles cs a0 p0 i0_0 i0_1 v0_2 v0_3) → va_S (va_A w0 s.heap.size) s.heap H locs → lv_has ls 7 [(0, .ref a0), (1, .int x1), (2, .int x2), (4, .int x4), (5, .int x5)] → W p l e rm_X1_fewestCircles s m av below meth c H locs 0 0 (MQ below (oI D cs w0 (W_X1_fewestCircles cs a0 p0 i0_0 i0_1 v0_2 res.2) res.1 s.heap.size) av s 0 0 (va_A w0 s.heap.size)) (F0 m 38 ls []) := by
  obtain ⟨hx, hb, hr, hlk, hml, hown, hts, hK, hG, hE⟩ := id C0
  intro n
  induction n with
  | zero =>
    intro v0_3 x1 x2 x4 x5 hf
    rw [f_X1_fewestCircles_b38] at hf
    cases hf
  | succ n ih =>
    intro v0_3 x1 x2 x4 x5 hf H locs ls hP hD hS hl
    rw [f_X1_fewestCircles_b38] at hf
    refine lv_iload hx hb dX1_fewestCircles_38 (lv_at hl 4 rfl) ?_
    refine lv_iconst (v := 4) hx hb dX1_fewestCircles_40 (by decide) ?_
    refine lv_icmp_gt (tgt := 81) hx hb dX1_fewestCircles_41 (by decide) (fun hc => ?_) (fun hc => ?_)
    · replace hf := ow_t hc hf
      refine lv_iconst (v := (-1)) hx hb dX1_fewestCircles_81 (by decide) ?_
      obtain rfl := Option.some.inj hf
      exact ow_retI C0 hP hD hS dX1_fewestCircles_82
    · replace hf := ow_f hc hf
      refine lv_aload_n hx hb dX1_fewestCircles_44 rfl (lv_at hl 0 rfl) ?_
      refine lv_iload_n hx hb dX1_fewestCircles_45 rfl (lv_at hl 1 rfl) ?_
      refine lv_iconst (v := 0) hx hb dX1_fewestCircles_46 (by decide) ?_
      refine lv_iload hx hb dX1_fewestCircles_47 (lv_at hl 4 rfl) ?_
      refine lv_iload_n hx hb dX1_fewestCircles_49 rfl (lv_at hl 2 rfl) ?_
      refine lv_iconst (v := 0) hx hb dX1_fewestCircles_50 (by decide) ?_
      obtain ⟨q51, hq, hf⟩ := bd_some hf
      refine ow_callVI (As := [.int x1, .int 0, .int x5, .int x2, .int 0]) (rest := []) (wr := ow_pk (W_X1_fewestCircles cs a0 p0 i0_0 i0_1 v0_2 v0_3) []) (wf := (W_X1_fewestCircles cs a0 p0 i0_0 i0_1 v0_2 v0_3)) (r := q51) C0 (c_X1_pickCircles l D cs 9 H.size a0 p0 i0_0 i0_1 v0_2 v0_3 x1 (0) x5 x2 (0) q51 hq) (cwV 5 hts gX1_fewestCircles_X1_pickCircles rfl rfl rfl (by decide +kernel) ⟨Nat.le_of_ble_eq_true rfl, Nat.le_of_ble_eq_true rfl⟩) 1 rfl rfl hP hD hS (fun q h => Or.inr h) [0, 1, 2] [] [0, 1, 2] rfl (by decide) rfl (by decide) (by decide) rfl (by decide) rfl hl.1 rfl (Nat.le_of_ble_eq_true rfl) ⟨Nat.zero_le _, Nat.zero_le _⟩ dX1_fewestCircles_51 (fun H locs hP hD hS => ?_)
      refine lv_istore (lv' := [(6, .int q51), (0, .ref a0), (1, .int x1), (2, .int x2), (4, .int x4), (5, .int x5)]) hx hb dX1_fewestCircles_54 hl (by decide) rfl (fun ls hl => ?_)
      refine lv_iload hx hb dX1_fewestCircles_56 (lv_at hl 0 rfl) ?_
      refine lv_iconst (v := (-1)) hx hb dX1_fewestCircles_58 (by decide) ?_
      refine lv_icmp_eq (tgt := 75) hx hb dX1_fewestCircles_59 (by decide) (fun hc => ?_) (fun hc => ?_)
      · replace hf := ow_t hc hf
        refine lv_iinc (v := x5 + 1) (lv' := [(5, .int (x5 + 1)), (6, .int q51), (0, .ref a0), (1, .int x1), (2, .int x2), (4, .int x4)]) hx hb dX1_fewestCircles_75 hl (k := 5) rfl (ow_inc (by decide)) (by decide) rfl (fun ls hl => ?_)
        refine lv_goto (tgt := 38) hx hb dX1_fewestCircles_78 (by decide) ?_
        exact ih v0_3 x1 x2 x4 (x5 + 1) hf _ _ _ hP hD hS (lv_sub hl [2, 3, 4, 5, 0] rfl)
      · replace hf := ow_f hc hf
        refine lv_iload hx hb dX1_fewestCircles_62 (lv_at hl 4 rfl) ?_
        refine lv_if_eq (tgt := 72) hx hb dX1_fewestCircles_64 (by decide) (fun hc => ?_) (fun hc => ?_)
        · replace hf := ow_t hc hf
          refine lv_iload hx hb dX1_fewestCircles_72 (lv_at hl 5 rfl) ?_
          obtain rfl := Option.some.inj hf
          exact ow_retI C0 hP hD hS dX1_fewestCircles_74
        · replace hf := ow_f hc hf
          refine lv_iload hx hb dX1_fewestCircles_67 (lv_at hl 0 rfl) ?_
          refine lv_goto (tgt := 74) hx hb dX1_fewestCircles_69 (by decide) ?_
          obtain rfl := Option.some.inj hf
          exact ow_retI C0 hP hD hS dX1_fewestCircles_74
def f_X1_fewestCircles_b3    : Nat → (Nat → Int32) → Int32 → Int32 → Int32 → Int32 → Int32 → Option (Int32 × (Nat → Int32))
  | 0, _, _, _, _, _, _ => none
  | n + 1, v0_3, x1, x2, x3, x4, x5 => if 16 ≤ x5 then (f_X1_fewestCircles_b38 4000 v0_3 x1 x2 x4 (0)) else ((f_X1_circleAt (x5 &&& 3) (x5 >>> (((2 : Int32)) &&& 31)) x3).bind fun q25 => ck x5 16 (f_X1_fewestCircles_b3 n (upd v0_3 (x5).toNatClampNeg q25) x1 x2 x3 x4 (x5 + 1)))
set_option maxHeartbeats 4000000 in
set_option maxRecDepth 100000 in
theorem w_X1_fewestCircles_b3 {p : Program} {l : Launch} {e : Env} {s : State} {m : MethodId} {below : List Frame} {meth : Method} {c : Code} {D : va_G} {cs : Nat → ClassId} {av : Array Value} {w0 : va_W} (C0 : Cx p s m meth c av wsX1_fewestCircles cX1_fewestCircles 7 (some .int) RX1 D cs w0)  (a0 : Nat) (p0 : Nat → Nat) (i0_0 : Int32) (i0_1 : Int32) (v0_2 : Nat → Int32) (res : Int32 × (Nat → Int32))  : ∀ (n : Nat) (v0_3 : Nat → Int32) (x1 : Int32) (x2 : Int32) (x3 : Int32) (x4 : Int32) (x5 : Int32), f_X1_fewestCircles_b3 n v0_3 x1 x2 x3 x4 x5 = some res → ∀ (H : Heap) (locs : List Loc) (ls : Array Slot), va_P D vwCl (W_X1_fewestCircles cs a0 p0 i0_0 i0_1 v0_2 v0_3) H → va_D (va_A w0 s.heap.size) (W_X1_fewestCircles cs a0 p0 i0_0 i0_1 v0_2 v0_3) → va_S (va_A w0 s.heap.size) s.heap H locs → lv_has ls 7 [(0, .ref a0), (1, .int x1), (2, .int x2), (3, .int x3), (4, .int x4), (5, .int x5)] → W p l e rm_X1_fewestCircles s m av below meth c H locs 0 0 (MQ below (oI D cs w0 (W_X1_fewestCircles cs a0 p0 i0_0 i0_1 v0_2 res.2) res.1 s.heap.size) av s 0 0 (va_A w0 s.heap.size)) (F0 m 3 ls []) := by
  obtain ⟨hx, hb, hr, hlk, hml, hown, hts, hK, hG, hE⟩ := id C0
  intro n
  induction n with
  | zero =>
    intro v0_3 x1 x2 x3 x4 x5 hf
    rw [f_X1_fewestCircles_b3] at hf
    cases hf
  | succ n ih =>
    intro v0_3 x1 x2 x3 x4 x5 hf H locs ls hP hD hS hl
    rw [f_X1_fewestCircles_b3] at hf
    refine lv_iload hx hb dX1_fewestCircles_3 (lv_at hl 5 rfl) ?_
    refine lv_bipush (v := 16) hx hb dX1_fewestCircles_5 (by decide) ?_
    refine lv_icmp_ge (tgt := 35) hx hb dX1_fewestCircles_7 (by decide) (fun hc => ?_) (fun hc => ?_)
    · replace hf := ow_t hc hf
      refine lv_iconst (v := 0) hx hb dX1_fewestCircles_35 (by decide) ?_
      refine lv_istore (lv' := [(5, .int 0), (0, .ref a0), (1, .int x1), (2, .int x2), (3, .int x3), (4, .int x4)]) hx hb dX1_fewestCircles_36 hl (by decide) rfl (fun ls hl => ?_)
      exact w_X1_fewestCircles_b38 C0 a0 p0 i0_0 i0_1 v0_2 res 4000 v0_3 x1 x2 x4 (0) hf _ _ _ hP hD hS (lv_sub hl [1, 2, 3, 5, 0] rfl)
    · replace hf := ow_f hc hf
      refine lv_aload_n hx hb dX1_fewestCircles_10 rfl (lv_at hl 0 rfl) ?_
      refine va_get (D := D) (ci := 1) (v := .ref (p0 3)) (C := RX1) (T := TX1) (N := 4) hx hb hts in_X1_fewestCircles_X1 hown hK hP 0 rfl rfl 3 (by decide) (hts (.fieldLink RX1 15 "PaneDays$Gaze" "circles" "[I") (List.mem_of_getElem? (i := 1) rfl)) (fun _ h9 => h9) rfl dX1_fewestCircles_11 ?_
      refine lv_iload hx hb dX1_fewestCircles_14 (lv_at hl 5 rfl) ?_
      refine lv_iload hx hb dX1_fewestCircles_16 (lv_at hl 5 rfl) ?_
      refine lv_iconst (v := 3) hx hb dX1_fewestCircles_18 (by decide) ?_
      refine lv_iand hx hb dX1_fewestCircles_19 ?_
      refine lv_iload hx hb dX1_fewestCircles_20 (lv_at hl 5 rfl) ?_
      refine lv_iconst (v := 2) hx hb dX1_fewestCircles_22 (by decide) ?_
      refine lv_ishr hx hb dX1_fewestCircles_23 ?_
      refine lv_iload_n hx hb dX1_fewestCircles_24 rfl (lv_at hl 3 rfl) ?_
      obtain ⟨q25, hq, hf⟩ := bd_some hf
      refine ow_callSI (As := [.int (x5 &&& 3), .int (x5 >>> (((2 : Int32)) &&& 31)), .int x3]) (rest := [.int x5, .ref (p0 3)]) (wr := ow_pk (W_X1_fewestCircles cs a0 p0 i0_0 i0_1 v0_2 v0_3) [0, 1, 2]) (wf := (W_X1_fewestCircles cs a0 p0 i0_0 i0_1 v0_2 v0_3)) (r := q25) C0 (c_X1_circleAt l D cs H.size  (x5 &&& 3) (x5 >>> (((2 : Int32)) &&& 31)) x3 q25 hq) (va_cwS 3 hts gX1_fewestCircles_X1_circleAt rfl rfl rfl (by decide +kernel) ⟨Nat.le_of_ble_eq_true rfl, Nat.le_of_ble_eq_true rfl⟩) hP hD hS (fun q h => Or.inr h) [] [0, 1, 2] [0, 1, 2] rfl (by decide) rfl (by decide) (by decide) rfl (by decide) rfl hl.1 rfl (Nat.le_of_ble_eq_true rfl) ⟨Nat.zero_le _, Nat.zero_le _⟩ dX1_fewestCircles_25 (fun H locs hP hD hS => ?_)
      obtain ⟨hin, hf⟩ := ck_some hf
      refine va_iast (f := v0_3) hx hb hK hP hD hS 2 0 rfl rfl hin dX1_fewestCircles_28 (fun H locs (hP : va_P D vwCl (W_X1_fewestCircles cs a0 p0 i0_0 i0_1 v0_2 (upd v0_3 (x5).toNatClampNeg q25)) H) (hD : va_D _ (W_X1_fewestCircles cs a0 p0 i0_0 i0_1 v0_2 (upd v0_3 (x5).toNatClampNeg q25))) hS => ?_)
      refine lv_iinc (v := x5 + 1) (lv' := [(5, .int (x5 + 1)), (0, .ref a0), (1, .int x1), (2, .int x2), (3, .int x3), (4, .int x4)]) hx hb dX1_fewestCircles_29 hl (k := 5) rfl (ow_inc (by decide)) (by decide) rfl (fun ls hl => ?_)
      refine lv_goto (tgt := 3) hx hb dX1_fewestCircles_32 (by decide) ?_
      exact ih (upd v0_3 (x5).toNatClampNeg q25) x1 x2 x3 x4 (x5 + 1) hf _ _ _ hP hD hS (lv_sub hl [1, 2, 3, 4, 5, 0] rfl)
def f_X1_fewestCircles  (v0_3 : Nat → Int32) (x1 : Int32) (x2 : Int32) (x3 : Int32) (x4 : Int32) : Option (Int32 × (Nat → Int32)) := f_X1_fewestCircles_b3 4000 v0_3 x1 x2 x3 x4 (0)
set_option maxHeartbeats 4000000 in
set_option maxRecDepth 100000 in
theorem c_X1_fewestCircles (l : Launch) (D : va_G) (cs : Nat → ClassId)  (sz : Nat) (a0 : Nat) (p0 : Nat → Nat) (i0_0 : Int32) (i0_1 : Int32) (v0_2 : Nat → Int32) (v0_3 : Nat → Int32) (x1 : Int32) (x2 : Int32) (x3 : Int32) (x4 : Int32) (res : Int32 × (Nat → Int32)) (hf : f_X1_fewestCircles  v0_3 x1 x2 x3 x4 = some res) : MI l D cs yX1_fewestCircles wsX1_fewestCircles rm_X1_fewestCircles [.ref a0, .int x1, .int x2, .int x3, .int x4] sz (W_X1_fewestCircles cs a0 p0 i0_0 i0_1 v0_2 v0_3) (W_X1_fewestCircles cs a0 p0 i0_0 i0_1 v0_2 res.2) res.1 := by
  rw [f_X1_fewestCircles] at hf
  refine ow_enter (cc := cX1_fewestCircles) (nL := 7) (ret := (some .int)) (by decide) rfl (Nat.le_of_ble_eq_true rfl) (fun p e s m below meth c ls H locs C0 hP hD hS hA hl => ?_)
  obtain ⟨hx, hb, hr, hlk, hml, hown, hts, hK, hG, hE⟩ := id C0
  have hl : lv_has ls 7 [(0, .ref a0), (1, .int x1), (2, .int x2), (3, .int x3), (4, .int x4)] := hl
  refine lv_iconst (v := 0) hx hb dX1_fewestCircles_0 (by decide) ?_
  refine lv_istore (lv' := [(5, .int 0), (0, .ref a0), (1, .int x1), (2, .int x2), (3, .int x3), (4, .int x4)]) hx hb dX1_fewestCircles_1 hl (by decide) rfl (fun ls hl => ?_)
  exact w_X1_fewestCircles_b3 C0 a0 p0 i0_0 i0_1 v0_2 res 4000 v0_3 x1 x2 x3 x4 (0) hf _ _ _ hP hD hS (lv_sub hl [1, 2, 3, 4, 5, 0] rfl)
theorem in_X1_winningCells_X2 : ∀ w ∈ u_ws RX2 TX2 8, w ∈ wsX1_winningCells := fun w h => List.mem_cons_of_mem _ (List.mem_append_right _ h)
abbrev W_X1_winningCells (cs : Nat → ClassId) (a0 : Nat) (p0 : Nat → Nat) (i0_0 : Int32) (i0_1 : Int32) (v0_2 : Nat → Int32) (v0_3 : Nat → Int32) (a1 : Nat) (p1 : Nat → Nat) (i1_3 : Int32) (i1_4 : Int32) (i1_5 : Int32) (i1_6 : Int32) (i1_7 : Int32) (v1_0 : Nat → Int32) (v1_1 : Nat → Int32) (v1_2 : Nat → Int32) : va_W := wX1 cs a0 p0 i0_0 i0_1 v0_2 v0_3 ++ wX2 cs a1 p1 i1_3 i1_4 i1_5 i1_6 i1_7 v1_0 v1_1 v1_2
abbrev rm_X1_winningCells : Room := { frames := 0, cells := 0, slots := 0, locals := 0 }
def f_X1_winningCells_b120  (v1_1 : Nat → Int32) (k49 : Int32 → Int32 → Int32 → Int32 → Int32 → Option (Int32)) (k84 : Int32 → Int32 → Int32 → Int32 → Int32 → Int32 → Int32 → Int32 → Option (Int32))  (x2 : Int32) (x3 : Int32) (x4 : Int32) (x5 : Int32) (x6 : Int32) (x7 : Int32) (x8 : Int32) (x9 : Int32) : Option (Int32) := k84 x2 x3 x4 x5 x6 x7 x8 (x9 + 1)
set_option maxHeartbeats 4000000 in
set_option maxRecDepth 100000 in
theorem w_X1_winningCells_b120 {p : Program} {l : Launch} {e : Env} {s : State} {m : MethodId} {below : List Frame} {meth : Method} {c : Code} {D : va_G} {cs : Nat → ClassId} {av : Array Value} {w0 : va_W} (C0 : Cx p s m meth c av wsX1_winningCells cX1_winningCells 10 (some .int) RX1 D cs w0)  (a0 : Nat) (p0 : Nat → Nat) (i0_0 : Int32) (i0_1 : Int32) (v0_2 : Nat → Int32) (v0_3 : Nat → Int32) (a1 : Nat) (p1 : Nat → Nat) (i1_3 : Int32) (i1_4 : Int32) (i1_5 : Int32) (i1_6 : Int32) (i1_7 : Int32) (v1_0 : Nat → Int32) (v1_1 : Nat → Int32) (v1_2 : Nat → Int32) (res : Int32) (k49 : Int32 → Int32 → Int32 → Int32 → Int32 → Option (Int32)) (hk49 : ∀ (x2 : Int32) (x3 : Int32) (x4 : Int32) (x5 : Int32) (x6 : Int32), k49 x2 x3 x4 x5 x6 = some res → ∀ (H : Heap) (locs : List Loc) (ls : Array Slot), va_P D vwCl (W_X1_winningCells cs a0 p0 i0_0 i0_1 v0_2 v0_3 a1 p1 i1_3 i1_4 i1_5 i1_6 i1_7 v1_0 v1_1 v1_2) H → va_D (va_A w0 s.heap.size) (W_X1_winningCells cs a0 p0 i0_0 i0_1 v0_2 v0_3 a1 p1 i1_3 i1_4 i1_5 i1_6 i1_7 v1_0 v1_1 v1_2) → va_S (va_A w0 s.heap.size) s.heap H locs → lv_has ls 10 [(1, .ref a1), (2, .int x2), (3, .int x3), (4, .int x4), (5, .int x5), (6, .int x6)] → W p l e rm_X1_winningCells s m av below meth c H locs 0 0 (MQ below (oI D cs w0 (W_X1_winningCells cs a0 p0 i0_0 i0_1 v0_2 v0_3 a1 p1 i1_3 i1_4 i1_5 i1_6 i1_7 v1_0 v1_1 v1_2) res s.heap.size) av s 0 0 (va_A w0 s.heap.size)) (F0 m 49 ls [])) (k84 : Int32 → Int32 → Int32 → Int32 → Int32 → Int32 → Int32 → Int32 → Option (Int32)) (hk84 : ∀ (x2 : Int32) (x3 : Int32) (x4 : Int32) (x5 : Int32) (x6 : Int32) (x7 : Int32) (x8 : Int32) (x9 : Int32), k84 x2 x3 x4 x5 x6 x7 x8 x9 = some res → ∀ (H : Heap) (locs : List Loc) (ls : Array Slot), va_P D vwCl (W_X1_winningCells cs a0 p0 i0_0 i0_1 v0_2 v0_3 a1 p1 i1_3 i1_4 i1_5 i1_6 i1_7 v1_0 v1_1 v1_2) H → va_D (va_A w0 s.heap.size) (W_X1_winningCells cs a0 p0 i0_0 i0_1 v0_2 v0_3 a1 p1 i1_3 i1_4 i1_5 i1_6 i1_7 v1_0 v1_1 v1_2) → va_S (va_A w0 s.heap.size) s.heap H locs → lv_has ls 10 [(1, .ref a1), (2, .int x2), (3, .int x3), (4, .int x4), (5, .int x5), (6, .int x6), (7, .int x7), (8, .int x8), (9, .int x9)] → W p l e rm_X1_winningCells s m av below meth c H locs 0 0 (MQ below (oI D cs w0 (W_X1_winningCells cs a0 p0 i0_0 i0_1 v0_2 v0_3 a1 p1 i1_3 i1_4 i1_5 i1_6 i1_7 v1_0 v1_1 v1_2) res s.heap.size) av s 0 0 (va_A w0 s.heap.size)) (F0 m 84 ls [])) : ∀ (x2 : Int32) (x3 : Int32) (x4 : Int32) (x5 : Int32) (x6 : Int32) (x7 : Int32) (x8 : Int32) (x9 : Int32), f_X1_winningCells_b120 v1_1 k49 k84 x2 x3 x4 x5 x6 x7 x8 x9 = some res → ∀ (H : Heap) (locs : List Loc) (ls : Array Slot), va_P D vwCl (W_X1_winningCells cs a0 p0 i0_0 i0_1 v0_2 v0_3 a1 p1 i1_3 i1_4 i1_5 i1_6 i1_7 v1_0 v1_1 v1_2) H → va_D (va_A w0 s.heap.size) (W_X1_winningCells cs a0 p0 i0_0 i0_1 v0_2 v0_3 a1 p1 i1_3 i1_4 i1_5 i1_6 i1_7 v1_0 v1_1 v1_2) → va_S (va_A w0 s.heap.size) s.heap H locs → lv_has ls 10 [(1, .ref a1), (2, .int x2), (3, .int x3), (4, .int x4), (5, .int x5), (6, .int x6), (7, .int x7), (8, .int x8), (9, .int x9)] → W p l e rm_X1_winningCells s m av below meth c H locs 0 0 (MQ below (oI D cs w0 (W_X1_winningCells cs a0 p0 i0_0 i0_1 v0_2 v0_3 a1 p1 i1_3 i1_4 i1_5 i1_6 i1_7 v1_0 v1_1 v1_2) res s.heap.size) av s 0 0 (va_A w0 s.heap.size)) (F0 m 120 ls []) := by
  obtain ⟨hx, hb, hr, hlk, hml, hown, hts, hK, hG, hE⟩ := id C0
  intro x2 x3 x4 x5 x6 x7 x8 x9 hf H locs ls hP hD hS hl
  rw [f_X1_winningCells_b120] at hf
  refine lv_iinc (v := x9 + 1) (lv' := [(9, .int (x9 + 1)), (1, .ref a1), (2, .int x2), (3, .int x3), (4, .int x4), (5, .int x5), (6, .int x6), (7, .int x7), (8, .int x8)]) hx hb dX1_winningCells_120 hl (k := 8) rfl (ow_inc (by decide)) (by decide) rfl (fun ls hl => ?_)
  refine lv_goto (tgt := 84) hx hb dX1_winningCells_123 (by decide) ?_
  exact hk84 x2 x3 x4 x5 x6 x7 x8 (x9 + 1) hf _ _ _ hP hD hS (lv_sub hl [1, 2, 3, 4, 5, 6, 7, 8, 0] rfl)
def f_X1_winningCells_b126  (v1_1 : Nat → Int32) (k49 : Int32 → Int32 → Int32 → Int32 → Int32 → Option (Int32))  (x2 : Int32) (x3 : Int32) (x4 : Int32) (x5 : Int32) (x6 : Int32) : Option (Int32) := k49 x2 x3 x4 x5 (x6 + 1)
set_option maxHeartbeats 4000000 in
set_option maxRecDepth 100000 in
theorem w_X1_winningCells_b126 {p : Program} {l : Launch} {e : Env} {s : State} {m : MethodId} {below : List Frame} {meth : Method} {c : Code} {D : va_G} {cs : Nat → ClassId} {av : Array Value} {w0 : va_W} (C0 : Cx p s m meth c av wsX1_winningCells cX1_winningCells 10 (some .int) RX1 D cs w0)  (a0 : Nat) (p0 : Nat → Nat) (i0_0 : Int32) (i0_1 : Int32) (v0_2 : Nat → Int32) (v0_3 : Nat → Int32) (a1 : Nat) (p1 : Nat → Nat) (i1_3 : Int32) (i1_4 : Int32) (i1_5 : Int32) (i1_6 : Int32) (i1_7 : Int32) (v1_0 : Nat → Int32) (v1_1 : Nat → Int32) (v1_2 : Nat → Int32) (res : Int32) (k49 : Int32 → Int32 → Int32 → Int32 → Int32 → Option (Int32)) (hk49 : ∀ (x2 : Int32) (x3 : Int32) (x4 : Int32) (x5 : Int32) (x6 : Int32), k49 x2 x3 x4 x5 x6 = some res → ∀ (H : Heap) (locs : List Loc) (ls : Array Slot), va_P D vwCl (W_X1_winningCells cs a0 p0 i0_0 i0_1 v0_2 v0_3 a1 p1 i1_3 i1_4 i1_5 i1_6 i1_7 v1_0 v1_1 v1_2) H → va_D (va_A w0 s.heap.size) (W_X1_winningCells cs a0 p0 i0_0 i0_1 v0_2 v0_3 a1 p1 i1_3 i1_4 i1_5 i1_6 i1_7 v1_0 v1_1 v1_2) → va_S (va_A w0 s.heap.size) s.heap H locs → lv_has ls 10 [(1, .ref a1), (2, .int x2), (3, .int x3), (4, .int x4), (5, .int x5), (6, .int x6)] → W p l e rm_X1_winningCells s m av below meth c H locs 0 0 (MQ below (oI D cs w0 (W_X1_winningCells cs a0 p0 i0_0 i0_1 v0_2 v0_3 a1 p1 i1_3 i1_4 i1_5 i1_6 i1_7 v1_0 v1_1 v1_2) res s.heap.size) av s 0 0 (va_A w0 s.heap.size)) (F0 m 49 ls [])) : ∀ (x2 : Int32) (x3 : Int32) (x4 : Int32) (x5 : Int32) (x6 : Int32), f_X1_winningCells_b126 v1_1 k49 x2 x3 x4 x5 x6 = some res → ∀ (H : Heap) (locs : List Loc) (ls : Array Slot), va_P D vwCl (W_X1_winningCells cs a0 p0 i0_0 i0_1 v0_2 v0_3 a1 p1 i1_3 i1_4 i1_5 i1_6 i1_7 v1_0 v1_1 v1_2) H → va_D (va_A w0 s.heap.size) (W_X1_winningCells cs a0 p0 i0_0 i0_1 v0_2 v0_3 a1 p1 i1_3 i1_4 i1_5 i1_6 i1_7 v1_0 v1_1 v1_2) → va_S (va_A w0 s.heap.size) s.heap H locs → lv_has ls 10 [(1, .ref a1), (2, .int x2), (3, .int x3), (4, .int x4), (5, .int x5), (6, .int x6)] → W p l e rm_X1_winningCells s m av below meth c H locs 0 0 (MQ below (oI D cs w0 (W_X1_winningCells cs a0 p0 i0_0 i0_1 v0_2 v0_3 a1 p1 i1_3 i1_4 i1_5 i1_6 i1_7 v1_0 v1_1 v1_2) res s.heap.size) av s 0 0 (va_A w0 s.heap.size)) (F0 m 126 ls []) := by
  obtain ⟨hx, hb, hr, hlk, hml, hown, hts, hK, hG, hE⟩ := id C0
  intro x2 x3 x4 x5 x6 hf H locs ls hP hD hS hl
  rw [f_X1_winningCells_b126] at hf
  refine lv_iinc (v := x6 + 1) (lv' := [(6, .int (x6 + 1)), (1, .ref a1), (2, .int x2), (3, .int x3), (4, .int x4), (5, .int x5)]) hx hb dX1_winningCells_126 hl (k := 5) rfl (ow_inc (by decide)) (by decide) rfl (fun ls hl => ?_)
  refine lv_goto (tgt := 49) hx hb dX1_winningCells_129 (by decide) ?_
  exact hk49 x2 x3 x4 x5 (x6 + 1) hf _ _ _ hP hD hS (lv_sub hl [1, 2, 3, 4, 5, 0] rfl)
def f_X1_winningCells_b84  (v1_1 : Nat → Int32) (k49 : Int32 → Int32 → Int32 → Int32 → Int32 → Option (Int32)) : Nat → Int32 → Int32 → Int32 → Int32 → Int32 → Int32 → Int32 → Int32 → Option (Int32)
  | 0, _, _, _, _, _, _, _, _ => none
  | n + 1, x2, x3, x4, x5, x6, x7, x8, x9 => if x3 < x9 then (f_X1_winningCells_b126 v1_1 k49 x2 x3 x4 x5 x6) else (if x7 < x9 then (f_X1_winningCells_b126 v1_1 k49 x2 x3 x4 x5 x6) else (cd (x3 + 1) (if ((x7 - x9) - (x7 - x9) / (x3 + 1) * (x3 + 1)) = x8 then (f_X1_winningCells_b120 v1_1 k49 (f_X1_winningCells_b84 v1_1 k49 n) x2 x3 x4 (x5 ||| (((1 : Int32)) <<< (x6 &&& 31))) x6 x7 x8 x9) else (f_X1_winningCells_b120 v1_1 k49 (f_X1_winningCells_b84 v1_1 k49 n) x2 x3 x4 x5 x6 x7 x8 x9))))
set_option maxHeartbeats 4000000 in
set_option maxRecDepth 100000 in
theorem w_X1_winningCells_b84 {p : Program} {l : Launch} {e : Env} {s : State} {m : MethodId} {below : List Frame} {meth : Method} {c : Code} {D : va_G} {cs : Nat → ClassId} {av : Array Value} {w0 : va_W} (C0 : Cx p s m meth c av wsX1_winningCells cX1_winningCells 10 (some .int) RX1 D cs w0)  (a0 : Nat) (p0 : Nat → Nat) (i0_0 : Int32) (i0_1 : Int32) (v0_2 : Nat → Int32) (v0_3 : Nat → Int32) (a1 : Nat) (p1 : Nat → Nat) (i1_3 : Int32) (i1_4 : Int32) (i1_5 : Int32) (i1_6 : Int32) (i1_7 : Int32) (v1_0 : Nat → Int32) (v1_1 : Nat → Int32) (v1_2 : Nat → Int32) (res : Int32) (k49 : Int32 → Int32 → Int32 → Int32 → Int32 → Option (Int32)) (hk49 : ∀ (x2 : Int32) (x3 : Int32) (x4 : Int32) (x5 : Int32) (x6 : Int32), k49 x2 x3 x4 x5 x6 = some res → ∀ (H : Heap) (locs : List Loc) (ls : Array Slot), va_P D vwCl (W_X1_winningCells cs a0 p0 i0_0 i0_1 v0_2 v0_3 a1 p1 i1_3 i1_4 i1_5 i1_6 i1_7 v1_0 v1_1 v1_2) H → va_D (va_A w0 s.heap.size) (W_X1_winningCells cs a0 p0 i0_0 i0_1 v0_2 v0_3 a1 p1 i1_3 i1_4 i1_5 i1_6 i1_7 v1_0 v1_1 v1_2) → va_S (va_A w0 s.heap.size) s.heap H locs → lv_has ls 10 [(1, .ref a1), (2, .int x2), (3, .int x3), (4, .int x4), (5, .int x5), (6, .int x6)] → W p l e rm_X1_winningCells s m av below meth c H locs 0 0 (MQ below (oI D cs w0 (W_X1_winningCells cs a0 p0 i0_0 i0_1 v0_2 v0_3 a1 p1 i1_3 i1_4 i1_5 i1_6 i1_7 v1_0 v1_1 v1_2) res s.heap.size) av s 0 0 (va_A w0 s.heap.size)) (F0 m 49 ls [])) : ∀ (n : Nat) (x2 : Int32) (x3 : Int32) (x4 : Int32) (x5 : Int32) (x6 : Int32) (x7 : Int32) (x8 : Int32) (x9 : Int32), f_X1_winningCells_b84 v1_1 k49 n x2 x3 x4 x5 x6 x7 x8 x9 = some res → ∀ (H : Heap) (locs : List Loc) (ls : Array Slot), va_P D vwCl (W_X1_winningCells cs a0 p0 i0_0 i0_1 v0_2 v0_3 a1 p1 i1_3 i1_4 i1_5 i1_6 i1_7 v1_0 v1_1 v1_2) H → va_D (va_A w0 s.heap.size) (W_X1_winningCells cs a0 p0 i0_0 i0_1 v0_2 v0_3 a1 p1 i1_3 i1_4 i1_5 i1_6 i1_7 v1_0 v1_1 v1_2) → va_S (va_A w0 s.heap.size) s.heap H locs → lv_has ls 10 [(1, .ref a1), (2, .int x2), (3, .int x3), (4, .int x4), (5, .int x5), (6, .int x6), (7, .int x7), (8, .int x8), (9, .int x9)] → W p l e rm_X1_winningCells s m av below meth c H locs 0 0 (MQ below (oI D cs w0 (W_X1_winningCells cs a0 p0 i0_0 i0_1 v0_2 v0_3 a1 p1 i1_3 i1_4 i1_5 i1_6 i1_7 v1_0 v1_1 v1_2) res s.heap.size) av s 0 0 (va_A w0 s.heap.size)) (F0 m 84 ls []) := by
  obtain ⟨hx, hb, hr, hlk, hml, hown, hts, hK, hG, hE⟩ := id C0
  intro n
  induction n with
  | zero =>
    intro x2 x3 x4 x5 x6 x7 x8 x9 hf
    rw [f_X1_winningCells_b84] at hf
    cases hf
  | succ n ih =>
    intro x2 x3 x4 x5 x6 x7 x8 x9 hf H locs ls hP hD hS hl
    rw [f_X1_winningCells_b84] at hf
    refine lv_iload hx hb dX1_winningCells_84 (lv_at hl 8 rfl) ?_
    refine lv_iload_n hx hb dX1_winningCells_86 rfl (lv_at hl 2 rfl) ?_
    refine lv_icmp_gt (tgt := 126) hx hb dX1_winningCells_87 (by decide) (fun hc => ?_) (fun hc => ?_)
    · replace hf := ow_t hc hf
      exact w_X1_winningCells_b126 C0 a0 p0 i0_0 i0_1 v0_2 v0_3 a1 p1 i1_3 i1_4 i1_5 i1_6 i1_7 v1_0 v1_1 v1_2 res k49 hk49 x2 x3 x4 x5 x6 hf _ _ _ hP hD hS (lv_sub hl [0, 1, 2, 3, 4, 5] rfl)
    · replace hf := ow_f hc hf
      refine lv_iload hx hb dX1_winningCells_90 (lv_at hl 8 rfl) ?_
      refine lv_iload hx hb dX1_winningCells_92 (lv_at hl 6 rfl) ?_
      refine lv_icmp_gt (tgt := 126) hx hb dX1_winningCells_94 (by decide) (fun hc => ?_) (fun hc => ?_)
      · replace hf := ow_t hc hf
        exact w_X1_winningCells_b126 C0 a0 p0 i0_0 i0_1 v0_2 v0_3 a1 p1 i1_3 i1_4 i1_5 i1_6 i1_7 v1_0 v1_1 v1_2 res k49 hk49 x2 x3 x4 x5 x6 hf _ _ _ hP hD hS (lv_sub hl [0, 1, 2, 3, 4, 5] rfl)
      · replace hf := ow_f hc hf
        refine lv_iload hx hb dX1_winningCells_97 (lv_at hl 6 rfl) ?_
        refine lv_iload hx hb dX1_winningCells_99 (lv_at hl 8 rfl) ?_
        refine lv_isub hx hb dX1_winningCells_101 ?_
        refine lv_iload_n hx hb dX1_winningCells_102 rfl (lv_at hl 2 rfl) ?_
        refine lv_iconst (v := 1) hx hb dX1_winningCells_103 (by decide) ?_
        refine lv_iadd hx hb dX1_winningCells_104 ?_
        obtain ⟨hnz, hf⟩ := cd_some hf
        refine lv_irem hx hb dX1_winningCells_105 hnz ?_
        refine lv_iload hx hb dX1_winningCells_106 (lv_at hl 7 rfl) ?_
        refine lv_icmp_ne (tgt := 120) hx hb dX1_winningCells_108 (by decide) (fun hc => ?_) (fun hc => ?_)
        · replace hf := ow_f hc hf
          exact w_X1_winningCells_b120 C0 a0 p0 i0_0 i0_1 v0_2 v0_3 a1 p1 i1_3 i1_4 i1_5 i1_6 i1_7 v1_0 v1_1 v1_2 res k49 hk49 (f_X1_winningCells_b84 v1_1 k49 n) ih x2 x3 x4 x5 x6 x7 x8 x9 hf _ _ _ hP hD hS (lv_sub hl [0, 1, 2, 3, 4, 5, 6, 7, 8] rfl)
        · replace hf := ow_t hc hf
          refine lv_iload hx hb dX1_winningCells_111 (lv_at hl 4 rfl) ?_
          refine lv_iconst (v := 1) hx hb dX1_winningCells_113 (by decide) ?_
          refine lv_iload hx hb dX1_winningCells_114 (lv_at hl 5 rfl) ?_
          refine lv_ishl hx hb dX1_winningCells_116 ?_
          refine lv_ior hx hb dX1_winningCells_117 ?_
          refine lv_istore (lv' := [(5, .int (x5 ||| (((1 : Int32)) <<< (x6 &&& 31)))), (1, .ref a1), (2, .int x2), (3, .int x3), (4, .int x4), (6, .int x6), (7, .int x7), (8, .int x8), (9, .int x9)]) hx hb dX1_winningCells_118 hl (by decide) rfl (fun ls hl => ?_)
          exact w_X1_winningCells_b120 C0 a0 p0 i0_0 i0_1 v0_2 v0_3 a1 p1 i1_3 i1_4 i1_5 i1_6 i1_7 v1_0 v1_1 v1_2 res k49 hk49 (f_X1_winningCells_b84 v1_1 k49 n) ih x2 x3 x4 (x5 ||| (((1 : Int32)) <<< (x6 &&& 31))) x6 x7 x8 x9 hf _ _ _ hP hD hS (lv_sub hl [1, 2, 3, 4, 0, 5, 6, 7, 8] rfl)
def f_X1_winningCells_b49  (v1_1 : Nat → Int32)  : Nat → Int32 → Int32 → Int32 → Int32 → Int32 → Option (Int32)
  | 0, _, _, _, _, _ => none
  | n + 1, x2, x3, x4, x5, x6 => if 16 ≤ x6 then (some (x5)) else (ck ((16 * x2) + x6) 80 (cd (x3 + 1) (f_X1_winningCells_b84 v1_1 (f_X1_winningCells_b49 v1_1 n) 4000 x2 x3 x4 x5 x6 (v1_1 ((16 * x2) + x6).toNatClampNeg) (x4 ^^^ ((v1_1 ((16 * x2) + x6).toNatClampNeg) - (v1_1 ((16 * x2) + x6).toNatClampNeg) / (x3 + 1) * (x3 + 1))) (1))))
set_option maxHeartbeats 4000000 in
set_option maxRecDepth 100000 in
theorem w_X1_winningCells_b49 {p : Program} {l : Launch} {e : Env} {s : State} {m : MethodId} {below : List Frame} {meth : Method} {c : Code} {D : va_G} {cs : Nat → ClassId} {av : Array Value} {w0 : va_W} (C0 : Cx p s m meth c av wsX1_winningCells cX1_winningCells 10 (some .int) RX1 D cs w0)  (a0 : Nat) (p0 : Nat → Nat) (i0_0 : Int32) (i0_1 : Int32) (v0_2 : Nat → Int32) (v0_3 : Nat → Int32) (a1 : Nat) (p1 : Nat → Nat) (i1_3 : Int32) (i1_4 : Int32) (i1_5 : Int32) (i1_6 : Int32) (i1_7 : Int32) (v1_0 : Nat → Int32) (v1_1 : Nat → Int32) (v1_2 : Nat → Int32) (res : Int32)  : ∀ (n : Nat) (x2 : Int32) (x3 : Int32) (x4 : Int32) (x5 : Int32) (x6 : Int32), f_X1_winningCells_b49 v1_1 n x2 x3 x4 x5 x6 = some res → ∀ (H : Heap) (locs : List Loc) (ls : Array Slot), va_P D vwCl (W_X1_winningCells cs a0 p0 i0_0 i0_1 v0_2 v0_3 a1 p1 i1_3 i1_4 i1_5 i1_6 i1_7 v1_0 v1_1 v1_2) H → va_D (va_A w0 s.heap.size) (W_X1_winningCells cs a0 p0 i0_0 i0_1 v0_2 v0_3 a1 p1 i1_3 i1_4 i1_5 i1_6 i1_7 v1_0 v1_1 v1_2) → va_S (va_A w0 s.heap.size) s.heap H locs → lv_has ls 10 [(1, .ref a1), (2, .int x2), (3, .int x3), (4, .int x4), (5, .int x5), (6, .int x6)] → W p l e rm_X1_winningCells s m av below meth c H locs 0 0 (MQ below (oI D cs w0 (W_X1_winningCells cs a0 p0 i0_0 i0_1 v0_2 v0_3 a1 p1 i1_3 i1_4 i1_5 i1_6 i1_7 v1_0 v1_1 v1_2) res s.heap.size) av s 0 0 (va_A w0 s.heap.size)) (F0 m 49 ls []) := by
  obtain ⟨hx, hb, hr, hlk, hml, hown, hts, hK, hG, hE⟩ := id C0
  intro n
  induction n with
  | zero =>
    intro x2 x3 x4 x5 x6 hf
    rw [f_X1_winningCells_b49] at hf
    cases hf
  | succ n ih =>
    intro x2 x3 x4 x5 x6 hf H locs ls hP hD hS hl
    rw [f_X1_winningCells_b49] at hf
    refine lv_iload hx hb dX1_winningCells_49 (lv_at hl 5 rfl) ?_
    refine lv_bipush (v := 16) hx hb dX1_winningCells_51 (by decide) ?_
    refine lv_icmp_ge (tgt := 132) hx hb dX1_winningCells_53 (by decide) (fun hc => ?_) (fun hc => ?_)
    · replace hf := ow_t hc hf
      refine lv_iload hx hb dX1_winningCells_132 (lv_at hl 4 rfl) ?_
      obtain rfl := Option.some.inj hf
      exact ow_retI C0 hP hD hS dX1_winningCells_134
    · replace hf := ow_f hc hf
      refine lv_aload_n hx hb dX1_winningCells_56 rfl (lv_at hl 0 rfl) ?_
      refine va_get (D := D) (ci := 2) (v := .ref (p1 1)) (C := RX2) (T := TX2) (N := 8) hx hb hts in_X1_winningCells_X2 hown hK hP 3 rfl rfl 1 (by decide) (hts (.fieldLink RX1 33 "PaneDays$Glass" "depth" "[I") (List.mem_of_getElem? (i := 1) rfl)) (fun _ h9 => h9) rfl dX1_winningCells_57 ?_
      refine lv_bipush (v := 16) hx hb dX1_winningCells_60 (by decide) ?_
      refine lv_iload_n hx hb dX1_winningCells_62 rfl (lv_at hl 1 rfl) ?_
      refine lv_imul hx hb dX1_winningCells_63 ?_
      refine lv_iload hx hb dX1_winningCells_64 (lv_at hl 5 rfl) ?_
      refine lv_iadd hx hb dX1_winningCells_66 ?_
      obtain ⟨hin, hf⟩ := ck_some hf
      refine va_iald (f := v1_1) hx hb hK hP 5 0 rfl rfl hin dX1_winningCells_67 ?_
      refine lv_istore (lv' := [(7, .int (v1_1 ((16 * x2) + x6).toNatClampNeg)), (1, .ref a1), (2, .int x2), (3, .int x3), (4, .int x4), (5, .int x5), (6, .int x6)]) hx hb dX1_winningCells_68 hl (by decide) rfl (fun ls hl => ?_)
      refine lv_iload hx hb dX1_winningCells_70 (lv_at hl 4 rfl) ?_
      refine lv_iload hx hb dX1_winningCells_72 (lv_at hl 0 rfl) ?_
      refine lv_iload_n hx hb dX1_winningCells_74 rfl (lv_at hl 3 rfl) ?_
      refine lv_iconst (v := 1) hx hb dX1_winningCells_75 (by decide) ?_
      refine lv_iadd hx hb dX1_winningCells_76 ?_
      obtain ⟨hnz, hf⟩ := cd_some hf
      refine lv_irem hx hb dX1_winningCells_77 hnz ?_
      refine lv_ixor hx hb dX1_winningCells_78 ?_
      refine lv_istore (lv' := [(8, .int (x4 ^^^ ((v1_1 ((16 * x2) + x6).toNatClampNeg) - (v1_1 ((16 * x2) + x6).toNatClampNeg) / (x3 + 1) * (x3 + 1)))), (7, .int (v1_1 ((16 * x2) + x6).toNatClampNeg)), (1, .ref a1), (2, .int x2), (3, .int x3), (4, .int x4), (5, .int x5), (6, .int x6)]) hx hb dX1_winningCells_79 hl (by decide) rfl (fun ls hl => ?_)
      refine lv_iconst (v := 1) hx hb dX1_winningCells_81 (by decide) ?_
      refine lv_istore (lv' := [(9, .int 1), (8, .int (x4 ^^^ ((v1_1 ((16 * x2) + x6).toNatClampNeg) - (v1_1 ((16 * x2) + x6).toNatClampNeg) / (x3 + 1) * (x3 + 1)))), (7, .int (v1_1 ((16 * x2) + x6).toNatClampNeg)), (1, .ref a1), (2, .int x2), (3, .int x3), (4, .int x4), (5, .int x5), (6, .int x6)]) hx hb dX1_winningCells_82 hl (by decide) rfl (fun ls hl => ?_)
      exact w_X1_winningCells_b84 C0 a0 p0 i0_0 i0_1 v0_2 v0_3 a1 p1 i1_3 i1_4 i1_5 i1_6 i1_7 v1_0 v1_1 v1_2 res (f_X1_winningCells_b49 v1_1 n) ih 4000 x2 x3 x4 x5 x6 (v1_1 ((16 * x2) + x6).toNatClampNeg) (x4 ^^^ ((v1_1 ((16 * x2) + x6).toNatClampNeg) - (v1_1 ((16 * x2) + x6).toNatClampNeg) / (x3 + 1) * (x3 + 1))) (1) hf _ _ _ hP hD hS (lv_sub hl [3, 4, 5, 6, 7, 8, 2, 1, 0] rfl)
def f_X1_winningCells_b9  (v1_1 : Nat → Int32)  : Nat → Int32 → Int32 → Int32 → Int32 → Option (Int32)
  | 0, _, _, _, _ => none
  | n + 1, x2, x3, x4, x5 => if ((16 * x2) + 16) ≤ x5 then (f_X1_winningCells_b49 v1_1 4000 x2 x3 x4 (0) (0)) else (ck x5 80 (cd (x3 + 1) (f_X1_winningCells_b9 v1_1 n x2 x3 (x4 ^^^ ((v1_1 (x5).toNatClampNeg) - (v1_1 (x5).toNatClampNeg) / (x3 + 1) * (x3 + 1))) (x5 + 1))))
set_option maxHeartbeats 4000000 in
set_option maxRecDepth 100000 in
theorem w_X1_winningCells_b9 {p : Program} {l : Launch} {e : Env} {s : State} {m : MethodId} {below : List Frame} {meth : Method} {c : Code} {D : va_G} {cs : Nat → ClassId} {av : Array Value} {w0 : va_W} (C0 : Cx p s m meth c av wsX1_winningCells cX1_winningCells 10 (some .int) RX1 D cs w0)  (a0 : Nat) (p0 : Nat → Nat) (i0_0 : Int32) (i0_1 : Int32) (v0_2 : Nat → Int32) (v0_3 : Nat → Int32) (a1 : Nat) (p1 : Nat → Nat) (i1_3 : Int32) (i1_4 : Int32) (i1_5 : Int32) (i1_6 : Int32) (i1_7 : Int32) (v1_0 : Nat → Int32) (v1_1 : Nat → Int32) (v1_2 : Nat → Int32) (res : Int32)  : ∀ (n : Nat) (x2 : Int32) (x3 : Int32) (x4 : Int32) (x5 : Int32), f_X1_winningCells_b9 v1_1 n x2 x3 x4 x5 = some res → ∀ (H : Heap) (locs : List Loc) (ls : Array Slot), va_P D vwCl (W_X1_winningCells cs a0 p0 i0_0 i0_1 v0_2 v0_3 a1 p1 i1_3 i1_4 i1_5 i1_6 i1_7 v1_0 v1_1 v1_2) H → va_D (va_A w0 s.heap.size) (W_X1_winningCells cs a0 p0 i0_0 i0_1 v0_2 v0_3 a1 p1 i1_3 i1_4 i1_5 i1_6 i1_7 v1_0 v1_1 v1_2) → va_S (va_A w0 s.heap.size) s.heap H locs → lv_has ls 10 [(1, .ref a1), (2, .int x2), (3, .int x3), (4, .int x4), (5, .int x5)] → W p l e rm_X1_winningCells s m av below meth c H locs 0 0 (MQ below (oI D cs w0 (W_X1_winningCells cs a0 p0 i0_0 i0_1 v0_2 v0_3 a1 p1 i1_3 i1_4 i1_5 i1_6 i1_7 v1_0 v1_1 v1_2) res s.heap.size) av s 0 0 (va_A w0 s.heap.size)) (F0 m 9 ls []) := by
  obtain ⟨hx, hb, hr, hlk, hml, hown, hts, hK, hG, hE⟩ := id C0
  intro n
  induction n with
  | zero =>
    intro x2 x3 x4 x5 hf
    rw [f_X1_winningCells_b9] at hf
    cases hf
  | succ n ih =>
    intro x2 x3 x4 x5 hf H locs ls hP hD hS hl
    rw [f_X1_winningCells_b9] at hf
    refine lv_iload hx hb dX1_winningCells_9 (lv_at hl 4 rfl) ?_
    refine lv_bipush (v := 16) hx hb dX1_winningCells_11 (by decide) ?_
    refine lv_iload_n hx hb dX1_winningCells_13 rfl (lv_at hl 1 rfl) ?_
    refine lv_imul hx hb dX1_winningCells_14 ?_
    refine lv_bipush (v := 16) hx hb dX1_winningCells_15 (by decide) ?_
    refine lv_iadd hx hb dX1_winningCells_17 ?_
    refine lv_icmp_ge (tgt := 43) hx hb dX1_winningCells_18 (by decide) (fun hc => ?_) (fun hc => ?_)
    · replace hf := ow_t hc hf
      refine lv_iconst (v := 0) hx hb dX1_winningCells_43 (by decide) ?_
      refine lv_istore (lv' := [(5, .int 0), (1, .ref a1), (2, .int x2), (3, .int x3), (4, .int x4)]) hx hb dX1_winningCells_44 hl (by decide) rfl (fun ls hl => ?_)
      refine lv_iconst (v := 0) hx hb dX1_winningCells_46 (by decide) ?_
      refine lv_istore (lv' := [(6, .int 0), (5, .int 0), (1, .ref a1), (2, .int x2), (3, .int x3), (4, .int x4)]) hx hb dX1_winningCells_47 hl (by decide) rfl (fun ls hl => ?_)
      exact w_X1_winningCells_b49 C0 a0 p0 i0_0 i0_1 v0_2 v0_3 a1 p1 i1_3 i1_4 i1_5 i1_6 i1_7 v1_0 v1_1 v1_2 res 4000 x2 x3 x4 (0) (0) hf _ _ _ hP hD hS (lv_sub hl [2, 3, 4, 5, 1, 0] rfl)
    · replace hf := ow_f hc hf
      refine lv_iload hx hb dX1_winningCells_21 (lv_at hl 3 rfl) ?_
      refine lv_aload_n hx hb dX1_winningCells_23 rfl (lv_at hl 0 rfl) ?_
      refine va_get (D := D) (ci := 2) (v := .ref (p1 1)) (C := RX2) (T := TX2) (N := 8) hx hb hts in_X1_winningCells_X2 hown hK hP 3 rfl rfl 1 (by decide) (hts (.fieldLink RX1 33 "PaneDays$Glass" "depth" "[I") (List.mem_of_getElem? (i := 1) rfl)) (fun _ h9 => h9) rfl dX1_winningCells_24 ?_
      refine lv_iload hx hb dX1_winningCells_27 (lv_at hl 4 rfl) ?_
      obtain ⟨hin, hf⟩ := ck_some hf
      refine va_iald (f := v1_1) hx hb hK hP 5 0 rfl rfl hin dX1_winningCells_29 ?_
      refine lv_iload_n hx hb dX1_winningCells_30 rfl (lv_at hl 2 rfl) ?_
      refine lv_iconst (v := 1) hx hb dX1_winningCells_31 (by decide) ?_
      refine lv_iadd hx hb dX1_winningCells_32 ?_
      obtain ⟨hnz, hf⟩ := cd_some hf
      refine lv_irem hx hb dX1_winningCells_33 hnz ?_
      refine lv_ixor hx hb dX1_winningCells_34 ?_
      refine lv_istore (lv' := [(4, .int (x4 ^^^ ((v1_1 (x5).toNatClampNeg) - (v1_1 (x5).toNatClampNeg) / (x3 + 1) * (x3 + 1)))), (1, .ref a1), (2, .int x2), (3, .int x3), (5, .int x5)]) hx hb dX1_winningCells_35 hl (by decide) rfl (fun ls hl => ?_)
      refine lv_iinc (v := x5 + 1) (lv' := [(5, .int (x5 + 1)), (4, .int (x4 ^^^ ((v1_1 (x5).toNatClampNeg) - (v1_1 (x5).toNatClampNeg) / (x3 + 1) * (x3 + 1)))), (1, .ref a1), (2, .int x2), (3, .int x3)]) hx hb dX1_winningCells_37 hl (k := 4) rfl (ow_inc (by decide)) (by decide) rfl (fun ls hl => ?_)
      refine lv_goto (tgt := 9) hx hb dX1_winningCells_40 (by decide) ?_
      exact ih x2 x3 (x4 ^^^ ((v1_1 (x5).toNatClampNeg) - (v1_1 (x5).toNatClampNeg) / (x3 + 1) * (x3 + 1))) (x5 + 1) hf _ _ _ hP hD hS (lv_sub hl [2, 3, 4, 1, 0] rfl)
def f_X1_winningCells  (v1_1 : Nat → Int32) (x2 : Int32) (x3 : Int32) : Option (Int32) := f_X1_winningCells_b9 v1_1 4000 x2 x3 (0) (16 * x2)
set_option maxHeartbeats 4000000 in
set_option maxRecDepth 100000 in
theorem c_X1_winningCells (l : Launch) (D : va_G) (cs : Nat → ClassId)  (sz : Nat) (a0 : Nat) (p0 : Nat → Nat) (i0_0 : Int32) (i0_1 : Int32) (v0_2 : Nat → Int32) (v0_3 : Nat → Int32) (a1 : Nat) (p1 : Nat → Nat) (i1_3 : Int32) (i1_4 : Int32) (i1_5 : Int32) (i1_6 : Int32) (i1_7 : Int32) (v1_0 : Nat → Int32) (v1_1 : Nat → Int32) (v1_2 : Nat → Int32) (x2 : Int32) (x3 : Int32) (res : Int32) (hf : f_X1_winningCells  v1_1 x2 x3 = some res) : MI l D cs yX1_winningCells wsX1_winningCells rm_X1_winningCells [.ref a0, .ref a1, .int x2, .int x3] sz (W_X1_winningCells cs a0 p0 i0_0 i0_1 v0_2 v0_3 a1 p1 i1_3 i1_4 i1_5 i1_6 i1_7 v1_0 v1_1 v1_2) (W_X1_winningCells cs a0 p0 i0_0 i0_1 v0_2 v0_3 a1 p1 i1_3 i1_4 i1_5 i1_6 i1_7 v1_0 v1_1 v1_2) res := by
  rw [f_X1_winningCells] at hf
  refine ow_enter (cc := cX1_winningCells) (nL := 10) (ret := (some .int)) (by decide) rfl (Nat.le_of_ble_eq_true rfl) (fun p e s m below meth c ls H locs C0 hP hD hS hA hl => ?_)
  obtain ⟨hx, hb, hr, hlk, hml, hown, hts, hK, hG, hE⟩ := id C0
  have hl : lv_has ls 10 [(0, .ref a0), (1, .ref a1), (2, .int x2), (3, .int x3)] := hl
  refine lv_iconst (v := 0) hx hb dX1_winningCells_0 (by decide) ?_
  refine lv_istore (lv' := [(4, .int 0), (0, .ref a0), (1, .ref a1), (2, .int x2), (3, .int x3)]) hx hb dX1_winningCells_1 hl (by decide) rfl (fun ls hl => ?_)
  refine lv_bipush (v := 16) hx hb dX1_winningCells_3 (by decide) ?_
  refine lv_iload_n hx hb dX1_winningCells_5 rfl (lv_at hl 3 rfl) ?_
  refine lv_imul hx hb dX1_winningCells_6 ?_
  refine lv_istore (lv' := [(5, .int (16 * x2)), (4, .int 0), (0, .ref a0), (1, .ref a1), (2, .int x2), (3, .int x3)]) hx hb dX1_winningCells_7 hl (by decide) rfl (fun ls hl => ?_)
  exact w_X1_winningCells_b9 C0 a0 p0 i0_0 i0_1 v0_2 v0_3 a1 p1 i1_3 i1_4 i1_5 i1_6 i1_7 v1_0 v1_1 v1_2 res 4000 x2 x3 (0) (16 * x2) hf _ _ _ hP hD hS (lv_sub hl [3, 4, 5, 1, 0] rfl)
theorem in_X1_shareOf_X2 : ∀ w ∈ u_ws RX2 TX2 8, w ∈ wsX1_shareOf := fun w h => List.mem_cons_of_mem _ (List.mem_append_right _ h)
abbrev W_X1_shareOf (cs : Nat → ClassId) (a0 : Nat) (p0 : Nat → Nat) (i0_0 : Int32) (i0_1 : Int32) (v0_2 : Nat → Int32) (v0_3 : Nat → Int32) (a1 : Nat) (p1 : Nat → Nat) (i1_3 : Int32) (i1_4 : Int32) (i1_5 : Int32) (i1_6 : Int32) (i1_7 : Int32) (v1_0 : Nat → Int32) (v1_1 : Nat → Int32) (v1_2 : Nat → Int32) : va_W := wX1 cs a0 p0 i0_0 i0_1 v0_2 v0_3 ++ wX2 cs a1 p1 i1_3 i1_4 i1_5 i1_6 i1_7 v1_0 v1_1 v1_2
abbrev rm_X1_shareOf : Room := { frames := 1, cells := 0, slots := 0, locals := 23 }
def f_X1_shareOf_b85  (v1_1 : Nat → Int32) (k37 : Int32 → Int32 → Int32 → Int32 → Int32 → Int32 → Int32 → Option (Int32))  (x2 : Int32) (x3 : Int32) (x4 : Int32) (x5 : Int32) (x6 : Int32) (x7 : Int32) (x8 : Int32) : Option (Int32) := k37 x2 x3 x4 x5 x6 x7 (x8 + 1)
set_option maxHeartbeats 4000000 in
set_option maxRecDepth 100000 in
theorem w_X1_shareOf_b85 {p : Program} {l : Launch} {e : Env} {s : State} {m : MethodId} {below : List Frame} {meth : Method} {c : Code} {D : va_G} {cs : Nat → ClassId} {av : Array Value} {w0 : va_W} (C0 : Cx p s m meth c av wsX1_shareOf cX1_shareOf 9 (some .int) RX1 D cs w0)  (a0 : Nat) (p0 : Nat → Nat) (i0_0 : Int32) (i0_1 : Int32) (v0_2 : Nat → Int32) (v0_3 : Nat → Int32) (a1 : Nat) (p1 : Nat → Nat) (i1_3 : Int32) (i1_4 : Int32) (i1_5 : Int32) (i1_6 : Int32) (i1_7 : Int32) (v1_0 : Nat → Int32) (v1_1 : Nat → Int32) (v1_2 : Nat → Int32) (res : Int32) (k37 : Int32 → Int32 → Int32 → Int32 → Int32 → Int32 → Int32 → Option (Int32)) (hk37 : ∀ (x2 : Int32) (x3 : Int32) (x4 : Int32) (x5 : Int32) (x6 : Int32) (x7 : Int32) (x8 : Int32), k37 x2 x3 x4 x5 x6 x7 x8 = some res → ∀ (H : Heap) (locs : List Loc) (ls : Array Slot), va_P D vwCl (W_X1_shareOf cs a0 p0 i0_0 i0_1 v0_2 v0_3 a1 p1 i1_3 i1_4 i1_5 i1_6 i1_7 v1_0 v1_1 v1_2) H → va_D (va_A w0 s.heap.size) (W_X1_shareOf cs a0 p0 i0_0 i0_1 v0_2 v0_3 a1 p1 i1_3 i1_4 i1_5 i1_6 i1_7 v1_0 v1_1 v1_2) → va_S (va_A w0 s.heap.size) s.heap H locs → lv_has ls 9 [(1, .ref a1), (2, .int x2), (3, .int x3), (4, .int x4), (5, .int x5), (6, .int x6), (7, .int x7), (8, .int x8)] → W p l e rm_X1_shareOf s m av below meth c H locs 0 0 (MQ below (oI D cs w0 (W_X1_shareOf cs a0 p0 i0_0 i0_1 v0_2 v0_3 a1 p1 i1_3 i1_4 i1_5 i1_6 i1_7 v1_0 v1_1 v1_2) res s.heap.size) av s 0 0 (va_A w0 s.heap.size)) (F0 m 37 ls [])) : ∀ (x2 : Int32) (x3 : Int32) (x4 : Int32) (x5 : Int32) (x6 : Int32) (x7 : Int32) (x8 : Int32), f_X1_shareOf_b85 v1_1 k37 x2 x3 x4 x5 x6 x7 x8 = some res → ∀ (H : Heap) (locs : List Loc) (ls : Array Slot), va_P D vwCl (W_X1_shareOf cs a0 p0 i0_0 i0_1 v0_2 v0_3 a1 p1 i1_3 i1_4 i1_5 i1_6 i1_7 v1_0 v1_1 v1_2) H → va_D (va_A w0 s.heap.size) (W_X1_shareOf cs a0 p0 i0_0 i0_1 v0_2 v0_3 a1 p1 i1_3 i1_4 i1_5 i1_6 i1_7 v1_0 v1_1 v1_2) → va_S (va_A w0 s.heap.size) s.heap H locs → lv_has ls 9 [(1, .ref a1), (2, .int x2), (3, .int x3), (4, .int x4), (5, .int x5), (6, .int x6), (7, .int x7), (8, .int x8)] → W p l e rm_X1_shareOf s m av below meth c H locs 0 0 (MQ below (oI D cs w0 (W_X1_shareOf cs a0 p0 i0_0 i0_1 v0_2 v0_3 a1 p1 i1_3 i1_4 i1_5 i1_6 i1_7 v1_0 v1_1 v1_2) res s.heap.size) av s 0 0 (va_A w0 s.heap.size)) (F0 m 85 ls []) := by
  obtain ⟨hx, hb, hr, hlk, hml, hown, hts, hK, hG, hE⟩ := id C0
  intro x2 x3 x4 x5 x6 x7 x8 hf H locs ls hP hD hS hl
  rw [f_X1_shareOf_b85] at hf
  refine lv_iinc (v := x8 + 1) (lv' := [(8, .int (x8 + 1)), (1, .ref a1), (2, .int x2), (3, .int x3), (4, .int x4), (5, .int x5), (6, .int x6), (7, .int x7)]) hx hb dX1_shareOf_85 hl (k := 7) rfl (ow_inc (by decide)) (by decide) rfl (fun ls hl => ?_)
  refine lv_goto (tgt := 37) hx hb dX1_shareOf_88 (by decide) ?_
  exact hk37 x2 x3 x4 x5 x6 x7 (x8 + 1) hf _ _ _ hP hD hS (lv_sub hl [1, 2, 3, 4, 5, 6, 7, 0] rfl)
def f_X1_shareOf_b114  (v1_1 : Nat → Int32)   (t0 : Int32) (t1 : Int32) : Option (Int32) := some (t0 + t1)
set_option maxHeartbeats 4000000 in
set_option maxRecDepth 100000 in
theorem w_X1_shareOf_b114 {p : Program} {l : Launch} {e : Env} {s : State} {m : MethodId} {below : List Frame} {meth : Method} {c : Code} {D : va_G} {cs : Nat → ClassId} {av : Array Value} {w0 : va_W} (C0 : Cx p s m meth c av wsX1_shareOf cX1_shareOf 9 (some .int) RX1 D cs w0)  (a0 : Nat) (p0 : Nat → Nat) (i0_0 : Int32) (i0_1 : Int32) (v0_2 : Nat → Int32) (v0_3 : Nat → Int32) (a1 : Nat) (p1 : Nat → Nat) (i1_3 : Int32) (i1_4 : Int32) (i1_5 : Int32) (i1_6 : Int32) (i1_7 : Int32) (v1_0 : Nat → Int32) (v1_1 : Nat → Int32) (v1_2 : Nat → Int32) (res : Int32)  : ∀ (t0 : Int32) (t1 : Int32), f_X1_shareOf_b114 v1_1 t0 t1 = some res → ∀ (H : Heap) (locs : List Loc) (ls : Array Slot), va_P D vwCl (W_X1_shareOf cs a0 p0 i0_0 i0_1 v0_2 v0_3 a1 p1 i1_3 i1_4 i1_5 i1_6 i1_7 v1_0 v1_1 v1_2) H → va_D (va_A w0 s.heap.size) (W_X1_shareOf cs a0 p0 i0_0 i0_1 v0_2 v0_3 a1 p1 i1_3 i1_4 i1_5 i1_6 i1_7 v1_0 v1_1 v1_2) → va_S (va_A w0 s.heap.size) s.heap H locs → lv_has ls 9 [] → W p l e rm_X1_shareOf s m av below meth c H locs 0 0 (MQ below (oI D cs w0 (W_X1_shareOf cs a0 p0 i0_0 i0_1 v0_2 v0_3 a1 p1 i1_3 i1_4 i1_5 i1_6 i1_7 v1_0 v1_1 v1_2) res s.heap.size) av s 0 0 (va_A w0 s.heap.size)) (F0 m 114 ls [.int t1, .int t0]) := by
  obtain ⟨hx, hb, hr, hlk, hml, hown, hts, hK, hG, hE⟩ := id C0
  intro t0 t1 hf H locs ls hP hD hS hl
  rw [f_X1_shareOf_b114] at hf
  refine lv_iadd hx hb dX1_shareOf_114 ?_
  obtain rfl := Option.some.inj hf
  exact ow_retI C0 hP hD hS dX1_shareOf_115
def f_X1_shareOf_b37  (v1_1 : Nat → Int32)  : Nat → Int32 → Int32 → Int32 → Int32 → Int32 → Int32 → Int32 → Option (Int32)
  | 0, _, _, _, _, _, _, _ => none
  | n + 1, x2, x3, x4, x5, x6, x7, x8 => if (x4 + 16) ≤ x8 then (ck x2 80 (cd x5 (if x2 = x6 then (f_X1_shareOf_b114 v1_1 ((x3 * (v1_1 (x2).toNatClampNeg)) / x5) x7) else (f_X1_shareOf_b114 v1_1 ((x3 * (v1_1 (x2).toNatClampNeg)) / x5) (0))))) else (ck x8 80 (cd x5 (ck x8 80 (ck x6 80 (if (v1_1 (x8).toNatClampNeg) ≤ (v1_1 (x6).toNatClampNeg) then (f_X1_shareOf_b85 v1_1 (f_X1_shareOf_b37 v1_1 n) x2 x3 x4 x5 x6 (x7 - ((x3 * (v1_1 (x8).toNatClampNeg)) / x5)) x8) else (f_X1_shareOf_b85 v1_1 (f_X1_shareOf_b37 v1_1 n) x2 x3 x4 x5 x8 (x7 - ((x3 * (v1_1 (x8).toNatClampNeg)) / x5)) x8))))))
set_option maxHeartbeats 4000000 in
set_option maxRecDepth 100000 in
theorem w_X1_shareOf_b37 {p : Program} {l : Launch} {e : Env} {s : State} {m : MethodId} {below : List Frame} {meth : Method} {c : Code} {D : va_G} {cs : Nat → ClassId} {av : Array Value} {w0 : va_W} (C0 : Cx p s m meth c av wsX1_shareOf cX1_shareOf 9 (some .int) RX1 D cs w0)  (a0 : Nat) (p0 : Nat → Nat) (i0_0 : Int32) (i0_1 : Int32) (v0_2 : Nat → Int32) (v0_3 : Nat → Int32) (a1 : Nat) (p1 : Nat → Nat) (i1_3 : Int32) (i1_4 : Int32) (i1_5 : Int32) (i1_6 : Int32) (i1_7 : Int32) (v1_0 : Nat → Int32) (v1_1 : Nat → Int32) (v1_2 : Nat → Int32) (res : Int32)  : ∀ (n : Nat) (x2 : Int32) (x3 : Int32) (x4 : Int32) (x5 : Int32) (x6 : Int32) (x7 : Int32) (x8 : Int32), f_X1_shareOf_b37 v1_1 n x2 x3 x4 x5 x6 x7 x8 = some res → ∀ (H : Heap) (locs : List Loc) (ls : Array Slot), va_P D vwCl (W_X1_shareOf cs a0 p0 i0_0 i0_1 v0_2 v0_3 a1 p1 i1_3 i1_4 i1_5 i1_6 i1_7 v1_0 v1_1 v1_2) H → va_D (va_A w0 s.heap.size) (W_X1_shareOf cs a0 p0 i0_0 i0_1 v0_2 v0_3 a1 p1 i1_3 i1_4 i1_5 i1_6 i1_7 v1_0 v1_1 v1_2) → va_S (va_A w0 s.heap.size) s.heap H locs → lv_has ls 9 [(1, .ref a1), (2, .int x2), (3, .int x3), (4, .int x4), (5, .int x5), (6, .int x6), (7, .int x7), (8, .int x8)] → W p l e rm_X1_shareOf s m av below meth c H locs 0 0 (MQ below (oI D cs w0 (W_X1_shareOf cs a0 p0 i0_0 i0_1 v0_2 v0_3 a1 p1 i1_3 i1_4 i1_5 i1_6 i1_7 v1_0 v1_1 v1_2) res s.heap.size) av s 0 0 (va_A w0 s.heap.size)) (F0 m 37 ls []) := by
  obtain ⟨hx, hb, hr, hlk, hml, hown, hts, hK, hG, hE⟩ := id C0
  intro n
  induction n with
  | zero =>
    intro x2 x3 x4 x5 x6 x7 x8 hf
    rw [f_X1_shareOf_b37] at hf
    cases hf
  | succ n ih =>
    intro x2 x3 x4 x5 x6 x7 x8 hf H locs ls hP hD hS hl
    rw [f_X1_shareOf_b37] at hf
    refine lv_iload hx hb dX1_shareOf_37 (lv_at hl 7 rfl) ?_
    refine lv_iload hx hb dX1_shareOf_39 (lv_at hl 3 rfl) ?_
    refine lv_bipush (v := 16) hx hb dX1_shareOf_41 (by decide) ?_
    refine lv_iadd hx hb dX1_shareOf_43 ?_
    refine lv_icmp_ge (tgt := 91) hx hb dX1_shareOf_44 (by decide) (fun hc => ?_) (fun hc => ?_)
    · replace hf := ow_t hc hf
      refine lv_iload_n hx hb dX1_shareOf_91 rfl (lv_at hl 2 rfl) ?_
      refine lv_aload_n hx hb dX1_shareOf_92 rfl (lv_at hl 0 rfl) ?_
      refine va_get (D := D) (ci := 2) (v := .ref (p1 1)) (C := RX2) (T := TX2) (N := 8) hx hb hts in_X1_shareOf_X2 hown hK hP 3 rfl rfl 1 (by decide) (hts (.fieldLink RX1 33 "PaneDays$Glass" "depth" "[I") (List.mem_of_getElem? (i := 1) rfl)) (fun _ h9 => h9) rfl dX1_shareOf_93 ?_
      refine lv_iload_n hx hb dX1_shareOf_96 rfl (lv_at hl 1 rfl) ?_
      obtain ⟨hin, hf⟩ := ck_some hf
      refine va_iald (f := v1_1) hx hb hK hP 5 0 rfl rfl hin dX1_shareOf_97 ?_
      refine lv_imul hx hb dX1_shareOf_98 ?_
      refine lv_iload hx hb dX1_shareOf_99 (lv_at hl 4 rfl) ?_
      obtain ⟨hnz, hf⟩ := cd_some hf
      refine lv_idiv hx hb dX1_shareOf_101 hnz ?_
      refine lv_iload_n hx hb dX1_shareOf_102 rfl (lv_at hl 1 rfl) ?_
      refine lv_iload hx hb dX1_shareOf_103 (lv_at hl 5 rfl) ?_
      refine lv_icmp_ne (tgt := 113) hx hb dX1_shareOf_105 (by decide) (fun hc => ?_) (fun hc => ?_)
      · replace hf := ow_f hc hf
        refine lv_iconst (v := 0) hx hb dX1_shareOf_113 (by decide) ?_
        exact w_X1_shareOf_b114 C0 a0 p0 i0_0 i0_1 v0_2 v0_3 a1 p1 i1_3 i1_4 i1_5 i1_6 i1_7 v1_0 v1_1 v1_2 res ((x3 * (v1_1 (x2).toNatClampNeg)) / x5) (0) hf _ _ _ hP hD hS (lv_sub hl [] rfl)
      · replace hf := ow_t hc hf
        refine lv_iload hx hb dX1_shareOf_108 (lv_at hl 6 rfl) ?_
        refine lv_goto (tgt := 114) hx hb dX1_shareOf_110 (by decide) ?_
        exact w_X1_shareOf_b114 C0 a0 p0 i0_0 i0_1 v0_2 v0_3 a1 p1 i1_3 i1_4 i1_5 i1_6 i1_7 v1_0 v1_1 v1_2 res ((x3 * (v1_1 (x2).toNatClampNeg)) / x5) x7 hf _ _ _ hP hD hS (lv_sub hl [] rfl)
    · replace hf := ow_f hc hf
      refine lv_iload hx hb dX1_shareOf_47 (lv_at hl 6 rfl) ?_
      refine lv_iload_n hx hb dX1_shareOf_49 rfl (lv_at hl 2 rfl) ?_
      refine lv_aload_n hx hb dX1_shareOf_50 rfl (lv_at hl 0 rfl) ?_
      refine va_get (D := D) (ci := 2) (v := .ref (p1 1)) (C := RX2) (T := TX2) (N := 8) hx hb hts in_X1_shareOf_X2 hown hK hP 3 rfl rfl 1 (by decide) (hts (.fieldLink RX1 33 "PaneDays$Glass" "depth" "[I") (List.mem_of_getElem? (i := 1) rfl)) (fun _ h9 => h9) rfl dX1_shareOf_51 ?_
      refine lv_iload hx hb dX1_shareOf_54 (lv_at hl 7 rfl) ?_
      obtain ⟨hin, hf⟩ := ck_some hf
      refine va_iald (f := v1_1) hx hb hK hP 5 0 rfl rfl hin dX1_shareOf_56 ?_
      refine lv_imul hx hb dX1_shareOf_57 ?_
      refine lv_iload hx hb dX1_shareOf_58 (lv_at hl 4 rfl) ?_
      obtain ⟨hnz, hf⟩ := cd_some hf
      refine lv_idiv hx hb dX1_shareOf_60 hnz ?_
      refine lv_isub hx hb dX1_shareOf_61 ?_
      refine lv_istore (lv' := [(7, .int (x7 - ((x3 * (v1_1 (x8).toNatClampNeg)) / x5))), (1, .ref a1), (2, .int x2), (3, .int x3), (4, .int x4), (5, .int x5), (6, .int x6), (8, .int x8)]) hx hb dX1_shareOf_62 hl (by decide) rfl (fun ls hl => ?_)
      refine lv_aload_n hx hb dX1_shareOf_64 rfl (lv_at hl 1 rfl) ?_
      refine va_get (D := D) (ci := 2) (v := .ref (p1 1)) (C := RX2) (T := TX2) (N := 8) hx hb hts in_X1_shareOf_X2 hown hK hP 3 rfl rfl 1 (by decide) (hts (.fieldLink RX1 33 "PaneDays$Glass" "depth" "[I") (List.mem_of_getElem? (i := 1) rfl)) (fun _ h9 => h9) rfl dX1_shareOf_65 ?_
      refine lv_iload hx hb dX1_shareOf_68 (lv_at hl 7 rfl) ?_
      obtain ⟨hin, hf⟩ := ck_some hf
      refine va_iald (f := v1_1) hx hb hK hP 5 0 rfl rfl hin dX1_shareOf_70 ?_
      refine lv_aload_n hx hb dX1_shareOf_71 rfl (lv_at hl 1 rfl) ?_
      refine va_get (D := D) (ci := 2) (v := .ref (p1 1)) (C := RX2) (T := TX2) (N := 8) hx hb hts in_X1_shareOf_X2 hown hK hP 3 rfl rfl 1 (by decide) (hts (.fieldLink RX1 33 "PaneDays$Glass" "depth" "[I") (List.mem_of_getElem? (i := 1) rfl)) (fun _ h9 => h9) rfl dX1_shareOf_72 ?_
      refine lv_iload hx hb dX1_shareOf_75 (lv_at hl 6 rfl) ?_
      obtain ⟨hin, hf⟩ := ck_some hf
      refine va_iald (f := v1_1) hx hb hK hP 5 0 rfl rfl hin dX1_shareOf_77 ?_
      refine lv_icmp_le (tgt := 85) hx hb dX1_shareOf_78 (by decide) (fun hc => ?_) (fun hc => ?_)
      · replace hf := ow_t hc hf
        exact w_X1_shareOf_b85 C0 a0 p0 i0_0 i0_1 v0_2 v0_3 a1 p1 i1_3 i1_4 i1_5 i1_6 i1_7 v1_0 v1_1 v1_2 res (f_X1_shareOf_b37 v1_1 n) ih x2 x3 x4 x5 x6 (x7 - ((x3 * (v1_1 (x8).toNatClampNeg)) / x5)) x8 hf _ _ _ hP hD hS (lv_sub hl [1, 2, 3, 4, 5, 6, 0, 7] rfl)
      · replace hf := ow_f hc hf
        refine lv_iload hx hb dX1_shareOf_81 (lv_at hl 7 rfl) ?_
        refine lv_istore (lv' := [(6, .int x8), (7, .int (x7 - ((x3 * (v1_1 (x8).toNatClampNeg)) / x5))), (1, .ref a1), (2, .int x2), (3, .int x3), (4, .int x4), (5, .int x5), (8, .int x8)]) hx hb dX1_shareOf_83 hl (by decide) rfl (fun ls hl => ?_)
        exact w_X1_shareOf_b85 C0 a0 p0 i0_0 i0_1 v0_2 v0_3 a1 p1 i1_3 i1_4 i1_5 i1_6 i1_7 v1_0 v1_1 v1_2 res (f_X1_shareOf_b37 v1_1 n) ih x2 x3 x4 x5 x8 (x7 - ((x3 * (v1_1 (x8).toNatClampNeg)) / x5)) x8 hf _ _ _ hP hD hS (lv_sub hl [2, 3, 4, 5, 6, 0, 1, 7] rfl)
def f_X1_shareOf  (v1_1 : Nat → Int32) (x2 : Int32) (x3 : Int32) : Option (Int32) := (f_X2_filmsOn v1_1 (x2 / 16)).bind fun q14 => if q14 = 0 then (some (0)) else (f_X1_shareOf_b37 v1_1 4000 x2 x3 ((x2 / 16) * 16) q14 ((x2 / 16) * 16) x3 ((x2 / 16) * 16))
set_option maxHeartbeats 4000000 in
set_option maxRecDepth 100000 in
theorem c_X1_shareOf (l : Launch) (D : va_G) (cs : Nat → ClassId)  (sz : Nat) (a0 : Nat) (p0 : Nat → Nat) (i0_0 : Int32) (i0_1 : Int32) (v0_2 : Nat → Int32) (v0_3 : Nat → Int32) (a1 : Nat) (p1 : Nat → Nat) (i1_3 : Int32) (i1_4 : Int32) (i1_5 : Int32) (i1_6 : Int32) (i1_7 : Int32) (v1_0 : Nat → Int32) (v1_1 : Nat → Int32) (v1_2 : Nat → Int32) (x2 : Int32) (x3 : Int32) (res : Int32) (hf : f_X1_shareOf  v1_1 x2 x3 = some res) : MI l D cs yX1_shareOf wsX1_shareOf rm_X1_shareOf [.ref a0, .ref a1, .int x2, .int x3] sz (W_X1_shareOf cs a0 p0 i0_0 i0_1 v0_2 v0_3 a1 p1 i1_3 i1_4 i1_5 i1_6 i1_7 v1_0 v1_1 v1_2) (W_X1_shareOf cs a0 p0 i0_0 i0_1 v0_2 v0_3 a1 p1 i1_3 i1_4 i1_5 i1_6 i1_7 v1_0 v1_1 v1_2) res := by
  rw [f_X1_shareOf] at hf
  refine ow_enter (cc := cX1_shareOf) (nL := 9) (ret := (some .int)) (by decide) rfl (Nat.le_of_ble_eq_true rfl) (fun p e s m below meth c ls H locs C0 hP hD hS hA hl => ?_)
  obtain ⟨hx, hb, hr, hlk, hml, hown, hts, hK, hG, hE⟩ := id C0
  have hl : lv_has ls 9 [(0, .ref a0), (1, .ref a1), (2, .int x2), (3, .int x3)] := hl
  refine lv_iload_n hx hb dX1_shareOf_0 rfl (lv_at hl 2 rfl) ?_
  refine lv_bipush (v := 16) hx hb dX1_shareOf_1 (by decide) ?_
  refine lv_idiv hx hb dX1_shareOf_3 (by decide) ?_
  refine lv_bipush (v := 16) hx hb dX1_shareOf_4 (by decide) ?_
  refine lv_imul hx hb dX1_shareOf_6 ?_
  refine lv_istore (lv' := [(4, .int ((x2 / 16) * 16)), (0, .ref a0), (1, .ref a1), (2, .int x2), (3, .int x3)]) hx hb dX1_shareOf_7 hl (by decide) rfl (fun ls hl => ?_)
  refine lv_aload_n hx hb dX1_shareOf_9 rfl (lv_at hl 2 rfl) ?_
  refine lv_iload_n hx hb dX1_shareOf_10 rfl (lv_at hl 3 rfl) ?_
  refine lv_bipush (v := 16) hx hb dX1_shareOf_11 (by decide) ?_
  refine lv_idiv hx hb dX1_shareOf_13 (by decide) ?_
  obtain ⟨q14, hq, hf⟩ := bd_some hf
  refine ow_callVI (As := [.int (x2 / 16)]) (rest := []) (wr := ow_pk (W_X1_shareOf cs a0 p0 i0_0 i0_1 v0_2 v0_3 a1 p1 i1_3 i1_4 i1_5 i1_6 i1_7 v1_0 v1_1 v1_2) [0, 1, 2]) (wf := (W_X1_shareOf cs a0 p0 i0_0 i0_1 v0_2 v0_3 a1 p1 i1_3 i1_4 i1_5 i1_6 i1_7 v1_0 v1_1 v1_2)) (r := q14) C0 (c_X2_filmsOn l D cs H.size a1 p1 i1_3 i1_4 i1_5 i1_6 i1_7 v1_0 v1_1 v1_2 (x2 / 16) q14 hq) (cwV 1 hts gX1_shareOf_X2_filmsOn rfl rfl rfl (by decide +kernel) ⟨Nat.le_of_ble_eq_true rfl, Nat.le_of_ble_eq_true rfl⟩) 2 rfl rfl hP hD hS (fun q h => Or.inr h) [3, 4, 5, 6] [0, 1, 2] [0, 1, 2, 3, 4, 5, 6] rfl (by decide) rfl (by decide) (by decide) rfl (by decide) rfl hl.1 rfl (Nat.le_of_ble_eq_true rfl) ⟨Nat.zero_le _, Nat.zero_le _⟩ dX1_shareOf_14 (fun H locs hP hD hS => ?_)
  refine lv_istore (lv' := [(5, .int q14), (4, .int ((x2 / 16) * 16)), (0, .ref a0), (1, .ref a1), (2, .int x2), (3, .int x3)]) hx hb dX1_shareOf_17 hl (by decide) rfl (fun ls hl => ?_)
  refine lv_iload hx hb dX1_shareOf_19 (lv_at hl 0 rfl) ?_
  refine lv_if_ne (tgt := 26) hx hb dX1_shareOf_21 (by decide) (fun hc => ?_) (fun hc => ?_)
  · replace hf := ow_f hc hf
    refine lv_iload hx hb dX1_shareOf_26 (lv_at hl 1 rfl) ?_
    refine lv_istore (lv' := [(6, .int ((x2 / 16) * 16)), (5, .int q14), (4, .int ((x2 / 16) * 16)), (0, .ref a0), (1, .ref a1), (2, .int x2), (3, .int x3)]) hx hb dX1_shareOf_28 hl (by decide) rfl (fun ls hl => ?_)
    refine lv_iload_n hx hb dX1_shareOf_30 rfl (lv_at hl 6 rfl) ?_
    refine lv_istore (lv' := [(7, .int x3), (6, .int ((x2 / 16) * 16)), (5, .int q14), (4, .int ((x2 / 16) * 16)), (0, .ref a0), (1, .ref a1), (2, .int x2), (3, .int x3)]) hx hb dX1_shareOf_31 hl (by decide) rfl (fun ls hl => ?_)
    refine lv_iload hx hb dX1_shareOf_33 (lv_at hl 3 rfl) ?_
    refine lv_istore (lv' := [(8, .int ((x2 / 16) * 16)), (7, .int x3), (6, .int ((x2 / 16) * 16)), (5, .int q14), (4, .int ((x2 / 16) * 16)), (0, .ref a0), (1, .ref a1), (2, .int x2), (3, .int x3)]) hx hb dX1_shareOf_35 hl (by decide) rfl (fun ls hl => ?_)
    exact w_X1_shareOf_b37 C0 a0 p0 i0_0 i0_1 v0_2 v0_3 a1 p1 i1_3 i1_4 i1_5 i1_6 i1_7 v1_0 v1_1 v1_2 res 4000 x2 x3 ((x2 / 16) * 16) q14 ((x2 / 16) * 16) x3 ((x2 / 16) * 16) hf _ _ _ hP hD hS (lv_sub hl [6, 7, 8, 4, 3, 2, 1, 0] rfl)
  · replace hf := ow_t hc hf
    refine lv_iconst (v := 0) hx hb dX1_shareOf_24 (by decide) ?_
    obtain rfl := Option.some.inj hf
    exact ow_retI C0 hP hD hS dX1_shareOf_25

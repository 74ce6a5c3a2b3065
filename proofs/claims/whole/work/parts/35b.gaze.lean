abbrev rm_X1_spread : Room := { frames := 0, cells := 0, slots := 0, locals := 0 }
def f_X1_spread_b4    : Nat → Int32 → Int32 → Int32 → Option (Int32)
  | 0, _, _, _ => none
  | n + 1, x1, x2, x3 => if 16 ≤ x3 then (some (x2)) else (f_X1_spread_b4 n x1 ((x2 ||| (((((x2 &&& ((-34953))) <<< (((1 : Int32)) &&& 31)) ||| ((x2 &&& ((-4370))) >>> (((1 : Int32)) &&& 31))) ||| (x2 <<< (((4 : Int32)) &&& 31))) ||| (x2 >>> (((4 : Int32)) &&& 31)))) &&& x1) (x3 + 1))
set_option maxHeartbeats 4000000 in
set_option maxRecDepth 100000 in
theorem w_X1_spread_b4 {p : Program} {l : Launch} {e : Env} {s : State} {m : MethodId} {below : List Frame} {meth : Method} {c : Code} {D : va_G} {cs : Nat → ClassId} {av : Array Value} {w0 : va_W} (C0 : Cx p s m meth c av wsX1_spread cX1_spread 4 (some .int) RX1 D cs w0)   (res : Int32)  : ∀ (n : Nat) (x1 : Int32) (x2 : Int32) (x3 : Int32), f_X1_spread_b4 n x1 x2 x3 = some res → ∀ (H : Heap) (locs : List Loc) (ls : Array Slot), va_P D vwCl ([] : va_W) H → va_D (va_A w0 s.heap.size) ([] : va_W) → va_S (va_A w0 s.heap.size) s.heap H locs → lv_has ls 4 [(1, .int x1), (2, .int x2), (3, .int x3)] → W p l e rm_X1_spread s m av below meth c H locs 0 0 (MQ below (oI D cs w0 ([] : va_W) res s.heap.size) av s 0 0 (va_A w0 s.heap.size)) (F0 m 4 ls []) := by
  obtain ⟨hx, hb, hr, hlk, hml, hown, hts, hK, hG, hE⟩ := id C0
  intro n
  induction n with
  | zero =>
    intro x1 x2 x3 hf
    rw [f_X1_spread_b4] at hf
    cases hf
  | succ n ih =>
    intro x1 x2 x3 hf H locs ls hP hD hS hl
    rw [f_X1_spread_b4] at hf
    refine lv_iload_n hx hb dX1_spread_4 rfl (lv_at hl 2 rfl) ?_
    refine lv_bipush (v := 16) hx hb dX1_spread_5 (by decide) ?_
    refine lv_icmp_ge (tgt := 45) hx hb dX1_spread_7 (by decide) (fun hc => ?_) (fun hc => ?_)
    · replace hf := ow_t hc hf
      refine lv_iload_n hx hb dX1_spread_45 rfl (lv_at hl 1 rfl) ?_
      obtain rfl := Option.some.inj hf
      exact ow_retI C0 hP hD hS dX1_spread_46
    · replace hf := ow_f hc hf
      refine lv_iload_n hx hb dX1_spread_10 rfl (lv_at hl 1 rfl) ?_
      refine lv_iload_n hx hb dX1_spread_11 rfl (lv_at hl 1 rfl) ?_
      refine lv_ldc (own := RX1) (v := (-34953)) hx hb hown (hts (.constant RX1 75 (-34953)) (List.mem_of_getElem? (i := 1) rfl)) dX1_spread_12 ?_
      refine lv_iand hx hb dX1_spread_14 ?_
      refine lv_iconst (v := 1) hx hb dX1_spread_15 (by decide) ?_
      refine lv_ishl hx hb dX1_spread_16 ?_
      refine lv_iload_n hx hb dX1_spread_17 rfl (lv_at hl 1 rfl) ?_
      refine lv_sipush (v := (-4370)) hx hb dX1_spread_18 (by decide) ?_
      refine lv_iand hx hb dX1_spread_21 ?_
      refine lv_iconst (v := 1) hx hb dX1_spread_22 (by decide) ?_
      refine lv_ishr hx hb dX1_spread_23 ?_
      refine lv_ior hx hb dX1_spread_24 ?_
      refine lv_iload_n hx hb dX1_spread_25 rfl (lv_at hl 1 rfl) ?_
      refine lv_iconst (v := 4) hx hb dX1_spread_26 (by decide) ?_
      refine lv_ishl hx hb dX1_spread_27 ?_
      refine lv_ior hx hb dX1_spread_28 ?_
      refine lv_iload_n hx hb dX1_spread_29 rfl (lv_at hl 1 rfl) ?_
      refine lv_iconst (v := 4) hx hb dX1_spread_30 (by decide) ?_
      refine lv_ishr hx hb dX1_spread_31 ?_
      refine lv_ior hx hb dX1_spread_32 ?_
      refine lv_ior hx hb dX1_spread_33 ?_
      refine lv_istore_n (lv' := [(2, .int (x2 ||| (((((x2 &&& ((-34953))) <<< (((1 : Int32)) &&& 31)) ||| ((x2 &&& ((-4370))) >>> (((1 : Int32)) &&& 31))) ||| (x2 <<< (((4 : Int32)) &&& 31))) ||| (x2 >>> (((4 : Int32)) &&& 31))))), (1, .int x1), (3, .int x3)]) hx hb dX1_spread_34 rfl hl (by decide) rfl (fun ls hl => ?_)
      refine lv_iload_n hx hb dX1_spread_35 rfl (lv_at hl 0 rfl) ?_
      refine lv_iload_n hx hb dX1_spread_36 rfl (lv_at hl 1 rfl) ?_
      refine lv_iand hx hb dX1_spread_37 ?_
      refine lv_istore_n (lv' := [(2, .int ((x2 ||| (((((x2 &&& ((-34953))) <<< (((1 : Int32)) &&& 31)) ||| ((x2 &&& ((-4370))) >>> (((1 : Int32)) &&& 31))) ||| (x2 <<< (((4 : Int32)) &&& 31))) ||| (x2 >>> (((4 : Int32)) &&& 31)))) &&& x1)), (1, .int x1), (3, .int x3)]) hx hb dX1_spread_38 rfl hl (by decide) rfl (fun ls hl => ?_)
      refine lv_iinc (v := x3 + 1) (lv' := [(3, .int (x3 + 1)), (2, .int ((x2 ||| (((((x2 &&& ((-34953))) <<< (((1 : Int32)) &&& 31)) ||| ((x2 &&& ((-4370))) >>> (((1 : Int32)) &&& 31))) ||| (x2 <<< (((4 : Int32)) &&& 31))) ||| (x2 >>> (((4 : Int32)) &&& 31)))) &&& x1)), (1, .int x1)]) hx hb dX1_spread_39 hl (k := 2) rfl (ow_inc (by decide)) (by decide) rfl (fun ls hl => ?_)
      refine lv_goto (tgt := 4) hx hb dX1_spread_42 (by decide) ?_
      exact ih x1 ((x2 ||| (((((x2 &&& ((-34953))) <<< (((1 : Int32)) &&& 31)) ||| ((x2 &&& ((-4370))) >>> (((1 : Int32)) &&& 31))) ||| (x2 <<< (((4 : Int32)) &&& 31))) ||| (x2 >>> (((4 : Int32)) &&& 31)))) &&& x1) (x3 + 1) hf _ _ _ hP hD hS (lv_sub hl [2, 1, 0] rfl)
def f_X1_spread   (x0 : Int32) (x1 : Int32) : Option (Int32) := f_X1_spread_b4 4000 x1 x0 (0)
set_option maxHeartbeats 4000000 in
set_option maxRecDepth 100000 in
theorem c_X1_spread (l : Launch) (D : va_G) (cs : Nat → ClassId)  (sz : Nat)  (x0 : Int32) (x1 : Int32) (res : Int32) (hf : f_X1_spread   x0 x1 = some res) : MI l D cs yX1_spread wsX1_spread rm_X1_spread [.int x0, .int x1] sz ([] : va_W) ([] : va_W) res := by
  rw [f_X1_spread] at hf
  refine ow_enter (cc := cX1_spread) (nL := 4) (ret := (some .int)) (by decide) rfl (Nat.le_of_ble_eq_true rfl) (fun p e s m below meth c ls H locs C0 hP hD hS hA hl => ?_)
  obtain ⟨hx, hb, hr, hlk, hml, hown, hts, hK, hG, hE⟩ := id C0
  have hl : lv_has ls 4 [(0, .int x0), (1, .int x1)] := hl
  refine lv_iload_n hx hb dX1_spread_0 rfl (lv_at hl 0 rfl) ?_
  refine lv_istore_n (lv' := [(2, .int x0), (0, .int x0), (1, .int x1)]) hx hb dX1_spread_1 rfl hl (by decide) rfl (fun ls hl => ?_)
  refine lv_iconst (v := 0) hx hb dX1_spread_2 (by decide) ?_
  refine lv_istore_n (lv' := [(3, .int 0), (2, .int x0), (0, .int x0), (1, .int x1)]) hx hb dX1_spread_3 rfl hl (by decide) rfl (fun ls hl => ?_)
  exact w_X1_spread_b4 C0 res 4000 x1 x0 (0) hf _ _ _ hP hD hS (lv_sub hl [3, 1, 0] rfl)
abbrev W_X1_cellsShowing (cs : Nat → ClassId) (a0 : Nat) (p0 : Nat → Nat) (i0_0 : Int32) (i0_1 : Int32) (v0_2 : Nat → Int32) (v0_3 : Nat → Int32) (a1 : Nat) (p1 : Nat → Nat) (i1_3 : Int32) (i1_4 : Int32) (i1_5 : Int32) (i1_6 : Int32) (i1_7 : Int32) (v1_0 : Nat → Int32) (v1_1 : Nat → Int32) (v1_2 : Nat → Int32) : va_W := wX1 cs a0 p0 i0_0 i0_1 v0_2 v0_3 ++ wX2 cs a1 p1 i1_3 i1_4 i1_5 i1_6 i1_7 v1_0 v1_1 v1_2
abbrev rm_X1_cellsShowing : Room := { frames := 1, cells := 0, slots := 0, locals := 21 }
def f_X1_cellsShowing_b38  (v1_0 : Nat → Int32) (v1_1 : Nat → Int32) (k6 : Int32 → Int32 → Int32 → Int32 → Int32 → Option (Int32))  (x2 : Int32) (x3 : Int32) (x4 : Int32) (x5 : Int32) (x6 : Int32) : Option (Int32) := k6 x2 x3 x4 x5 (x6 + 1)
set_option maxHeartbeats 4000000 in
set_option maxRecDepth 100000 in
theorem w_X1_cellsShowing_b38 {p : Program} {l : Launch} {e : Env} {s : State} {m : MethodId} {below : List Frame} {meth : Method} {c : Code} {D : va_G} {cs : Nat → ClassId} {av : Array Value} {w0 : va_W} (C0 : Cx p s m meth c av wsX1_cellsShowing cX1_cellsShowing 7 (some .int) RX1 D cs w0)  (a0 : Nat) (p0 : Nat → Nat) (i0_0 : Int32) (i0_1 : Int32) (v0_2 : Nat → Int32) (v0_3 : Nat → Int32) (a1 : Nat) (p1 : Nat → Nat) (i1_3 : Int32) (i1_4 : Int32) (i1_5 : Int32) (i1_6 : Int32) (i1_7 : Int32) (v1_0 : Nat → Int32) (v1_1 : Nat → Int32) (v1_2 : Nat → Int32) (res : Int32) (k6 : Int32 → Int32 → Int32 → Int32 → Int32 → Option (Int32)) (hk6 : ∀ (x2 : Int32) (x3 : Int32) (x4 : Int32) (x5 : Int32) (x6 : Int32), k6 x2 x3 x4 x5 x6 = some res → ∀ (H : Heap) (locs : List Loc) (ls : Array Slot), va_P D vwCl (W_X1_cellsShowing cs a0 p0 i0_0 i0_1 v0_2 v0_3 a1 p1 i1_3 i1_4 i1_5 i1_6 i1_7 v1_0 v1_1 v1_2) H → va_D (va_A w0 s.heap.size) (W_X1_cellsShowing cs a0 p0 i0_0 i0_1 v0_2 v0_3 a1 p1 i1_3 i1_4 i1_5 i1_6 i1_7 v1_0 v1_1 v1_2) → va_S (va_A w0 s.heap.size) s.heap H locs → lv_has ls 7 [(1, .ref a1), (2, .int x2), (3, .int x3), (4, .int x4), (5, .int x5), (6, .int x6)] → W p l e rm_X1_cellsShowing s m av below meth c H locs 0 0 (MQ below (oI D cs w0 (W_X1_cellsShowing cs a0 p0 i0_0 i0_1 v0_2 v0_3 a1 p1 i1_3 i1_4 i1_5 i1_6 i1_7 v1_0 v1_1 v1_2) res s.heap.size) av s 0 0 (va_A w0 s.heap.size)) (F0 m 6 ls [])) : ∀ (x2 : Int32) (x3 : Int32) (x4 : Int32) (x5 : Int32) (x6 : Int32), f_X1_cellsShowing_b38 v1_0 v1_1 k6 x2 x3 x4 x5 x6 = some res → ∀ (H : Heap) (locs : List Loc) (ls : Array Slot), va_P D vwCl (W_X1_cellsShowing cs a0 p0 i0_0 i0_1 v0_2 v0_3 a1 p1 i1_3 i1_4 i1_5 i1_6 i1_7 v1_0 v1_1 v1_2) H → va_D (va_A w0 s.heap.size) (W_X1_cellsShowing cs a0 p0 i0_0 i0_1 v0_2 v0_3 a1 p1 i1_3 i1_4 i1_5 i1_6 i1_7 v1_0 v1_1 v1_2) → va_S (va_A w0 s.heap.size) s.heap H locs → lv_has ls 7 [(1, .ref a1), (2, .int x2), (3, .int x3), (4, .int x4), (5, .int x5), (6, .int x6)] → W p l e rm_X1_cellsShowing s m av below meth c H locs 0 0 (MQ below (oI D cs w0 (W_X1_cellsShowing cs a0 p0 i0_0 i0_1 v0_2 v0_3 a1 p1 i1_3 i1_4 i1_5 i1_6 i1_7 v1_0 v1_1 v1_2) res s.heap.size) av s 0 0 (va_A w0 s.heap.size)) (F0 m 38 ls []) := by
  obtain ⟨hx, hb, hr, hlk, hml, hown, hts, hK, hG, hE⟩ := id C0
  intro x2 x3 x4 x5 x6 hf H locs ls hP hD hS hl
  rw [f_X1_cellsShowing_b38] at hf
  refine lv_iinc (v := x6 + 1) (lv' := [(6, .int (x6 + 1)), (1, .ref a1), (2, .int x2), (3, .int x3), (4, .int x4), (5, .int x5)]) hx hb dX1_cellsShowing_38 hl (k := 5) rfl (ow_inc (by decide)) (by decide) rfl (fun ls hl => ?_)
  refine lv_goto (tgt := 6) hx hb dX1_cellsShowing_41 (by decide) ?_
  exact hk6 x2 x3 x4 x5 (x6 + 1) hf _ _ _ hP hD hS (lv_sub hl [1, 2, 3, 4, 5, 0] rfl)
def f_X1_cellsShowing_b6  (v1_0 : Nat → Int32) (v1_1 : Nat → Int32)  : Nat → Int32 → Int32 → Int32 → Int32 → Int32 → Option (Int32)
  | 0, _, _, _, _, _ => none
  | n + 1, x2, x3, x4, x5, x6 => if 16 ≤ x6 then (some (x5 &&& x3)) else ((f_X2_shown v1_0 v1_1 ((16 * x2) + x6)).bind fun q21 => if q21 = x4 then (f_X1_cellsShowing_b38 v1_0 v1_1 (f_X1_cellsShowing_b6 v1_0 v1_1 n) x2 x3 x4 (x5 ||| (((1 : Int32)) <<< (x6 &&& 31))) x6) else (f_X1_cellsShowing_b38 v1_0 v1_1 (f_X1_cellsShowing_b6 v1_0 v1_1 n) x2 x3 x4 x5 x6))
set_option maxHeartbeats 4000000 in
set_option maxRecDepth 100000 in
theorem w_X1_cellsShowing_b6 {p : Program} {l : Launch} {e : Env} {s : State} {m : MethodId} {below : List Frame} {meth : Method} {c : Code} {D : va_G} {cs : Nat → ClassId} {av : Array Value} {w0 : va_W} (C0 : Cx p s m meth c av wsX1_cellsShowing cX1_cellsShowing 7 (some .int) RX1 D cs w0)  (a0 : Nat) (p0 : Nat → Nat) (i0_0 : Int32) (i0_1 : Int32) (v0_2 : Nat → Int32) (v0_3 : Nat → Int32) (a1 : Nat) (p1 : Nat → Nat) (i1_3 : Int32) (i1_4 : Int32) (i1_5 : Int32) (i1_6 : Int32) (i1_7 : Int32) (v1_0 : Nat → Int32) (v1_1 : Nat → Int32) (v1_2 : Nat → Int32) (res : Int32)  : ∀ (n : Nat) (x2 : Int32) (x3 : Int32) (x4 : Int32) (x5 : Int32) (x6 : Int32), f_X1_cellsShowing_b6 v1_0 v1_1 n x2 x3 x4 x5 x6 = some res → ∀ (H : Heap) (locs : List Loc) (ls : Array Slot), va_P D vwCl (W_X1_cellsShowing cs a0 p0 i0_0 i0_1 v0_2 v0_3 a1 p1 i1_3 i1_4 i1_5 i1_6 i1_7 v1_0 v1_1 v1_2) H → va_D (va_A w0 s.heap.size) (W_X1_cellsShowing cs a0 p0 i0_0 i0_1 v0_2 v0_3 a1 p1 i1_3 i1_4 i1_5 i1_6 i1_7 v1_0 v1_1 v1_2) → va_S (va_A w0 s.heap.size) s.heap H locs → lv_has ls 7 [(1, .ref a1), (2, .int x2), (3, .int x3), (4, .int x4), (5, .int x5), (6, .int x6)] → W p l e rm_X1_cellsShowing s m av below meth c H locs 0 0 (MQ below (oI D cs w0 (W_X1_cellsShowing cs a0 p0 i0_0 i0_1 v0_2 v0_3 a1 p1 i1_3 i1_4 i1_5 i1_6 i1_7 v1_0 v1_1 v1_2) res s.heap.size) av s 0 0 (va_A w0 s.heap.size)) (F0 m 6 ls []) := by
  obtain ⟨hx, hb, hr, hlk, hml, hown, hts, hK, hG, hE⟩ := id C0
  intro n
  induction n with
  | zero =>
    intro x2 x3 x4 x5 x6 hf
    rw [f_X1_cellsShowing_b6] at hf
    cases hf
  | succ n ih =>
    intro x2 x3 x4 x5 x6 hf H locs ls hP hD hS hl
    rw [f_X1_cellsShowing_b6] at hf
    refine lv_iload hx hb dX1_cellsShowing_6 (lv_at hl 5 rfl) ?_
    refine lv_bipush (v := 16) hx hb dX1_cellsShowing_8 (by decide) ?_
    refine lv_icmp_ge (tgt := 44) hx hb dX1_cellsShowing_10 (by decide) (fun hc => ?_) (fun hc => ?_)
    · replace hf := ow_t hc hf
      refine lv_iload hx hb dX1_cellsShowing_44 (lv_at hl 4 rfl) ?_
      refine lv_iload_n hx hb dX1_cellsShowing_46 rfl (lv_at hl 2 rfl) ?_
      refine lv_iand hx hb dX1_cellsShowing_47 ?_
      obtain rfl := Option.some.inj hf
      exact ow_retI C0 hP hD hS dX1_cellsShowing_48
    · replace hf := ow_f hc hf
      refine lv_aload_n hx hb dX1_cellsShowing_13 rfl (lv_at hl 0 rfl) ?_
      refine lv_bipush (v := 16) hx hb dX1_cellsShowing_14 (by decide) ?_
      refine lv_iload_n hx hb dX1_cellsShowing_16 rfl (lv_at hl 1 rfl) ?_
      refine lv_imul hx hb dX1_cellsShowing_17 ?_
      refine lv_iload hx hb dX1_cellsShowing_18 (lv_at hl 5 rfl) ?_
      refine lv_iadd hx hb dX1_cellsShowing_20 ?_
      obtain ⟨q21, hq, hf⟩ := bd_some hf
      refine ow_callVI (As := [.int ((16 * x2) + x6)]) (rest := []) (wr := ow_pk (W_X1_cellsShowing cs a0 p0 i0_0 i0_1 v0_2 v0_3 a1 p1 i1_3 i1_4 i1_5 i1_6 i1_7 v1_0 v1_1 v1_2) [0, 1, 2]) (wf := (W_X1_cellsShowing cs a0 p0 i0_0 i0_1 v0_2 v0_3 a1 p1 i1_3 i1_4 i1_5 i1_6 i1_7 v1_0 v1_1 v1_2)) (r := q21) C0 (c_X2_shown l D cs H.size a1 p1 i1_3 i1_4 i1_5 i1_6 i1_7 v1_0 v1_1 v1_2 ((16 * x2) + x6) q21 hq) (cwV 1 hts gX1_cellsShowing_X2_shown rfl rfl rfl (by decide +kernel) ⟨Nat.le_of_ble_eq_true rfl, Nat.le_of_ble_eq_true rfl⟩) 2 rfl rfl hP hD hS (fun q h => Or.inr h) [3, 4, 5, 6] [0, 1, 2] [0, 1, 2, 3, 4, 5, 6] rfl (by decide) rfl (by decide) (by decide) rfl (by decide) rfl hl.1 rfl (Nat.le_of_ble_eq_true rfl) ⟨Nat.zero_le _, Nat.zero_le _⟩ dX1_cellsShowing_21 (fun H locs hP hD hS => ?_)
      refine lv_iload hx hb dX1_cellsShowing_24 (lv_at hl 3 rfl) ?_
      refine lv_icmp_ne (tgt := 38) hx hb dX1_cellsShowing_26 (by decide) (fun hc => ?_) (fun hc => ?_)
      · replace hf := ow_f hc hf
        exact w_X1_cellsShowing_b38 C0 a0 p0 i0_0 i0_1 v0_2 v0_3 a1 p1 i1_3 i1_4 i1_5 i1_6 i1_7 v1_0 v1_1 v1_2 res (f_X1_cellsShowing_b6 v1_0 v1_1 n) ih x2 x3 x4 x5 x6 hf _ _ _ hP hD hS (lv_sub hl [0, 1, 2, 3, 4, 5] rfl)
      · replace hf := ow_t hc hf
        refine lv_iload hx hb dX1_cellsShowing_29 (lv_at hl 4 rfl) ?_
        refine lv_iconst (v := 1) hx hb dX1_cellsShowing_31 (by decide) ?_
        refine lv_iload hx hb dX1_cellsShowing_32 (lv_at hl 5 rfl) ?_
        refine lv_ishl hx hb dX1_cellsShowing_34 ?_
        refine lv_ior hx hb dX1_cellsShowing_35 ?_
        refine lv_istore (lv' := [(5, .int (x5 ||| (((1 : Int32)) <<< (x6 &&& 31)))), (1, .ref a1), (2, .int x2), (3, .int x3), (4, .int x4), (6, .int x6)]) hx hb dX1_cellsShowing_36 hl (by decide) rfl (fun ls hl => ?_)
        exact w_X1_cellsShowing_b38 C0 a0 p0 i0_0 i0_1 v0_2 v0_3 a1 p1 i1_3 i1_4 i1_5 i1_6 i1_7 v1_0 v1_1 v1_2 res (f_X1_cellsShowing_b6 v1_0 v1_1 n) ih x2 x3 x4 (x5 ||| (((1 : Int32)) <<< (x6 &&& 31))) x6 hf _ _ _ hP hD hS (lv_sub hl [1, 2, 3, 4, 0, 5] rfl)
def f_X1_cellsShowing  (v1_0 : Nat → Int32) (v1_1 : Nat → Int32) (x2 : Int32) (x3 : Int32) (x4 : Int32) : Option (Int32) := f_X1_cellsShowing_b6 v1_0 v1_1 4000 x2 x3 x4 (0) (0)
set_option maxHeartbeats 4000000 in
set_option maxRecDepth 100000 in
theorem c_X1_cellsShowing (l : Launch) (D : va_G) (cs : Nat → ClassId)  (sz : Nat) (a0 : Nat) (p0 : Nat → Nat) (i0_0 : Int32) (i0_1 : Int32) (v0_2 : Nat → Int32) (v0_3 : Nat → Int32) (a1 : Nat) (p1 : Nat → Nat) (i1_3 : Int32) (i1_4 : Int32) (i1_5 : Int32) (i1_6 : Int32) (i1_7 : Int32) (v1_0 : Nat → Int32) (v1_1 : Nat → Int32) (v1_2 : Nat → Int32) (x2 : Int32) (x3 : Int32) (x4 : Int32) (res : Int32) (hf : f_X1_cellsShowing  v1_0 v1_1 x2 x3 x4 = some res) : MI l D cs yX1_cellsShowing wsX1_cellsShowing rm_X1_cellsShowing [.ref a0, .ref a1, .int x2, .int x3, .int x4] sz (W_X1_cellsShowing cs a0 p0 i0_0 i0_1 v0_2 v0_3 a1 p1 i1_3 i1_4 i1_5 i1_6 i1_7 v1_0 v1_1 v1_2) (W_X1_cellsShowing cs a0 p0 i0_0 i0_1 v0_2 v0_3 a1 p1 i1_3 i1_4 i1_5 i1_6 i1_7 v1_0 v1_1 v1_2) res := by
  rw [f_X1_cellsShowing] at hf
  refine ow_enter (cc := cX1_cellsShowing) (nL := 7) (ret := (some .int)) (by decide) rfl (Nat.le_of_ble_eq_true rfl) (fun p e s m below meth c ls H locs C0 hP hD hS hA hl => ?_)
  obtain ⟨hx, hb, hr, hlk, hml, hown, hts, hK, hG, hE⟩ := id C0
  have hl : lv_has ls 7 [(0, .ref a0), (1, .ref a1), (2, .int x2), (3, .int x3), (4, .int x4)] := hl
  refine lv_iconst (v := 0) hx hb dX1_cellsShowing_0 (by decide) ?_
  refine lv_istore (lv' := [(5, .int 0), (0, .ref a0), (1, .ref a1), (2, .int x2), (3, .int x3), (4, .int x4)]) hx hb dX1_cellsShowing_1 hl (by decide) rfl (fun ls hl => ?_)
  refine lv_iconst (v := 0) hx hb dX1_cellsShowing_3 (by decide) ?_
  refine lv_istore (lv' := [(6, .int 0), (5, .int 0), (0, .ref a0), (1, .ref a1), (2, .int x2), (3, .int x3), (4, .int x4)]) hx hb dX1_cellsShowing_4 hl (by decide) rfl (fun ls hl => ?_)
  exact w_X1_cellsShowing_b6 C0 a0 p0 i0_0 i0_1 v0_2 v0_3 a1 p1 i1_3 i1_4 i1_5 i1_6 i1_7 v1_0 v1_1 v1_2 res 4000 x2 x3 x4 (0) (0) hf _ _ _ hP hD hS (lv_sub hl [3, 4, 5, 6, 1, 0] rfl)
theorem in_X1_findPatch_X1 : ∀ w ∈ u_ws RX1 TX1 4, w ∈ wsX1_findPatch := fun w h => List.mem_cons_of_mem _ (List.mem_append_left _ (List.mem_append_right _ h))
abbrev W_X1_findPatch (cs : Nat → ClassId) (a0 : Nat) (p0 : Nat → Nat) (i0_0 : Int32) (i0_1 : Int32) (v0_2 : Nat → Int32) (v0_3 : Nat → Int32) (a1 : Nat) (p1 : Nat → Nat) (i1_3 : Int32) (i1_4 : Int32) (i1_5 : Int32) (i1_6 : Int32) (i1_7 : Int32) (v1_0 : Nat → Int32) (v1_1 : Nat → Int32) (v1_2 : Nat → Int32) : va_W := wX1 cs a0 p0 i0_0 i0_1 v0_2 v0_3 ++ wX2 cs a1 p1 i1_3 i1_4 i1_5 i1_6 i1_7 v1_0 v1_1 v1_2
abbrev rm_X1_findPatch : Room := { frames := 2, cells := 0, slots := 0, locals := 47 }
def f_X1_findPatch_b98  (v1_0 : Nat → Int32) (v1_1 : Nat → Int32) (k13 : (Int32) → (Int32) → Int32 → Int32 → Int32 → Option (Int32 × Int32)) (i0_0 : Int32) (i0_1 : Int32) (x2 : Int32) (x3 : Int32) (x4 : Int32) : Option (Int32 × Int32) := k13 i0_0 i0_1 x2 x3 (x4 + 1)
set_option maxHeartbeats 4000000 in
set_option maxRecDepth 100000 in
theorem w_X1_findPatch_b98 {p : Program} {l : Launch} {e : Env} {s : State} {m : MethodId} {below : List Frame} {meth : Method} {c : Code} {D : va_G} {cs : Nat → ClassId} {av : Array Value} {w0 : va_W} (C0 : Cx p s m meth c av wsX1_findPatch cX1_findPatch 7 none RX1 D cs w0)  (a0 : Nat) (p0 : Nat → Nat) (v0_2 : Nat → Int32) (v0_3 : Nat → Int32) (a1 : Nat) (p1 : Nat → Nat) (i1_3 : Int32) (i1_4 : Int32) (i1_5 : Int32) (i1_6 : Int32) (i1_7 : Int32) (v1_0 : Nat → Int32) (v1_1 : Nat → Int32) (v1_2 : Nat → Int32) (res : Int32 × Int32) (k13 : (Int32) → (Int32) → Int32 → Int32 → Int32 → Option (Int32 × Int32)) (hk13 : ∀ (i0_0 : Int32) (i0_1 : Int32) (x2 : Int32) (x3 : Int32) (x4 : Int32), k13 i0_0 i0_1 x2 x3 x4 = some res → ∀ (H : Heap) (locs : List Loc) (ls : Array Slot), va_P D vwCl (W_X1_findPatch cs a0 p0 i0_0 i0_1 v0_2 v0_3 a1 p1 i1_3 i1_4 i1_5 i1_6 i1_7 v1_0 v1_1 v1_2) H → va_D (va_A w0 s.heap.size) (W_X1_findPatch cs a0 p0 i0_0 i0_1 v0_2 v0_3 a1 p1 i1_3 i1_4 i1_5 i1_6 i1_7 v1_0 v1_1 v1_2) → va_S (va_A w0 s.heap.size) s.heap H locs → lv_has ls 7 [(0, .ref a0), (1, .ref a1), (2, .int x2), (3, .int x3), (4, .int x4)] → W p l e rm_X1_findPatch s m av below meth c H locs 0 0 (MQ below (oV D cs w0 (W_X1_findPatch cs a0 p0 res.1 res.2 v0_2 v0_3 a1 p1 i1_3 i1_4 i1_5 i1_6 i1_7 v1_0 v1_1 v1_2) s.heap.size) av s 0 0 (va_A w0 s.heap.size)) (F0 m 13 ls [])) : ∀ (i0_0 : Int32) (i0_1 : Int32) (x2 : Int32) (x3 : Int32) (x4 : Int32), f_X1_findPatch_b98 v1_0 v1_1 k13 i0_0 i0_1 x2 x3 x4 = some res → ∀ (H : Heap) (locs : List Loc) (ls : Array Slot), va_P D vwCl (W_X1_findPatch cs a0 p0 i0_0 i0_1 v0_2 v0_3 a1 p1 i1_3 i1_4 i1_5 i1_6 i1_7 v1_0 v1_1 v1_2) H → va_D (va_A w0 s.heap.size) (W_X1_findPatch cs a0 p0 i0_0 i0_1 v0_2 v0_3 a1 p1 i1_3 i1_4 i1_5 i1_6 i1_7 v1_0 v1_1 v1_2) → va_S (va_A w0 s.heap.size) s.heap H locs → lv_has ls 7 [(0, .ref a0), (1, .ref a1), (2, .int x2), (3, .int x3), (4, .int x4)] → W p l e rm_X1_findPatch s m av below meth c H locs 0 0 (MQ below (oV D cs w0 (W_X1_findPatch cs a0 p0 res.1 res.2 v0_2 v0_3 a1 p1 i1_3 i1_4 i1_5 i1_6 i1_7 v1_0 v1_1 v1_2) s.heap.size) av s 0 0 (va_A w0 s.heap.size)) (F0 m 98 ls []) := by
  obtain ⟨hx, hb, hr, hlk, hml, hown, hts, hK, hG, hE⟩ := id C0
  intro i0_0 i0_1 x2 x3 x4 hf H locs ls hP hD hS hl
  rw [f_X1_findPatch_b98] at hf
  refine lv_iinc (v := x4 + 1) (lv' := [(4, .int (x4 + 1)), (0, .ref a0), (1, .ref a1), (2, .int x2), (3, .int x3)]) hx hb dX1_findPatch_98 hl (k := 4) rfl (ow_inc (by decide)) (by decide) rfl (fun ls hl => ?_)
  refine lv_goto (tgt := 13) hx hb dX1_findPatch_101 (by decide) ?_
  exact hk13 i0_0 i0_1 x2 x3 (x4 + 1) hf _ _ _ hP hD hS (lv_sub hl [1, 2, 3, 4, 0] rfl)
def f_X1_findPatch_b86  (v1_0 : Nat → Int32) (v1_1 : Nat → Int32) (k13 : (Int32) → (Int32) → Int32 → Int32 → Int32 → Option (Int32 × Int32)) (i0_0 : Int32) (i0_1 : Int32) (x2 : Int32) (x3 : Int32) (x4 : Int32) (x5 : Int32) (x6 : Int32) : Option (Int32 × Int32) := f_X1_findPatch_b98 v1_0 v1_1 k13 x6 x5 x2 x3 x4
set_option maxHeartbeats 4000000 in
set_option maxRecDepth 100000 in
theorem w_X1_findPatch_b86 {p : Program} {l : Launch} {e : Env} {s : State} {m : MethodId} {below : List Frame} {meth : Method} {c : Code} {D : va_G} {cs : Nat → ClassId} {av : Array Value} {w0 : va_W} (C0 : Cx p s m meth c av wsX1_findPatch cX1_findPatch 7 none RX1 D cs w0)  (a0 : Nat) (p0 : Nat → Nat) (v0_2 : Nat → Int32) (v0_3 : Nat → Int32) (a1 : Nat) (p1 : Nat → Nat) (i1_3 : Int32) (i1_4 : Int32) (i1_5 : Int32) (i1_6 : Int32) (i1_7 : Int32) (v1_0 : Nat → Int32) (v1_1 : Nat → Int32) (v1_2 : Nat → Int32) (res : Int32 × Int32) (k13 : (Int32) → (Int32) → Int32 → Int32 → Int32 → Option (Int32 × Int32)) (hk13 : ∀ (i0_0 : Int32) (i0_1 : Int32) (x2 : Int32) (x3 : Int32) (x4 : Int32), k13 i0_0 i0_1 x2 x3 x4 = some res → ∀ (H : Heap) (locs : List Loc) (ls : Array Slot), va_P D vwCl (W_X1_findPatch cs a0 p0 i0_0 i0_1 v0_2 v0_3 a1 p1 i1_3 i1_4 i1_5 i1_6 i1_7 v1_0 v1_1 v1_2) H → va_D (va_A w0 s.heap.size) (W_X1_findPatch cs a0 p0 i0_0 i0_1 v0_2 v0_3 a1 p1 i1_3 i1_4 i1_5 i1_6 i1_7 v1_0 v1_1 v1_2) → va_S (va_A w0 s.heap.size) s.heap H locs → lv_has ls 7 [(0, .ref a0), (1, .ref a1), (2, .int x2), (3, .int x3), (4, .int x4)] → W p l e rm_X1_findPatch s m av below meth c H locs 0 0 (MQ below (oV D cs w0 (W_X1_findPatch cs a0 p0 res.1 res.2 v0_2 v0_3 a1 p1 i1_3 i1_4 i1_5 i1_6 i1_7 v1_0 v1_1 v1_2) s.heap.size) av s 0 0 (va_A w0 s.heap.size)) (F0 m 13 ls [])) : ∀ (i0_0 : Int32) (i0_1 : Int32) (x2 : Int32) (x3 : Int32) (x4 : Int32) (x5 : Int32) (x6 : Int32), f_X1_findPatch_b86 v1_0 v1_1 k13 i0_0 i0_1 x2 x3 x4 x5 x6 = some res → ∀ (H : Heap) (locs : List Loc) (ls : Array Slot), va_P D vwCl (W_X1_findPatch cs a0 p0 i0_0 i0_1 v0_2 v0_3 a1 p1 i1_3 i1_4 i1_5 i1_6 i1_7 v1_0 v1_1 v1_2) H → va_D (va_A w0 s.heap.size) (W_X1_findPatch cs a0 p0 i0_0 i0_1 v0_2 v0_3 a1 p1 i1_3 i1_4 i1_5 i1_6 i1_7 v1_0 v1_1 v1_2) → va_S (va_A w0 s.heap.size) s.heap H locs → lv_has ls 7 [(0, .ref a0), (1, .ref a1), (2, .int x2), (3, .int x3), (4, .int x4), (5, .int x5), (6, .int x6)] → W p l e rm_X1_findPatch s m av below meth c H locs 0 0 (MQ below (oV D cs w0 (W_X1_findPatch cs a0 p0 res.1 res.2 v0_2 v0_3 a1 p1 i1_3 i1_4 i1_5 i1_6 i1_7 v1_0 v1_1 v1_2) s.heap.size) av s 0 0 (va_A w0 s.heap.size)) (F0 m 86 ls []) := by
  obtain ⟨hx, hb, hr, hlk, hml, hown, hts, hK, hG, hE⟩ := id C0
  intro i0_0 i0_1 x2 x3 x4 x5 x6 hf H locs ls hP hD hS hl
  rw [f_X1_findPatch_b86] at hf
  refine lv_aload_n hx hb dX1_findPatch_86 rfl (lv_at hl 0 rfl) ?_
  refine lv_iload hx hb dX1_findPatch_87 (lv_at hl 6 rfl) ?_
  refine va_put (D := D) (ci := 1) (v := .int x6) (ty := .int) (C := RX1) (T := TX1) (N := 4) hx hb hts in_X1_findPatch_X1 tyX1 tyX1_ok nmX1 hown hK hP hD hS 0 rfl rfl 0 (by decide) (hts (.fieldLink RX1 57 "PaneDays$Gaze" "patchCells" "I") (List.mem_of_getElem? (i := 1) rfl)) (fun _ h9 => h9) rfl (by decide +kernel) rfl rfl (Nat.le_of_ble_eq_true rfl) dX1_findPatch_89 (fun H locs (hP : va_P D vwCl (W_X1_findPatch cs a0 p0 x6 i0_1 v0_2 v0_3 a1 p1 i1_3 i1_4 i1_5 i1_6 i1_7 v1_0 v1_1 v1_2) H) (hD : va_D _ (W_X1_findPatch cs a0 p0 x6 i0_1 v0_2 v0_3 a1 p1 i1_3 i1_4 i1_5 i1_6 i1_7 v1_0 v1_1 v1_2)) hS => ?_)
  refine lv_aload_n hx hb dX1_findPatch_92 rfl (lv_at hl 0 rfl) ?_
  refine lv_iload hx hb dX1_findPatch_93 (lv_at hl 5 rfl) ?_
  refine va_put (D := D) (ci := 1) (v := .int x5) (ty := .int) (C := RX1) (T := TX1) (N := 4) hx hb hts in_X1_findPatch_X1 tyX1 tyX1_ok nmX1 hown hK hP hD hS 0 rfl rfl 1 (by decide) (hts (.fieldLink RX1 61 "PaneDays$Gaze" "patchDay" "I") (List.mem_of_getElem? (i := 2) rfl)) (fun _ h9 => h9) rfl (by decide +kernel) rfl rfl (Nat.le_of_ble_eq_true rfl) dX1_findPatch_95 (fun H locs (hP : va_P D vwCl (W_X1_findPatch cs a0 p0 x6 x5 v0_2 v0_3 a1 p1 i1_3 i1_4 i1_5 i1_6 i1_7 v1_0 v1_1 v1_2) H) (hD : va_D _ (W_X1_findPatch cs a0 p0 x6 x5 v0_2 v0_3 a1 p1 i1_3 i1_4 i1_5 i1_6 i1_7 v1_0 v1_1 v1_2)) hS => ?_)
  exact w_X1_findPatch_b98 C0 a0 p0 v0_2 v0_3 a1 p1 i1_3 i1_4 i1_5 i1_6 i1_7 v1_0 v1_1 v1_2 res k13 hk13 x6 x5 x2 x3 x4 hf _ _ _ hP hD hS (lv_sub hl [0, 1, 2, 3, 4] rfl)
def f_X1_findPatch_b13  (v1_0 : Nat → Int32) (v1_1 : Nat → Int32)  : Nat → (Int32) → (Int32) → Int32 → Int32 → Int32 → Option (Int32 × Int32)
  | 0, _, _, _, _, _ => none
  | n + 1, i0_0, i0_1, x2, x3, x4 => if 16 ≤ x4 then (some (i0_0, i0_1)) else ((f_X2_shown v1_0 v1_1 ((16 * x2) + x4)).bind fun q28 => if q28 ≤ 0 then (f_X1_findPatch_b98 v1_0 v1_1 (f_X1_findPatch_b13 v1_0 v1_1 n) i0_0 i0_1 x2 x3 x4) else ((f_X1_cellsShowing v1_0 v1_1 x2 x3 q28).bind fun q48 => (f_X1_spread (((1 : Int32)) <<< (x4 &&& 31)) q48).bind fun q51 => (f_J6_bitCount_0f7a4 q51).bind fun q54 => if i0_0 < q54 then (f_X1_findPatch_b86 v1_0 v1_1 (f_X1_findPatch_b13 v1_0 v1_1 n) i0_0 i0_1 x2 x3 x4 q28 q54) else (if q54 = i0_0 then (if q28 ≤ i0_1 then (f_X1_findPatch_b98 v1_0 v1_1 (f_X1_findPatch_b13 v1_0 v1_1 n) i0_0 i0_1 x2 x3 x4) else (f_X1_findPatch_b86 v1_0 v1_1 (f_X1_findPatch_b13 v1_0 v1_1 n) i0_0 i0_1 x2 x3 x4 q28 q54)) else (f_X1_findPatch_b98 v1_0 v1_1 (f_X1_findPatch_b13 v1_0 v1_1 n) i0_0 i0_1 x2 x3 x4))))
set_option maxHeartbeats 4000000 in
set_option maxRecDepth 100000 in
theorem w_X1_findPatch_b13 {p : Program} {l : Launch} {e : Env} {s : State} {m : MethodId} {below : List Frame} {meth : Method} {c : Code} {D : va_G} {cs : Nat → ClassId} {av : Array Value} {w0 : va_W} (C0 : Cx p s m meth c av wsX1_findPatch cX1_findPatch 7 none RX1 D cs w0)  (a0 : Nat) (p0 : Nat → Nat) (v0_2 : Nat → Int32) (v0_3 : Nat → Int32) (a1 : Nat) (p1 : Nat → Nat) (i1_3 : Int32) (i1_4 : Int32) (i1_5 : Int32) (i1_6 : Int32) (i1_7 : Int32) (v1_0 : Nat → Int32) (v1_1 : Nat → Int32) (v1_2 : Nat → Int32) (res : Int32 × Int32)  : ∀ (n : Nat) (i0_0 : Int32) (i0_1 : Int32) (x2 : Int32) (x3 : Int32) (x4 : Int32), f_X1_findPatch_b13 v1_0 v1_1 n i0_0 i0_1 x2 x3 x4 = some res → ∀ (H : Heap) (locs : List Loc) (ls : Array Slot), va_P D vwCl (W_X1_findPatch cs a0 p0 i0_0 i0_1 v0_2 v0_3 a1 p1 i1_3 i1_4 i1_5 i1_6 i1_7 v1_0 v1_1 v1_2) H → va_D (va_A w0 s.heap.size) (W_X1_findPatch cs a0 p0 i0_0 i0_1 v0_2 v0_3 a1 p1 i1_3 i1_4 i1_5 i1_6 i1_7 v1_0 v1_1 v1_2) → va_S (va_A w0 s.heap.size) s.heap H locs → lv_has ls 7 [(0, .ref a0), (1, .ref a1), (2, .int x2), (3, .int x3), (4, .int x4)] → W p l e rm_X1_findPatch s m av below meth c H locs 0 0 (MQ below (oV D cs w0 (W_X1_findPatch cs a0 p0 res.1 res.2 v0_2 v0_3 a1 p1 i1_3 i1_4 i1_5 i1_6 i1_7 v1_0 v1_1 v1_2) s.heap.size) av s 0 0 (va_A w0 s.heap.size)) (F0 m 13 ls []) := by
  obtain ⟨hx, hb, hr, hlk, hml, hown, hts, hK, hG, hE⟩ := id C0
  intro n
  induction n with
  | zero =>
    intro i0_0 i0_1 x2 x3 x4 hf
    rw [f_X1_findPatch_b13] at hf
    cases hf
  | succ n ih =>
    intro i0_0 i0_1 x2 x3 x4 hf H locs ls hP hD hS hl
    rw [f_X1_findPatch_b13] at hf
    refine lv_iload hx hb dX1_findPatch_13 (lv_at hl 4 rfl) ?_
    refine lv_bipush (v := 16) hx hb dX1_findPatch_15 (by decide) ?_
    refine lv_icmp_ge (tgt := 104) hx hb dX1_findPatch_17 (by decide) (fun hc => ?_) (fun hc => ?_)
    · replace hf := ow_t hc hf
      obtain rfl := Option.some.inj hf
      exact ow_retV C0 hP hD hS dX1_findPatch_104
    · replace hf := ow_f hc hf
      refine lv_aload_n hx hb dX1_findPatch_20 rfl (lv_at hl 1 rfl) ?_
      refine lv_bipush (v := 16) hx hb dX1_findPatch_21 (by decide) ?_
      refine lv_iload_n hx hb dX1_findPatch_23 rfl (lv_at hl 2 rfl) ?_
      refine lv_imul hx hb dX1_findPatch_24 ?_
      refine lv_iload hx hb dX1_findPatch_25 (lv_at hl 4 rfl) ?_
      refine lv_iadd hx hb dX1_findPatch_27 ?_
      obtain ⟨q28, hq, hf⟩ := bd_some hf
      refine ow_callVI (As := [.int ((16 * x2) + x4)]) (rest := []) (wr := ow_pk (W_X1_findPatch cs a0 p0 i0_0 i0_1 v0_2 v0_3 a1 p1 i1_3 i1_4 i1_5 i1_6 i1_7 v1_0 v1_1 v1_2) [0, 1, 2]) (wf := (W_X1_findPatch cs a0 p0 i0_0 i0_1 v0_2 v0_3 a1 p1 i1_3 i1_4 i1_5 i1_6 i1_7 v1_0 v1_1 v1_2)) (r := q28) C0 (c_X2_shown l D cs H.size a1 p1 i1_3 i1_4 i1_5 i1_6 i1_7 v1_0 v1_1 v1_2 ((16 * x2) + x4) q28 hq) (cwV 1 hts gX1_findPatch_X2_shown rfl rfl rfl (by decide +kernel) ⟨Nat.le_of_ble_eq_true rfl, Nat.le_of_ble_eq_true rfl⟩) 2 rfl rfl hP hD hS (fun q h => Or.inr h) [3, 4, 5, 6] [0, 1, 2] [0, 1, 2, 3, 4, 5, 6] rfl (by decide) rfl (by decide) (by decide) rfl (by decide) rfl hl.1 rfl (Nat.le_of_ble_eq_true rfl) ⟨Nat.zero_le _, Nat.zero_le _⟩ dX1_findPatch_28 (fun H locs hP hD hS => ?_)
      refine lv_istore (lv' := [(5, .int q28), (0, .ref a0), (1, .ref a1), (2, .int x2), (3, .int x3), (4, .int x4)]) hx hb dX1_findPatch_31 hl (by decide) rfl (fun ls hl => ?_)
      refine lv_iload hx hb dX1_findPatch_33 (lv_at hl 0 rfl) ?_
      refine lv_if_le (tgt := 98) hx hb dX1_findPatch_35 (by decide) (fun hc => ?_) (fun hc => ?_)
      · replace hf := ow_t hc hf
        exact w_X1_findPatch_b98 C0 a0 p0 v0_2 v0_3 a1 p1 i1_3 i1_4 i1_5 i1_6 i1_7 v1_0 v1_1 v1_2 res (f_X1_findPatch_b13 v1_0 v1_1 n) ih i0_0 i0_1 x2 x3 x4 hf _ _ _ hP hD hS (lv_sub hl [1, 2, 3, 4, 5] rfl)
      · replace hf := ow_f hc hf
        refine lv_iconst (v := 1) hx hb dX1_findPatch_38 (by decide) ?_
        refine lv_iload hx hb dX1_findPatch_39 (lv_at hl 5 rfl) ?_
        refine lv_ishl hx hb dX1_findPatch_41 ?_
        refine lv_aload_n hx hb dX1_findPatch_42 rfl (lv_at hl 1 rfl) ?_
        refine lv_aload_n hx hb dX1_findPatch_43 rfl (lv_at hl 2 rfl) ?_
        refine lv_iload_n hx hb dX1_findPatch_44 rfl (lv_at hl 3 rfl) ?_
        refine lv_iload_n hx hb dX1_findPatch_45 rfl (lv_at hl 4 rfl) ?_
        refine lv_iload hx hb dX1_findPatch_46 (lv_at hl 0 rfl) ?_
        obtain ⟨q48, hq, hf⟩ := bd_some hf
        refine ow_callVI (As := [.ref a1, .int x2, .int x3, .int q28]) (rest := [.int (((1 : Int32)) <<< (x4 &&& 31))]) (wr := ow_pk (W_X1_findPatch cs a0 p0 i0_0 i0_1 v0_2 v0_3 a1 p1 i1_3 i1_4 i1_5 i1_6 i1_7 v1_0 v1_1 v1_2) []) (wf := (W_X1_findPatch cs a0 p0 i0_0 i0_1 v0_2 v0_3 a1 p1 i1_3 i1_4 i1_5 i1_6 i1_7 v1_0 v1_1 v1_2)) (r := q48) C0 (c_X1_cellsShowing l D cs H.size a0 p0 i0_0 i0_1 v0_2 v0_3 a1 p1 i1_3 i1_4 i1_5 i1_6 i1_7 v1_0 v1_1 v1_2 x2 x3 q28 q48 hq) (cwV 4 hts gX1_findPatch_X1_cellsShowing rfl rfl rfl (by decide +kernel) ⟨Nat.le_of_ble_eq_true rfl, Nat.le_of_ble_eq_true rfl⟩) 1 rfl rfl hP hD hS (fun q h => Or.inr h) [0, 1, 2, 3, 4, 5, 6] [] [0, 1, 2, 3, 4, 5, 6] rfl (by decide) rfl (by decide) (by decide) rfl (by decide) rfl hl.1 rfl (Nat.le_of_ble_eq_true rfl) ⟨Nat.zero_le _, Nat.zero_le _⟩ dX1_findPatch_48 (fun H locs hP hD hS => ?_)
        obtain ⟨q51, hq, hf⟩ := bd_some hf
        refine ow_callSI (As := [.int (((1 : Int32)) <<< (x4 &&& 31)), .int q48]) (rest := []) (wr := ow_pk (W_X1_findPatch cs a0 p0 i0_0 i0_1 v0_2 v0_3 a1 p1 i1_3 i1_4 i1_5 i1_6 i1_7 v1_0 v1_1 v1_2) [0, 1, 2, 3, 4, 5, 6]) (wf := (W_X1_findPatch cs a0 p0 i0_0 i0_1 v0_2 v0_3 a1 p1 i1_3 i1_4 i1_5 i1_6 i1_7 v1_0 v1_1 v1_2)) (r := q51) C0 (c_X1_spread l D cs H.size  (((1 : Int32)) <<< (x4 &&& 31)) q48 q51 hq) (va_cwS 2 hts gX1_findPatch_X1_spread rfl rfl rfl (by decide +kernel) ⟨Nat.le_of_ble_eq_true rfl, Nat.le_of_ble_eq_true rfl⟩) hP hD hS (fun q h => Or.inr h) [] [0, 1, 2, 3, 4, 5, 6] [0, 1, 2, 3, 4, 5, 6] rfl (by decide) rfl (by decide) (by decide) rfl (by decide) rfl hl.1 rfl (Nat.le_of_ble_eq_true rfl) ⟨Nat.zero_le _, Nat.zero_le _⟩ dX1_findPatch_51 (fun H locs hP hD hS => ?_)
        obtain ⟨q54, hq, hf⟩ := bd_some hf
        refine ow_callSI (As := [.int q51]) (rest := []) (wr := ow_pk (W_X1_findPatch cs a0 p0 i0_0 i0_1 v0_2 v0_3 a1 p1 i1_3 i1_4 i1_5 i1_6 i1_7 v1_0 v1_1 v1_2) [0, 1, 2, 3, 4, 5, 6]) (wf := (W_X1_findPatch cs a0 p0 i0_0 i0_1 v0_2 v0_3 a1 p1 i1_3 i1_4 i1_5 i1_6 i1_7 v1_0 v1_1 v1_2)) (r := q54) C0 (c_J6_bitCount_0f7a4 l D cs H.size  q51 q54 hq) (va_cwS 1 hts gX1_findPatch_J6_bitCount_0f7a4 rfl rfl rfl (by decide +kernel) ⟨Nat.le_of_ble_eq_true rfl, Nat.le_of_ble_eq_true rfl⟩) hP hD hS (fun q h => Or.inr h) [] [0, 1, 2, 3, 4, 5, 6] [0, 1, 2, 3, 4, 5, 6] rfl (by decide) rfl (by decide) (by decide) rfl (by decide) rfl hl.1 rfl (Nat.le_of_ble_eq_true rfl) ⟨Nat.zero_le _, Nat.zero_le _⟩ dX1_findPatch_54 (fun H locs hP hD hS => ?_)
        refine lv_istore (lv' := [(6, .int q54), (5, .int q28), (0, .ref a0), (1, .ref a1), (2, .int x2), (3, .int x3), (4, .int x4)]) hx hb dX1_findPatch_57 hl (by decide) rfl (fun ls hl => ?_)
        refine lv_iload hx hb dX1_findPatch_59 (lv_at hl 0 rfl) ?_
        refine lv_aload_n hx hb dX1_findPatch_61 rfl (lv_at hl 2 rfl) ?_
        refine va_get (D := D) (ci := 1) (v := .int i0_0) (C := RX1) (T := TX1) (N := 4) hx hb hts in_X1_findPatch_X1 hown hK hP 0 rfl rfl 0 (by decide) (hts (.fieldLink RX1 57 "PaneDays$Gaze" "patchCells" "I") (List.mem_of_getElem? (i := 1) rfl)) (fun _ h9 => h9) rfl dX1_findPatch_62 ?_
        refine lv_icmp_gt (tgt := 86) hx hb dX1_findPatch_65 (by decide) (fun hc => ?_) (fun hc => ?_)
        · replace hf := ow_t hc hf
          exact w_X1_findPatch_b86 C0 a0 p0 v0_2 v0_3 a1 p1 i1_3 i1_4 i1_5 i1_6 i1_7 v1_0 v1_1 v1_2 res (f_X1_findPatch_b13 v1_0 v1_1 n) ih i0_0 i0_1 x2 x3 x4 q28 q54 hf _ _ _ hP hD hS (lv_sub hl [2, 3, 4, 5, 6, 1, 0] rfl)
        · replace hf := ow_f hc hf
          refine lv_iload hx hb dX1_findPatch_68 (lv_at hl 0 rfl) ?_
          refine lv_aload_n hx hb dX1_findPatch_70 rfl (lv_at hl 2 rfl) ?_
          refine va_get (D := D) (ci := 1) (v := .int i0_0) (C := RX1) (T := TX1) (N := 4) hx hb hts in_X1_findPatch_X1 hown hK hP 0 rfl rfl 0 (by decide) (hts (.fieldLink RX1 57 "PaneDays$Gaze" "patchCells" "I") (List.mem_of_getElem? (i := 1) rfl)) (fun _ h9 => h9) rfl dX1_findPatch_71 ?_
          refine lv_icmp_ne (tgt := 98) hx hb dX1_findPatch_74 (by decide) (fun hc => ?_) (fun hc => ?_)
          · replace hf := ow_f hc hf
            exact w_X1_findPatch_b98 C0 a0 p0 v0_2 v0_3 a1 p1 i1_3 i1_4 i1_5 i1_6 i1_7 v1_0 v1_1 v1_2 res (f_X1_findPatch_b13 v1_0 v1_1 n) ih i0_0 i0_1 x2 x3 x4 hf _ _ _ hP hD hS (lv_sub hl [2, 3, 4, 5, 6] rfl)
          · replace hf := ow_t hc hf
            refine lv_iload hx hb dX1_findPatch_77 (lv_at hl 1 rfl) ?_
            refine lv_aload_n hx hb dX1_findPatch_79 rfl (lv_at hl 2 rfl) ?_
            refine va_get (D := D) (ci := 1) (v := .int i0_1) (C := RX1) (T := TX1) (N := 4) hx hb hts in_X1_findPatch_X1 hown hK hP 0 rfl rfl 1 (by decide) (hts (.fieldLink RX1 61 "PaneDays$Gaze" "patchDay" "I") (List.mem_of_getElem? (i := 2) rfl)) (fun _ h9 => h9) rfl dX1_findPatch_80 ?_
            refine lv_icmp_le (tgt := 98) hx hb dX1_findPatch_83 (by decide) (fun hc => ?_) (fun hc => ?_)
            · replace hf := ow_t hc hf
              exact w_X1_findPatch_b98 C0 a0 p0 v0_2 v0_3 a1 p1 i1_3 i1_4 i1_5 i1_6 i1_7 v1_0 v1_1 v1_2 res (f_X1_findPatch_b13 v1_0 v1_1 n) ih i0_0 i0_1 x2 x3 x4 hf _ _ _ hP hD hS (lv_sub hl [2, 3, 4, 5, 6] rfl)
            · replace hf := ow_f hc hf
              exact w_X1_findPatch_b86 C0 a0 p0 v0_2 v0_3 a1 p1 i1_3 i1_4 i1_5 i1_6 i1_7 v1_0 v1_1 v1_2 res (f_X1_findPatch_b13 v1_0 v1_1 n) ih i0_0 i0_1 x2 x3 x4 q28 q54 hf _ _ _ hP hD hS (lv_sub hl [2, 3, 4, 5, 6, 1, 0] rfl)
def f_X1_findPatch  (i0_0 : Int32) (i0_1 : Int32) (v1_0 : Nat → Int32) (v1_1 : Nat → Int32) (x2 : Int32) (x3 : Int32) : Option (Int32 × Int32) := f_X1_findPatch_b13 v1_0 v1_1 4000 (0) (0) x2 x3 (0)
set_option maxHeartbeats 4000000 in
set_option maxRecDepth 100000 in
theorem c_X1_findPatch (l : Launch) (D : va_G) (cs : Nat → ClassId)  (sz : Nat) (a0 : Nat) (p0 : Nat → Nat) (i0_0 : Int32) (i0_1 : Int32) (v0_2 : Nat → Int32) (v0_3 : Nat → Int32) (a1 : Nat) (p1 : Nat → Nat) (i1_3 : Int32) (i1_4 : Int32) (i1_5 : Int32) (i1_6 : Int32) (i1_7 : Int32) (v1_0 : Nat → Int32) (v1_1 : Nat → Int32) (v1_2 : Nat → Int32) (x2 : Int32) (x3 : Int32) (res : Int32 × Int32) (hf : f_X1_findPatch  i0_0 i0_1 v1_0 v1_1 x2 x3 = some res) : MV l D cs yX1_findPatch wsX1_findPatch rm_X1_findPatch [.ref a0, .ref a1, .int x2, .int x3] sz (W_X1_findPatch cs a0 p0 i0_0 i0_1 v0_2 v0_3 a1 p1 i1_3 i1_4 i1_5 i1_6 i1_7 v1_0 v1_1 v1_2) (W_X1_findPatch cs a0 p0 res.1 res.2 v0_2 v0_3 a1 p1 i1_3 i1_4 i1_5 i1_6 i1_7 v1_0 v1_1 v1_2) := by
  rw [f_X1_findPatch] at hf
  refine ow_enter (cc := cX1_findPatch) (nL := 7) (ret := none) (by decide) rfl (Nat.le_of_ble_eq_true rfl) (fun p e s m below meth c ls H locs C0 hP hD hS hA hl => ?_)
  obtain ⟨hx, hb, hr, hlk, hml, hown, hts, hK, hG, hE⟩ := id C0
  have hl : lv_has ls 7 [(0, .ref a0), (1, .ref a1), (2, .int x2), (3, .int x3)] := hl
  refine lv_aload_n hx hb dX1_findPatch_0 rfl (lv_at hl 0 rfl) ?_
  refine lv_iconst (v := 0) hx hb dX1_findPatch_1 (by decide) ?_
  refine va_put (D := D) (ci := 1) (v := .int 0) (ty := .int) (C := RX1) (T := TX1) (N := 4) hx hb hts in_X1_findPatch_X1 tyX1 tyX1_ok nmX1 hown hK hP hD hS 0 rfl rfl 0 (by decide) (hts (.fieldLink RX1 57 "PaneDays$Gaze" "patchCells" "I") (List.mem_of_getElem? (i := 1) rfl)) (fun _ h9 => h9) rfl (by decide +kernel) rfl rfl (Nat.le_of_ble_eq_true rfl) dX1_findPatch_2 (fun H locs (hP : va_P D vwCl (W_X1_findPatch cs a0 p0 (0) i0_1 v0_2 v0_3 a1 p1 i1_3 i1_4 i1_5 i1_6 i1_7 v1_0 v1_1 v1_2) H) (hD : va_D _ (W_X1_findPatch cs a0 p0 (0) i0_1 v0_2 v0_3 a1 p1 i1_3 i1_4 i1_5 i1_6 i1_7 v1_0 v1_1 v1_2)) hS => ?_)
  refine lv_aload_n hx hb dX1_findPatch_5 rfl (lv_at hl 0 rfl) ?_
  refine lv_iconst (v := 0) hx hb dX1_findPatch_6 (by decide) ?_
  refine va_put (D := D) (ci := 1) (v := .int 0) (ty := .int) (C := RX1) (T := TX1) (N := 4) hx hb hts in_X1_findPatch_X1 tyX1 tyX1_ok nmX1 hown hK hP hD hS 0 rfl rfl 1 (by decide) (hts (.fieldLink RX1 61 "PaneDays$Gaze" "patchDay" "I") (List.mem_of_getElem? (i := 2) rfl)) (fun _ h9 => h9) rfl (by decide +kernel) rfl rfl (Nat.le_of_ble_eq_true rfl) dX1_findPatch_7 (fun H locs (hP : va_P D vwCl (W_X1_findPatch cs a0 p0 (0) (0) v0_2 v0_3 a1 p1 i1_3 i1_4 i1_5 i1_6 i1_7 v1_0 v1_1 v1_2) H) (hD : va_D _ (W_X1_findPatch cs a0 p0 (0) (0) v0_2 v0_3 a1 p1 i1_3 i1_4 i1_5 i1_6 i1_7 v1_0 v1_1 v1_2)) hS => ?_)
  refine lv_iconst (v := 0) hx hb dX1_findPatch_10 (by decide) ?_
  refine lv_istore (lv' := [(4, .int 0), (0, .ref a0), (1, .ref a1), (2, .int x2), (3, .int x3)]) hx hb dX1_findPatch_11 hl (by decide) rfl (fun ls hl => ?_)
  exact w_X1_findPatch_b13 C0 a0 p0 v0_2 v0_3 a1 p1 i1_3 i1_4 i1_5 i1_6 i1_7 v1_0 v1_1 v1_2 res 4000 (0) (0) x2 x3 (0) hf _ _ _ hP hD hS (lv_sub hl [1, 2, 3, 4, 0] rfl)
abbrev W_X1_sameCells (cs : Nat → ClassId) (a0 : Nat) (p0 : Nat → Nat) (i0_0 : Int32) (i0_1 : Int32) (v0_2 : Nat → Int32) (v0_3 : Nat → Int32) (a1 : Nat) (p1 : Nat → Nat) (i1_3 : Int32) (i1_4 : Int32) (i1_5 : Int32) (i1_6 : Int32) (i1_7 : Int32) (v1_0 : Nat → Int32) (v1_1 : Nat → Int32) (v1_2 : Nat → Int32) : va_W := wX1 cs a0 p0 i0_0 i0_1 v0_2 v0_3 ++ wX2 cs a1 p1 i1_3 i1_4 i1_5 i1_6 i1_7 v1_0 v1_1 v1_2
abbrev rm_X1_sameCells : Room := { frames := 1, cells := 0, slots := 0, locals := 21 }
def f_X1_sameCells_b47  (v1_0 : Nat → Int32) (v1_1 : Nat → Int32) (k6 : Int32 → Int32 → Int32 → Int32 → Int32 → Option (Int32))  (x2 : Int32) (x3 : Int32) (x4 : Int32) (x5 : Int32) (x6 : Int32) : Option (Int32) := k6 x2 x3 x4 x5 (x6 + 1)
set_option maxHeartbeats 4000000 in
set_option maxRecDepth 100000 in
theorem w_X1_sameCells_b47 {p : Program} {l : Launch} {e : Env} {s : State} {m : MethodId} {below : List Frame} {meth : Method} {c : Code} {D : va_G} {cs : Nat → ClassId} {av : Array Value} {w0 : va_W} (C0 : Cx p s m meth c av wsX1_sameCells cX1_sameCells 7 (some .int) RX1 D cs w0)  (a0 : Nat) (p0 : Nat → Nat) (i0_0 : Int32) (i0_1 : Int32) (v0_2 : Nat → Int32) (v0_3 : Nat → Int32) (a1 : Nat) (p1 : Nat → Nat) (i1_3 : Int32) (i1_4 : Int32) (i1_5 : Int32) (i1_6 : Int32) (i1_7 : Int32) (v1_0 : Nat → Int32) (v1_1 : Nat → Int32) (v1_2 : Nat → Int32) (res : Int32) (k6 : Int32 → Int32 → Int32 → Int32 → Int32 → Option (Int32)) (hk6 : ∀ (x2 : Int32) (x3 : Int32) (x4 : Int32) (x5 : Int32) (x6 : Int32), k6 x2 x3 x4 x5 x6 = some res → ∀ (H : Heap) (locs : List Loc) (ls : Array Slot), va_P D vwCl (W_X1_sameCells cs a0 p0 i0_0 i0_1 v0_2 v0_3 a1 p1 i1_3 i1_4 i1_5 i1_6 i1_7 v1_0 v1_1 v1_2) H → va_D (va_A w0 s.heap.size) (W_X1_sameCells cs a0 p0 i0_0 i0_1 v0_2 v0_3 a1 p1 i1_3 i1_4 i1_5 i1_6 i1_7 v1_0 v1_1 v1_2) → va_S (va_A w0 s.heap.size) s.heap H locs → lv_has ls 7 [(1, .ref a1), (2, .int x2), (3, .int x3), (4, .int x4), (5, .int x5), (6, .int x6)] → W p l e rm_X1_sameCells s m av below meth c H locs 0 0 (MQ below (oI D cs w0 (W_X1_sameCells cs a0 p0 i0_0 i0_1 v0_2 v0_3 a1 p1 i1_3 i1_4 i1_5 i1_6 i1_7 v1_0 v1_1 v1_2) res s.heap.size) av s 0 0 (va_A w0 s.heap.size)) (F0 m 6 ls [])) : ∀ (x2 : Int32) (x3 : Int32) (x4 : Int32) (x5 : Int32) (x6 : Int32), f_X1_sameCells_b47 v1_0 v1_1 k6 x2 x3 x4 x5 x6 = some res → ∀ (H : Heap) (locs : List Loc) (ls : Array Slot), va_P D vwCl (W_X1_sameCells cs a0 p0 i0_0 i0_1 v0_2 v0_3 a1 p1 i1_3 i1_4 i1_5 i1_6 i1_7 v1_0 v1_1 v1_2) H → va_D (va_A w0 s.heap.size) (W_X1_sameCells cs a0 p0 i0_0 i0_1 v0_2 v0_3 a1 p1 i1_3 i1_4 i1_5 i1_6 i1_7 v1_0 v1_1 v1_2) → va_S (va_A w0 s.heap.size) s.heap H locs → lv_has ls 7 [(1, .ref a1), (2, .int x2), (3, .int x3), (4, .int x4), (5, .int x5), (6, .int x6)] → W p l e rm_X1_sameCells s m av below meth c H locs 0 0 (MQ below (oI D cs w0 (W_X1_sameCells cs a0 p0 i0_0 i0_1 v0_2 v0_3 a1 p1 i1_3 i1_4 i1_5 i1_6 i1_7 v1_0 v1_1 v1_2) res s.heap.size) av s 0 0 (va_A w0 s.heap.size)) (F0 m 47 ls []) := by
  obtain ⟨hx, hb, hr, hlk, hml, hown, hts, hK, hG, hE⟩ := id C0
  intro x2 x3 x4 x5 x6 hf H locs ls hP hD hS hl
  rw [f_X1_sameCells_b47] at hf
  refine lv_iinc (v := x6 + 1) (lv' := [(6, .int (x6 + 1)), (1, .ref a1), (2, .int x2), (3, .int x3), (4, .int x4), (5, .int x5)]) hx hb dX1_sameCells_47 hl (k := 5) rfl (ow_inc (by decide)) (by decide) rfl (fun ls hl => ?_)
  refine lv_goto (tgt := 6) hx hb dX1_sameCells_50 (by decide) ?_
  exact hk6 x2 x3 x4 x5 (x6 + 1) hf _ _ _ hP hD hS (lv_sub hl [1, 2, 3, 4, 5, 0] rfl)
def f_X1_sameCells_b6  (v1_0 : Nat → Int32) (v1_1 : Nat → Int32)  : Nat → Int32 → Int32 → Int32 → Int32 → Int32 → Option (Int32)
  | 0, _, _, _, _, _ => none
  | n + 1, x2, x3, x4, x5, x6 => if 16 ≤ x6 then (some (x5 &&& x4)) else ((f_X2_shown v1_0 v1_1 ((16 * x2) + x6)).bind fun q21 => (f_X2_shown v1_0 v1_1 ((16 * x3) + x6)).bind fun q32 => if q21 = q32 then (f_X1_sameCells_b47 v1_0 v1_1 (f_X1_sameCells_b6 v1_0 v1_1 n) x2 x3 x4 (x5 ||| (((1 : Int32)) <<< (x6 &&& 31))) x6) else (f_X1_sameCells_b47 v1_0 v1_1 (f_X1_sameCells_b6 v1_0 v1_1 n) x2 x3 x4 x5 x6))
set_option maxHeartbeats 4000000 in
set_option maxRecDepth 100000 in
theorem w_X1_sameCells_b6 {p : Program} {l : Launch} {e : Env} {s : State} {m : MethodId} {below : List Frame} {meth : Method} {c : Code} {D : va_G} {cs : Nat → ClassId} {av : Array Value} {w0 : va_W} (C0 : Cx p s m meth c av wsX1_sameCells cX1_sameCells 7 (some .int) RX1 D cs w0)  (a0 : Nat) (p0 : Nat → Nat) (i0_0 : Int32) (i0_1 : Int32) (v0_2 : Nat → Int32) (v0_3 : Nat → Int32) (a1 : Nat) (p1 : Nat → Nat) (i1_3 : Int32) (i1_4 : Int32) (i1_5 : Int32) (i1_6 : Int32) (i1_7 : Int32) (v1_0 : Nat → Int32) (v1_1 : Nat → Int32) (v1_2 : Nat → Int32) (res : Int32)  : ∀ (n : Nat) (x2 : Int32) (x3 : Int32) (x4 : Int32) (x5 : Int32) (x6 : Int32), f_X1_sameCells_b6 v1_0 v1_1 n x2 x3 x4 x5 x6 = some res → ∀ (H : Heap) (locs : List Loc) (ls : Array Slot), va_P D vwCl (W_X1_sameCells cs a0 p0 i0_0 i0_1 v0_2 v0_3 a1 p1 i1_3 i1_4 i1_5 i1_6 i1_7 v1_0 v1_1 v1_2) H → va_D (va_A w0 s.heap.size) (W_X1_sameCells cs a0 p0 i0_0 i0_1 v0_2 v0_3 a1 p1 i1_3 i1_4 i1_5 i1_6 i1_7 v1_0 v1_1 v1_2) → va_S (va_A w0 s.heap.size) s.heap H locs → lv_has ls 7 [(1, .ref a1), (2, .int x2), (3, .int x3), (4, .int x4), (5, .int x5), (6, .int x6)] → W p l e rm_X1_sameCells s m av below meth c H locs 0 0 (MQ below (oI D cs w0 (W_X1_sameCells cs a0 p0 i0_0 i0_1 v0_2 v0_3 a1 p1 i1_3 i1_4 i1_5 i1_6 i1_7 v1_0 v1_1 v1_2) res s.heap.size) av s 0 0 (va_A w0 s.heap.size)) (F0 m 6 ls []) := by
  obtain ⟨hx, hb, hr, hlk, hml, hown, hts, hK, hG, hE⟩ := id C0
  intro n
  induction n with
  | zero =>
    intro x2 x3 x4 x5 x6 hf
    rw [f_X1_sameCells_b6] at hf
    cases hf
  | succ n ih =>
    intro x2 x3 x4 x5 x6 hf H locs ls hP hD hS hl
    rw [f_X1_sameCells_b6] at hf
    refine lv_iload hx hb dX1_sameCells_6 (lv_at hl 5 rfl) ?_
    refine lv_bipush (v := 16) hx hb dX1_sameCells_8 (by decide) ?_
    refine lv_icmp_ge (tgt := 53) hx hb dX1_sameCells_10 (by decide) (fun hc => ?_) (fun hc => ?_)
    · replace hf := ow_t hc hf
      refine lv_iload hx hb dX1_sameCells_53 (lv_at hl 4 rfl) ?_
      refine lv_iload hx hb dX1_sameCells_55 (lv_at hl 3 rfl) ?_
      refine lv_iand hx hb dX1_sameCells_57 ?_
      obtain rfl := Option.some.inj hf
      exact ow_retI C0 hP hD hS dX1_sameCells_58
    · replace hf := ow_f hc hf
      refine lv_aload_n hx hb dX1_sameCells_13 rfl (lv_at hl 0 rfl) ?_
      refine lv_bipush (v := 16) hx hb dX1_sameCells_14 (by decide) ?_
      refine lv_iload_n hx hb dX1_sameCells_16 rfl (lv_at hl 1 rfl) ?_
      refine lv_imul hx hb dX1_sameCells_17 ?_
      refine lv_iload hx hb dX1_sameCells_18 (lv_at hl 5 rfl) ?_
      refine lv_iadd hx hb dX1_sameCells_20 ?_
      obtain ⟨q21, hq, hf⟩ := bd_some hf
      refine ow_callVI (As := [.int ((16 * x2) + x6)]) (rest := []) (wr := ow_pk (W_X1_sameCells cs a0 p0 i0_0 i0_1 v0_2 v0_3 a1 p1 i1_3 i1_4 i1_5 i1_6 i1_7 v1_0 v1_1 v1_2) [0, 1, 2]) (wf := (W_X1_sameCells cs a0 p0 i0_0 i0_1 v0_2 v0_3 a1 p1 i1_3 i1_4 i1_5 i1_6 i1_7 v1_0 v1_1 v1_2)) (r := q21) C0 (c_X2_shown l D cs H.size a1 p1 i1_3 i1_4 i1_5 i1_6 i1_7 v1_0 v1_1 v1_2 ((16 * x2) + x6) q21 hq) (cwV 1 hts gX1_sameCells_X2_shown rfl rfl rfl (by decide +kernel) ⟨Nat.le_of_ble_eq_true rfl, Nat.le_of_ble_eq_true rfl⟩) 2 rfl rfl hP hD hS (fun q h => Or.inr h) [3, 4, 5, 6] [0, 1, 2] [0, 1, 2, 3, 4, 5, 6] rfl (by decide) rfl (by decide) (by decide) rfl (by decide) rfl hl.1 rfl (Nat.le_of_ble_eq_true rfl) ⟨Nat.zero_le _, Nat.zero_le _⟩ dX1_sameCells_21 (fun H locs hP hD hS => ?_)
      refine lv_aload_n hx hb dX1_sameCells_24 rfl (lv_at hl 0 rfl) ?_
      refine lv_bipush (v := 16) hx hb dX1_sameCells_25 (by decide) ?_
      refine lv_iload_n hx hb dX1_sameCells_27 rfl (lv_at hl 2 rfl) ?_
      refine lv_imul hx hb dX1_sameCells_28 ?_
      refine lv_iload hx hb dX1_sameCells_29 (lv_at hl 5 rfl) ?_
      refine lv_iadd hx hb dX1_sameCells_31 ?_
      obtain ⟨q32, hq, hf⟩ := bd_some hf
      refine ow_callVI (As := [.int ((16 * x3) + x6)]) (rest := [.int q21]) (wr := ow_pk (W_X1_sameCells cs a0 p0 i0_0 i0_1 v0_2 v0_3 a1 p1 i1_3 i1_4 i1_5 i1_6 i1_7 v1_0 v1_1 v1_2) [0, 1, 2]) (wf := (W_X1_sameCells cs a0 p0 i0_0 i0_1 v0_2 v0_3 a1 p1 i1_3 i1_4 i1_5 i1_6 i1_7 v1_0 v1_1 v1_2)) (r := q32) C0 (c_X2_shown l D cs H.size a1 p1 i1_3 i1_4 i1_5 i1_6 i1_7 v1_0 v1_1 v1_2 ((16 * x3) + x6) q32 hq) (cwV 1 hts gX1_sameCells_X2_shown rfl rfl rfl (by decide +kernel) ⟨Nat.le_of_ble_eq_true rfl, Nat.le_of_ble_eq_true rfl⟩) 2 rfl rfl hP hD hS (fun q h => Or.inr h) [3, 4, 5, 6] [0, 1, 2] [0, 1, 2, 3, 4, 5, 6] rfl (by decide) rfl (by decide) (by decide) rfl (by decide) rfl hl.1 rfl (Nat.le_of_ble_eq_true rfl) ⟨Nat.zero_le _, Nat.zero_le _⟩ dX1_sameCells_32 (fun H locs hP hD hS => ?_)
      refine lv_icmp_ne (tgt := 47) hx hb dX1_sameCells_35 (by decide) (fun hc => ?_) (fun hc => ?_)
      · replace hf := ow_f hc hf
        exact w_X1_sameCells_b47 C0 a0 p0 i0_0 i0_1 v0_2 v0_3 a1 p1 i1_3 i1_4 i1_5 i1_6 i1_7 v1_0 v1_1 v1_2 res (f_X1_sameCells_b6 v1_0 v1_1 n) ih x2 x3 x4 x5 x6 hf _ _ _ hP hD hS (lv_sub hl [0, 1, 2, 3, 4, 5] rfl)
      · replace hf := ow_t hc hf
        refine lv_iload hx hb dX1_sameCells_38 (lv_at hl 4 rfl) ?_
        refine lv_iconst (v := 1) hx hb dX1_sameCells_40 (by decide) ?_
        refine lv_iload hx hb dX1_sameCells_41 (lv_at hl 5 rfl) ?_
        refine lv_ishl hx hb dX1_sameCells_43 ?_
        refine lv_ior hx hb dX1_sameCells_44 ?_
        refine lv_istore (lv' := [(5, .int (x5 ||| (((1 : Int32)) <<< (x6 &&& 31)))), (1, .ref a1), (2, .int x2), (3, .int x3), (4, .int x4), (6, .int x6)]) hx hb dX1_sameCells_45 hl (by decide) rfl (fun ls hl => ?_)
        exact w_X1_sameCells_b47 C0 a0 p0 i0_0 i0_1 v0_2 v0_3 a1 p1 i1_3 i1_4 i1_5 i1_6 i1_7 v1_0 v1_1 v1_2 res (f_X1_sameCells_b6 v1_0 v1_1 n) ih x2 x3 x4 (x5 ||| (((1 : Int32)) <<< (x6 &&& 31))) x6 hf _ _ _ hP hD hS (lv_sub hl [1, 2, 3, 4, 0, 5] rfl)
def f_X1_sameCells  (v1_0 : Nat → Int32) (v1_1 : Nat → Int32) (x2 : Int32) (x3 : Int32) (x4 : Int32) : Option (Int32) := f_X1_sameCells_b6 v1_0 v1_1 4000 x2 x3 x4 (0) (0)
set_option maxHeartbeats 4000000 in
set_option maxRecDepth 100000 in
theorem c_X1_sameCells (l : Launch) (D : va_G) (cs : Nat → ClassId)  (sz : Nat) (a0 : Nat) (p0 : Nat → Nat) (i0_0 : Int32) (i0_1 : Int32) (v0_2 : Nat → Int32) (v0_3 : Nat → Int32) (a1 : Nat) (p1 : Nat → Nat) (i1_3 : Int32) (i1_4 : Int32) (i1_5 : Int32) (i1_6 : Int32) (i1_7 : Int32) (v1_0 : Nat → Int32) (v1_1 : Nat → Int32) (v1_2 : Nat → Int32) (x2 : Int32) (x3 : Int32) (x4 : Int32) (res : Int32) (hf : f_X1_sameCells  v1_0 v1_1 x2 x3 x4 = some res) : MI l D cs yX1_sameCells wsX1_sameCells rm_X1_sameCells [.ref a0, .ref a1, .int x2, .int x3, .int x4] sz (W_X1_sameCells cs a0 p0 i0_0 i0_1 v0_2 v0_3 a1 p1 i1_3 i1_4 i1_5 i1_6 i1_7 v1_0 v1_1 v1_2) (W_X1_sameCells cs a0 p0 i0_0 i0_1 v0_2 v0_3 a1 p1 i1_3 i1_4 i1_5 i1_6 i1_7 v1_0 v1_1 v1_2) res := by
  rw [f_X1_sameCells] at hf
  refine ow_enter (cc := cX1_sameCells) (nL := 7) (ret := (some .int)) (by decide) rfl (Nat.le_of_ble_eq_true rfl) (fun p e s m below meth c ls H locs C0 hP hD hS hA hl => ?_)
  obtain ⟨hx, hb, hr, hlk, hml, hown, hts, hK, hG, hE⟩ := id C0
  have hl : lv_has ls 7 [(0, .ref a0), (1, .ref a1), (2, .int x2), (3, .int x3), (4, .int x4)] := hl
  refine lv_iconst (v := 0) hx hb dX1_sameCells_0 (by decide) ?_
  refine lv_istore (lv' := [(5, .int 0), (0, .ref a0), (1, .ref a1), (2, .int x2), (3, .int x3), (4, .int x4)]) hx hb dX1_sameCells_1 hl (by decide) rfl (fun ls hl => ?_)
  refine lv_iconst (v := 0) hx hb dX1_sameCells_3 (by decide) ?_
  refine lv_istore (lv' := [(6, .int 0), (5, .int 0), (0, .ref a0), (1, .ref a1), (2, .int x2), (3, .int x3), (4, .int x4)]) hx hb dX1_sameCells_4 hl (by decide) rfl (fun ls hl => ?_)
  exact w_X1_sameCells_b6 C0 a0 p0 i0_0 i0_1 v0_2 v0_3 a1 p1 i1_3 i1_4 i1_5 i1_6 i1_7 v1_0 v1_1 v1_2 res 4000 x2 x3 x4 (0) (0) hf _ _ _ hP hD hS (lv_sub hl [3, 4, 5, 6, 1, 0] rfl)
theorem in_X1_markFilms_X1 : ∀ w ∈ u_ws RX1 TX1 4, w ∈ wsX1_markFilms := fun w h => List.mem_cons_of_mem _ (List.mem_append_left _ (List.mem_append_right _ h))
theorem in_X1_markFilms_X2 : ∀ w ∈ u_ws RX2 TX2 8, w ∈ wsX1_markFilms := fun w h => List.mem_cons_of_mem _ (List.mem_append_right _ h)
abbrev W_X1_markFilms (cs : Nat → ClassId) (a0 : Nat) (p0 : Nat → Nat) (i0_0 : Int32) (i0_1 : Int32) (v0_2 : Nat → Int32) (v0_3 : Nat → Int32) (a1 : Nat) (p1 : Nat → Nat) (i1_3 : Int32) (i1_4 : Int32) (i1_5 : Int32) (i1_6 : Int32) (i1_7 : Int32) (v1_0 : Nat → Int32) (v1_1 : Nat → Int32) (v1_2 : Nat → Int32) : va_W := wX1 cs a0 p0 i0_0 i0_1 v0_2 v0_3 ++ wX2 cs a1 p1 i1_3 i1_4 i1_5 i1_6 i1_7 v1_0 v1_1 v1_2
abbrev rm_X1_markFilms : Room := { frames := 1, cells := 0, slots := 0, locals := 23 }
def f_X1_markFilms_b61  (v1_0 : Nat → Int32) (v1_1 : Nat → Int32) (k13 : (Nat → Int32) → Int32 → Int32 → Option ((Nat → Int32))) (k27 : (Nat → Int32) → Int32 → Int32 → Int32 → Option ((Nat → Int32))) (v0_2 : Nat → Int32) (x2 : Int32) (x3 : Int32) (x4 : Int32) (t1 : Int32) (t2 : Int32) (t3 : Int32) : Option ((Nat → Int32)) := ck t1 201 (k27 (upd v0_2 (t1).toNatClampNeg (t2 ||| t3)) x2 x3 (x4 + 1))
set_option maxHeartbeats 4000000 in
set_option maxRecDepth 100000 in
theorem w_X1_markFilms_b61 {p : Program} {l : Launch} {e : Env} {s : State} {m : MethodId} {below : List Frame} {meth : Method} {c : Code} {D : va_G} {cs : Nat → ClassId} {av : Array Value} {w0 : va_W} (C0 : Cx p s m meth c av wsX1_markFilms cX1_markFilms 5 none RX1 D cs w0)  (a0 : Nat) (p0 : Nat → Nat) (i0_0 : Int32) (i0_1 : Int32) (v0_3 : Nat → Int32) (a1 : Nat) (p1 : Nat → Nat) (i1_3 : Int32) (i1_4 : Int32) (i1_5 : Int32) (i1_6 : Int32) (i1_7 : Int32) (v1_0 : Nat → Int32) (v1_1 : Nat → Int32) (v1_2 : Nat → Int32) (res : (Nat → Int32)) (k13 : (Nat → Int32) → Int32 → Int32 → Option ((Nat → Int32))) (hk13 : ∀ (v0_2 : Nat → Int32) (x2 : Int32) (x3 : Int32), k13 v0_2 x2 x3 = some res → ∀ (H : Heap) (locs : List Loc) (ls : Array Slot), va_P D vwCl (W_X1_markFilms cs a0 p0 i0_0 i0_1 v0_2 v0_3 a1 p1 i1_3 i1_4 i1_5 i1_6 i1_7 v1_0 v1_1 v1_2) H → va_D (va_A w0 s.heap.size) (W_X1_markFilms cs a0 p0 i0_0 i0_1 v0_2 v0_3 a1 p1 i1_3 i1_4 i1_5 i1_6 i1_7 v1_0 v1_1 v1_2) → va_S (va_A w0 s.heap.size) s.heap H locs → lv_has ls 5 [(0, .ref a0), (1, .ref a1), (2, .int x2), (3, .int x3)] → W p l e rm_X1_markFilms s m av below meth c H locs 0 0 (MQ below (oV D cs w0 (W_X1_markFilms cs a0 p0 i0_0 i0_1 res v0_3 a1 p1 i1_3 i1_4 i1_5 i1_6 i1_7 v1_0 v1_1 v1_2) s.heap.size) av s 0 0 (va_A w0 s.heap.size)) (F0 m 13 ls [])) (k27 : (Nat → Int32) → Int32 → Int32 → Int32 → Option ((Nat → Int32))) (hk27 : ∀ (v0_2 : Nat → Int32) (x2 : Int32) (x3 : Int32) (x4 : Int32), k27 v0_2 x2 x3 x4 = some res → ∀ (H : Heap) (locs : List Loc) (ls : Array Slot), va_P D vwCl (W_X1_markFilms cs a0 p0 i0_0 i0_1 v0_2 v0_3 a1 p1 i1_3 i1_4 i1_5 i1_6 i1_7 v1_0 v1_1 v1_2) H → va_D (va_A w0 s.heap.size) (W_X1_markFilms cs a0 p0 i0_0 i0_1 v0_2 v0_3 a1 p1 i1_3 i1_4 i1_5 i1_6 i1_7 v1_0 v1_1 v1_2) → va_S (va_A w0 s.heap.size) s.heap H locs → lv_has ls 5 [(0, .ref a0), (1, .ref a1), (2, .int x2), (3, .int x3), (4, .int x4)] → W p l e rm_X1_markFilms s m av below meth c H locs 0 0 (MQ below (oV D cs w0 (W_X1_markFilms cs a0 p0 i0_0 i0_1 res v0_3 a1 p1 i1_3 i1_4 i1_5 i1_6 i1_7 v1_0 v1_1 v1_2) s.heap.size) av s 0 0 (va_A w0 s.heap.size)) (F0 m 27 ls [])) : ∀ (v0_2 : Nat → Int32) (x2 : Int32) (x3 : Int32) (x4 : Int32) (t1 : Int32) (t2 : Int32) (t3 : Int32), f_X1_markFilms_b61 v1_0 v1_1 k13 k27 v0_2 x2 x3 x4 t1 t2 t3 = some res → ∀ (H : Heap) (locs : List Loc) (ls : Array Slot), va_P D vwCl (W_X1_markFilms cs a0 p0 i0_0 i0_1 v0_2 v0_3 a1 p1 i1_3 i1_4 i1_5 i1_6 i1_7 v1_0 v1_1 v1_2) H → va_D (va_A w0 s.heap.size) (W_X1_markFilms cs a0 p0 i0_0 i0_1 v0_2 v0_3 a1 p1 i1_3 i1_4 i1_5 i1_6 i1_7 v1_0 v1_1 v1_2) → va_S (va_A w0 s.heap.size) s.heap H locs → lv_has ls 5 [(0, .ref a0), (1, .ref a1), (2, .int x2), (3, .int x3), (4, .int x4)] → W p l e rm_X1_markFilms s m av below meth c H locs 0 0 (MQ below (oV D cs w0 (W_X1_markFilms cs a0 p0 i0_0 i0_1 res v0_3 a1 p1 i1_3 i1_4 i1_5 i1_6 i1_7 v1_0 v1_1 v1_2) s.heap.size) av s 0 0 (va_A w0 s.heap.size)) (F0 m 61 ls [.int t3, .int t2, .int t1, .ref (p0 2)]) := by
  obtain ⟨hx, hb, hr, hlk, hml, hown, hts, hK, hG, hE⟩ := id C0
  intro v0_2 x2 x3 x4 t1 t2 t3 hf H locs ls hP hD hS hl
  rw [f_X1_markFilms_b61] at hf
  refine lv_ior hx hb dX1_markFilms_61 ?_
  obtain ⟨hin, hf⟩ := ck_some hf
  refine va_iast (f := v0_2) hx hb hK hP hD hS 1 0 rfl rfl hin dX1_markFilms_62 (fun H locs (hP : va_P D vwCl (W_X1_markFilms cs a0 p0 i0_0 i0_1 (upd v0_2 (t1).toNatClampNeg (t2 ||| t3)) v0_3 a1 p1 i1_3 i1_4 i1_5 i1_6 i1_7 v1_0 v1_1 v1_2) H) (hD : va_D _ (W_X1_markFilms cs a0 p0 i0_0 i0_1 (upd v0_2 (t1).toNatClampNeg (t2 ||| t3)) v0_3 a1 p1 i1_3 i1_4 i1_5 i1_6 i1_7 v1_0 v1_1 v1_2)) hS => ?_)
  refine lv_iinc (v := x4 + 1) (lv' := [(4, .int (x4 + 1)), (0, .ref a0), (1, .ref a1), (2, .int x2), (3, .int x3)]) hx hb dX1_markFilms_63 hl (k := 4) rfl (ow_inc (by decide)) (by decide) rfl (fun ls hl => ?_)
  refine lv_goto (tgt := 27) hx hb dX1_markFilms_66 (by decide) ?_
  exact hk27 (upd v0_2 (t1).toNatClampNeg (t2 ||| t3)) x2 x3 (x4 + 1) hf _ _ _ hP hD hS (lv_sub hl [1, 2, 3, 4, 0] rfl)
def f_X1_markFilms_b27  (v1_0 : Nat → Int32) (v1_1 : Nat → Int32) (k13 : (Nat → Int32) → Int32 → Int32 → Option ((Nat → Int32))) : Nat → (Nat → Int32) → Int32 → Int32 → Int32 → Option ((Nat → Int32))
  | 0, _, _, _, _ => none
  | n + 1, v0_2, x2, x3, x4 => ck x3 80 (if (v1_1 (x3).toNatClampNeg) ≤ x4 then (k13 v0_2 x2 (x3 + 1)) else ((f_X2_behind v1_0 v1_1 x3 x4).bind fun q46 => ck q46 201 (if x4 = 0 then (f_X1_markFilms_b61 v1_0 v1_1 k13 (f_X1_markFilms_b27 v1_0 v1_1 k13 n) v0_2 x2 x3 x4 q46 (v0_2 (q46).toNatClampNeg) (3)) else (f_X1_markFilms_b61 v1_0 v1_1 k13 (f_X1_markFilms_b27 v1_0 v1_1 k13 n) v0_2 x2 x3 x4 q46 (v0_2 (q46).toNatClampNeg) (1)))))
set_option maxHeartbeats 4000000 in
set_option maxRecDepth 100000 in
theorem w_X1_markFilms_b27 {p : Program} {l : Launch} {e : Env} {s : State} {m : MethodId} {below : List Frame} {meth : Method} {c : Code} {D : va_G} {cs : Nat → ClassId} {av : Array Value} {w0 : va_W} (C0 : Cx p s m meth c av wsX1_markFilms cX1_markFilms 5 none RX1 D cs w0)  (a0 : Nat) (p0 : Nat → Nat) (i0_0 : Int32) (i0_1 : Int32) (v0_3 : Nat → Int32) (a1 : Nat) (p1 : Nat → Nat) (i1_3 : Int32) (i1_4 : Int32) (i1_5 : Int32) (i1_6 : Int32) (i1_7 : Int32) (v1_0 : Nat → Int32) (v1_1 : Nat → Int32) (v1_2 : Nat → Int32) (res : (Nat → Int32)) (k13 : (Nat → Int32) → Int32 → Int32 → Option ((Nat → Int32))) (hk13 : ∀ (v0_2 : Nat → Int32) (x2 : Int32) (x3 : Int32), k13 v0_2 x2 x3 = some res → ∀ (H : Heap) (locs : List Loc) (ls : Array Slot), va_P D vwCl (W_X1_markFilms cs a0 p0 i0_0 i0_1 v0_2 v0_3 a1 p1 i1_3 i1_4 i1_5 i1_6 i1_7 v1_0 v1_1 v1_2) H → va_D (va_A w0 s.heap.size) (W_X1_markFilms cs a0 p0 i0_0 i0_1 v0_2 v0_3 a1 p1 i1_3 i1_4 i1_5 i1_6 i1_7 v1_0 v1_1 v1_2) → va_S (va_A w0 s.heap.size) s.heap H locs → lv_has ls 5 [(0, .ref a0), (1, .ref a1), (2, .int x2), (3, .int x3)] → W p l e rm_X1_markFilms s m av below meth c H locs 0 0 (MQ below (oV D cs w0 (W_X1_markFilms cs a0 p0 i0_0 i0_1 res v0_3 a1 p1 i1_3 i1_4 i1_5 i1_6 i1_7 v1_0 v1_1 v1_2) s.heap.size) av s 0 0 (va_A w0 s.heap.size)) (F0 m 13 ls [])) : ∀ (n : Nat) (v0_2 : Nat → Int32) (x2 : Int32) (x3 : Int32) (x4 : Int32), f_X1_markFilms_b27 v1_0 v1_1 k13 n v0_2 x2 x3 x4 = some res → ∀ (H : Heap) (locs : List Loc) (ls : Array Slot), va_P D vwCl (W_X1_markFilms cs a0 p0 i0_0 i0_1 v0_2 v0_3 a1 p1 i1_3 i1_4 i1_5 i1_6 i1_7 v1_0 v1_1 v1_2) H → va_D (va_A w0 s.heap.size) (W_X1_markFilms cs a0 p0 i0_0 i0_1 v0_2 v0_3 a1 p1 i1_3 i1_4 i1_5 i1_6 i1_7 v1_0 v1_1 v1_2) → va_S (va_A w0 s.heap.size) s.heap H locs → lv_has ls 5 [(0, .ref a0), (1, .ref a1), (2, .int x2), (3, .int x3), (4, .int x4)] → W p l e rm_X1_markFilms s m av below meth c H locs 0 0 (MQ below (oV D cs w0 (W_X1_markFilms cs a0 p0 i0_0 i0_1 res v0_3 a1 p1 i1_3 i1_4 i1_5 i1_6 i1_7 v1_0 v1_1 v1_2) s.heap.size) av s 0 0 (va_A w0 s.heap.size)) (F0 m 27 ls []) := by
  obtain ⟨hx, hb, hr, hlk, hml, hown, hts, hK, hG, hE⟩ := id C0
  intro n
  induction n with
  | zero =>
    intro v0_2 x2 x3 x4 hf
    rw [f_X1_markFilms_b27] at hf
    cases hf
  | succ n ih =>
    intro v0_2 x2 x3 x4 hf H locs ls hP hD hS hl
    rw [f_X1_markFilms_b27] at hf
    refine lv_iload hx hb dX1_markFilms_27 (lv_at hl 4 rfl) ?_
    refine lv_aload_n hx hb dX1_markFilms_29 rfl (lv_at hl 1 rfl) ?_
    refine va_get (D := D) (ci := 2) (v := .ref (p1 1)) (C := RX2) (T := TX2) (N := 8) hx hb hts in_X1_markFilms_X2 hown hK hP 3 rfl rfl 1 (by decide) (hts (.fieldLink RX1 33 "PaneDays$Glass" "depth" "[I") (List.mem_of_getElem? (i := 2) rfl)) (fun _ h9 => h9) rfl dX1_markFilms_30 ?_
    refine lv_iload_n hx hb dX1_markFilms_33 rfl (lv_at hl 3 rfl) ?_
    obtain ⟨hin, hf⟩ := ck_some hf
    refine va_iald (f := v1_1) hx hb hK hP 5 0 rfl rfl hin dX1_markFilms_34 ?_
    refine lv_icmp_ge (tgt := 69) hx hb dX1_markFilms_35 (by decide) (fun hc => ?_) (fun hc => ?_)
    · replace hf := ow_t hc hf
      refine lv_iinc (v := x3 + 1) (lv' := [(3, .int (x3 + 1)), (0, .ref a0), (1, .ref a1), (2, .int x2), (4, .int x4)]) hx hb dX1_markFilms_69 hl (k := 3) rfl (ow_inc (by decide)) (by decide) rfl (fun ls hl => ?_)
      refine lv_goto (tgt := 13) hx hb dX1_markFilms_72 (by decide) ?_
      exact hk13 v0_2 x2 (x3 + 1) hf _ _ _ hP hD hS (lv_sub hl [1, 2, 3, 0] rfl)
    · replace hf := ow_f hc hf
      refine lv_aload_n hx hb dX1_markFilms_38 rfl (lv_at hl 0 rfl) ?_
      refine va_get (D := D) (ci := 1) (v := .ref (p0 2)) (C := RX1) (T := TX1) (N := 4) hx hb hts in_X1_markFilms_X1 hown hK hP 0 rfl rfl 2 (by decide) (hts (.fieldLink RX1 9 "PaneDays$Gaze" "mark" "[I") (List.mem_of_getElem? (i := 1) rfl)) (fun _ h9 => h9) rfl dX1_markFilms_39 ?_
      refine lv_aload_n hx hb dX1_markFilms_42 rfl (lv_at hl 1 rfl) ?_
      refine lv_iload_n hx hb dX1_markFilms_43 rfl (lv_at hl 3 rfl) ?_
      refine lv_iload hx hb dX1_markFilms_44 (lv_at hl 4 rfl) ?_
      obtain ⟨q46, hq, hf⟩ := bd_some hf
      refine ow_callVI (As := [.int x3, .int x4]) (rest := [.ref (p0 2)]) (wr := ow_pk (W_X1_markFilms cs a0 p0 i0_0 i0_1 v0_2 v0_3 a1 p1 i1_3 i1_4 i1_5 i1_6 i1_7 v1_0 v1_1 v1_2) [0, 1, 2]) (wf := (W_X1_markFilms cs a0 p0 i0_0 i0_1 v0_2 v0_3 a1 p1 i1_3 i1_4 i1_5 i1_6 i1_7 v1_0 v1_1 v1_2)) (r := q46) C0 (c_X2_behind l D cs H.size a1 p1 i1_3 i1_4 i1_5 i1_6 i1_7 v1_0 v1_1 v1_2 x3 x4 q46 hq) (cwV 2 hts gX1_markFilms_X2_behind rfl rfl rfl (by decide +kernel) ⟨Nat.le_of_ble_eq_true rfl, Nat.le_of_ble_eq_true rfl⟩) 2 rfl rfl hP hD hS (fun q h => Or.inr h) [3, 4, 5, 6] [0, 1, 2] [0, 1, 2, 3, 4, 5, 6] rfl (by decide) rfl (by decide) (by decide) rfl (by decide) rfl hl.1 rfl (Nat.le_of_ble_eq_true rfl) ⟨Nat.zero_le _, Nat.zero_le _⟩ dX1_markFilms_46 (fun H locs hP hD hS => ?_)
      refine lv_dup2_11 hx hb dX1_markFilms_49 rfl rfl ?_
      obtain ⟨hin, hf⟩ := ck_some hf
      refine va_iald (f := v0_2) hx hb hK hP 1 0 rfl rfl hin dX1_markFilms_50 ?_
      refine lv_iload hx hb dX1_markFilms_51 (lv_at hl 4 rfl) ?_
      refine lv_if_ne (tgt := 60) hx hb dX1_markFilms_53 (by decide) (fun hc => ?_) (fun hc => ?_)
      · replace hf := ow_f hc hf
        refine lv_iconst (v := 1) hx hb dX1_markFilms_60 (by decide) ?_
        exact w_X1_markFilms_b61 C0 a0 p0 i0_0 i0_1 v0_3 a1 p1 i1_3 i1_4 i1_5 i1_6 i1_7 v1_0 v1_1 v1_2 res k13 hk13 (f_X1_markFilms_b27 v1_0 v1_1 k13 n) ih v0_2 x2 x3 x4 q46 (v0_2 (q46).toNatClampNeg) (1) hf _ _ _ hP hD hS (lv_sub hl [0, 1, 2, 3, 4] rfl)
      · replace hf := ow_t hc hf
        refine lv_iconst (v := 3) hx hb dX1_markFilms_56 (by decide) ?_
        refine lv_goto (tgt := 61) hx hb dX1_markFilms_57 (by decide) ?_
        exact w_X1_markFilms_b61 C0 a0 p0 i0_0 i0_1 v0_3 a1 p1 i1_3 i1_4 i1_5 i1_6 i1_7 v1_0 v1_1 v1_2 res k13 hk13 (f_X1_markFilms_b27 v1_0 v1_1 k13 n) ih v0_2 x2 x3 x4 q46 (v0_2 (q46).toNatClampNeg) (3) hf _ _ _ hP hD hS (lv_sub hl [0, 1, 2, 3, 4] rfl)
def f_X1_markFilms_b13  (v1_0 : Nat → Int32) (v1_1 : Nat → Int32)  : Nat → (Nat → Int32) → Int32 → Int32 → Option ((Nat → Int32))
  | 0, _, _, _ => none
  | n + 1, v0_2, x2, x3 => if ((16 * x2) + 16) ≤ x3 then (some (v0_2)) else (f_X1_markFilms_b27 v1_0 v1_1 (f_X1_markFilms_b13 v1_0 v1_1 n) 4000 v0_2 x2 x3 (0))
set_option maxHeartbeats 4000000 in
set_option maxRecDepth 100000 in
theorem w_X1_markFilms_b13 {p : Program} {l : Launch} {e : Env} {s : State} {m : MethodId} {below : List Frame} {meth : Method} {c : Code} {D : va_G} {cs : Nat → ClassId} {av : Array Value} {w0 : va_W} (C0 : Cx p s m meth c av wsX1_markFilms cX1_markFilms 5 none RX1 D cs w0)  (a0 : Nat) (p0 : Nat → Nat) (i0_0 : Int32) (i0_1 : Int32) (v0_3 : Nat → Int32) (a1 : Nat) (p1 : Nat → Nat) (i1_3 : Int32) (i1_4 : Int32) (i1_5 : Int32) (i1_6 : Int32) (i1_7 : Int32) (v1_0 : Nat → Int32) (v1_1 : Nat → Int32) (v1_2 : Nat → Int32) (res : (Nat → Int32))  : ∀ (n : Nat) (v0_2 : Nat → Int32) (x2 : Int32) (x3 : Int32), f_X1_markFilms_b13 v1_0 v1_1 n v0_2 x2 x3 = some res → ∀ (H : Heap) (locs : List Loc) (ls : Array Slot), va_P D vwCl (W_X1_markFilms cs a0 p0 i0_0 i0_1 v0_2 v0_3 a1 p1 i1_3 i1_4 i1_5 i1_6 i1_7 v1_0 v1_1 v1_2) H → va_D (va_A w0 s.heap.size) (W_X1_markFilms cs a0 p0 i0_0 i0_1 v0_2 v0_3 a1 p1 i1_3 i1_4 i1_5 i1_6 i1_7 v1_0 v1_1 v1_2) → va_S (va_A w0 s.heap.size) s.heap H locs → lv_has ls 5 [(0, .ref a0), (1, .ref a1), (2, .int x2), (3, .int x3)] → W p l e rm_X1_markFilms s m av below meth c H locs 0 0 (MQ below (oV D cs w0 (W_X1_markFilms cs a0 p0 i0_0 i0_1 res v0_3 a1 p1 i1_3 i1_4 i1_5 i1_6 i1_7 v1_0 v1_1 v1_2) s.heap.size) av s 0 0 (va_A w0 s.heap.size)) (F0 m 13 ls []) := by
  obtain ⟨hx, hb, hr, hlk, hml, hown, hts, hK, hG, hE⟩ := id C0
  intro n
  induction n with
  | zero =>
    intro v0_2 x2 x3 hf
    rw [f_X1_markFilms_b13] at hf
    cases hf
  | succ n ih =>
    intro v0_2 x2 x3 hf H locs ls hP hD hS hl
    rw [f_X1_markFilms_b13] at hf
    refine lv_iload_n hx hb dX1_markFilms_13 rfl (lv_at hl 3 rfl) ?_
    refine lv_bipush (v := 16) hx hb dX1_markFilms_14 (by decide) ?_
    refine lv_iload_n hx hb dX1_markFilms_16 rfl (lv_at hl 2 rfl) ?_
    refine lv_imul hx hb dX1_markFilms_17 ?_
    refine lv_bipush (v := 16) hx hb dX1_markFilms_18 (by decide) ?_
    refine lv_iadd hx hb dX1_markFilms_20 ?_
    refine lv_icmp_ge (tgt := 75) hx hb dX1_markFilms_21 (by decide) (fun hc => ?_) (fun hc => ?_)
    · replace hf := ow_t hc hf
      obtain rfl := Option.some.inj hf
      exact ow_retV C0 hP hD hS dX1_markFilms_75
    · replace hf := ow_f hc hf
      refine lv_iconst (v := 0) hx hb dX1_markFilms_24 (by decide) ?_
      refine lv_istore (lv' := [(4, .int 0), (0, .ref a0), (1, .ref a1), (2, .int x2), (3, .int x3)]) hx hb dX1_markFilms_25 hl (by decide) rfl (fun ls hl => ?_)
      exact w_X1_markFilms_b27 C0 a0 p0 i0_0 i0_1 v0_3 a1 p1 i1_3 i1_4 i1_5 i1_6 i1_7 v1_0 v1_1 v1_2 res (f_X1_markFilms_b13 v1_0 v1_1 n) ih 4000 v0_2 x2 x3 (0) hf _ _ _ hP hD hS (lv_sub hl [1, 2, 3, 4, 0] rfl)
def f_X1_markFilms  (v0_2 : Nat → Int32) (v1_0 : Nat → Int32) (v1_1 : Nat → Int32) (x2 : Int32) : Option ((Nat → Int32)) := (f_J7_fill_53178 201 v0_2 (0)).bind fun q5 => f_X1_markFilms_b13 v1_0 v1_1 4000 q5 x2 (16 * x2)
set_option maxHeartbeats 4000000 in
set_option maxRecDepth 100000 in
theorem c_X1_markFilms (l : Launch) (D : va_G) (cs : Nat → ClassId)  (sz : Nat) (a0 : Nat) (p0 : Nat → Nat) (i0_0 : Int32) (i0_1 : Int32) (v0_2 : Nat → Int32) (v0_3 : Nat → Int32) (a1 : Nat) (p1 : Nat → Nat) (i1_3 : Int32) (i1_4 : Int32) (i1_5 : Int32) (i1_6 : Int32) (i1_7 : Int32) (v1_0 : Nat → Int32) (v1_1 : Nat → Int32) (v1_2 : Nat → Int32) (x2 : Int32) (res : (Nat → Int32)) (hf : f_X1_markFilms  v0_2 v1_0 v1_1 x2 = some res) : MV l D cs yX1_markFilms wsX1_markFilms rm_X1_markFilms [.ref a0, .ref a1, .int x2] sz (W_X1_markFilms cs a0 p0 i0_0 i0_1 v0_2 v0_3 a1 p1 i1_3 i1_4 i1_5 i1_6 i1_7 v1_0 v1_1 v1_2) (W_X1_markFilms cs a0 p0 i0_0 i0_1 res v0_3 a1 p1 i1_3 i1_4 i1_5 i1_6 i1_7 v1_0 v1_1 v1_2) := by
  rw [f_X1_markFilms] at hf
  refine ow_enter (cc := cX1_markFilms) (nL := 5) (ret := none) (by decide) rfl (Nat.le_of_ble_eq_true rfl) (fun p e s m below meth c ls H locs C0 hP hD hS hA hl => ?_)
  obtain ⟨hx, hb, hr, hlk, hml, hown, hts, hK, hG, hE⟩ := id C0
  have hl : lv_has ls 5 [(0, .ref a0), (1, .ref a1), (2, .int x2)] := hl
  refine lv_aload_n hx hb dX1_markFilms_0 rfl (lv_at hl 0 rfl) ?_
  refine va_get (D := D) (ci := 1) (v := .ref (p0 2)) (C := RX1) (T := TX1) (N := 4) hx hb hts in_X1_markFilms_X1 hown hK hP 0 rfl rfl 2 (by decide) (hts (.fieldLink RX1 9 "PaneDays$Gaze" "mark" "[I") (List.mem_of_getElem? (i := 1) rfl)) (fun _ h9 => h9) rfl dX1_markFilms_1 ?_
  refine lv_iconst (v := 0) hx hb dX1_markFilms_4 (by decide) ?_
  obtain ⟨q5, hq, hf⟩ := bd_some hf
  refine ow_callSV (As := [.ref (p0 2), .int 0]) (rest := []) (wr := ow_pk (W_X1_markFilms cs a0 p0 i0_0 i0_1 v0_2 v0_3 a1 p1 i1_3 i1_4 i1_5 i1_6 i1_7 v1_0 v1_1 v1_2) [0, 2, 3, 4, 5, 6]) (wf := (W_X1_markFilms cs a0 p0 i0_0 i0_1 q5 v0_3 a1 p1 i1_3 i1_4 i1_5 i1_6 i1_7 v1_0 v1_1 v1_2)) C0 (c_J7_fill_53178 l D cs H.size (p0 2) 201 v0_2 (0) q5 hq) (va_cwS 2 hts gX1_markFilms_J7_fill_53178 rfl rfl rfl (by decide +kernel) ⟨Nat.le_of_ble_eq_true rfl, Nat.le_of_ble_eq_true rfl⟩) hP hD hS (fun q h => Or.inr h) [1] [0, 2, 3, 4, 5, 6] [0, 6, 1, 2, 3, 4, 5] rfl (by decide) rfl (by decide) (by decide) rfl (by decide) rfl hl.1 rfl (Nat.le_of_ble_eq_true rfl) ⟨Nat.zero_le _, Nat.zero_le _⟩ dX1_markFilms_5 (fun H locs hP hD hS => ?_)
  refine lv_bipush (v := 16) hx hb dX1_markFilms_8 (by decide) ?_
  refine lv_iload_n hx hb dX1_markFilms_10 rfl (lv_at hl 2 rfl) ?_
  refine lv_imul hx hb dX1_markFilms_11 ?_
  refine lv_istore_n (lv' := [(3, .int (16 * x2)), (0, .ref a0), (1, .ref a1), (2, .int x2)]) hx hb dX1_markFilms_12 rfl hl (by decide) rfl (fun ls hl => ?_)
  exact w_X1_markFilms_b13 C0 a0 p0 i0_0 i0_1 v0_3 a1 p1 i1_3 i1_4 i1_5 i1_6 i1_7 v1_0 v1_1 v1_2 res 4000 q5 x2 (16 * x2) hf _ _ _ hP hD hS (lv_sub hl [1, 2, 3, 0] rfl)
theorem in_X1_latestHidden_X1 : ∀ w ∈ u_ws RX1 TX1 4, w ∈ wsX1_latestHidden := fun w h => List.mem_cons_of_mem _ (List.mem_append_left _ (List.mem_append_right _ h))
abbrev W_X1_latestHidden (cs : Nat → ClassId) (a0 : Nat) (p0 : Nat → Nat) (i0_0 : Int32) (i0_1 : Int32) (v0_2 : Nat → Int32) (v0_3 : Nat → Int32) (a1 : Nat) (p1 : Nat → Nat) (i1_3 : Int32) (i1_4 : Int32) (i1_5 : Int32) (i1_6 : Int32) (i1_7 : Int32) (v1_0 : Nat → Int32) (v1_1 : Nat → Int32) (v1_2 : Nat → Int32) : va_W := wX1 cs a0 p0 i0_0 i0_1 v0_2 v0_3 ++ wX2 cs a1 p1 i1_3 i1_4 i1_5 i1_6 i1_7 v1_0 v1_1 v1_2
abbrev rm_X1_latestHidden : Room := { frames := 2, cells := 0, slots := 0, locals := 47 }
def f_X1_latestHidden_b10  (v1_0 : Nat → Int32) (v1_1 : Nat → Int32)  : Nat → (Nat → Int32) → Int32 → Option (Int32 × (Nat → Int32))
  | 0, _, _ => none
  | n + 1, v0_2, x3 => if x3 < 1 then (some ((-1), v0_2)) else (ck x3 201 (if (v0_2 (x3).toNatClampNeg) = 1 then (some (x3, v0_2)) else (f_X1_latestHidden_b10 v1_0 v1_1 n v0_2 (x3 + (-1)))))
set_option maxHeartbeats 4000000 in
set_option maxRecDepth 100000 in
theorem w_X1_latestHidden_b10 {p : Program} {l : Launch} {e : Env} {s : State} {m : MethodId} {below : List Frame} {meth : Method} {c : Code} {D : va_G} {cs : Nat → ClassId} {av : Array Value} {w0 : va_W} (C0 : Cx p s m meth c av wsX1_latestHidden cX1_latestHidden 4 (some .int) RX1 D cs w0)  (a0 : Nat) (p0 : Nat → Nat) (i0_0 : Int32) (i0_1 : Int32) (v0_3 : Nat → Int32) (a1 : Nat) (p1 : Nat → Nat) (i1_3 : Int32) (i1_4 : Int32) (i1_5 : Int32) (i1_6 : Int32) (i1_7 : Int32) (v1_0 : Nat → Int32) (v1_1 : Nat → Int32) (v1_2 : Nat → Int32) (res : Int32 × (Nat → Int32))  : ∀ (n : Nat) (v0_2 : Nat → Int32) (x3 : Int32), f_X1_latestHidden_b10 v1_0 v1_1 n v0_2 x3 = some res → ∀ (H : Heap) (locs : List Loc) (ls : Array Slot), va_P D vwCl (W_X1_latestHidden cs a0 p0 i0_0 i0_1 v0_2 v0_3 a1 p1 i1_3 i1_4 i1_5 i1_6 i1_7 v1_0 v1_1 v1_2) H → va_D (va_A w0 s.heap.size) (W_X1_latestHidden cs a0 p0 i0_0 i0_1 v0_2 v0_3 a1 p1 i1_3 i1_4 i1_5 i1_6 i1_7 v1_0 v1_1 v1_2) → va_S (va_A w0 s.heap.size) s.heap H locs → lv_has ls 4 [(0, .ref a0), (3, .int x3)] → W p l e rm_X1_latestHidden s m av below meth c H locs 0 0 (MQ below (oI D cs w0 (W_X1_latestHidden cs a0 p0 i0_0 i0_1 res.2 v0_3 a1 p1 i1_3 i1_4 i1_5 i1_6 i1_7 v1_0 v1_1 v1_2) res.1 s.heap.size) av s 0 0 (va_A w0 s.heap.size)) (F0 m 10 ls []) := by
  obtain ⟨hx, hb, hr, hlk, hml, hown, hts, hK, hG, hE⟩ := id C0
  intro n
  induction n with
  | zero =>
    intro v0_2 x3 hf
    rw [f_X1_latestHidden_b10] at hf
    cases hf
  | succ n ih =>
    intro v0_2 x3 hf H locs ls hP hD hS hl
    rw [f_X1_latestHidden_b10] at hf
    refine lv_iload_n hx hb dX1_latestHidden_10 rfl (lv_at hl 1 rfl) ?_
    refine lv_iconst (v := 1) hx hb dX1_latestHidden_11 (by decide) ?_
    refine lv_icmp_lt (tgt := 33) hx hb dX1_latestHidden_12 (by decide) (fun hc => ?_) (fun hc => ?_)
    · replace hf := ow_t hc hf
      refine lv_iconst (v := (-1)) hx hb dX1_latestHidden_33 (by decide) ?_
      obtain rfl := Option.some.inj hf
      exact ow_retI C0 hP hD hS dX1_latestHidden_34
    · replace hf := ow_f hc hf
      refine lv_aload_n hx hb dX1_latestHidden_15 rfl (lv_at hl 0 rfl) ?_
      refine va_get (D := D) (ci := 1) (v := .ref (p0 2)) (C := RX1) (T := TX1) (N := 4) hx hb hts in_X1_latestHidden_X1 hown hK hP 0 rfl rfl 2 (by decide) (hts (.fieldLink RX1 9 "PaneDays$Gaze" "mark" "[I") (List.mem_of_getElem? (i := 1) rfl)) (fun _ h9 => h9) rfl dX1_latestHidden_16 ?_
      refine lv_iload_n hx hb dX1_latestHidden_19 rfl (lv_at hl 1 rfl) ?_
      obtain ⟨hin, hf⟩ := ck_some hf
      refine va_iald (f := v0_2) hx hb hK hP 1 0 rfl rfl hin dX1_latestHidden_20 ?_
      refine lv_iconst (v := 1) hx hb dX1_latestHidden_21 (by decide) ?_
      refine lv_icmp_ne (tgt := 27) hx hb dX1_latestHidden_22 (by decide) (fun hc => ?_) (fun hc => ?_)
      · replace hf := ow_f hc hf
        refine lv_iinc (v := x3 + (-1)) (lv' := [(3, .int (x3 + (-1))), (0, .ref a0)]) hx hb dX1_latestHidden_27 hl (k := 1) rfl (ow_inc (by decide)) (by decide) rfl (fun ls hl => ?_)
        refine lv_goto (tgt := 10) hx hb dX1_latestHidden_30 (by decide) ?_
        exact ih v0_2 (x3 + (-1)) hf _ _ _ hP hD hS (lv_sub hl [1, 0] rfl)
      · replace hf := ow_t hc hf
        refine lv_iload_n hx hb dX1_latestHidden_25 rfl (lv_at hl 1 rfl) ?_
        obtain rfl := Option.some.inj hf
        exact ow_retI C0 hP hD hS dX1_latestHidden_26
def f_X1_latestHidden  (v0_2 : Nat → Int32) (v1_0 : Nat → Int32) (v1_1 : Nat → Int32) (x2 : Int32) : Option (Int32 × (Nat → Int32)) := (f_X1_markFilms v0_2 v1_0 v1_1 x2).bind fun q3 => f_X1_latestHidden_b10 v1_0 v1_1 4000 q3 (200)
set_option maxHeartbeats 4000000 in
set_option maxRecDepth 100000 in
theorem c_X1_latestHidden (l : Launch) (D : va_G) (cs : Nat → ClassId)  (sz : Nat) (a0 : Nat) (p0 : Nat → Nat) (i0_0 : Int32) (i0_1 : Int32) (v0_2 : Nat → Int32) (v0_3 : Nat → Int32) (a1 : Nat) (p1 : Nat → Nat) (i1_3 : Int32) (i1_4 : Int32) (i1_5 : Int32) (i1_6 : Int32) (i1_7 : Int32) (v1_0 : Nat → Int32) (v1_1 : Nat → Int32) (v1_2 : Nat → Int32) (x2 : Int32) (res : Int32 × (Nat → Int32)) (hf : f_X1_latestHidden  v0_2 v1_0 v1_1 x2 = some res) : MI l D cs yX1_latestHidden wsX1_latestHidden rm_X1_latestHidden [.ref a0, .ref a1, .int x2] sz (W_X1_latestHidden cs a0 p0 i0_0 i0_1 v0_2 v0_3 a1 p1 i1_3 i1_4 i1_5 i1_6 i1_7 v1_0 v1_1 v1_2) (W_X1_latestHidden cs a0 p0 i0_0 i0_1 res.2 v0_3 a1 p1 i1_3 i1_4 i1_5 i1_6 i1_7 v1_0 v1_1 v1_2) res.1 := by
  rw [f_X1_latestHidden] at hf
  refine ow_enter (cc := cX1_latestHidden) (nL := 4) (ret := (some .int)) (by decide) rfl (Nat.le_of_ble_eq_true rfl) (fun p e s m below meth c ls H locs C0 hP hD hS hA hl => ?_)
  obtain ⟨hx, hb, hr, hlk, hml, hown, hts, hK, hG, hE⟩ := id C0
  have hl : lv_has ls 4 [(0, .ref a0), (1, .ref a1), (2, .int x2)] := hl
  refine lv_aload_n hx hb dX1_latestHidden_0 rfl (lv_at hl 0 rfl) ?_
  refine lv_aload_n hx hb dX1_latestHidden_1 rfl (lv_at hl 1 rfl) ?_
  refine lv_iload_n hx hb dX1_latestHidden_2 rfl (lv_at hl 2 rfl) ?_
  obtain ⟨q3, hq, hf⟩ := bd_some hf
  refine ow_callVV (As := [.ref a1, .int x2]) (rest := []) (wr := ow_pk (W_X1_latestHidden cs a0 p0 i0_0 i0_1 v0_2 v0_3 a1 p1 i1_3 i1_4 i1_5 i1_6 i1_7 v1_0 v1_1 v1_2) []) (wf := (W_X1_latestHidden cs a0 p0 i0_0 i0_1 q3 v0_3 a1 p1 i1_3 i1_4 i1_5 i1_6 i1_7 v1_0 v1_1 v1_2)) C0 (c_X1_markFilms l D cs H.size a0 p0 i0_0 i0_1 v0_2 v0_3 a1 p1 i1_3 i1_4 i1_5 i1_6 i1_7 v1_0 v1_1 v1_2 x2 q3 hq) (cwV 2 hts gX1_latestHidden_X1_markFilms rfl rfl rfl (by decide +kernel) ⟨Nat.le_of_ble_eq_true rfl, Nat.le_of_ble_eq_true rfl⟩) 1 rfl rfl hP hD hS (fun q h => Or.inr h) [0, 1, 2, 3, 4, 5, 6] [] [0, 1, 2, 3, 4, 5, 6] rfl (by decide) rfl (by decide) (by decide) rfl (by decide) rfl hl.1 rfl (Nat.le_of_ble_eq_true rfl) ⟨Nat.zero_le _, Nat.zero_le _⟩ dX1_latestHidden_3 (fun H locs hP hD hS => ?_)
  refine lv_sipush (v := 200) hx hb dX1_latestHidden_6 (by decide) ?_
  refine lv_istore_n (lv' := [(3, .int 200), (0, .ref a0), (1, .ref a1), (2, .int x2)]) hx hb dX1_latestHidden_9 rfl hl (by decide) rfl (fun ls hl => ?_)
  exact w_X1_latestHidden_b10 C0 a0 p0 i0_0 i0_1 v0_3 a1 p1 i1_3 i1_4 i1_5 i1_6 i1_7 v1_0 v1_1 v1_2 res 4000 q3 (200) hf _ _ _ hP hD hS (lv_sub hl [1, 0] rfl)
theorem in_X1_earliest_X1 : ∀ w ∈ u_ws RX1 TX1 4, w ∈ wsX1_earliest := fun w h => List.mem_cons_of_mem _ (List.mem_append_left _ (List.mem_append_right _ h))
abbrev W_X1_earliest (cs : Nat → ClassId) (a0 : Nat) (p0 : Nat → Nat) (i0_0 : Int32) (i0_1 : Int32) (v0_2 : Nat → Int32) (v0_3 : Nat → Int32) (a1 : Nat) (p1 : Nat → Nat) (i1_3 : Int32) (i1_4 : Int32) (i1_5 : Int32) (i1_6 : Int32) (i1_7 : Int32) (v1_0 : Nat → Int32) (v1_1 : Nat → Int32) (v1_2 : Nat → Int32) : va_W := wX1 cs a0 p0 i0_0 i0_1 v0_2 v0_3 ++ wX2 cs a1 p1 i1_3 i1_4 i1_5 i1_6 i1_7 v1_0 v1_1 v1_2
abbrev rm_X1_earliest : Room := { frames := 2, cells := 0, slots := 0, locals := 47 }
def f_X1_earliest_b8  (v1_0 : Nat → Int32) (v1_1 : Nat → Int32)  : Nat → (Nat → Int32) → Int32 → Option (Int32 × (Nat → Int32))
  | 0, _, _ => none
  | n + 1, v0_2, x3 => if 200 < x3 then (some ((-1), v0_2)) else (ck x3 201 (if (v0_2 (x3).toNatClampNeg) = 0 then (f_X1_earliest_b8 v1_0 v1_1 n v0_2 (x3 + 1)) else (some (x3, v0_2))))
set_option maxHeartbeats 4000000 in
set_option maxRecDepth 100000 in
theorem w_X1_earliest_b8 {p : Program} {l : Launch} {e : Env} {s : State} {m : MethodId} {below : List Frame} {meth : Method} {c : Code} {D : va_G} {cs : Nat → ClassId} {av : Array Value} {w0 : va_W} (C0 : Cx p s m meth c av wsX1_earliest cX1_earliest 4 (some .int) RX1 D cs w0)  (a0 : Nat) (p0 : Nat → Nat) (i0_0 : Int32) (i0_1 : Int32) (v0_3 : Nat → Int32) (a1 : Nat) (p1 : Nat → Nat) (i1_3 : Int32) (i1_4 : Int32) (i1_5 : Int32) (i1_6 : Int32) (i1_7 : Int32) (v1_0 : Nat → Int32) (v1_1 : Nat → Int32) (v1_2 : Nat → Int32) (res : Int32 × (Nat → Int32))  : ∀ (n : Nat) (v0_2 : Nat → Int32) (x3 : Int32), f_X1_earliest_b8 v1_0 v1_1 n v0_2 x3 = some res → ∀ (H : Heap) (locs : List Loc) (ls : Array Slot), va_P D vwCl (W_X1_earliest cs a0 p0 i0_0 i0_1 v0_2 v0_3 a1 p1 i1_3 i1_4 i1_5 i1_6 i1_7 v1_0 v1_1 v1_2) H → va_D (va_A w0 s.heap.size) (W_X1_earliest cs a0 p0 i0_0 i0_1 v0_2 v0_3 a1 p1 i1_3 i1_4 i1_5 i1_6 i1_7 v1_0 v1_1 v1_2) → va_S (va_A w0 s.heap.size) s.heap H locs → lv_has ls 4 [(0, .ref a0), (3, .int x3)] → W p l e rm_X1_earliest s m av below meth c H locs 0 0 (MQ below (oI D cs w0 (W_X1_earliest cs a0 p0 i0_0 i0_1 res.2 v0_3 a1 p1 i1_3 i1_4 i1_5 i1_6 i1_7 v1_0 v1_1 v1_2) res.1 s.heap.size) av s 0 0 (va_A w0 s.heap.size)) (F0 m 8 ls []) := by
  obtain ⟨hx, hb, hr, hlk, hml, hown, hts, hK, hG, hE⟩ := id C0
  intro n
  induction n with
  | zero =>
    intro v0_2 x3 hf
    rw [f_X1_earliest_b8] at hf
    cases hf
  | succ n ih =>
    intro v0_2 x3 hf H locs ls hP hD hS hl
    rw [f_X1_earliest_b8] at hf
    refine lv_iload_n hx hb dX1_earliest_8 rfl (lv_at hl 1 rfl) ?_
    refine lv_sipush (v := 200) hx hb dX1_earliest_9 (by decide) ?_
    refine lv_icmp_gt (tgt := 32) hx hb dX1_earliest_12 (by decide) (fun hc => ?_) (fun hc => ?_)
    · replace hf := ow_t hc hf
      refine lv_iconst (v := (-1)) hx hb dX1_earliest_32 (by decide) ?_
      obtain rfl := Option.some.inj hf
      exact ow_retI C0 hP hD hS dX1_earliest_33
    · replace hf := ow_f hc hf
      refine lv_aload_n hx hb dX1_earliest_15 rfl (lv_at hl 0 rfl) ?_
      refine va_get (D := D) (ci := 1) (v := .ref (p0 2)) (C := RX1) (T := TX1) (N := 4) hx hb hts in_X1_earliest_X1 hown hK hP 0 rfl rfl 2 (by decide) (hts (.fieldLink RX1 9 "PaneDays$Gaze" "mark" "[I") (List.mem_of_getElem? (i := 1) rfl)) (fun _ h9 => h9) rfl dX1_earliest_16 ?_
      refine lv_iload_n hx hb dX1_earliest_19 rfl (lv_at hl 1 rfl) ?_
      obtain ⟨hin, hf⟩ := ck_some hf
      refine va_iald (f := v0_2) hx hb hK hP 1 0 rfl rfl hin dX1_earliest_20 ?_
      refine lv_if_eq (tgt := 26) hx hb dX1_earliest_21 (by decide) (fun hc => ?_) (fun hc => ?_)
      · replace hf := ow_t hc hf
        refine lv_iinc (v := x3 + 1) (lv' := [(3, .int (x3 + 1)), (0, .ref a0)]) hx hb dX1_earliest_26 hl (k := 1) rfl (ow_inc (by decide)) (by decide) rfl (fun ls hl => ?_)
        refine lv_goto (tgt := 8) hx hb dX1_earliest_29 (by decide) ?_
        exact ih v0_2 (x3 + 1) hf _ _ _ hP hD hS (lv_sub hl [1, 0] rfl)
      · replace hf := ow_f hc hf
        refine lv_iload_n hx hb dX1_earliest_24 rfl (lv_at hl 1 rfl) ?_
        obtain rfl := Option.some.inj hf
        exact ow_retI C0 hP hD hS dX1_earliest_25
def f_X1_earliest  (v0_2 : Nat → Int32) (v1_0 : Nat → Int32) (v1_1 : Nat → Int32) (x2 : Int32) : Option (Int32 × (Nat → Int32)) := (f_X1_markFilms v0_2 v1_0 v1_1 x2).bind fun q3 => f_X1_earliest_b8 v1_0 v1_1 4000 q3 (1)
set_option maxHeartbeats 4000000 in
set_option maxRecDepth 100000 in
theorem c_X1_earliest (l : Launch) (D : va_G) (cs : Nat → ClassId)  (sz : Nat) (a0 : Nat) (p0 : Nat → Nat) (i0_0 : Int32) (i0_1 : Int32) (v0_2 : Nat → Int32) (v0_3 : Nat → Int32) (a1 : Nat) (p1 : Nat → Nat) (i1_3 : Int32) (i1_4 : Int32) (i1_5 : Int32) (i1_6 : Int32) (i1_7 : Int32) (v1_0 : Nat → Int32) (v1_1 : Nat → Int32) (v1_2 : Nat → Int32) (x2 : Int32) (res : Int32 × (Nat → Int32)) (hf : f_X1_earliest  v0_2 v1_0 v1_1 x2 = some res) : MI l D cs yX1_earliest wsX1_earliest rm_X1_earliest [.ref a0, .ref a1, .int x2] sz (W_X1_earliest cs a0 p0 i0_0 i0_1 v0_2 v0_3 a1 p1 i1_3 i1_4 i1_5 i1_6 i1_7 v1_0 v1_1 v1_2) (W_X1_earliest cs a0 p0 i0_0 i0_1 res.2 v0_3 a1 p1 i1_3 i1_4 i1_5 i1_6 i1_7 v1_0 v1_1 v1_2) res.1 := by
  rw [f_X1_earliest] at hf
  refine ow_enter (cc := cX1_earliest) (nL := 4) (ret := (some .int)) (by decide) rfl (Nat.le_of_ble_eq_true rfl) (fun p e s m below meth c ls H locs C0 hP hD hS hA hl => ?_)
  obtain ⟨hx, hb, hr, hlk, hml, hown, hts, hK, hG, hE⟩ := id C0
  have hl : lv_has ls 4 [(0, .ref a0), (1, .ref a1), (2, .int x2)] := hl
  refine lv_aload_n hx hb dX1_earliest_0 rfl (lv_at hl 0 rfl) ?_
  refine lv_aload_n hx hb dX1_earliest_1 rfl (lv_at hl 1 rfl) ?_
  refine lv_iload_n hx hb dX1_earliest_2 rfl (lv_at hl 2 rfl) ?_
  obtain ⟨q3, hq, hf⟩ := bd_some hf
  refine ow_callVV (As := [.ref a1, .int x2]) (rest := []) (wr := ow_pk (W_X1_earliest cs a0 p0 i0_0 i0_1 v0_2 v0_3 a1 p1 i1_3 i1_4 i1_5 i1_6 i1_7 v1_0 v1_1 v1_2) []) (wf := (W_X1_earliest cs a0 p0 i0_0 i0_1 q3 v0_3 a1 p1 i1_3 i1_4 i1_5 i1_6 i1_7 v1_0 v1_1 v1_2)) C0 (c_X1_markFilms l D cs H.size a0 p0 i0_0 i0_1 v0_2 v0_3 a1 p1 i1_3 i1_4 i1_5 i1_6 i1_7 v1_0 v1_1 v1_2 x2 q3 hq) (cwV 2 hts gX1_earliest_X1_markFilms rfl rfl rfl (by decide +kernel) ⟨Nat.le_of_ble_eq_true rfl, Nat.le_of_ble_eq_true rfl⟩) 1 rfl rfl hP hD hS (fun q h => Or.inr h) [0, 1, 2, 3, 4, 5, 6] [] [0, 1, 2, 3, 4, 5, 6] rfl (by decide) rfl (by decide) (by decide) rfl (by decide) rfl hl.1 rfl (Nat.le_of_ble_eq_true rfl) ⟨Nat.zero_le _, Nat.zero_le _⟩ dX1_earliest_3 (fun H locs hP hD hS => ?_)
  refine lv_iconst (v := 1) hx hb dX1_earliest_6 (by decide) ?_
  refine lv_istore_n (lv' := [(3, .int 1), (0, .ref a0), (1, .ref a1), (2, .int x2)]) hx hb dX1_earliest_7 rfl hl (by decide) rfl (fun ls hl => ?_)
  exact w_X1_earliest_b8 C0 a0 p0 i0_0 i0_1 v0_3 a1 p1 i1_3 i1_4 i1_5 i1_6 i1_7 v1_0 v1_1 v1_2 res 4000 q3 (1) hf _ _ _ hP hD hS (lv_sub hl [1, 0] rfl)
theorem in_X1_countDaysShown_X1 : ∀ w ∈ u_ws RX1 TX1 4, w ∈ wsX1_countDaysShown := fun w h => List.mem_cons_of_mem _ (List.mem_append_left _ (List.mem_append_right _ h))
abbrev W_X1_countDaysShown (cs : Nat → ClassId) (a0 : Nat) (p0 : Nat → Nat) (i0_0 : Int32) (i0_1 : Int32) (v0_2 : Nat → Int32) (v0_3 : Nat → Int32) (a1 : Nat) (p1 : Nat → Nat) (i1_3 : Int32) (i1_4 : Int32) (i1_5 : Int32) (i1_6 : Int32) (i1_7 : Int32) (v1_0 : Nat → Int32) (v1_1 : Nat → Int32) (v1_2 : Nat → Int32) : va_W := wX1 cs a0 p0 i0_0 i0_1 v0_2 v0_3 ++ wX2 cs a1 p1 i1_3 i1_4 i1_5 i1_6 i1_7 v1_0 v1_1 v1_2
abbrev rm_X1_countDaysShown : Room := { frames := 2, cells := 0, slots := 0, locals := 47 }
def f_X1_countDaysShown_b11  (v1_0 : Nat → Int32) (v1_1 : Nat → Int32)  : Nat → (Nat → Int32) → Int32 → Int32 → Option (Int32 × (Nat → Int32))
  | 0, _, _, _ => none
  | n + 1, v0_2, x3, x4 => if 200 < x4 then (some (x3, v0_2)) else (ck x4 201 (f_X1_countDaysShown_b11 v1_0 v1_1 n v0_2 (x3 + ((v0_2 (x4).toNatClampNeg) >>> (((1 : Int32)) &&& 31))) (x4 + 1)))
set_option maxHeartbeats 4000000 in
set_option maxRecDepth 100000 in
theorem w_X1_countDaysShown_b11 {p : Program} {l : Launch} {e : Env} {s : State} {m : MethodId} {below : List Frame} {meth : Method} {c : Code} {D : va_G} {cs : Nat → ClassId} {av : Array Value} {w0 : va_W} (C0 : Cx p s m meth c av wsX1_countDaysShown cX1_countDaysShown 5 (some .int) RX1 D cs w0)  (a0 : Nat) (p0 : Nat → Nat) (i0_0 : Int32) (i0_1 : Int32) (v0_3 : Nat → Int32) (a1 : Nat) (p1 : Nat → Nat) (i1_3 : Int32) (i1_4 : Int32) (i1_5 : Int32) (i1_6 : Int32) (i1_7 : Int32) (v1_0 : Nat → Int32) (v1_1 : Nat → Int32) (v1_2 : Nat → Int32) (res : Int32 × (Nat → Int32))  : ∀ (n : Nat) (v0_2 : Nat → Int32) (x3 : Int32) (x4 : Int32), f_X1_countDaysShown_b11 v1_0 v1_1 n v0_2 x3 x4 = some res → ∀ (H : Heap) (locs : List Loc) (ls : Array Slot), va_P D vwCl (W_X1_countDaysShown cs a0 p0 i0_0 i0_1 v0_2 v0_3 a1 p1 i1_3 i1_4 i1_5 i1_6 i1_7 v1_0 v1_1 v1_2) H → va_D (va_A w0 s.heap.size) (W_X1_countDaysShown cs a0 p0 i0_0 i0_1 v0_2 v0_3 a1 p1 i1_3 i1_4 i1_5 i1_6 i1_7 v1_0 v1_1 v1_2) → va_S (va_A w0 s.heap.size) s.heap H locs → lv_has ls 5 [(0, .ref a0), (3, .int x3), (4, .int x4)] → W p l e rm_X1_countDaysShown s m av below meth c H locs 0 0 (MQ below (oI D cs w0 (W_X1_countDaysShown cs a0 p0 i0_0 i0_1 res.2 v0_3 a1 p1 i1_3 i1_4 i1_5 i1_6 i1_7 v1_0 v1_1 v1_2) res.1 s.heap.size) av s 0 0 (va_A w0 s.heap.size)) (F0 m 11 ls []) := by
  obtain ⟨hx, hb, hr, hlk, hml, hown, hts, hK, hG, hE⟩ := id C0
  intro n
  induction n with
  | zero =>
    intro v0_2 x3 x4 hf
    rw [f_X1_countDaysShown_b11] at hf
    cases hf
  | succ n ih =>
    intro v0_2 x3 x4 hf H locs ls hP hD hS hl
    rw [f_X1_countDaysShown_b11] at hf
    refine lv_iload hx hb dX1_countDaysShown_11 (lv_at hl 2 rfl) ?_
    refine lv_sipush (v := 200) hx hb dX1_countDaysShown_13 (by decide) ?_
    refine lv_icmp_gt (tgt := 37) hx hb dX1_countDaysShown_16 (by decide) (fun hc => ?_) (fun hc => ?_)
    · replace hf := ow_t hc hf
      refine lv_iload_n hx hb dX1_countDaysShown_37 rfl (lv_at hl 1 rfl) ?_
      obtain rfl := Option.some.inj hf
      exact ow_retI C0 hP hD hS dX1_countDaysShown_38
    · replace hf := ow_f hc hf
      refine lv_iload_n hx hb dX1_countDaysShown_19 rfl (lv_at hl 1 rfl) ?_
      refine lv_aload_n hx hb dX1_countDaysShown_20 rfl (lv_at hl 0 rfl) ?_
      refine va_get (D := D) (ci := 1) (v := .ref (p0 2)) (C := RX1) (T := TX1) (N := 4) hx hb hts in_X1_countDaysShown_X1 hown hK hP 0 rfl rfl 2 (by decide) (hts (.fieldLink RX1 9 "PaneDays$Gaze" "mark" "[I") (List.mem_of_getElem? (i := 1) rfl)) (fun _ h9 => h9) rfl dX1_countDaysShown_21 ?_
      refine lv_iload hx hb dX1_countDaysShown_24 (lv_at hl 2 rfl) ?_
      obtain ⟨hin, hf⟩ := ck_some hf
      refine va_iald (f := v0_2) hx hb hK hP 1 0 rfl rfl hin dX1_countDaysShown_26 ?_
      refine lv_iconst (v := 1) hx hb dX1_countDaysShown_27 (by decide) ?_
      refine lv_ishr hx hb dX1_countDaysShown_28 ?_
      refine lv_iadd hx hb dX1_countDaysShown_29 ?_
      refine lv_istore_n (lv' := [(3, .int (x3 + ((v0_2 (x4).toNatClampNeg) >>> (((1 : Int32)) &&& 31)))), (0, .ref a0), (4, .int x4)]) hx hb dX1_countDaysShown_30 rfl hl (by decide) rfl (fun ls hl => ?_)
      refine lv_iinc (v := x4 + 1) (lv' := [(4, .int (x4 + 1)), (3, .int (x3 + ((v0_2 (x4).toNatClampNeg) >>> (((1 : Int32)) &&& 31)))), (0, .ref a0)]) hx hb dX1_countDaysShown_31 hl (k := 2) rfl (ow_inc (by decide)) (by decide) rfl (fun ls hl => ?_)
      refine lv_goto (tgt := 11) hx hb dX1_countDaysShown_34 (by decide) ?_
      exact ih v0_2 (x3 + ((v0_2 (x4).toNatClampNeg) >>> (((1 : Int32)) &&& 31))) (x4 + 1) hf _ _ _ hP hD hS (lv_sub hl [2, 1, 0] rfl)
def f_X1_countDaysShown  (v0_2 : Nat → Int32) (v1_0 : Nat → Int32) (v1_1 : Nat → Int32) (x2 : Int32) : Option (Int32 × (Nat → Int32)) := (f_X1_markFilms v0_2 v1_0 v1_1 x2).bind fun q3 => f_X1_countDaysShown_b11 v1_0 v1_1 4000 q3 (0) (1)
set_option maxHeartbeats 4000000 in
set_option maxRecDepth 100000 in
theorem c_X1_countDaysShown (l : Launch) (D : va_G) (cs : Nat → ClassId)  (sz : Nat) (a0 : Nat) (p0 : Nat → Nat) (i0_0 : Int32) (i0_1 : Int32) (v0_2 : Nat → Int32) (v0_3 : Nat → Int32) (a1 : Nat) (p1 : Nat → Nat) (i1_3 : Int32) (i1_4 : Int32) (i1_5 : Int32) (i1_6 : Int32) (i1_7 : Int32) (v1_0 : Nat → Int32) (v1_1 : Nat → Int32) (v1_2 : Nat → Int32) (x2 : Int32) (res : Int32 × (Nat → Int32)) (hf : f_X1_countDaysShown  v0_2 v1_0 v1_1 x2 = some res) : MI l D cs yX1_countDaysShown wsX1_countDaysShown rm_X1_countDaysShown [.ref a0, .ref a1, .int x2] sz (W_X1_countDaysShown cs a0 p0 i0_0 i0_1 v0_2 v0_3 a1 p1 i1_3 i1_4 i1_5 i1_6 i1_7 v1_0 v1_1 v1_2) (W_X1_countDaysShown cs a0 p0 i0_0 i0_1 res.2 v0_3 a1 p1 i1_3 i1_4 i1_5 i1_6 i1_7 v1_0 v1_1 v1_2) res.1 := by
  rw [f_X1_countDaysShown] at hf
  refine ow_enter (cc := cX1_countDaysShown) (nL := 5) (ret := (some .int)) (by decide) rfl (Nat.le_of_ble_eq_true rfl) (fun p e s m below meth c ls H locs C0 hP hD hS hA hl => ?_)
  obtain ⟨hx, hb, hr, hlk, hml, hown, hts, hK, hG, hE⟩ := id C0
  have hl : lv_has ls 5 [(0, .ref a0), (1, .ref a1), (2, .int x2)] := hl
  refine lv_aload_n hx hb dX1_countDaysShown_0 rfl (lv_at hl 0 rfl) ?_
  refine lv_aload_n hx hb dX1_countDaysShown_1 rfl (lv_at hl 1 rfl) ?_
  refine lv_iload_n hx hb dX1_countDaysShown_2 rfl (lv_at hl 2 rfl) ?_
  obtain ⟨q3, hq, hf⟩ := bd_some hf
  refine ow_callVV (As := [.ref a1, .int x2]) (rest := []) (wr := ow_pk (W_X1_countDaysShown cs a0 p0 i0_0 i0_1 v0_2 v0_3 a1 p1 i1_3 i1_4 i1_5 i1_6 i1_7 v1_0 v1_1 v1_2) []) (wf := (W_X1_countDaysShown cs a0 p0 i0_0 i0_1 q3 v0_3 a1 p1 i1_3 i1_4 i1_5 i1_6 i1_7 v1_0 v1_1 v1_2)) C0 (c_X1_markFilms l D cs H.size a0 p0 i0_0 i0_1 v0_2 v0_3 a1 p1 i1_3 i1_4 i1_5 i1_6 i1_7 v1_0 v1_1 v1_2 x2 q3 hq) (cwV 2 hts gX1_countDaysShown_X1_markFilms rfl rfl rfl (by decide +kernel) ⟨Nat.le_of_ble_eq_true rfl, Nat.le_of_ble_eq_true rfl⟩) 1 rfl rfl hP hD hS (fun q h => Or.inr h) [0, 1, 2, 3, 4, 5, 6] [] [0, 1, 2, 3, 4, 5, 6] rfl (by decide) rfl (by decide) (by decide) rfl (by decide) rfl hl.1 rfl (Nat.le_of_ble_eq_true rfl) ⟨Nat.zero_le _, Nat.zero_le _⟩ dX1_countDaysShown_3 (fun H locs hP hD hS => ?_)
  refine lv_iconst (v := 0) hx hb dX1_countDaysShown_6 (by decide) ?_
  refine lv_istore_n (lv' := [(3, .int 0), (0, .ref a0), (1, .ref a1), (2, .int x2)]) hx hb dX1_countDaysShown_7 rfl hl (by decide) rfl (fun ls hl => ?_)
  refine lv_iconst (v := 1) hx hb dX1_countDaysShown_8 (by decide) ?_
  refine lv_istore (lv' := [(4, .int 1), (3, .int 0), (0, .ref a0), (1, .ref a1), (2, .int x2)]) hx hb dX1_countDaysShown_9 hl (by decide) rfl (fun ls hl => ?_)
  exact w_X1_countDaysShown_b11 C0 a0 p0 i0_0 i0_1 v0_3 a1 p1 i1_3 i1_4 i1_5 i1_6 i1_7 v1_0 v1_1 v1_2 res 4000 q3 (0) (1) hf _ _ _ hP hD hS (lv_sub hl [2, 1, 0] rfl)
abbrev W_X1_isSeam (cs : Nat → ClassId) (a0 : Nat) (p0 : Nat → Nat) (i0_3 : Int32) (i0_4 : Int32) (i0_5 : Int32) (i0_6 : Int32) (i0_7 : Int32) (v0_0 : Nat → Int32) (v0_1 : Nat → Int32) (v0_2 : Nat → Int32) : va_W := wX2 cs a0 p0 i0_3 i0_4 i0_5 i0_6 i0_7 v0_0 v0_1 v0_2
abbrev rm_X1_isSeam : Room := { frames := 1, cells := 0, slots := 0, locals := 21 }
def f_X1_isSeam  (v0_0 : Nat → Int32) (v0_1 : Nat → Int32) (x1 : Int32) (x2 : Int32) (x3 : Int32) : Option (Int32) := (f_X2_shown v0_0 v0_1 ((16 * x1) + x2)).bind fun q7 => (f_X2_shown v0_0 v0_1 ((16 * x1) + x3)).bind fun q17 => if q7 = q17 then (some (0)) else (some (1))
set_option maxHeartbeats 4000000 in
set_option maxRecDepth 100000 in
theorem c_X1_isSeam (l : Launch) (D : va_G) (cs : Nat → ClassId)  (sz : Nat) (a0 : Nat) (p0 : Nat → Nat) (i0_3 : Int32) (i0_4 : Int32) (i0_5 : Int32) (i0_6 : Int32) (i0_7 : Int32) (v0_0 : Nat → Int32) (v0_1 : Nat → Int32) (v0_2 : Nat → Int32) (x1 : Int32) (x2 : Int32) (x3 : Int32) (res : Int32) (hf : f_X1_isSeam  v0_0 v0_1 x1 x2 x3 = some res) : MI l D cs yX1_isSeam wsX1_isSeam rm_X1_isSeam [.ref a0, .int x1, .int x2, .int x3] sz (W_X1_isSeam cs a0 p0 i0_3 i0_4 i0_5 i0_6 i0_7 v0_0 v0_1 v0_2) (W_X1_isSeam cs a0 p0 i0_3 i0_4 i0_5 i0_6 i0_7 v0_0 v0_1 v0_2) res := by
  rw [f_X1_isSeam] at hf
  refine ow_enter (cc := cX1_isSeam) (nL := 4) (ret := (some .boolean)) (by decide) rfl (Nat.le_of_ble_eq_true rfl) (fun p e s m below meth c ls H locs C0 hP hD hS hA hl => ?_)
  obtain ⟨hx, hb, hr, hlk, hml, hown, hts, hK, hG, hE⟩ := id C0
  have hl : lv_has ls 4 [(0, .ref a0), (1, .int x1), (2, .int x2), (3, .int x3)] := hl
  refine lv_aload_n hx hb dX1_isSeam_0 rfl (lv_at hl 0 rfl) ?_
  refine lv_bipush (v := 16) hx hb dX1_isSeam_1 (by decide) ?_
  refine lv_iload_n hx hb dX1_isSeam_3 rfl (lv_at hl 1 rfl) ?_
  refine lv_imul hx hb dX1_isSeam_4 ?_
  refine lv_iload_n hx hb dX1_isSeam_5 rfl (lv_at hl 2 rfl) ?_
  refine lv_iadd hx hb dX1_isSeam_6 ?_
  obtain ⟨q7, hq, hf⟩ := bd_some hf
  refine ow_callVI (As := [.int ((16 * x1) + x2)]) (rest := []) (wr := ow_pk (W_X1_isSeam cs a0 p0 i0_3 i0_4 i0_5 i0_6 i0_7 v0_0 v0_1 v0_2) []) (wf := (W_X1_isSeam cs a0 p0 i0_3 i0_4 i0_5 i0_6 i0_7 v0_0 v0_1 v0_2)) (r := q7) C0 (c_X2_shown l D cs H.size a0 p0 i0_3 i0_4 i0_5 i0_6 i0_7 v0_0 v0_1 v0_2 ((16 * x1) + x2) q7 hq) (cwV 1 hts gX1_isSeam_X2_shown rfl rfl rfl (by decide +kernel) ⟨Nat.le_of_ble_eq_true rfl, Nat.le_of_ble_eq_true rfl⟩) 2 rfl rfl hP hD hS (fun q h => Or.inr h) [0, 1, 2, 3] [] [0, 1, 2, 3] rfl (by decide) rfl (by decide) (by decide) rfl (by decide) rfl hl.1 rfl (Nat.le_of_ble_eq_true rfl) ⟨Nat.zero_le _, Nat.zero_le _⟩ dX1_isSeam_7 (fun H locs hP hD hS => ?_)
  refine lv_aload_n hx hb dX1_isSeam_10 rfl (lv_at hl 0 rfl) ?_
  refine lv_bipush (v := 16) hx hb dX1_isSeam_11 (by decide) ?_
  refine lv_iload_n hx hb dX1_isSeam_13 rfl (lv_at hl 1 rfl) ?_
  refine lv_imul hx hb dX1_isSeam_14 ?_
  refine lv_iload_n hx hb dX1_isSeam_15 rfl (lv_at hl 3 rfl) ?_
  refine lv_iadd hx hb dX1_isSeam_16 ?_
  obtain ⟨q17, hq, hf⟩ := bd_some hf
  refine ow_callVI (As := [.int ((16 * x1) + x3)]) (rest := [.int q7]) (wr := ow_pk (W_X1_isSeam cs a0 p0 i0_3 i0_4 i0_5 i0_6 i0_7 v0_0 v0_1 v0_2) []) (wf := (W_X1_isSeam cs a0 p0 i0_3 i0_4 i0_5 i0_6 i0_7 v0_0 v0_1 v0_2)) (r := q17) C0 (c_X2_shown l D cs H.size a0 p0 i0_3 i0_4 i0_5 i0_6 i0_7 v0_0 v0_1 v0_2 ((16 * x1) + x3) q17 hq) (cwV 1 hts gX1_isSeam_X2_shown rfl rfl rfl (by decide +kernel) ⟨Nat.le_of_ble_eq_true rfl, Nat.le_of_ble_eq_true rfl⟩) 2 rfl rfl hP hD hS (fun q h => Or.inr h) [0, 1, 2, 3] [] [0, 1, 2, 3] rfl (by decide) rfl (by decide) (by decide) rfl (by decide) rfl hl.1 rfl (Nat.le_of_ble_eq_true rfl) ⟨Nat.zero_le _, Nat.zero_le _⟩ dX1_isSeam_17 (fun H locs hP hD hS => ?_)
  refine lv_icmp_eq (tgt := 27) hx hb dX1_isSeam_20 (by decide) (fun hc => ?_) (fun hc => ?_)
  · replace hf := ow_t hc hf
    refine lv_iconst (v := 0) hx hb dX1_isSeam_27 (by decide) ?_
    obtain rfl := Option.some.inj hf
    exact ow_retZ C0 (Or.inl rfl) hP hD hS dX1_isSeam_28
  · replace hf := ow_f hc hf
    refine lv_iconst (v := 1) hx hb dX1_isSeam_23 (by decide) ?_
    refine lv_goto (tgt := 28) hx hb dX1_isSeam_24 (by decide) ?_
    obtain rfl := Option.some.inj hf
    exact ow_retZ C0 (Or.inr rfl) hP hD hS dX1_isSeam_28
abbrev W_X1_countSeams (cs : Nat → ClassId) (a0 : Nat) (p0 : Nat → Nat) (i0_0 : Int32) (i0_1 : Int32) (v0_2 : Nat → Int32) (v0_3 : Nat → Int32) (a1 : Nat) (p1 : Nat → Nat) (i1_3 : Int32) (i1_4 : Int32) (i1_5 : Int32) (i1_6 : Int32) (i1_7 : Int32) (v1_0 : Nat → Int32) (v1_1 : Nat → Int32) (v1_2 : Nat → Int32) : va_W := wX1 cs a0 p0 i0_0 i0_1 v0_2 v0_3 ++ wX2 cs a1 p1 i1_3 i1_4 i1_5 i1_6 i1_7 v1_0 v1_1 v1_2
abbrev rm_X1_countSeams : Room := { frames := 2, cells := 0, slots := 0, locals := 44 }
def f_X1_countSeams_b127  (v1_0 : Nat → Int32) (v1_1 : Nat → Int32) (k6 : Int32 → Int32 → Int32 → Int32 → Option (Int32))  (x2 : Int32) (x3 : Int32) (x4 : Int32) (x5 : Int32) : Option (Int32) := k6 x2 x3 x4 (x5 + 1)
set_option maxHeartbeats 4000000 in
set_option maxRecDepth 100000 in
theorem w_X1_countSeams_b127 {p : Program} {l : Launch} {e : Env} {s : State} {m : MethodId} {below : List Frame} {meth : Method} {c : Code} {D : va_G} {cs : Nat → ClassId} {av : Array Value} {w0 : va_W} (C0 : Cx p s m meth c av wsX1_countSeams cX1_countSeams 8 (some .int) RX1 D cs w0)  (a0 : Nat) (p0 : Nat → Nat) (i0_0 : Int32) (i0_1 : Int32) (v0_2 : Nat → Int32) (v0_3 : Nat → Int32) (a1 : Nat) (p1 : Nat → Nat) (i1_3 : Int32) (i1_4 : Int32) (i1_5 : Int32) (i1_6 : Int32) (i1_7 : Int32) (v1_0 : Nat → Int32) (v1_1 : Nat → Int32) (v1_2 : Nat → Int32) (res : Int32) (k6 : Int32 → Int32 → Int32 → Int32 → Option (Int32)) (hk6 : ∀ (x2 : Int32) (x3 : Int32) (x4 : Int32) (x5 : Int32), k6 x2 x3 x4 x5 = some res → ∀ (H : Heap) (locs : List Loc) (ls : Array Slot), va_P D vwCl (W_X1_countSeams cs a0 p0 i0_0 i0_1 v0_2 v0_3 a1 p1 i1_3 i1_4 i1_5 i1_6 i1_7 v1_0 v1_1 v1_2) H → va_D (va_A w0 s.heap.size) (W_X1_countSeams cs a0 p0 i0_0 i0_1 v0_2 v0_3 a1 p1 i1_3 i1_4 i1_5 i1_6 i1_7 v1_0 v1_1 v1_2) → va_S (va_A w0 s.heap.size) s.heap H locs → lv_has ls 8 [(1, .ref a1), (2, .int x2), (3, .int x3), (4, .int x4), (5, .int x5)] → W p l e rm_X1_countSeams s m av below meth c H locs 0 0 (MQ below (oI D cs w0 (W_X1_countSeams cs a0 p0 i0_0 i0_1 v0_2 v0_3 a1 p1 i1_3 i1_4 i1_5 i1_6 i1_7 v1_0 v1_1 v1_2) res s.heap.size) av s 0 0 (va_A w0 s.heap.size)) (F0 m 6 ls [])) : ∀ (x2 : Int32) (x3 : Int32) (x4 : Int32) (x5 : Int32), f_X1_countSeams_b127 v1_0 v1_1 k6 x2 x3 x4 x5 = some res → ∀ (H : Heap) (locs : List Loc) (ls : Array Slot), va_P D vwCl (W_X1_countSeams cs a0 p0 i0_0 i0_1 v0_2 v0_3 a1 p1 i1_3 i1_4 i1_5 i1_6 i1_7 v1_0 v1_1 v1_2) H → va_D (va_A w0 s.heap.size) (W_X1_countSeams cs a0 p0 i0_0 i0_1 v0_2 v0_3 a1 p1 i1_3 i1_4 i1_5 i1_6 i1_7 v1_0 v1_1 v1_2) → va_S (va_A w0 s.heap.size) s.heap H locs → lv_has ls 8 [(1, .ref a1), (2, .int x2), (3, .int x3), (4, .int x4), (5, .int x5)] → W p l e rm_X1_countSeams s m av below meth c H locs 0 0 (MQ below (oI D cs w0 (W_X1_countSeams cs a0 p0 i0_0 i0_1 v0_2 v0_3 a1 p1 i1_3 i1_4 i1_5 i1_6 i1_7 v1_0 v1_1 v1_2) res s.heap.size) av s 0 0 (va_A w0 s.heap.size)) (F0 m 127 ls []) := by
  obtain ⟨hx, hb, hr, hlk, hml, hown, hts, hK, hG, hE⟩ := id C0
  intro x2 x3 x4 x5 hf H locs ls hP hD hS hl
  rw [f_X1_countSeams_b127] at hf
  refine lv_iinc (v := x5 + 1) (lv' := [(5, .int (x5 + 1)), (1, .ref a1), (2, .int x2), (3, .int x3), (4, .int x4)]) hx hb dX1_countSeams_127 hl (k := 4) rfl (ow_inc (by decide)) (by decide) rfl (fun ls hl => ?_)
  refine lv_goto (tgt := 6) hx hb dX1_countSeams_130 (by decide) ?_
  exact hk6 x2 x3 x4 (x5 + 1) hf _ _ _ hP hD hS (lv_sub hl [1, 2, 3, 4, 0] rfl)
def f_X1_countSeams_b124  (v1_0 : Nat → Int32) (v1_1 : Nat → Int32) (k6 : Int32 → Int32 → Int32 → Int32 → Option (Int32))  (x2 : Int32) (x3 : Int32) (x5 : Int32) (t0 : Int32) (t1 : Int32) : Option (Int32) := f_X1_countSeams_b127 v1_0 v1_1 k6 x2 x3 (t0 + t1) x5
set_option maxHeartbeats 4000000 in
set_option maxRecDepth 100000 in
theorem w_X1_countSeams_b124 {p : Program} {l : Launch} {e : Env} {s : State} {m : MethodId} {below : List Frame} {meth : Method} {c : Code} {D : va_G} {cs : Nat → ClassId} {av : Array Value} {w0 : va_W} (C0 : Cx p s m meth c av wsX1_countSeams cX1_countSeams 8 (some .int) RX1 D cs w0)  (a0 : Nat) (p0 : Nat → Nat) (i0_0 : Int32) (i0_1 : Int32) (v0_2 : Nat → Int32) (v0_3 : Nat → Int32) (a1 : Nat) (p1 : Nat → Nat) (i1_3 : Int32) (i1_4 : Int32) (i1_5 : Int32) (i1_6 : Int32) (i1_7 : Int32) (v1_0 : Nat → Int32) (v1_1 : Nat → Int32) (v1_2 : Nat → Int32) (res : Int32) (k6 : Int32 → Int32 → Int32 → Int32 → Option (Int32)) (hk6 : ∀ (x2 : Int32) (x3 : Int32) (x4 : Int32) (x5 : Int32), k6 x2 x3 x4 x5 = some res → ∀ (H : Heap) (locs : List Loc) (ls : Array Slot), va_P D vwCl (W_X1_countSeams cs a0 p0 i0_0 i0_1 v0_2 v0_3 a1 p1 i1_3 i1_4 i1_5 i1_6 i1_7 v1_0 v1_1 v1_2) H → va_D (va_A w0 s.heap.size) (W_X1_countSeams cs a0 p0 i0_0 i0_1 v0_2 v0_3 a1 p1 i1_3 i1_4 i1_5 i1_6 i1_7 v1_0 v1_1 v1_2) → va_S (va_A w0 s.heap.size) s.heap H locs → lv_has ls 8 [(1, .ref a1), (2, .int x2), (3, .int x3), (4, .int x4), (5, .int x5)] → W p l e rm_X1_countSeams s m av below meth c H locs 0 0 (MQ below (oI D cs w0 (W_X1_countSeams cs a0 p0 i0_0 i0_1 v0_2 v0_3 a1 p1 i1_3 i1_4 i1_5 i1_6 i1_7 v1_0 v1_1 v1_2) res s.heap.size) av s 0 0 (va_A w0 s.heap.size)) (F0 m 6 ls [])) : ∀ (x2 : Int32) (x3 : Int32) (x5 : Int32) (t0 : Int32) (t1 : Int32), f_X1_countSeams_b124 v1_0 v1_1 k6 x2 x3 x5 t0 t1 = some res → ∀ (H : Heap) (locs : List Loc) (ls : Array Slot), va_P D vwCl (W_X1_countSeams cs a0 p0 i0_0 i0_1 v0_2 v0_3 a1 p1 i1_3 i1_4 i1_5 i1_6 i1_7 v1_0 v1_1 v1_2) H → va_D (va_A w0 s.heap.size) (W_X1_countSeams cs a0 p0 i0_0 i0_1 v0_2 v0_3 a1 p1 i1_3 i1_4 i1_5 i1_6 i1_7 v1_0 v1_1 v1_2) → va_S (va_A w0 s.heap.size) s.heap H locs → lv_has ls 8 [(1, .ref a1), (2, .int x2), (3, .int x3), (5, .int x5)] → W p l e rm_X1_countSeams s m av below meth c H locs 0 0 (MQ below (oI D cs w0 (W_X1_countSeams cs a0 p0 i0_0 i0_1 v0_2 v0_3 a1 p1 i1_3 i1_4 i1_5 i1_6 i1_7 v1_0 v1_1 v1_2) res s.heap.size) av s 0 0 (va_A w0 s.heap.size)) (F0 m 124 ls [.int t1, .int t0]) := by
  obtain ⟨hx, hb, hr, hlk, hml, hown, hts, hK, hG, hE⟩ := id C0
  intro x2 x3 x5 t0 t1 hf H locs ls hP hD hS hl
  rw [f_X1_countSeams_b124] at hf
  refine lv_iadd hx hb dX1_countSeams_124 ?_
  refine lv_istore (lv' := [(4, .int (t0 + t1)), (1, .ref a1), (2, .int x2), (3, .int x3), (5, .int x5)]) hx hb dX1_countSeams_125 hl (by decide) rfl (fun ls hl => ?_)
  exact w_X1_countSeams_b127 C0 a0 p0 i0_0 i0_1 v0_2 v0_3 a1 p1 i1_3 i1_4 i1_5 i1_6 i1_7 v1_0 v1_1 v1_2 res k6 hk6 x2 x3 (t0 + t1) x5 hf _ _ _ hP hD hS (lv_sub hl [1, 2, 3, 0, 4] rfl)
def f_X1_countSeams_b123  (v1_0 : Nat → Int32) (v1_1 : Nat → Int32) (k6 : Int32 → Int32 → Int32 → Int32 → Option (Int32))  (x2 : Int32) (x3 : Int32) (x5 : Int32) (t0 : Int32) : Option (Int32) := f_X1_countSeams_b124 v1_0 v1_1 k6 x2 x3 x5 t0 (0)
set_option maxHeartbeats 4000000 in
set_option maxRecDepth 100000 in
theorem w_X1_countSeams_b123 {p : Program} {l : Launch} {e : Env} {s : State} {m : MethodId} {below : List Frame} {meth : Method} {c : Code} {D : va_G} {cs : Nat → ClassId} {av : Array Value} {w0 : va_W} (C0 : Cx p s m meth c av wsX1_countSeams cX1_countSeams 8 (some .int) RX1 D cs w0)  (a0 : Nat) (p0 : Nat → Nat) (i0_0 : Int32) (i0_1 : Int32) (v0_2 : Nat → Int32) (v0_3 : Nat → Int32) (a1 : Nat) (p1 : Nat → Nat) (i1_3 : Int32) (i1_4 : Int32) (i1_5 : Int32) (i1_6 : Int32) (i1_7 : Int32) (v1_0 : Nat → Int32) (v1_1 : Nat → Int32) (v1_2 : Nat → Int32) (res : Int32) (k6 : Int32 → Int32 → Int32 → Int32 → Option (Int32)) (hk6 : ∀ (x2 : Int32) (x3 : Int32) (x4 : Int32) (x5 : Int32), k6 x2 x3 x4 x5 = some res → ∀ (H : Heap) (locs : List Loc) (ls : Array Slot), va_P D vwCl (W_X1_countSeams cs a0 p0 i0_0 i0_1 v0_2 v0_3 a1 p1 i1_3 i1_4 i1_5 i1_6 i1_7 v1_0 v1_1 v1_2) H → va_D (va_A w0 s.heap.size) (W_X1_countSeams cs a0 p0 i0_0 i0_1 v0_2 v0_3 a1 p1 i1_3 i1_4 i1_5 i1_6 i1_7 v1_0 v1_1 v1_2) → va_S (va_A w0 s.heap.size) s.heap H locs → lv_has ls 8 [(1, .ref a1), (2, .int x2), (3, .int x3), (4, .int x4), (5, .int x5)] → W p l e rm_X1_countSeams s m av below meth c H locs 0 0 (MQ below (oI D cs w0 (W_X1_countSeams cs a0 p0 i0_0 i0_1 v0_2 v0_3 a1 p1 i1_3 i1_4 i1_5 i1_6 i1_7 v1_0 v1_1 v1_2) res s.heap.size) av s 0 0 (va_A w0 s.heap.size)) (F0 m 6 ls [])) : ∀ (x2 : Int32) (x3 : Int32) (x5 : Int32) (t0 : Int32), f_X1_countSeams_b123 v1_0 v1_1 k6 x2 x3 x5 t0 = some res → ∀ (H : Heap) (locs : List Loc) (ls : Array Slot), va_P D vwCl (W_X1_countSeams cs a0 p0 i0_0 i0_1 v0_2 v0_3 a1 p1 i1_3 i1_4 i1_5 i1_6 i1_7 v1_0 v1_1 v1_2) H → va_D (va_A w0 s.heap.size) (W_X1_countSeams cs a0 p0 i0_0 i0_1 v0_2 v0_3 a1 p1 i1_3 i1_4 i1_5 i1_6 i1_7 v1_0 v1_1 v1_2) → va_S (va_A w0 s.heap.size) s.heap H locs → lv_has ls 8 [(1, .ref a1), (2, .int x2), (3, .int x3), (5, .int x5)] → W p l e rm_X1_countSeams s m av below meth c H locs 0 0 (MQ below (oI D cs w0 (W_X1_countSeams cs a0 p0 i0_0 i0_1 v0_2 v0_3 a1 p1 i1_3 i1_4 i1_5 i1_6 i1_7 v1_0 v1_1 v1_2) res s.heap.size) av s 0 0 (va_A w0 s.heap.size)) (F0 m 123 ls [.int t0]) := by
  obtain ⟨hx, hb, hr, hlk, hml, hown, hts, hK, hG, hE⟩ := id C0
  intro x2 x3 x5 t0 hf H locs ls hP hD hS hl
  rw [f_X1_countSeams_b123] at hf
  refine lv_iconst (v := 0) hx hb dX1_countSeams_123 (by decide) ?_
  exact w_X1_countSeams_b124 C0 a0 p0 i0_0 i0_1 v0_2 v0_3 a1 p1 i1_3 i1_4 i1_5 i1_6 i1_7 v1_0 v1_1 v1_2 res k6 hk6 x2 x3 x5 t0 (0) hf _ _ _ hP hD hS (lv_sub hl [0, 1, 2, 3] rfl)
def f_X1_countSeams_b95  (v1_0 : Nat → Int32) (v1_1 : Nat → Int32) (k6 : Int32 → Int32 → Int32 → Int32 → Option (Int32))  (x2 : Int32) (x3 : Int32) (x5 : Int32) (x7 : Int32) (t0 : Int32) (t1 : Int32) : Option (Int32) := if x7 = 0 then (f_X1_countSeams_b123 v1_0 v1_1 k6 x2 x3 x5 (t0 + t1)) else ((f_X1_isSeam v1_0 v1_1 x2 x5 (x5 + 4)).bind fun q113 => if q113 = 0 then (f_X1_countSeams_b123 v1_0 v1_1 k6 x2 x3 x5 (t0 + t1)) else (f_X1_countSeams_b124 v1_0 v1_1 k6 x2 x3 x5 (t0 + t1) (1)))
set_option maxHeartbeats 4000000 in
set_option maxRecDepth 100000 in
theorem w_X1_countSeams_b95 {p : Program} {l : Launch} {e : Env} {s : State} {m : MethodId} {below : List Frame} {meth : Method} {c : Code} {D : va_G} {cs : Nat → ClassId} {av : Array Value} {w0 : va_W} (C0 : Cx p s m meth c av wsX1_countSeams cX1_countSeams 8 (some .int) RX1 D cs w0)  (a0 : Nat) (p0 : Nat → Nat) (i0_0 : Int32) (i0_1 : Int32) (v0_2 : Nat → Int32) (v0_3 : Nat → Int32) (a1 : Nat) (p1 : Nat → Nat) (i1_3 : Int32) (i1_4 : Int32) (i1_5 : Int32) (i1_6 : Int32) (i1_7 : Int32) (v1_0 : Nat → Int32) (v1_1 : Nat → Int32) (v1_2 : Nat → Int32) (res : Int32) (k6 : Int32 → Int32 → Int32 → Int32 → Option (Int32)) (hk6 : ∀ (x2 : Int32) (x3 : Int32) (x4 : Int32) (x5 : Int32), k6 x2 x3 x4 x5 = some res → ∀ (H : Heap) (locs : List Loc) (ls : Array Slot), va_P D vwCl (W_X1_countSeams cs a0 p0 i0_0 i0_1 v0_2 v0_3 a1 p1 i1_3 i1_4 i1_5 i1_6 i1_7 v1_0 v1_1 v1_2) H → va_D (va_A w0 s.heap.size) (W_X1_countSeams cs a0 p0 i0_0 i0_1 v0_2 v0_3 a1 p1 i1_3 i1_4 i1_5 i1_6 i1_7 v1_0 v1_1 v1_2) → va_S (va_A w0 s.heap.size) s.heap H locs → lv_has ls 8 [(1, .ref a1), (2, .int x2), (3, .int x3), (4, .int x4), (5, .int x5)] → W p l e rm_X1_countSeams s m av below meth c H locs 0 0 (MQ below (oI D cs w0 (W_X1_countSeams cs a0 p0 i0_0 i0_1 v0_2 v0_3 a1 p1 i1_3 i1_4 i1_5 i1_6 i1_7 v1_0 v1_1 v1_2) res s.heap.size) av s 0 0 (va_A w0 s.heap.size)) (F0 m 6 ls [])) : ∀ (x2 : Int32) (x3 : Int32) (x5 : Int32) (x7 : Int32) (t0 : Int32) (t1 : Int32), f_X1_countSeams_b95 v1_0 v1_1 k6 x2 x3 x5 x7 t0 t1 = some res → ∀ (H : Heap) (locs : List Loc) (ls : Array Slot), va_P D vwCl (W_X1_countSeams cs a0 p0 i0_0 i0_1 v0_2 v0_3 a1 p1 i1_3 i1_4 i1_5 i1_6 i1_7 v1_0 v1_1 v1_2) H → va_D (va_A w0 s.heap.size) (W_X1_countSeams cs a0 p0 i0_0 i0_1 v0_2 v0_3 a1 p1 i1_3 i1_4 i1_5 i1_6 i1_7 v1_0 v1_1 v1_2) → va_S (va_A w0 s.heap.size) s.heap H locs → lv_has ls 8 [(1, .ref a1), (2, .int x2), (3, .int x3), (5, .int x5), (7, .int x7)] → W p l e rm_X1_countSeams s m av below meth c H locs 0 0 (MQ below (oI D cs w0 (W_X1_countSeams cs a0 p0 i0_0 i0_1 v0_2 v0_3 a1 p1 i1_3 i1_4 i1_5 i1_6 i1_7 v1_0 v1_1 v1_2) res s.heap.size) av s 0 0 (va_A w0 s.heap.size)) (F0 m 95 ls [.int t1, .int t0]) := by
  obtain ⟨hx, hb, hr, hlk, hml, hown, hts, hK, hG, hE⟩ := id C0
  intro x2 x3 x5 x7 t0 t1 hf H locs ls hP hD hS hl
  rw [f_X1_countSeams_b95] at hf
  refine lv_iadd hx hb dX1_countSeams_95 ?_
  refine lv_istore (lv' := [(4, .int (t0 + t1)), (1, .ref a1), (2, .int x2), (3, .int x3), (5, .int x5), (7, .int x7)]) hx hb dX1_countSeams_96 hl (by decide) rfl (fun ls hl => ?_)
  refine lv_iload hx hb dX1_countSeams_98 (lv_at hl 0 rfl) ?_
  refine lv_iload hx hb dX1_countSeams_100 (lv_at hl 5 rfl) ?_
  refine lv_if_eq (tgt := 123) hx hb dX1_countSeams_102 (by decide) (fun hc => ?_) (fun hc => ?_)
  · replace hf := ow_t hc hf
    exact w_X1_countSeams_b123 C0 a0 p0 i0_0 i0_1 v0_2 v0_3 a1 p1 i1_3 i1_4 i1_5 i1_6 i1_7 v1_0 v1_1 v1_2 res k6 hk6 x2 x3 x5 (t0 + t1) hf _ _ _ hP hD hS (lv_sub hl [1, 2, 3, 4] rfl)
  · replace hf := ow_f hc hf
    refine lv_aload_n hx hb dX1_countSeams_105 rfl (lv_at hl 1 rfl) ?_
    refine lv_iload_n hx hb dX1_countSeams_106 rfl (lv_at hl 2 rfl) ?_
    refine lv_iload hx hb dX1_countSeams_107 (lv_at hl 4 rfl) ?_
    refine lv_iload hx hb dX1_countSeams_109 (lv_at hl 4 rfl) ?_
    refine lv_iconst (v := 4) hx hb dX1_countSeams_111 (by decide) ?_
    refine lv_iadd hx hb dX1_countSeams_112 ?_
    obtain ⟨q113, hq, hf⟩ := bd_some hf
    refine ow_callSI (As := [.ref a1, .int x2, .int x5, .int (x5 + 4)]) (rest := [.int (t0 + t1)]) (wr := ow_pk (W_X1_countSeams cs a0 p0 i0_0 i0_1 v0_2 v0_3 a1 p1 i1_3 i1_4 i1_5 i1_6 i1_7 v1_0 v1_1 v1_2) [0, 1, 2]) (wf := (W_X1_countSeams cs a0 p0 i0_0 i0_1 v0_2 v0_3 a1 p1 i1_3 i1_4 i1_5 i1_6 i1_7 v1_0 v1_1 v1_2)) (r := q113) C0 (c_X1_isSeam l D cs H.size a1 p1 i1_3 i1_4 i1_5 i1_6 i1_7 v1_0 v1_1 v1_2 x2 x5 (x5 + 4) q113 hq) (va_cwS 4 hts gX1_countSeams_X1_isSeam rfl rfl rfl (by decide +kernel) ⟨Nat.le_of_ble_eq_true rfl, Nat.le_of_ble_eq_true rfl⟩) hP hD hS (fun q h => Or.inr h) [3, 4, 5, 6] [0, 1, 2] [0, 1, 2, 3, 4, 5, 6] rfl (by decide) rfl (by decide) (by decide) rfl (by decide) rfl hl.1 rfl (Nat.le_of_ble_eq_true rfl) ⟨Nat.zero_le _, Nat.zero_le _⟩ dX1_countSeams_113 (fun H locs hP hD hS => ?_)
    refine lv_if_eq (tgt := 123) hx hb dX1_countSeams_116 (by decide) (fun hc => ?_) (fun hc => ?_)
    · replace hf := ow_t hc hf
      exact w_X1_countSeams_b123 C0 a0 p0 i0_0 i0_1 v0_2 v0_3 a1 p1 i1_3 i1_4 i1_5 i1_6 i1_7 v1_0 v1_1 v1_2 res k6 hk6 x2 x3 x5 (t0 + t1) hf _ _ _ hP hD hS (lv_sub hl [1, 2, 3, 4] rfl)
    · replace hf := ow_f hc hf
      refine lv_iconst (v := 1) hx hb dX1_countSeams_119 (by decide) ?_
      refine lv_goto (tgt := 124) hx hb dX1_countSeams_120 (by decide) ?_
      exact w_X1_countSeams_b124 C0 a0 p0 i0_0 i0_1 v0_2 v0_3 a1 p1 i1_3 i1_4 i1_5 i1_6 i1_7 v1_0 v1_1 v1_2 res k6 hk6 x2 x3 x5 (t0 + t1) (1) hf _ _ _ hP hD hS (lv_sub hl [1, 2, 3, 4] rfl)
def f_X1_countSeams_b94  (v1_0 : Nat → Int32) (v1_1 : Nat → Int32) (k6 : Int32 → Int32 → Int32 → Int32 → Option (Int32))  (x2 : Int32) (x3 : Int32) (x5 : Int32) (x7 : Int32) (t0 : Int32) : Option (Int32) := f_X1_countSeams_b95 v1_0 v1_1 k6 x2 x3 x5 x7 t0 (0)
set_option maxHeartbeats 4000000 in
set_option maxRecDepth 100000 in
theorem w_X1_countSeams_b94 {p : Program} {l : Launch} {e : Env} {s : State} {m : MethodId} {below : List Frame} {meth : Method} {c : Code} {D : va_G} {cs : Nat → ClassId} {av : Array Value} {w0 : va_W} (C0 : Cx p s m meth c av wsX1_countSeams cX1_countSeams 8 (some .int) RX1 D cs w0)  (a0 : Nat) (p0 : Nat → Nat) (i0_0 : Int32) (i0_1 : Int32) (v0_2 : Nat → Int32) (v0_3 : Nat → Int32) (a1 : Nat) (p1 : Nat → Nat) (i1_3 : Int32) (i1_4 : Int32) (i1_5 : Int32) (i1_6 : Int32) (i1_7 : Int32) (v1_0 : Nat → Int32) (v1_1 : Nat → Int32) (v1_2 : Nat → Int32) (res : Int32) (k6 : Int32 → Int32 → Int32 → Int32 → Option (Int32)) (hk6 : ∀ (x2 : Int32) (x3 : Int32) (x4 : Int32) (x5 : Int32), k6 x2 x3 x4 x5 = some res → ∀ (H : Heap) (locs : List Loc) (ls : Array Slot), va_P D vwCl (W_X1_countSeams cs a0 p0 i0_0 i0_1 v0_2 v0_3 a1 p1 i1_3 i1_4 i1_5 i1_6 i1_7 v1_0 v1_1 v1_2) H → va_D (va_A w0 s.heap.size) (W_X1_countSeams cs a0 p0 i0_0 i0_1 v0_2 v0_3 a1 p1 i1_3 i1_4 i1_5 i1_6 i1_7 v1_0 v1_1 v1_2) → va_S (va_A w0 s.heap.size) s.heap H locs → lv_has ls 8 [(1, .ref a1), (2, .int x2), (3, .int x3), (4, .int x4), (5, .int x5)] → W p l e rm_X1_countSeams s m av below meth c H locs 0 0 (MQ below (oI D cs w0 (W_X1_countSeams cs a0 p0 i0_0 i0_1 v0_2 v0_3 a1 p1 i1_3 i1_4 i1_5 i1_6 i1_7 v1_0 v1_1 v1_2) res s.heap.size) av s 0 0 (va_A w0 s.heap.size)) (F0 m 6 ls [])) : ∀ (x2 : Int32) (x3 : Int32) (x5 : Int32) (x7 : Int32) (t0 : Int32), f_X1_countSeams_b94 v1_0 v1_1 k6 x2 x3 x5 x7 t0 = some res → ∀ (H : Heap) (locs : List Loc) (ls : Array Slot), va_P D vwCl (W_X1_countSeams cs a0 p0 i0_0 i0_1 v0_2 v0_3 a1 p1 i1_3 i1_4 i1_5 i1_6 i1_7 v1_0 v1_1 v1_2) H → va_D (va_A w0 s.heap.size) (W_X1_countSeams cs a0 p0 i0_0 i0_1 v0_2 v0_3 a1 p1 i1_3 i1_4 i1_5 i1_6 i1_7 v1_0 v1_1 v1_2) → va_S (va_A w0 s.heap.size) s.heap H locs → lv_has ls 8 [(1, .ref a1), (2, .int x2), (3, .int x3), (5, .int x5), (7, .int x7)] → W p l e rm_X1_countSeams s m av below meth c H locs 0 0 (MQ below (oI D cs w0 (W_X1_countSeams cs a0 p0 i0_0 i0_1 v0_2 v0_3 a1 p1 i1_3 i1_4 i1_5 i1_6 i1_7 v1_0 v1_1 v1_2) res s.heap.size) av s 0 0 (va_A w0 s.heap.size)) (F0 m 94 ls [.int t0]) := by
  obtain ⟨hx, hb, hr, hlk, hml, hown, hts, hK, hG, hE⟩ := id C0
  intro x2 x3 x5 x7 t0 hf H locs ls hP hD hS hl
  rw [f_X1_countSeams_b94] at hf
  refine lv_iconst (v := 0) hx hb dX1_countSeams_94 (by decide) ?_
  exact w_X1_countSeams_b95 C0 a0 p0 i0_0 i0_1 v0_2 v0_3 a1 p1 i1_3 i1_4 i1_5 i1_6 i1_7 v1_0 v1_1 v1_2 res k6 hk6 x2 x3 x5 x7 t0 (0) hf _ _ _ hP hD hS (lv_sub hl [0, 1, 2, 3, 4] rfl)
def f_X1_countSeams_b67  (v1_0 : Nat → Int32) (v1_1 : Nat → Int32) (k6 : Int32 → Int32 → Int32 → Int32 → Option (Int32))  (x2 : Int32) (x3 : Int32) (x4 : Int32) (x5 : Int32) (x6 : Int32) (t0 : Int32) : Option (Int32) := if x6 = 0 then (f_X1_countSeams_b94 v1_0 v1_1 k6 x2 x3 x5 t0 x4) else ((f_X1_isSeam v1_0 v1_1 x2 x5 (x5 + 1)).bind fun q84 => if q84 = 0 then (f_X1_countSeams_b94 v1_0 v1_1 k6 x2 x3 x5 t0 x4) else (f_X1_countSeams_b95 v1_0 v1_1 k6 x2 x3 x5 t0 x4 (1)))
set_option maxHeartbeats 4000000 in
set_option maxRecDepth 100000 in
theorem w_X1_countSeams_b67 {p : Program} {l : Launch} {e : Env} {s : State} {m : MethodId} {below : List Frame} {meth : Method} {c : Code} {D : va_G} {cs : Nat → ClassId} {av : Array Value} {w0 : va_W} (C0 : Cx p s m meth c av wsX1_countSeams cX1_countSeams 8 (some .int) RX1 D cs w0)  (a0 : Nat) (p0 : Nat → Nat) (i0_0 : Int32) (i0_1 : Int32) (v0_2 : Nat → Int32) (v0_3 : Nat → Int32) (a1 : Nat) (p1 : Nat → Nat) (i1_3 : Int32) (i1_4 : Int32) (i1_5 : Int32) (i1_6 : Int32) (i1_7 : Int32) (v1_0 : Nat → Int32) (v1_1 : Nat → Int32) (v1_2 : Nat → Int32) (res : Int32) (k6 : Int32 → Int32 → Int32 → Int32 → Option (Int32)) (hk6 : ∀ (x2 : Int32) (x3 : Int32) (x4 : Int32) (x5 : Int32), k6 x2 x3 x4 x5 = some res → ∀ (H : Heap) (locs : List Loc) (ls : Array Slot), va_P D vwCl (W_X1_countSeams cs a0 p0 i0_0 i0_1 v0_2 v0_3 a1 p1 i1_3 i1_4 i1_5 i1_6 i1_7 v1_0 v1_1 v1_2) H → va_D (va_A w0 s.heap.size) (W_X1_countSeams cs a0 p0 i0_0 i0_1 v0_2 v0_3 a1 p1 i1_3 i1_4 i1_5 i1_6 i1_7 v1_0 v1_1 v1_2) → va_S (va_A w0 s.heap.size) s.heap H locs → lv_has ls 8 [(1, .ref a1), (2, .int x2), (3, .int x3), (4, .int x4), (5, .int x5)] → W p l e rm_X1_countSeams s m av below meth c H locs 0 0 (MQ below (oI D cs w0 (W_X1_countSeams cs a0 p0 i0_0 i0_1 v0_2 v0_3 a1 p1 i1_3 i1_4 i1_5 i1_6 i1_7 v1_0 v1_1 v1_2) res s.heap.size) av s 0 0 (va_A w0 s.heap.size)) (F0 m 6 ls [])) : ∀ (x2 : Int32) (x3 : Int32) (x4 : Int32) (x5 : Int32) (x6 : Int32) (t0 : Int32), f_X1_countSeams_b67 v1_0 v1_1 k6 x2 x3 x4 x5 x6 t0 = some res → ∀ (H : Heap) (locs : List Loc) (ls : Array Slot), va_P D vwCl (W_X1_countSeams cs a0 p0 i0_0 i0_1 v0_2 v0_3 a1 p1 i1_3 i1_4 i1_5 i1_6 i1_7 v1_0 v1_1 v1_2) H → va_D (va_A w0 s.heap.size) (W_X1_countSeams cs a0 p0 i0_0 i0_1 v0_2 v0_3 a1 p1 i1_3 i1_4 i1_5 i1_6 i1_7 v1_0 v1_1 v1_2) → va_S (va_A w0 s.heap.size) s.heap H locs → lv_has ls 8 [(1, .ref a1), (2, .int x2), (3, .int x3), (4, .int x4), (5, .int x5), (6, .int x6)] → W p l e rm_X1_countSeams s m av below meth c H locs 0 0 (MQ below (oI D cs w0 (W_X1_countSeams cs a0 p0 i0_0 i0_1 v0_2 v0_3 a1 p1 i1_3 i1_4 i1_5 i1_6 i1_7 v1_0 v1_1 v1_2) res s.heap.size) av s 0 0 (va_A w0 s.heap.size)) (F0 m 67 ls [.int t0]) := by
  obtain ⟨hx, hb, hr, hlk, hml, hown, hts, hK, hG, hE⟩ := id C0
  intro x2 x3 x4 x5 x6 t0 hf H locs ls hP hD hS hl
  rw [f_X1_countSeams_b67] at hf
  refine lv_istore (lv' := [(7, .int t0), (1, .ref a1), (2, .int x2), (3, .int x3), (4, .int x4), (5, .int x5), (6, .int x6)]) hx hb dX1_countSeams_67 hl (by decide) rfl (fun ls hl => ?_)
  refine lv_iload hx hb dX1_countSeams_69 (lv_at hl 4 rfl) ?_
  refine lv_iload hx hb dX1_countSeams_71 (lv_at hl 6 rfl) ?_
  refine lv_if_eq (tgt := 94) hx hb dX1_countSeams_73 (by decide) (fun hc => ?_) (fun hc => ?_)
  · replace hf := ow_t hc hf
    exact w_X1_countSeams_b94 C0 a0 p0 i0_0 i0_1 v0_2 v0_3 a1 p1 i1_3 i1_4 i1_5 i1_6 i1_7 v1_0 v1_1 v1_2 res k6 hk6 x2 x3 x5 t0 x4 hf _ _ _ hP hD hS (lv_sub hl [1, 2, 3, 5, 0] rfl)
  · replace hf := ow_f hc hf
    refine lv_aload_n hx hb dX1_countSeams_76 rfl (lv_at hl 1 rfl) ?_
    refine lv_iload_n hx hb dX1_countSeams_77 rfl (lv_at hl 2 rfl) ?_
    refine lv_iload hx hb dX1_countSeams_78 (lv_at hl 5 rfl) ?_
    refine lv_iload hx hb dX1_countSeams_80 (lv_at hl 5 rfl) ?_
    refine lv_iconst (v := 1) hx hb dX1_countSeams_82 (by decide) ?_
    refine lv_iadd hx hb dX1_countSeams_83 ?_
    obtain ⟨q84, hq, hf⟩ := bd_some hf
    refine ow_callSI (As := [.ref a1, .int x2, .int x5, .int (x5 + 1)]) (rest := [.int x4]) (wr := ow_pk (W_X1_countSeams cs a0 p0 i0_0 i0_1 v0_2 v0_3 a1 p1 i1_3 i1_4 i1_5 i1_6 i1_7 v1_0 v1_1 v1_2) [0, 1, 2]) (wf := (W_X1_countSeams cs a0 p0 i0_0 i0_1 v0_2 v0_3 a1 p1 i1_3 i1_4 i1_5 i1_6 i1_7 v1_0 v1_1 v1_2)) (r := q84) C0 (c_X1_isSeam l D cs H.size a1 p1 i1_3 i1_4 i1_5 i1_6 i1_7 v1_0 v1_1 v1_2 x2 x5 (x5 + 1) q84 hq) (va_cwS 4 hts gX1_countSeams_X1_isSeam rfl rfl rfl (by decide +kernel) ⟨Nat.le_of_ble_eq_true rfl, Nat.le_of_ble_eq_true rfl⟩) hP hD hS (fun q h => Or.inr h) [3, 4, 5, 6] [0, 1, 2] [0, 1, 2, 3, 4, 5, 6] rfl (by decide) rfl (by decide) (by decide) rfl (by decide) rfl hl.1 rfl (Nat.le_of_ble_eq_true rfl) ⟨Nat.zero_le _, Nat.zero_le _⟩ dX1_countSeams_84 (fun H locs hP hD hS => ?_)
    refine lv_if_eq (tgt := 94) hx hb dX1_countSeams_87 (by decide) (fun hc => ?_) (fun hc => ?_)
    · replace hf := ow_t hc hf
      exact w_X1_countSeams_b94 C0 a0 p0 i0_0 i0_1 v0_2 v0_3 a1 p1 i1_3 i1_4 i1_5 i1_6 i1_7 v1_0 v1_1 v1_2 res k6 hk6 x2 x3 x5 t0 x4 hf _ _ _ hP hD hS (lv_sub hl [1, 2, 3, 5, 0] rfl)
    · replace hf := ow_f hc hf
      refine lv_iconst (v := 1) hx hb dX1_countSeams_90 (by decide) ?_
      refine lv_goto (tgt := 95) hx hb dX1_countSeams_91 (by decide) ?_
      exact w_X1_countSeams_b95 C0 a0 p0 i0_0 i0_1 v0_2 v0_3 a1 p1 i1_3 i1_4 i1_5 i1_6 i1_7 v1_0 v1_1 v1_2 res k6 hk6 x2 x3 x5 t0 x4 (1) hf _ _ _ hP hD hS (lv_sub hl [1, 2, 3, 5, 0] rfl)
def f_X1_countSeams_b48  (v1_0 : Nat → Int32) (v1_1 : Nat → Int32) (k6 : Int32 → Int32 → Int32 → Int32 → Option (Int32))  (x2 : Int32) (x3 : Int32) (x4 : Int32) (x5 : Int32) (t0 : Int32) : Option (Int32) := if ((x3 >>> ((x5 + 4) &&& 31)) &&& 1) = 1 then (f_X1_countSeams_b67 v1_0 v1_1 k6 x2 x3 x4 x5 t0 (1)) else (f_X1_countSeams_b67 v1_0 v1_1 k6 x2 x3 x4 x5 t0 (0))
set_option maxHeartbeats 4000000 in
set_option maxRecDepth 100000 in
theorem w_X1_countSeams_b48 {p : Program} {l : Launch} {e : Env} {s : State} {m : MethodId} {below : List Frame} {meth : Method} {c : Code} {D : va_G} {cs : Nat → ClassId} {av : Array Value} {w0 : va_W} (C0 : Cx p s m meth c av wsX1_countSeams cX1_countSeams 8 (some .int) RX1 D cs w0)  (a0 : Nat) (p0 : Nat → Nat) (i0_0 : Int32) (i0_1 : Int32) (v0_2 : Nat → Int32) (v0_3 : Nat → Int32) (a1 : Nat) (p1 : Nat → Nat) (i1_3 : Int32) (i1_4 : Int32) (i1_5 : Int32) (i1_6 : Int32) (i1_7 : Int32) (v1_0 : Nat → Int32) (v1_1 : Nat → Int32) (v1_2 : Nat → Int32) (res : Int32) (k6 : Int32 → Int32 → Int32 → Int32 → Option (Int32)) (hk6 : ∀ (x2 : Int32) (x3 : Int32) (x4 : Int32) (x5 : Int32), k6 x2 x3 x4 x5 = some res → ∀ (H : Heap) (locs : List Loc) (ls : Array Slot), va_P D vwCl (W_X1_countSeams cs a0 p0 i0_0 i0_1 v0_2 v0_3 a1 p1 i1_3 i1_4 i1_5 i1_6 i1_7 v1_0 v1_1 v1_2) H → va_D (va_A w0 s.heap.size) (W_X1_countSeams cs a0 p0 i0_0 i0_1 v0_2 v0_3 a1 p1 i1_3 i1_4 i1_5 i1_6 i1_7 v1_0 v1_1 v1_2) → va_S (va_A w0 s.heap.size) s.heap H locs → lv_has ls 8 [(1, .ref a1), (2, .int x2), (3, .int x3), (4, .int x4), (5, .int x5)] → W p l e rm_X1_countSeams s m av below meth c H locs 0 0 (MQ below (oI D cs w0 (W_X1_countSeams cs a0 p0 i0_0 i0_1 v0_2 v0_3 a1 p1 i1_3 i1_4 i1_5 i1_6 i1_7 v1_0 v1_1 v1_2) res s.heap.size) av s 0 0 (va_A w0 s.heap.size)) (F0 m 6 ls [])) : ∀ (x2 : Int32) (x3 : Int32) (x4 : Int32) (x5 : Int32) (t0 : Int32), f_X1_countSeams_b48 v1_0 v1_1 k6 x2 x3 x4 x5 t0 = some res → ∀ (H : Heap) (locs : List Loc) (ls : Array Slot), va_P D vwCl (W_X1_countSeams cs a0 p0 i0_0 i0_1 v0_2 v0_3 a1 p1 i1_3 i1_4 i1_5 i1_6 i1_7 v1_0 v1_1 v1_2) H → va_D (va_A w0 s.heap.size) (W_X1_countSeams cs a0 p0 i0_0 i0_1 v0_2 v0_3 a1 p1 i1_3 i1_4 i1_5 i1_6 i1_7 v1_0 v1_1 v1_2) → va_S (va_A w0 s.heap.size) s.heap H locs → lv_has ls 8 [(1, .ref a1), (2, .int x2), (3, .int x3), (4, .int x4), (5, .int x5)] → W p l e rm_X1_countSeams s m av below meth c H locs 0 0 (MQ below (oI D cs w0 (W_X1_countSeams cs a0 p0 i0_0 i0_1 v0_2 v0_3 a1 p1 i1_3 i1_4 i1_5 i1_6 i1_7 v1_0 v1_1 v1_2) res s.heap.size) av s 0 0 (va_A w0 s.heap.size)) (F0 m 48 ls [.int t0]) := by
  obtain ⟨hx, hb, hr, hlk, hml, hown, hts, hK, hG, hE⟩ := id C0
  intro x2 x3 x4 x5 t0 hf H locs ls hP hD hS hl
  rw [f_X1_countSeams_b48] at hf
  refine lv_istore (lv' := [(6, .int t0), (1, .ref a1), (2, .int x2), (3, .int x3), (4, .int x4), (5, .int x5)]) hx hb dX1_countSeams_48 hl (by decide) rfl (fun ls hl => ?_)
  refine lv_iload_n hx hb dX1_countSeams_50 rfl (lv_at hl 3 rfl) ?_
  refine lv_iload hx hb dX1_countSeams_51 (lv_at hl 5 rfl) ?_
  refine lv_iconst (v := 4) hx hb dX1_countSeams_53 (by decide) ?_
  refine lv_iadd hx hb dX1_countSeams_54 ?_
  refine lv_ishr hx hb dX1_countSeams_55 ?_
  refine lv_iconst (v := 1) hx hb dX1_countSeams_56 (by decide) ?_
  refine lv_iand hx hb dX1_countSeams_57 ?_
  refine lv_iconst (v := 1) hx hb dX1_countSeams_58 (by decide) ?_
  refine lv_icmp_ne (tgt := 66) hx hb dX1_countSeams_59 (by decide) (fun hc => ?_) (fun hc => ?_)
  · replace hf := ow_f hc hf
    refine lv_iconst (v := 0) hx hb dX1_countSeams_66 (by decide) ?_
    exact w_X1_countSeams_b67 C0 a0 p0 i0_0 i0_1 v0_2 v0_3 a1 p1 i1_3 i1_4 i1_5 i1_6 i1_7 v1_0 v1_1 v1_2 res k6 hk6 x2 x3 x4 x5 t0 (0) hf _ _ _ hP hD hS (lv_sub hl [1, 2, 3, 4, 5, 0] rfl)
  · replace hf := ow_t hc hf
    refine lv_iconst (v := 1) hx hb dX1_countSeams_62 (by decide) ?_
    refine lv_goto (tgt := 67) hx hb dX1_countSeams_63 (by decide) ?_
    exact w_X1_countSeams_b67 C0 a0 p0 i0_0 i0_1 v0_2 v0_3 a1 p1 i1_3 i1_4 i1_5 i1_6 i1_7 v1_0 v1_1 v1_2 res k6 hk6 x2 x3 x4 x5 t0 (1) hf _ _ _ hP hD hS (lv_sub hl [1, 2, 3, 4, 5, 0] rfl)
def f_X1_countSeams_b47  (v1_0 : Nat → Int32) (v1_1 : Nat → Int32) (k6 : Int32 → Int32 → Int32 → Int32 → Option (Int32))  (x2 : Int32) (x3 : Int32) (x4 : Int32) (x5 : Int32) : Option (Int32) := f_X1_countSeams_b48 v1_0 v1_1 k6 x2 x3 x4 x5 (0)
set_option maxHeartbeats 4000000 in
set_option maxRecDepth 100000 in
theorem w_X1_countSeams_b47 {p : Program} {l : Launch} {e : Env} {s : State} {m : MethodId} {below : List Frame} {meth : Method} {c : Code} {D : va_G} {cs : Nat → ClassId} {av : Array Value} {w0 : va_W} (C0 : Cx p s m meth c av wsX1_countSeams cX1_countSeams 8 (some .int) RX1 D cs w0)  (a0 : Nat) (p0 : Nat → Nat) (i0_0 : Int32) (i0_1 : Int32) (v0_2 : Nat → Int32) (v0_3 : Nat → Int32) (a1 : Nat) (p1 : Nat → Nat) (i1_3 : Int32) (i1_4 : Int32) (i1_5 : Int32) (i1_6 : Int32) (i1_7 : Int32) (v1_0 : Nat → Int32) (v1_1 : Nat → Int32) (v1_2 : Nat → Int32) (res : Int32) (k6 : Int32 → Int32 → Int32 → Int32 → Option (Int32)) (hk6 : ∀ (x2 : Int32) (x3 : Int32) (x4 : Int32) (x5 : Int32), k6 x2 x3 x4 x5 = some res → ∀ (H : Heap) (locs : List Loc) (ls : Array Slot), va_P D vwCl (W_X1_countSeams cs a0 p0 i0_0 i0_1 v0_2 v0_3 a1 p1 i1_3 i1_4 i1_5 i1_6 i1_7 v1_0 v1_1 v1_2) H → va_D (va_A w0 s.heap.size) (W_X1_countSeams cs a0 p0 i0_0 i0_1 v0_2 v0_3 a1 p1 i1_3 i1_4 i1_5 i1_6 i1_7 v1_0 v1_1 v1_2) → va_S (va_A w0 s.heap.size) s.heap H locs → lv_has ls 8 [(1, .ref a1), (2, .int x2), (3, .int x3), (4, .int x4), (5, .int x5)] → W p l e rm_X1_countSeams s m av below meth c H locs 0 0 (MQ below (oI D cs w0 (W_X1_countSeams cs a0 p0 i0_0 i0_1 v0_2 v0_3 a1 p1 i1_3 i1_4 i1_5 i1_6 i1_7 v1_0 v1_1 v1_2) res s.heap.size) av s 0 0 (va_A w0 s.heap.size)) (F0 m 6 ls [])) : ∀ (x2 : Int32) (x3 : Int32) (x4 : Int32) (x5 : Int32), f_X1_countSeams_b47 v1_0 v1_1 k6 x2 x3 x4 x5 = some res → ∀ (H : Heap) (locs : List Loc) (ls : Array Slot), va_P D vwCl (W_X1_countSeams cs a0 p0 i0_0 i0_1 v0_2 v0_3 a1 p1 i1_3 i1_4 i1_5 i1_6 i1_7 v1_0 v1_1 v1_2) H → va_D (va_A w0 s.heap.size) (W_X1_countSeams cs a0 p0 i0_0 i0_1 v0_2 v0_3 a1 p1 i1_3 i1_4 i1_5 i1_6 i1_7 v1_0 v1_1 v1_2) → va_S (va_A w0 s.heap.size) s.heap H locs → lv_has ls 8 [(1, .ref a1), (2, .int x2), (3, .int x3), (4, .int x4), (5, .int x5)] → W p l e rm_X1_countSeams s m av below meth c H locs 0 0 (MQ below (oI D cs w0 (W_X1_countSeams cs a0 p0 i0_0 i0_1 v0_2 v0_3 a1 p1 i1_3 i1_4 i1_5 i1_6 i1_7 v1_0 v1_1 v1_2) res s.heap.size) av s 0 0 (va_A w0 s.heap.size)) (F0 m 47 ls []) := by
  obtain ⟨hx, hb, hr, hlk, hml, hown, hts, hK, hG, hE⟩ := id C0
  intro x2 x3 x4 x5 hf H locs ls hP hD hS hl
  rw [f_X1_countSeams_b47] at hf
  refine lv_iconst (v := 0) hx hb dX1_countSeams_47 (by decide) ?_
  exact w_X1_countSeams_b48 C0 a0 p0 i0_0 i0_1 v0_2 v0_3 a1 p1 i1_3 i1_4 i1_5 i1_6 i1_7 v1_0 v1_1 v1_2 res k6 hk6 x2 x3 x4 x5 (0) hf _ _ _ hP hD hS (lv_sub hl [0, 1, 2, 3, 4] rfl)
def f_X1_countSeams_b6  (v1_0 : Nat → Int32) (v1_1 : Nat → Int32)  : Nat → Int32 → Int32 → Int32 → Int32 → Option (Int32)
  | 0, _, _, _, _ => none
  | n + 1, x2, x3, x4, x5 => if 16 ≤ x5 then (some (x4)) else (if ((x3 >>> (x5 &&& 31)) &&& 1) = 1 then (if 3 ≤ (x5 &&& 3) then (f_X1_countSeams_b47 v1_0 v1_1 (f_X1_countSeams_b6 v1_0 v1_1 n) x2 x3 x4 x5) else (if ((x3 >>> ((x5 + 1) &&& 31)) &&& 1) = 1 then (f_X1_countSeams_b48 v1_0 v1_1 (f_X1_countSeams_b6 v1_0 v1_1 n) x2 x3 x4 x5 (1)) else (f_X1_countSeams_b47 v1_0 v1_1 (f_X1_countSeams_b6 v1_0 v1_1 n) x2 x3 x4 x5))) else (f_X1_countSeams_b127 v1_0 v1_1 (f_X1_countSeams_b6 v1_0 v1_1 n) x2 x3 x4 x5))
set_option maxHeartbeats 4000000 in
set_option maxRecDepth 100000 in
theorem w_X1_countSeams_b6 {p : Program} {l : Launch} {e : Env} {s : State} {m : MethodId} {below : List Frame} {meth : Method} {c : Code} {D : va_G} {cs : Nat → ClassId} {av : Array Value} {w0 : va_W} (C0 : Cx p s m meth c av wsX1_countSeams cX1_countSeams 8 (some .int) RX1 D cs w0)  (a0 : Nat) (p0 : Nat → Nat) (i0_0 : Int32) (i0_1 : Int32) (v0_2 : Nat → Int32) (v0_3 : Nat → Int32) (a1 : Nat) (p1 : Nat → Nat) (i1_3 : Int32) (i1_4 : Int32) (i1_5 : Int32) (i1_6 : Int32) (i1_7 : Int32) (v1_0 : Nat → Int32) (v1_1 : Nat → Int32) (v1_2 : Nat → Int32) (res : Int32)  : ∀ (n : Nat) (x2 : Int32) (x3 : Int32) (x4 : Int32) (x5 : Int32), f_X1_countSeams_b6 v1_0 v1_1 n x2 x3 x4 x5 = some res → ∀ (H : Heap) (locs : List Loc) (ls : Array Slot), va_P D vwCl (W_X1_countSeams cs a0 p0 i0_0 i0_1 v0_2 v0_3 a1 p1 i1_3 i1_4 i1_5 i1_6 i1_7 v1_0 v1_1 v1_2) H → va_D (va_A w0 s.heap.size) (W_X1_countSeams cs a0 p0 i0_0 i0_1 v0_2 v0_3 a1 p1 i1_3 i1_4 i1_5 i1_6 i1_7 v1_0 v1_1 v1_2) → va_S (va_A w0 s.heap.size) s.heap H locs → lv_has ls 8 [(1, .ref a1), (2, .int x2), (3, .int x3), (4, .int x4), (5, .int x5)] → W p l e rm_X1_countSeams s m av below meth c H locs 0 0 (MQ below (oI D cs w0 (W_X1_countSeams cs a0 p0 i0_0 i0_1 v0_2 v0_3 a1 p1 i1_3 i1_4 i1_5 i1_6 i1_7 v1_0 v1_1 v1_2) res s.heap.size) av s 0 0 (va_A w0 s.heap.size)) (F0 m 6 ls []) := by
  obtain ⟨hx, hb, hr, hlk, hml, hown, hts, hK, hG, hE⟩ := id C0
  intro n
  induction n with
  | zero =>
    intro x2 x3 x4 x5 hf
    rw [f_X1_countSeams_b6] at hf
    cases hf
  | succ n ih =>
    intro x2 x3 x4 x5 hf H locs ls hP hD hS hl
    rw [f_X1_countSeams_b6] at hf
    refine lv_iload hx hb dX1_countSeams_6 (lv_at hl 4 rfl) ?_
    refine lv_bipush (v := 16) hx hb dX1_countSeams_8 (by decide) ?_
    refine lv_icmp_ge (tgt := 133) hx hb dX1_countSeams_10 (by decide) (fun hc => ?_) (fun hc => ?_)
    · replace hf := ow_t hc hf
      refine lv_iload hx hb dX1_countSeams_133 (lv_at hl 3 rfl) ?_
      obtain rfl := Option.some.inj hf
      exact ow_retI C0 hP hD hS dX1_countSeams_135
    · replace hf := ow_f hc hf
      refine lv_iload_n hx hb dX1_countSeams_13 rfl (lv_at hl 2 rfl) ?_
      refine lv_iload hx hb dX1_countSeams_14 (lv_at hl 4 rfl) ?_
      refine lv_ishr hx hb dX1_countSeams_16 ?_
      refine lv_iconst (v := 1) hx hb dX1_countSeams_17 (by decide) ?_
      refine lv_iand hx hb dX1_countSeams_18 ?_
      refine lv_iconst (v := 1) hx hb dX1_countSeams_19 (by decide) ?_
      refine lv_icmp_ne (tgt := 127) hx hb dX1_countSeams_20 (by decide) (fun hc => ?_) (fun hc => ?_)
      · replace hf := ow_f hc hf
        exact w_X1_countSeams_b127 C0 a0 p0 i0_0 i0_1 v0_2 v0_3 a1 p1 i1_3 i1_4 i1_5 i1_6 i1_7 v1_0 v1_1 v1_2 res (f_X1_countSeams_b6 v1_0 v1_1 n) ih x2 x3 x4 x5 hf _ _ _ hP hD hS (lv_sub hl [0, 1, 2, 3, 4] rfl)
      · replace hf := ow_t hc hf
        refine lv_iload hx hb dX1_countSeams_23 (lv_at hl 4 rfl) ?_
        refine lv_iconst (v := 3) hx hb dX1_countSeams_25 (by decide) ?_
        refine lv_iand hx hb dX1_countSeams_26 ?_
        refine lv_iconst (v := 3) hx hb dX1_countSeams_27 (by decide) ?_
        refine lv_icmp_ge (tgt := 47) hx hb dX1_countSeams_28 (by decide) (fun hc => ?_) (fun hc => ?_)
        · replace hf := ow_t hc hf
          exact w_X1_countSeams_b47 C0 a0 p0 i0_0 i0_1 v0_2 v0_3 a1 p1 i1_3 i1_4 i1_5 i1_6 i1_7 v1_0 v1_1 v1_2 res (f_X1_countSeams_b6 v1_0 v1_1 n) ih x2 x3 x4 x5 hf _ _ _ hP hD hS (lv_sub hl [0, 1, 2, 3, 4] rfl)
        · replace hf := ow_f hc hf
          refine lv_iload_n hx hb dX1_countSeams_31 rfl (lv_at hl 2 rfl) ?_
          refine lv_iload hx hb dX1_countSeams_32 (lv_at hl 4 rfl) ?_
          refine lv_iconst (v := 1) hx hb dX1_countSeams_34 (by decide) ?_
          refine lv_iadd hx hb dX1_countSeams_35 ?_
          refine lv_ishr hx hb dX1_countSeams_36 ?_
          refine lv_iconst (v := 1) hx hb dX1_countSeams_37 (by decide) ?_
          refine lv_iand hx hb dX1_countSeams_38 ?_
          refine lv_iconst (v := 1) hx hb dX1_countSeams_39 (by decide) ?_
          refine lv_icmp_ne (tgt := 47) hx hb dX1_countSeams_40 (by decide) (fun hc => ?_) (fun hc => ?_)
          · replace hf := ow_f hc hf
            exact w_X1_countSeams_b47 C0 a0 p0 i0_0 i0_1 v0_2 v0_3 a1 p1 i1_3 i1_4 i1_5 i1_6 i1_7 v1_0 v1_1 v1_2 res (f_X1_countSeams_b6 v1_0 v1_1 n) ih x2 x3 x4 x5 hf _ _ _ hP hD hS (lv_sub hl [0, 1, 2, 3, 4] rfl)
          · replace hf := ow_t hc hf
            refine lv_iconst (v := 1) hx hb dX1_countSeams_43 (by decide) ?_
            refine lv_goto (tgt := 48) hx hb dX1_countSeams_44 (by decide) ?_
            exact w_X1_countSeams_b48 C0 a0 p0 i0_0 i0_1 v0_2 v0_3 a1 p1 i1_3 i1_4 i1_5 i1_6 i1_7 v1_0 v1_1 v1_2 res (f_X1_countSeams_b6 v1_0 v1_1 n) ih x2 x3 x4 x5 (1) hf _ _ _ hP hD hS (lv_sub hl [0, 1, 2, 3, 4] rfl)
def f_X1_countSeams  (v1_0 : Nat → Int32) (v1_1 : Nat → Int32) (x2 : Int32) (x3 : Int32) : Option (Int32) := f_X1_countSeams_b6 v1_0 v1_1 4000 x2 x3 (0) (0)
set_option maxHeartbeats 4000000 in
set_option maxRecDepth 100000 in
theorem c_X1_countSeams (l : Launch) (D : va_G) (cs : Nat → ClassId)  (sz : Nat) (a0 : Nat) (p0 : Nat → Nat) (i0_0 : Int32) (i0_1 : Int32) (v0_2 : Nat → Int32) (v0_3 : Nat → Int32) (a1 : Nat) (p1 : Nat → Nat) (i1_3 : Int32) (i1_4 : Int32) (i1_5 : Int32) (i1_6 : Int32) (i1_7 : Int32) (v1_0 : Nat → Int32) (v1_1 : Nat → Int32) (v1_2 : Nat → Int32) (x2 : Int32) (x3 : Int32) (res : Int32) (hf : f_X1_countSeams  v1_0 v1_1 x2 x3 = some res) : MI l D cs yX1_countSeams wsX1_countSeams rm_X1_countSeams [.ref a0, .ref a1, .int x2, .int x3] sz (W_X1_countSeams cs a0 p0 i0_0 i0_1 v0_2 v0_3 a1 p1 i1_3 i1_4 i1_5 i1_6 i1_7 v1_0 v1_1 v1_2) (W_X1_countSeams cs a0 p0 i0_0 i0_1 v0_2 v0_3 a1 p1 i1_3 i1_4 i1_5 i1_6 i1_7 v1_0 v1_1 v1_2) res := by
  rw [f_X1_countSeams] at hf
  refine ow_enter (cc := cX1_countSeams) (nL := 8) (ret := (some .int)) (by decide) rfl (Nat.le_of_ble_eq_true rfl) (fun p e s m below meth c ls H locs C0 hP hD hS hA hl => ?_)
  obtain ⟨hx, hb, hr, hlk, hml, hown, hts, hK, hG, hE⟩ := id C0
  have hl : lv_has ls 8 [(0, .ref a0), (1, .ref a1), (2, .int x2), (3, .int x3)] := hl
  refine lv_iconst (v := 0) hx hb dX1_countSeams_0 (by decide) ?_
  refine lv_istore (lv' := [(4, .int 0), (0, .ref a0), (1, .ref a1), (2, .int x2), (3, .int x3)]) hx hb dX1_countSeams_1 hl (by decide) rfl (fun ls hl => ?_)
  refine lv_iconst (v := 0) hx hb dX1_countSeams_3 (by decide) ?_
  refine lv_istore (lv' := [(5, .int 0), (4, .int 0), (0, .ref a0), (1, .ref a1), (2, .int x2), (3, .int x3)]) hx hb dX1_countSeams_4 hl (by decide) rfl (fun ls hl => ?_)
  exact w_X1_countSeams_b6 C0 a0 p0 i0_0 i0_1 v0_2 v0_3 a1 p1 i1_3 i1_4 i1_5 i1_6 i1_7 v1_0 v1_1 v1_2 res 4000 x2 x3 (0) (0) hf _ _ _ hP hD hS (lv_sub hl [3, 4, 5, 1, 0] rfl)
abbrev W_X1_costOf (cs : Nat → ClassId) (a0 : Nat) (p0 : Nat → Nat) (i0_0 : Int32) (i0_1 : Int32) (v0_2 : Nat → Int32) (v0_3 : Nat → Int32) (a1 : Nat) (p1 : Nat → Nat) (i1_3 : Int32) (i1_4 : Int32) (i1_5 : Int32) (i1_6 : Int32) (i1_7 : Int32) (v1_0 : Nat → Int32) (v1_1 : Nat → Int32) (v1_2 : Nat → Int32) : va_W := wX1 cs a0 p0 i0_0 i0_1 v0_2 v0_3 ++ wX2 cs a1 p1 i1_3 i1_4 i1_5 i1_6 i1_7 v1_0 v1_1 v1_2
abbrev rm_X1_costOf : Room := { frames := 2, cells := 0, slots := 0, locals := 45 }
def f_X1_costOf_b69  (v1_0 : Nat → Int32) (v1_1 : Nat → Int32) (k14 : Int32 → Int32 → Int32 → Int32 → Int32 → Option (Int32))  (x2 : Int32) (x3 : Int32) (x4 : Int32) (x5 : Int32) (x6 : Int32) : Option (Int32) := k14 x2 x3 x4 x5 (x6 + 1)
set_option maxHeartbeats 4000000 in
set_option maxRecDepth 100000 in
theorem w_X1_costOf_b69 {p : Program} {l : Launch} {e : Env} {s : State} {m : MethodId} {below : List Frame} {meth : Method} {c : Code} {D : va_G} {cs : Nat → ClassId} {av : Array Value} {w0 : va_W} (C0 : Cx p s m meth c av wsX1_costOf cX1_costOf 8 (some .int) RX1 D cs w0)  (a0 : Nat) (p0 : Nat → Nat) (i0_0 : Int32) (i0_1 : Int32) (v0_2 : Nat → Int32) (v0_3 : Nat → Int32) (a1 : Nat) (p1 : Nat → Nat) (i1_3 : Int32) (i1_4 : Int32) (i1_5 : Int32) (i1_6 : Int32) (i1_7 : Int32) (v1_0 : Nat → Int32) (v1_1 : Nat → Int32) (v1_2 : Nat → Int32) (res : Int32) (k14 : Int32 → Int32 → Int32 → Int32 → Int32 → Option (Int32)) (hk14 : ∀ (x2 : Int32) (x3 : Int32) (x4 : Int32) (x5 : Int32) (x6 : Int32), k14 x2 x3 x4 x5 x6 = some res → ∀ (H : Heap) (locs : List Loc) (ls : Array Slot), va_P D vwCl (W_X1_costOf cs a0 p0 i0_0 i0_1 v0_2 v0_3 a1 p1 i1_3 i1_4 i1_5 i1_6 i1_7 v1_0 v1_1 v1_2) H → va_D (va_A w0 s.heap.size) (W_X1_costOf cs a0 p0 i0_0 i0_1 v0_2 v0_3 a1 p1 i1_3 i1_4 i1_5 i1_6 i1_7 v1_0 v1_1 v1_2) → va_S (va_A w0 s.heap.size) s.heap H locs → lv_has ls 8 [(1, .ref a1), (2, .int x2), (3, .int x3), (4, .int x4), (5, .int x5), (6, .int x6)] → W p l e rm_X1_costOf s m av below meth c H locs 0 0 (MQ below (oI D cs w0 (W_X1_costOf cs a0 p0 i0_0 i0_1 v0_2 v0_3 a1 p1 i1_3 i1_4 i1_5 i1_6 i1_7 v1_0 v1_1 v1_2) res s.heap.size) av s 0 0 (va_A w0 s.heap.size)) (F0 m 14 ls [])) : ∀ (x2 : Int32) (x3 : Int32) (x4 : Int32) (x5 : Int32) (x6 : Int32), f_X1_costOf_b69 v1_0 v1_1 k14 x2 x3 x4 x5 x6 = some res → ∀ (H : Heap) (locs : List Loc) (ls : Array Slot), va_P D vwCl (W_X1_costOf cs a0 p0 i0_0 i0_1 v0_2 v0_3 a1 p1 i1_3 i1_4 i1_5 i1_6 i1_7 v1_0 v1_1 v1_2) H → va_D (va_A w0 s.heap.size) (W_X1_costOf cs a0 p0 i0_0 i0_1 v0_2 v0_3 a1 p1 i1_3 i1_4 i1_5 i1_6 i1_7 v1_0 v1_1 v1_2) → va_S (va_A w0 s.heap.size) s.heap H locs → lv_has ls 8 [(1, .ref a1), (2, .int x2), (3, .int x3), (4, .int x4), (5, .int x5), (6, .int x6)] → W p l e rm_X1_costOf s m av below meth c H locs 0 0 (MQ below (oI D cs w0 (W_X1_costOf cs a0 p0 i0_0 i0_1 v0_2 v0_3 a1 p1 i1_3 i1_4 i1_5 i1_6 i1_7 v1_0 v1_1 v1_2) res s.heap.size) av s 0 0 (va_A w0 s.heap.size)) (F0 m 69 ls []) := by
  obtain ⟨hx, hb, hr, hlk, hml, hown, hts, hK, hG, hE⟩ := id C0
  intro x2 x3 x4 x5 x6 hf H locs ls hP hD hS hl
  rw [f_X1_costOf_b69] at hf
  refine lv_iinc (v := x6 + 1) (lv' := [(6, .int (x6 + 1)), (1, .ref a1), (2, .int x2), (3, .int x3), (4, .int x4), (5, .int x5)]) hx hb dX1_costOf_69 hl (k := 5) rfl (ow_inc (by decide)) (by decide) rfl (fun ls hl => ?_)
  refine lv_goto (tgt := 14) hx hb dX1_costOf_72 (by decide) ?_
  exact hk14 x2 x3 x4 x5 (x6 + 1) hf _ _ _ hP hD hS (lv_sub hl [1, 2, 3, 4, 5, 0] rfl)
def f_X1_costOf_b67  (v1_0 : Nat → Int32) (v1_1 : Nat → Int32) (k14 : Int32 → Int32 → Int32 → Int32 → Int32 → Option (Int32))  (x2 : Int32) (x3 : Int32) (x4 : Int32) (x6 : Int32) (t0 : Int32) : Option (Int32) := f_X1_costOf_b69 v1_0 v1_1 k14 x2 x3 x4 t0 x6
set_option maxHeartbeats 4000000 in
set_option maxRecDepth 100000 in
theorem w_X1_costOf_b67 {p : Program} {l : Launch} {e : Env} {s : State} {m : MethodId} {below : List Frame} {meth : Method} {c : Code} {D : va_G} {cs : Nat → ClassId} {av : Array Value} {w0 : va_W} (C0 : Cx p s m meth c av wsX1_costOf cX1_costOf 8 (some .int) RX1 D cs w0)  (a0 : Nat) (p0 : Nat → Nat) (i0_0 : Int32) (i0_1 : Int32) (v0_2 : Nat → Int32) (v0_3 : Nat → Int32) (a1 : Nat) (p1 : Nat → Nat) (i1_3 : Int32) (i1_4 : Int32) (i1_5 : Int32) (i1_6 : Int32) (i1_7 : Int32) (v1_0 : Nat → Int32) (v1_1 : Nat → Int32) (v1_2 : Nat → Int32) (res : Int32) (k14 : Int32 → Int32 → Int32 → Int32 → Int32 → Option (Int32)) (hk14 : ∀ (x2 : Int32) (x3 : Int32) (x4 : Int32) (x5 : Int32) (x6 : Int32), k14 x2 x3 x4 x5 x6 = some res → ∀ (H : Heap) (locs : List Loc) (ls : Array Slot), va_P D vwCl (W_X1_costOf cs a0 p0 i0_0 i0_1 v0_2 v0_3 a1 p1 i1_3 i1_4 i1_5 i1_6 i1_7 v1_0 v1_1 v1_2) H → va_D (va_A w0 s.heap.size) (W_X1_costOf cs a0 p0 i0_0 i0_1 v0_2 v0_3 a1 p1 i1_3 i1_4 i1_5 i1_6 i1_7 v1_0 v1_1 v1_2) → va_S (va_A w0 s.heap.size) s.heap H locs → lv_has ls 8 [(1, .ref a1), (2, .int x2), (3, .int x3), (4, .int x4), (5, .int x5), (6, .int x6)] → W p l e rm_X1_costOf s m av below meth c H locs 0 0 (MQ below (oI D cs w0 (W_X1_costOf cs a0 p0 i0_0 i0_1 v0_2 v0_3 a1 p1 i1_3 i1_4 i1_5 i1_6 i1_7 v1_0 v1_1 v1_2) res s.heap.size) av s 0 0 (va_A w0 s.heap.size)) (F0 m 14 ls [])) : ∀ (x2 : Int32) (x3 : Int32) (x4 : Int32) (x6 : Int32) (t0 : Int32), f_X1_costOf_b67 v1_0 v1_1 k14 x2 x3 x4 x6 t0 = some res → ∀ (H : Heap) (locs : List Loc) (ls : Array Slot), va_P D vwCl (W_X1_costOf cs a0 p0 i0_0 i0_1 v0_2 v0_3 a1 p1 i1_3 i1_4 i1_5 i1_6 i1_7 v1_0 v1_1 v1_2) H → va_D (va_A w0 s.heap.size) (W_X1_costOf cs a0 p0 i0_0 i0_1 v0_2 v0_3 a1 p1 i1_3 i1_4 i1_5 i1_6 i1_7 v1_0 v1_1 v1_2) → va_S (va_A w0 s.heap.size) s.heap H locs → lv_has ls 8 [(1, .ref a1), (2, .int x2), (3, .int x3), (4, .int x4), (6, .int x6)] → W p l e rm_X1_costOf s m av below meth c H locs 0 0 (MQ below (oI D cs w0 (W_X1_costOf cs a0 p0 i0_0 i0_1 v0_2 v0_3 a1 p1 i1_3 i1_4 i1_5 i1_6 i1_7 v1_0 v1_1 v1_2) res s.heap.size) av s 0 0 (va_A w0 s.heap.size)) (F0 m 67 ls [.int t0]) := by
  obtain ⟨hx, hb, hr, hlk, hml, hown, hts, hK, hG, hE⟩ := id C0
  intro x2 x3 x4 x6 t0 hf H locs ls hP hD hS hl
  rw [f_X1_costOf_b67] at hf
  refine lv_istore (lv' := [(5, .int t0), (1, .ref a1), (2, .int x2), (3, .int x3), (4, .int x4), (6, .int x6)]) hx hb dX1_costOf_67 hl (by decide) rfl (fun ls hl => ?_)
  exact w_X1_costOf_b69 C0 a0 p0 i0_0 i0_1 v0_2 v0_3 a1 p1 i1_3 i1_4 i1_5 i1_6 i1_7 v1_0 v1_1 v1_2 res k14 hk14 x2 x3 x4 t0 x6 hf _ _ _ hP hD hS (lv_sub hl [1, 2, 3, 4, 0, 5] rfl)
def f_X1_costOf_b14  (v1_0 : Nat → Int32) (v1_1 : Nat → Int32)  : Nat → Int32 → Int32 → Int32 → Int32 → Int32 → Option (Int32)
  | 0, _, _, _, _, _ => none
  | n + 1, x2, x3, x4, x5, x6 => if 16 ≤ x6 then (some (x5)) else (if x5 = ((-1)) then (some (x5)) else (if ((x3 >>> (x6 &&& 31)) &&& 1) = 1 then ((f_X2_outsideOf v1_0 v1_1 ((16 * x2) + x6) x4).bind fun q47 => if q47 = ((-1)) then (f_X1_costOf_b67 v1_0 v1_1 (f_X1_costOf_b14 v1_0 v1_1 n) x2 x3 x4 x6 ((-1))) else (f_X1_costOf_b67 v1_0 v1_1 (f_X1_costOf_b14 v1_0 v1_1 n) x2 x3 x4 x6 (x5 + q47))) else (f_X1_costOf_b69 v1_0 v1_1 (f_X1_costOf_b14 v1_0 v1_1 n) x2 x3 x4 x5 x6)))
set_option maxHeartbeats 4000000 in
set_option maxRecDepth 100000 in
theorem w_X1_costOf_b14 {p : Program} {l : Launch} {e : Env} {s : State} {m : MethodId} {below : List Frame} {meth : Method} {c : Code} {D : va_G} {cs : Nat → ClassId} {av : Array Value} {w0 : va_W} (C0 : Cx p s m meth c av wsX1_costOf cX1_costOf 8 (some .int) RX1 D cs w0)  (a0 : Nat) (p0 : Nat → Nat) (i0_0 : Int32) (i0_1 : Int32) (v0_2 : Nat → Int32) (v0_3 : Nat → Int32) (a1 : Nat) (p1 : Nat → Nat) (i1_3 : Int32) (i1_4 : Int32) (i1_5 : Int32) (i1_6 : Int32) (i1_7 : Int32) (v1_0 : Nat → Int32) (v1_1 : Nat → Int32) (v1_2 : Nat → Int32) (res : Int32)  : ∀ (n : Nat) (x2 : Int32) (x3 : Int32) (x4 : Int32) (x5 : Int32) (x6 : Int32), f_X1_costOf_b14 v1_0 v1_1 n x2 x3 x4 x5 x6 = some res → ∀ (H : Heap) (locs : List Loc) (ls : Array Slot), va_P D vwCl (W_X1_costOf cs a0 p0 i0_0 i0_1 v0_2 v0_3 a1 p1 i1_3 i1_4 i1_5 i1_6 i1_7 v1_0 v1_1 v1_2) H → va_D (va_A w0 s.heap.size) (W_X1_costOf cs a0 p0 i0_0 i0_1 v0_2 v0_3 a1 p1 i1_3 i1_4 i1_5 i1_6 i1_7 v1_0 v1_1 v1_2) → va_S (va_A w0 s.heap.size) s.heap H locs → lv_has ls 8 [(1, .ref a1), (2, .int x2), (3, .int x3), (4, .int x4), (5, .int x5), (6, .int x6)] → W p l e rm_X1_costOf s m av below meth c H locs 0 0 (MQ below (oI D cs w0 (W_X1_costOf cs a0 p0 i0_0 i0_1 v0_2 v0_3 a1 p1 i1_3 i1_4 i1_5 i1_6 i1_7 v1_0 v1_1 v1_2) res s.heap.size) av s 0 0 (va_A w0 s.heap.size)) (F0 m 14 ls []) := by
  obtain ⟨hx, hb, hr, hlk, hml, hown, hts, hK, hG, hE⟩ := id C0
  intro n
  induction n with
  | zero =>
    intro x2 x3 x4 x5 x6 hf
    rw [f_X1_costOf_b14] at hf
    cases hf
  | succ n ih =>
    intro x2 x3 x4 x5 x6 hf H locs ls hP hD hS hl
    rw [f_X1_costOf_b14] at hf
    refine lv_iload hx hb dX1_costOf_14 (lv_at hl 5 rfl) ?_
    refine lv_bipush (v := 16) hx hb dX1_costOf_16 (by decide) ?_
    refine lv_icmp_ge (tgt := 75) hx hb dX1_costOf_18 (by decide) (fun hc => ?_) (fun hc => ?_)
    · replace hf := ow_t hc hf
      refine lv_iload hx hb dX1_costOf_75 (lv_at hl 4 rfl) ?_
      obtain rfl := Option.some.inj hf
      exact ow_retI C0 hP hD hS dX1_costOf_77
    · replace hf := ow_f hc hf
      refine lv_iload hx hb dX1_costOf_21 (lv_at hl 4 rfl) ?_
      refine lv_iconst (v := (-1)) hx hb dX1_costOf_23 (by decide) ?_
      refine lv_icmp_eq (tgt := 75) hx hb dX1_costOf_24 (by decide) (fun hc => ?_) (fun hc => ?_)
      · replace hf := ow_t hc hf
        refine lv_iload hx hb dX1_costOf_75 (lv_at hl 4 rfl) ?_
        obtain rfl := Option.some.inj hf
        exact ow_retI C0 hP hD hS dX1_costOf_77
      · replace hf := ow_f hc hf
        refine lv_iload_n hx hb dX1_costOf_27 rfl (lv_at hl 2 rfl) ?_
        refine lv_iload hx hb dX1_costOf_28 (lv_at hl 5 rfl) ?_
        refine lv_ishr hx hb dX1_costOf_30 ?_
        refine lv_iconst (v := 1) hx hb dX1_costOf_31 (by decide) ?_
        refine lv_iand hx hb dX1_costOf_32 ?_
        refine lv_iconst (v := 1) hx hb dX1_costOf_33 (by decide) ?_
        refine lv_icmp_ne (tgt := 69) hx hb dX1_costOf_34 (by decide) (fun hc => ?_) (fun hc => ?_)
        · replace hf := ow_f hc hf
          exact w_X1_costOf_b69 C0 a0 p0 i0_0 i0_1 v0_2 v0_3 a1 p1 i1_3 i1_4 i1_5 i1_6 i1_7 v1_0 v1_1 v1_2 res (f_X1_costOf_b14 v1_0 v1_1 n) ih x2 x3 x4 x5 x6 hf _ _ _ hP hD hS (lv_sub hl [0, 1, 2, 3, 4, 5] rfl)
        · replace hf := ow_t hc hf
          refine lv_aload_n hx hb dX1_costOf_37 rfl (lv_at hl 0 rfl) ?_
          refine lv_bipush (v := 16) hx hb dX1_costOf_38 (by decide) ?_
          refine lv_iload_n hx hb dX1_costOf_40 rfl (lv_at hl 1 rfl) ?_
          refine lv_imul hx hb dX1_costOf_41 ?_
          refine lv_iload hx hb dX1_costOf_42 (lv_at hl 5 rfl) ?_
          refine lv_iadd hx hb dX1_costOf_44 ?_
          refine lv_iload hx hb dX1_costOf_45 (lv_at hl 3 rfl) ?_
          obtain ⟨q47, hq, hf⟩ := bd_some hf
          refine ow_callVI (As := [.int ((16 * x2) + x6), .int x4]) (rest := []) (wr := ow_pk (W_X1_costOf cs a0 p0 i0_0 i0_1 v0_2 v0_3 a1 p1 i1_3 i1_4 i1_5 i1_6 i1_7 v1_0 v1_1 v1_2) [0, 1, 2]) (wf := (W_X1_costOf cs a0 p0 i0_0 i0_1 v0_2 v0_3 a1 p1 i1_3 i1_4 i1_5 i1_6 i1_7 v1_0 v1_1 v1_2)) (r := q47) C0 (c_X2_outsideOf l D cs H.size a1 p1 i1_3 i1_4 i1_5 i1_6 i1_7 v1_0 v1_1 v1_2 ((16 * x2) + x6) x4 q47 hq) (cwV 2 hts gX1_costOf_X2_outsideOf rfl rfl rfl (by decide +kernel) ⟨Nat.le_of_ble_eq_true rfl, Nat.le_of_ble_eq_true rfl⟩) 2 rfl rfl hP hD hS (fun q h => Or.inr h) [3, 4, 5, 6] [0, 1, 2] [0, 1, 2, 3, 4, 5, 6] rfl (by decide) rfl (by decide) (by decide) rfl (by decide) rfl hl.1 rfl (Nat.le_of_ble_eq_true rfl) ⟨Nat.zero_le _, Nat.zero_le _⟩ dX1_costOf_47 (fun H locs hP hD hS => ?_)
          refine lv_istore (lv' := [(7, .int q47), (1, .ref a1), (2, .int x2), (3, .int x3), (4, .int x4), (5, .int x5), (6, .int x6)]) hx hb dX1_costOf_50 hl (by decide) rfl (fun ls hl => ?_)
          refine lv_iload hx hb dX1_costOf_52 (lv_at hl 0 rfl) ?_
          refine lv_iconst (v := (-1)) hx hb dX1_costOf_54 (by decide) ?_
          refine lv_icmp_ne (tgt := 62) hx hb dX1_costOf_55 (by decide) (fun hc => ?_) (fun hc => ?_)
          · replace hf := ow_f hc hf
            refine lv_iload hx hb dX1_costOf_62 (lv_at hl 5 rfl) ?_
            refine lv_iload hx hb dX1_costOf_64 (lv_at hl 0 rfl) ?_
            refine lv_iadd hx hb dX1_costOf_66 ?_
            exact w_X1_costOf_b67 C0 a0 p0 i0_0 i0_1 v0_2 v0_3 a1 p1 i1_3 i1_4 i1_5 i1_6 i1_7 v1_0 v1_1 v1_2 res (f_X1_costOf_b14 v1_0 v1_1 n) ih x2 x3 x4 x6 (x5 + q47) hf _ _ _ hP hD hS (lv_sub hl [1, 2, 3, 4, 6] rfl)
          · replace hf := ow_t hc hf
            refine lv_iconst (v := (-1)) hx hb dX1_costOf_58 (by decide) ?_
            refine lv_goto (tgt := 67) hx hb dX1_costOf_59 (by decide) ?_
            exact w_X1_costOf_b67 C0 a0 p0 i0_0 i0_1 v0_2 v0_3 a1 p1 i1_3 i1_4 i1_5 i1_6 i1_7 v1_0 v1_1 v1_2 res (f_X1_costOf_b14 v1_0 v1_1 n) ih x2 x3 x4 x6 ((-1)) hf _ _ _ hP hD hS (lv_sub hl [1, 2, 3, 4, 6] rfl)
def f_X1_costOf_b9  (v1_0 : Nat → Int32) (v1_1 : Nat → Int32)   (x2 : Int32) (x3 : Int32) (x4 : Int32) (t0 : Int32) : Option (Int32) := f_X1_costOf_b14 v1_0 v1_1 4000 x2 x3 x4 t0 (0)
set_option maxHeartbeats 4000000 in
set_option maxRecDepth 100000 in
theorem w_X1_costOf_b9 {p : Program} {l : Launch} {e : Env} {s : State} {m : MethodId} {below : List Frame} {meth : Method} {c : Code} {D : va_G} {cs : Nat → ClassId} {av : Array Value} {w0 : va_W} (C0 : Cx p s m meth c av wsX1_costOf cX1_costOf 8 (some .int) RX1 D cs w0)  (a0 : Nat) (p0 : Nat → Nat) (i0_0 : Int32) (i0_1 : Int32) (v0_2 : Nat → Int32) (v0_3 : Nat → Int32) (a1 : Nat) (p1 : Nat → Nat) (i1_3 : Int32) (i1_4 : Int32) (i1_5 : Int32) (i1_6 : Int32) (i1_7 : Int32) (v1_0 : Nat → Int32) (v1_1 : Nat → Int32) (v1_2 : Nat → Int32) (res : Int32)  : ∀ (x2 : Int32) (x3 : Int32) (x4 : Int32) (t0 : Int32), f_X1_costOf_b9 v1_0 v1_1 x2 x3 x4 t0 = some res → ∀ (H : Heap) (locs : List Loc) (ls : Array Slot), va_P D vwCl (W_X1_costOf cs a0 p0 i0_0 i0_1 v0_2 v0_3 a1 p1 i1_3 i1_4 i1_5 i1_6 i1_7 v1_0 v1_1 v1_2) H → va_D (va_A w0 s.heap.size) (W_X1_costOf cs a0 p0 i0_0 i0_1 v0_2 v0_3 a1 p1 i1_3 i1_4 i1_5 i1_6 i1_7 v1_0 v1_1 v1_2) → va_S (va_A w0 s.heap.size) s.heap H locs → lv_has ls 8 [(1, .ref a1), (2, .int x2), (3, .int x3), (4, .int x4)] → W p l e rm_X1_costOf s m av below meth c H locs 0 0 (MQ below (oI D cs w0 (W_X1_costOf cs a0 p0 i0_0 i0_1 v0_2 v0_3 a1 p1 i1_3 i1_4 i1_5 i1_6 i1_7 v1_0 v1_1 v1_2) res s.heap.size) av s 0 0 (va_A w0 s.heap.size)) (F0 m 9 ls [.int t0]) := by
  obtain ⟨hx, hb, hr, hlk, hml, hown, hts, hK, hG, hE⟩ := id C0
  intro x2 x3 x4 t0 hf H locs ls hP hD hS hl
  rw [f_X1_costOf_b9] at hf
  refine lv_istore (lv' := [(5, .int t0), (1, .ref a1), (2, .int x2), (3, .int x3), (4, .int x4)]) hx hb dX1_costOf_9 hl (by decide) rfl (fun ls hl => ?_)
  refine lv_iconst (v := 0) hx hb dX1_costOf_11 (by decide) ?_
  refine lv_istore (lv' := [(6, .int 0), (5, .int t0), (1, .ref a1), (2, .int x2), (3, .int x3), (4, .int x4)]) hx hb dX1_costOf_12 hl (by decide) rfl (fun ls hl => ?_)
  exact w_X1_costOf_b14 C0 a0 p0 i0_0 i0_1 v0_2 v0_3 a1 p1 i1_3 i1_4 i1_5 i1_6 i1_7 v1_0 v1_1 v1_2 res 4000 x2 x3 x4 t0 (0) hf _ _ _ hP hD hS (lv_sub hl [2, 3, 4, 5, 1, 0] rfl)
def f_X1_costOf  (v1_0 : Nat → Int32) (v1_1 : Nat → Int32) (x2 : Int32) (x3 : Int32) (x4 : Int32) : Option (Int32) := if x3 = 0 then (f_X1_costOf_b9 v1_0 v1_1 x2 x3 x4 ((-1))) else (f_X1_costOf_b9 v1_0 v1_1 x2 x3 x4 (0))
set_option maxHeartbeats 4000000 in
set_option maxRecDepth 100000 in
theorem c_X1_costOf (l : Launch) (D : va_G) (cs : Nat → ClassId)  (sz : Nat) (a0 : Nat) (p0 : Nat → Nat) (i0_0 : Int32) (i0_1 : Int32) (v0_2 : Nat → Int32) (v0_3 : Nat → Int32) (a1 : Nat) (p1 : Nat → Nat) (i1_3 : Int32) (i1_4 : Int32) (i1_5 : Int32) (i1_6 : Int32) (i1_7 : Int32) (v1_0 : Nat → Int32) (v1_1 : Nat → Int32) (v1_2 : Nat → Int32) (x2 : Int32) (x3 : Int32) (x4 : Int32) (res : Int32) (hf : f_X1_costOf  v1_0 v1_1 x2 x3 x4 = some res) : MI l D cs yX1_costOf wsX1_costOf rm_X1_costOf [.ref a0, .ref a1, .int x2, .int x3, .int x4] sz (W_X1_costOf cs a0 p0 i0_0 i0_1 v0_2 v0_3 a1 p1 i1_3 i1_4 i1_5 i1_6 i1_7 v1_0 v1_1 v1_2) (W_X1_costOf cs a0 p0 i0_0 i0_1 v0_2 v0_3 a1 p1 i1_3 i1_4 i1_5 i1_6 i1_7 v1_0 v1_1 v1_2) res := by
  rw [f_X1_costOf] at hf
  refine ow_enter (cc := cX1_costOf) (nL := 8) (ret := (some .int)) (by decide) rfl (Nat.le_of_ble_eq_true rfl) (fun p e s m below meth c ls H locs C0 hP hD hS hA hl => ?_)
  obtain ⟨hx, hb, hr, hlk, hml, hown, hts, hK, hG, hE⟩ := id C0
  have hl : lv_has ls 8 [(0, .ref a0), (1, .ref a1), (2, .int x2), (3, .int x3), (4, .int x4)] := hl
  refine lv_iload_n hx hb dX1_costOf_0 rfl (lv_at hl 3 rfl) ?_
  refine lv_if_ne (tgt := 8) hx hb dX1_costOf_1 (by decide) (fun hc => ?_) (fun hc => ?_)
  · replace hf := ow_f hc hf
    refine lv_iconst (v := 0) hx hb dX1_costOf_8 (by decide) ?_
    exact w_X1_costOf_b9 C0 a0 p0 i0_0 i0_1 v0_2 v0_3 a1 p1 i1_3 i1_4 i1_5 i1_6 i1_7 v1_0 v1_1 v1_2 res x2 x3 x4 (0) hf _ _ _ hP hD hS (lv_sub hl [1, 2, 3, 4] rfl)
  · replace hf := ow_t hc hf
    refine lv_iconst (v := (-1)) hx hb dX1_costOf_4 (by decide) ?_
    refine lv_goto (tgt := 9) hx hb dX1_costOf_5 (by decide) ?_
    exact w_X1_costOf_b9 C0 a0 p0 i0_0 i0_1 v0_2 v0_3 a1 p1 i1_3 i1_4 i1_5 i1_6 i1_7 v1_0 v1_1 v1_2 res x2 x3 x4 ((-1)) hf _ _ _ hP hD hS (lv_sub hl [1, 2, 3, 4] rfl)
theorem in_X1_bestDay_X2 : ∀ w ∈ u_ws RX2 TX2 8, w ∈ wsX1_bestDay := fun w h => List.mem_cons_of_mem _ (List.mem_append_right _ h)
abbrev W_X1_bestDay (cs : Nat → ClassId) (a0 : Nat) (p0 : Nat → Nat) (i0_0 : Int32) (i0_1 : Int32) (v0_2 : Nat → Int32) (v0_3 : Nat → Int32) (a1 : Nat) (p1 : Nat → Nat) (i1_3 : Int32) (i1_4 : Int32) (i1_5 : Int32) (i1_6 : Int32) (i1_7 : Int32) (v1_0 : Nat → Int32) (v1_1 : Nat → Int32) (v1_2 : Nat → Int32) : va_W := wX1 cs a0 p0 i0_0 i0_1 v0_2 v0_3 ++ wX2 cs a1 p1 i1_3 i1_4 i1_5 i1_6 i1_7 v1_0 v1_1 v1_2
abbrev rm_X1_bestDay : Room := { frames := 3, cells := 0, slots := 0, locals := 72 }
def f_X1_bestDay_b37  (v1_0 : Nat → Int32) (v1_1 : Nat → Int32)  : Nat → Int32 → Int32 → Int32 → Int32 → Option (Int32)
  | 0, _, _, _, _ => none
  | n + 1, x2, x3, x5, x6 => ck x5 80 (if (v1_1 (x5).toNatClampNeg) ≤ x6 then (some ((-1))) else ((f_X2_behind v1_0 v1_1 x5 x6).bind fun q54 => (f_X1_costOf v1_0 v1_1 x2 x3 q54).bind fun q65 => if q65 = ((-1)) then (f_X1_bestDay_b37 v1_0 v1_1 n x2 x3 x5 (x6 + 1)) else (some (q54))))
set_option maxHeartbeats 4000000 in
set_option maxRecDepth 100000 in
theorem w_X1_bestDay_b37 {p : Program} {l : Launch} {e : Env} {s : State} {m : MethodId} {below : List Frame} {meth : Method} {c : Code} {D : va_G} {cs : Nat → ClassId} {av : Array Value} {w0 : va_W} (C0 : Cx p s m meth c av wsX1_bestDay cX1_bestDay 8 (some .int) RX1 D cs w0)  (a0 : Nat) (p0 : Nat → Nat) (i0_0 : Int32) (i0_1 : Int32) (v0_2 : Nat → Int32) (v0_3 : Nat → Int32) (a1 : Nat) (p1 : Nat → Nat) (i1_3 : Int32) (i1_4 : Int32) (i1_5 : Int32) (i1_6 : Int32) (i1_7 : Int32) (v1_0 : Nat → Int32) (v1_1 : Nat → Int32) (v1_2 : Nat → Int32) (res : Int32)  : ∀ (n : Nat) (x2 : Int32) (x3 : Int32) (x5 : Int32) (x6 : Int32), f_X1_bestDay_b37 v1_0 v1_1 n x2 x3 x5 x6 = some res → ∀ (H : Heap) (locs : List Loc) (ls : Array Slot), va_P D vwCl (W_X1_bestDay cs a0 p0 i0_0 i0_1 v0_2 v0_3 a1 p1 i1_3 i1_4 i1_5 i1_6 i1_7 v1_0 v1_1 v1_2) H → va_D (va_A w0 s.heap.size) (W_X1_bestDay cs a0 p0 i0_0 i0_1 v0_2 v0_3 a1 p1 i1_3 i1_4 i1_5 i1_6 i1_7 v1_0 v1_1 v1_2) → va_S (va_A w0 s.heap.size) s.heap H locs → lv_has ls 8 [(0, .ref a0), (1, .ref a1), (2, .int x2), (3, .int x3), (5, .int x5), (6, .int x6)] → W p l e rm_X1_bestDay s m av below meth c H locs 0 0 (MQ below (oI D cs w0 (W_X1_bestDay cs a0 p0 i0_0 i0_1 v0_2 v0_3 a1 p1 i1_3 i1_4 i1_5 i1_6 i1_7 v1_0 v1_1 v1_2) res s.heap.size) av s 0 0 (va_A w0 s.heap.size)) (F0 m 37 ls []) := by
  obtain ⟨hx, hb, hr, hlk, hml, hown, hts, hK, hG, hE⟩ := id C0
  intro n
  induction n with
  | zero =>
    intro x2 x3 x5 x6 hf
    rw [f_X1_bestDay_b37] at hf
    cases hf
  | succ n ih =>
    intro x2 x3 x5 x6 hf H locs ls hP hD hS hl
    rw [f_X1_bestDay_b37] at hf
    refine lv_iload hx hb dX1_bestDay_37 (lv_at hl 5 rfl) ?_
    refine lv_aload_n hx hb dX1_bestDay_39 rfl (lv_at hl 1 rfl) ?_
    refine va_get (D := D) (ci := 2) (v := .ref (p1 1)) (C := RX2) (T := TX2) (N := 8) hx hb hts in_X1_bestDay_X2 hown hK hP 3 rfl rfl 1 (by decide) (hts (.fieldLink RX1 33 "PaneDays$Glass" "depth" "[I") (List.mem_of_getElem? (i := 1) rfl)) (fun _ h9 => h9) rfl dX1_bestDay_40 ?_
    refine lv_iload hx hb dX1_bestDay_43 (lv_at hl 4 rfl) ?_
    obtain ⟨hin, hf⟩ := ck_some hf
    refine va_iald (f := v1_1) hx hb hK hP 5 0 rfl rfl hin dX1_bestDay_45 ?_
    refine lv_icmp_ge (tgt := 81) hx hb dX1_bestDay_46 (by decide) (fun hc => ?_) (fun hc => ?_)
    · replace hf := ow_t hc hf
      refine lv_iconst (v := (-1)) hx hb dX1_bestDay_81 (by decide) ?_
      obtain rfl := Option.some.inj hf
      exact ow_retI C0 hP hD hS dX1_bestDay_82
    · replace hf := ow_f hc hf
      refine lv_aload_n hx hb dX1_bestDay_49 rfl (lv_at hl 1 rfl) ?_
      refine lv_iload hx hb dX1_bestDay_50 (lv_at hl 4 rfl) ?_
      refine lv_iload hx hb dX1_bestDay_52 (lv_at hl 5 rfl) ?_
      obtain ⟨q54, hq, hf⟩ := bd_some hf
      refine ow_callVI (As := [.int x5, .int x6]) (rest := []) (wr := ow_pk (W_X1_bestDay cs a0 p0 i0_0 i0_1 v0_2 v0_3 a1 p1 i1_3 i1_4 i1_5 i1_6 i1_7 v1_0 v1_1 v1_2) [0, 1, 2]) (wf := (W_X1_bestDay cs a0 p0 i0_0 i0_1 v0_2 v0_3 a1 p1 i1_3 i1_4 i1_5 i1_6 i1_7 v1_0 v1_1 v1_2)) (r := q54) C0 (c_X2_behind l D cs H.size a1 p1 i1_3 i1_4 i1_5 i1_6 i1_7 v1_0 v1_1 v1_2 x5 x6 q54 hq) (cwV 2 hts gX1_bestDay_X2_behind rfl rfl rfl (by decide +kernel) ⟨Nat.le_of_ble_eq_true rfl, Nat.le_of_ble_eq_true rfl⟩) 2 rfl rfl hP hD hS (fun q h => Or.inr h) [3, 4, 5, 6] [0, 1, 2] [0, 1, 2, 3, 4, 5, 6] rfl (by decide) rfl (by decide) (by decide) rfl (by decide) rfl hl.1 rfl (Nat.le_of_ble_eq_true rfl) ⟨Nat.zero_le _, Nat.zero_le _⟩ dX1_bestDay_54 (fun H locs hP hD hS => ?_)
      refine lv_istore (lv' := [(7, .int q54), (0, .ref a0), (1, .ref a1), (2, .int x2), (3, .int x3), (5, .int x5), (6, .int x6)]) hx hb dX1_bestDay_57 hl (by decide) rfl (fun ls hl => ?_)
      refine lv_aload_n hx hb dX1_bestDay_59 rfl (lv_at hl 1 rfl) ?_
      refine lv_aload_n hx hb dX1_bestDay_60 rfl (lv_at hl 2 rfl) ?_
      refine lv_iload_n hx hb dX1_bestDay_61 rfl (lv_at hl 3 rfl) ?_
      refine lv_iload_n hx hb dX1_bestDay_62 rfl (lv_at hl 4 rfl) ?_
      refine lv_iload hx hb dX1_bestDay_63 (lv_at hl 0 rfl) ?_
      obtain ⟨q65, hq, hf⟩ := bd_some hf
      refine ow_callVI (As := [.ref a1, .int x2, .int x3, .int q54]) (rest := []) (wr := ow_pk (W_X1_bestDay cs a0 p0 i0_0 i0_1 v0_2 v0_3 a1 p1 i1_3 i1_4 i1_5 i1_6 i1_7 v1_0 v1_1 v1_2) []) (wf := (W_X1_bestDay cs a0 p0 i0_0 i0_1 v0_2 v0_3 a1 p1 i1_3 i1_4 i1_5 i1_6 i1_7 v1_0 v1_1 v1_2)) (r := q65) C0 (c_X1_costOf l D cs H.size a0 p0 i0_0 i0_1 v0_2 v0_3 a1 p1 i1_3 i1_4 i1_5 i1_6 i1_7 v1_0 v1_1 v1_2 x2 x3 q54 q65 hq) (cwV 4 hts gX1_bestDay_X1_costOf rfl rfl rfl (by decide +kernel) ⟨Nat.le_of_ble_eq_true rfl, Nat.le_of_ble_eq_true rfl⟩) 1 rfl rfl hP hD hS (fun q h => Or.inr h) [0, 1, 2, 3, 4, 5, 6] [] [0, 1, 2, 3, 4, 5, 6] rfl (by decide) rfl (by decide) (by decide) rfl (by decide) rfl hl.1 rfl (Nat.le_of_ble_eq_true rfl) ⟨Nat.zero_le _, Nat.zero_le _⟩ dX1_bestDay_65 (fun H locs hP hD hS => ?_)
      refine lv_iconst (v := (-1)) hx hb dX1_bestDay_68 (by decide) ?_
      refine lv_icmp_eq (tgt := 75) hx hb dX1_bestDay_69 (by decide) (fun hc => ?_) (fun hc => ?_)
      · replace hf := ow_t hc hf
        refine lv_iinc (v := x6 + 1) (lv' := [(6, .int (x6 + 1)), (7, .int q54), (0, .ref a0), (1, .ref a1), (2, .int x2), (3, .int x3), (5, .int x5)]) hx hb dX1_bestDay_75 hl (k := 6) rfl (ow_inc (by decide)) (by decide) rfl (fun ls hl => ?_)
        refine lv_goto (tgt := 37) hx hb dX1_bestDay_78 (by decide) ?_
        exact ih x2 x3 x5 (x6 + 1) hf _ _ _ hP hD hS (lv_sub hl [2, 3, 4, 5, 6, 0] rfl)
      · replace hf := ow_f hc hf
        refine lv_iload hx hb dX1_bestDay_72 (lv_at hl 0 rfl) ?_
        obtain rfl := Option.some.inj hf
        exact ow_retI C0 hP hD hS dX1_bestDay_74
def f_X1_bestDay_b25  (v1_0 : Nat → Int32) (v1_1 : Nat → Int32)   (x2 : Int32) (x3 : Int32) (x4 : Int32) : Option (Int32) := f_X1_bestDay_b37 v1_0 v1_1 4000 x2 x3 ((16 * x2) + x4) (0)
set_option maxHeartbeats 4000000 in
set_option maxRecDepth 100000 in
theorem w_X1_bestDay_b25 {p : Program} {l : Launch} {e : Env} {s : State} {m : MethodId} {below : List Frame} {meth : Method} {c : Code} {D : va_G} {cs : Nat → ClassId} {av : Array Value} {w0 : va_W} (C0 : Cx p s m meth c av wsX1_bestDay cX1_bestDay 8 (some .int) RX1 D cs w0)  (a0 : Nat) (p0 : Nat → Nat) (i0_0 : Int32) (i0_1 : Int32) (v0_2 : Nat → Int32) (v0_3 : Nat → Int32) (a1 : Nat) (p1 : Nat → Nat) (i1_3 : Int32) (i1_4 : Int32) (i1_5 : Int32) (i1_6 : Int32) (i1_7 : Int32) (v1_0 : Nat → Int32) (v1_1 : Nat → Int32) (v1_2 : Nat → Int32) (res : Int32)  : ∀ (x2 : Int32) (x3 : Int32) (x4 : Int32), f_X1_bestDay_b25 v1_0 v1_1 x2 x3 x4 = some res → ∀ (H : Heap) (locs : List Loc) (ls : Array Slot), va_P D vwCl (W_X1_bestDay cs a0 p0 i0_0 i0_1 v0_2 v0_3 a1 p1 i1_3 i1_4 i1_5 i1_6 i1_7 v1_0 v1_1 v1_2) H → va_D (va_A w0 s.heap.size) (W_X1_bestDay cs a0 p0 i0_0 i0_1 v0_2 v0_3 a1 p1 i1_3 i1_4 i1_5 i1_6 i1_7 v1_0 v1_1 v1_2) → va_S (va_A w0 s.heap.size) s.heap H locs → lv_has ls 8 [(0, .ref a0), (1, .ref a1), (2, .int x2), (3, .int x3), (4, .int x4)] → W p l e rm_X1_bestDay s m av below meth c H locs 0 0 (MQ below (oI D cs w0 (W_X1_bestDay cs a0 p0 i0_0 i0_1 v0_2 v0_3 a1 p1 i1_3 i1_4 i1_5 i1_6 i1_7 v1_0 v1_1 v1_2) res s.heap.size) av s 0 0 (va_A w0 s.heap.size)) (F0 m 25 ls []) := by
  obtain ⟨hx, hb, hr, hlk, hml, hown, hts, hK, hG, hE⟩ := id C0
  intro x2 x3 x4 hf H locs ls hP hD hS hl
  rw [f_X1_bestDay_b25] at hf
  refine lv_bipush (v := 16) hx hb dX1_bestDay_25 (by decide) ?_
  refine lv_iload_n hx hb dX1_bestDay_27 rfl (lv_at hl 2 rfl) ?_
  refine lv_imul hx hb dX1_bestDay_28 ?_
  refine lv_iload hx hb dX1_bestDay_29 (lv_at hl 4 rfl) ?_
  refine lv_iadd hx hb dX1_bestDay_31 ?_
  refine lv_istore (lv' := [(5, .int ((16 * x2) + x4)), (0, .ref a0), (1, .ref a1), (2, .int x2), (3, .int x3), (4, .int x4)]) hx hb dX1_bestDay_32 hl (by decide) rfl (fun ls hl => ?_)
  refine lv_iconst (v := 0) hx hb dX1_bestDay_34 (by decide) ?_
  refine lv_istore (lv' := [(6, .int 0), (5, .int ((16 * x2) + x4)), (0, .ref a0), (1, .ref a1), (2, .int x2), (3, .int x3), (4, .int x4)]) hx hb dX1_bestDay_35 hl (by decide) rfl (fun ls hl => ?_)
  exact w_X1_bestDay_b37 C0 a0 p0 i0_0 i0_1 v0_2 v0_3 a1 p1 i1_3 i1_4 i1_5 i1_6 i1_7 v1_0 v1_1 v1_2 res 4000 x2 x3 ((16 * x2) + x4) (0) hf _ _ _ hP hD hS (lv_sub hl [2, 3, 4, 5, 1, 0] rfl)
def f_X1_bestDay_b3  (v1_0 : Nat → Int32) (v1_1 : Nat → Int32)  : Nat → Int32 → Int32 → Int32 → Option (Int32)
  | 0, _, _, _ => none
  | n + 1, x2, x3, x4 => if 15 ≤ x4 then (f_X1_bestDay_b25 v1_0 v1_1 x2 x3 x4) else (if ((x3 >>> (x4 &&& 31)) &&& 1) = 0 then (f_X1_bestDay_b3 v1_0 v1_1 n x2 x3 (x4 + 1)) else (f_X1_bestDay_b25 v1_0 v1_1 x2 x3 x4))
set_option maxHeartbeats 4000000 in
set_option maxRecDepth 100000 in
theorem w_X1_bestDay_b3 {p : Program} {l : Launch} {e : Env} {s : State} {m : MethodId} {below : List Frame} {meth : Method} {c : Code} {D : va_G} {cs : Nat → ClassId} {av : Array Value} {w0 : va_W} (C0 : Cx p s m meth c av wsX1_bestDay cX1_bestDay 8 (some .int) RX1 D cs w0)  (a0 : Nat) (p0 : Nat → Nat) (i0_0 : Int32) (i0_1 : Int32) (v0_2 : Nat → Int32) (v0_3 : Nat → Int32) (a1 : Nat) (p1 : Nat → Nat) (i1_3 : Int32) (i1_4 : Int32) (i1_5 : Int32) (i1_6 : Int32) (i1_7 : Int32) (v1_0 : Nat → Int32) (v1_1 : Nat → Int32) (v1_2 : Nat → Int32) (res : Int32)  : ∀ (n : Nat) (x2 : Int32) (x3 : Int32) (x4 : Int32), f_X1_bestDay_b3 v1_0 v1_1 n x2 x3 x4 = some res → ∀ (H : Heap) (locs : List Loc) (ls : Array Slot), va_P D vwCl (W_X1_bestDay cs a0 p0 i0_0 i0_1 v0_2 v0_3 a1 p1 i1_3 i1_4 i1_5 i1_6 i1_7 v1_0 v1_1 v1_2) H → va_D (va_A w0 s.heap.size) (W_X1_bestDay cs a0 p0 i0_0 i0_1 v0_2 v0_3 a1 p1 i1_3 i1_4 i1_5 i1_6 i1_7 v1_0 v1_1 v1_2) → va_S (va_A w0 s.heap.size) s.heap H locs → lv_has ls 8 [(0, .ref a0), (1, .ref a1), (2, .int x2), (3, .int x3), (4, .int x4)] → W p l e rm_X1_bestDay s m av below meth c H locs 0 0 (MQ below (oI D cs w0 (W_X1_bestDay cs a0 p0 i0_0 i0_1 v0_2 v0_3 a1 p1 i1_3 i1_4 i1_5 i1_6 i1_7 v1_0 v1_1 v1_2) res s.heap.size) av s 0 0 (va_A w0 s.heap.size)) (F0 m 3 ls []) := by
  obtain ⟨hx, hb, hr, hlk, hml, hown, hts, hK, hG, hE⟩ := id C0
  intro n
  induction n with
  | zero =>
    intro x2 x3 x4 hf
    rw [f_X1_bestDay_b3] at hf
    cases hf
  | succ n ih =>
    intro x2 x3 x4 hf H locs ls hP hD hS hl
    rw [f_X1_bestDay_b3] at hf
    refine lv_iload hx hb dX1_bestDay_3 (lv_at hl 4 rfl) ?_
    refine lv_bipush (v := 15) hx hb dX1_bestDay_5 (by decide) ?_
    refine lv_icmp_ge (tgt := 25) hx hb dX1_bestDay_7 (by decide) (fun hc => ?_) (fun hc => ?_)
    · replace hf := ow_t hc hf
      exact w_X1_bestDay_b25 C0 a0 p0 i0_0 i0_1 v0_2 v0_3 a1 p1 i1_3 i1_4 i1_5 i1_6 i1_7 v1_0 v1_1 v1_2 res x2 x3 x4 hf _ _ _ hP hD hS (lv_sub hl [0, 1, 2, 3, 4] rfl)
    · replace hf := ow_f hc hf
      refine lv_iload_n hx hb dX1_bestDay_10 rfl (lv_at hl 3 rfl) ?_
      refine lv_iload hx hb dX1_bestDay_11 (lv_at hl 4 rfl) ?_
      refine lv_ishr hx hb dX1_bestDay_13 ?_
      refine lv_iconst (v := 1) hx hb dX1_bestDay_14 (by decide) ?_
      refine lv_iand hx hb dX1_bestDay_15 ?_
      refine lv_if_ne (tgt := 25) hx hb dX1_bestDay_16 (by decide) (fun hc => ?_) (fun hc => ?_)
      · replace hf := ow_f hc hf
        exact w_X1_bestDay_b25 C0 a0 p0 i0_0 i0_1 v0_2 v0_3 a1 p1 i1_3 i1_4 i1_5 i1_6 i1_7 v1_0 v1_1 v1_2 res x2 x3 x4 hf _ _ _ hP hD hS (lv_sub hl [0, 1, 2, 3, 4] rfl)
      · replace hf := ow_t hc hf
        refine lv_iinc (v := x4 + 1) (lv' := [(4, .int (x4 + 1)), (0, .ref a0), (1, .ref a1), (2, .int x2), (3, .int x3)]) hx hb dX1_bestDay_19 hl (k := 4) rfl (ow_inc (by decide)) (by decide) rfl (fun ls hl => ?_)
        refine lv_goto (tgt := 3) hx hb dX1_bestDay_22 (by decide) ?_
        exact ih x2 x3 (x4 + 1) hf _ _ _ hP hD hS (lv_sub hl [1, 2, 3, 4, 0] rfl)
def f_X1_bestDay  (v1_0 : Nat → Int32) (v1_1 : Nat → Int32) (x2 : Int32) (x3 : Int32) : Option (Int32) := f_X1_bestDay_b3 v1_0 v1_1 4000 x2 x3 (0)
set_option maxHeartbeats 4000000 in
set_option maxRecDepth 100000 in
theorem c_X1_bestDay (l : Launch) (D : va_G) (cs : Nat → ClassId)  (sz : Nat) (a0 : Nat) (p0 : Nat → Nat) (i0_0 : Int32) (i0_1 : Int32) (v0_2 : Nat → Int32) (v0_3 : Nat → Int32) (a1 : Nat) (p1 : Nat → Nat) (i1_3 : Int32) (i1_4 : Int32) (i1_5 : Int32) (i1_6 : Int32) (i1_7 : Int32) (v1_0 : Nat → Int32) (v1_1 : Nat → Int32) (v1_2 : Nat → Int32) (x2 : Int32) (x3 : Int32) (res : Int32) (hf : f_X1_bestDay  v1_0 v1_1 x2 x3 = some res) : MI l D cs yX1_bestDay wsX1_bestDay rm_X1_bestDay [.ref a0, .ref a1, .int x2, .int x3] sz (W_X1_bestDay cs a0 p0 i0_0 i0_1 v0_2 v0_3 a1 p1 i1_3 i1_4 i1_5 i1_6 i1_7 v1_0 v1_1 v1_2) (W_X1_bestDay cs a0 p0 i0_0 i0_1 v0_2 v0_3 a1 p1 i1_3 i1_4 i1_5 i1_6 i1_7 v1_0 v1_1 v1_2) res := by
  rw [f_X1_bestDay] at hf
  refine ow_enter (cc := cX1_bestDay) (nL := 8) (ret := (some .int)) (by decide) rfl (Nat.le_of_ble_eq_true rfl) (fun p e s m below meth c ls H locs C0 hP hD hS hA hl => ?_)
  obtain ⟨hx, hb, hr, hlk, hml, hown, hts, hK, hG, hE⟩ := id C0
  have hl : lv_has ls 8 [(0, .ref a0), (1, .ref a1), (2, .int x2), (3, .int x3)] := hl
  refine lv_iconst (v := 0) hx hb dX1_bestDay_0 (by decide) ?_
  refine lv_istore (lv' := [(4, .int 0), (0, .ref a0), (1, .ref a1), (2, .int x2), (3, .int x3)]) hx hb dX1_bestDay_1 hl (by decide) rfl (fun ls hl => ?_)
  exact w_X1_bestDay_b3 C0 a0 p0 i0_0 i0_1 v0_2 v0_3 a1 p1 i1_3 i1_4 i1_5 i1_6 i1_7 v1_0 v1_1 v1_2 res 4000 x2 x3 (0) hf _ _ _ hP hD hS (lv_sub hl [1, 2, 3, 4, 0] rfl)
abbrev W_X1_cellsHaving (cs : Nat → ClassId) (a0 : Nat) (p0 : Nat → Nat) (i0_0 : Int32) (i0_1 : Int32) (v0_2 : Nat → Int32) (v0_3 : Nat → Int32) (a1 : Nat) (p1 : Nat → Nat) (i1_3 : Int32) (i1_4 : Int32) (i1_5 : Int32) (i1_6 : Int32) (i1_7 : Int32) (v1_0 : Nat → Int32) (v1_1 : Nat → Int32) (v1_2 : Nat → Int32) : va_W := wX1 cs a0 p0 i0_0 i0_1 v0_2 v0_3 ++ wX2 cs a1 p1 i1_3 i1_4 i1_5 i1_6 i1_7 v1_0 v1_1 v1_2
abbrev rm_X1_cellsHaving : Room := { frames := 2, cells := 0, slots := 0, locals := 45 }
def f_X1_cellsHaving_b38  (v1_0 : Nat → Int32) (v1_1 : Nat → Int32) (k6 : Int32 → Int32 → Int32 → Int32 → Option (Int32))  (x2 : Int32) (x3 : Int32) (x4 : Int32) (x5 : Int32) : Option (Int32) := k6 x2 x3 x4 (x5 + 1)
set_option maxHeartbeats 4000000 in
set_option maxRecDepth 100000 in
theorem w_X1_cellsHaving_b38 {p : Program} {l : Launch} {e : Env} {s : State} {m : MethodId} {below : List Frame} {meth : Method} {c : Code} {D : va_G} {cs : Nat → ClassId} {av : Array Value} {w0 : va_W} (C0 : Cx p s m meth c av wsX1_cellsHaving cX1_cellsHaving 6 (some .int) RX1 D cs w0)  (a0 : Nat) (p0 : Nat → Nat) (i0_0 : Int32) (i0_1 : Int32) (v0_2 : Nat → Int32) (v0_3 : Nat → Int32) (a1 : Nat) (p1 : Nat → Nat) (i1_3 : Int32) (i1_4 : Int32) (i1_5 : Int32) (i1_6 : Int32) (i1_7 : Int32) (v1_0 : Nat → Int32) (v1_1 : Nat → Int32) (v1_2 : Nat → Int32) (res : Int32) (k6 : Int32 → Int32 → Int32 → Int32 → Option (Int32)) (hk6 : ∀ (x2 : Int32) (x3 : Int32) (x4 : Int32) (x5 : Int32), k6 x2 x3 x4 x5 = some res → ∀ (H : Heap) (locs : List Loc) (ls : Array Slot), va_P D vwCl (W_X1_cellsHaving cs a0 p0 i0_0 i0_1 v0_2 v0_3 a1 p1 i1_3 i1_4 i1_5 i1_6 i1_7 v1_0 v1_1 v1_2) H → va_D (va_A w0 s.heap.size) (W_X1_cellsHaving cs a0 p0 i0_0 i0_1 v0_2 v0_3 a1 p1 i1_3 i1_4 i1_5 i1_6 i1_7 v1_0 v1_1 v1_2) → va_S (va_A w0 s.heap.size) s.heap H locs → lv_has ls 6 [(1, .ref a1), (2, .int x2), (3, .int x3), (4, .int x4), (5, .int x5)] → W p l e rm_X1_cellsHaving s m av below meth c H locs 0 0 (MQ below (oI D cs w0 (W_X1_cellsHaving cs a0 p0 i0_0 i0_1 v0_2 v0_3 a1 p1 i1_3 i1_4 i1_5 i1_6 i1_7 v1_0 v1_1 v1_2) res s.heap.size) av s 0 0 (va_A w0 s.heap.size)) (F0 m 6 ls [])) : ∀ (x2 : Int32) (x3 : Int32) (x4 : Int32) (x5 : Int32), f_X1_cellsHaving_b38 v1_0 v1_1 k6 x2 x3 x4 x5 = some res → ∀ (H : Heap) (locs : List Loc) (ls : Array Slot), va_P D vwCl (W_X1_cellsHaving cs a0 p0 i0_0 i0_1 v0_2 v0_3 a1 p1 i1_3 i1_4 i1_5 i1_6 i1_7 v1_0 v1_1 v1_2) H → va_D (va_A w0 s.heap.size) (W_X1_cellsHaving cs a0 p0 i0_0 i0_1 v0_2 v0_3 a1 p1 i1_3 i1_4 i1_5 i1_6 i1_7 v1_0 v1_1 v1_2) → va_S (va_A w0 s.heap.size) s.heap H locs → lv_has ls 6 [(1, .ref a1), (2, .int x2), (3, .int x3), (4, .int x4), (5, .int x5)] → W p l e rm_X1_cellsHaving s m av below meth c H locs 0 0 (MQ below (oI D cs w0 (W_X1_cellsHaving cs a0 p0 i0_0 i0_1 v0_2 v0_3 a1 p1 i1_3 i1_4 i1_5 i1_6 i1_7 v1_0 v1_1 v1_2) res s.heap.size) av s 0 0 (va_A w0 s.heap.size)) (F0 m 38 ls []) := by
  obtain ⟨hx, hb, hr, hlk, hml, hown, hts, hK, hG, hE⟩ := id C0
  intro x2 x3 x4 x5 hf H locs ls hP hD hS hl
  rw [f_X1_cellsHaving_b38] at hf
  refine lv_iinc (v := x5 + 1) (lv' := [(5, .int (x5 + 1)), (1, .ref a1), (2, .int x2), (3, .int x3), (4, .int x4)]) hx hb dX1_cellsHaving_38 hl (k := 4) rfl (ow_inc (by decide)) (by decide) rfl (fun ls hl => ?_)
  refine lv_goto (tgt := 6) hx hb dX1_cellsHaving_41 (by decide) ?_
  exact hk6 x2 x3 x4 (x5 + 1) hf _ _ _ hP hD hS (lv_sub hl [1, 2, 3, 4, 0] rfl)
def f_X1_cellsHaving_b6  (v1_0 : Nat → Int32) (v1_1 : Nat → Int32)  : Nat → Int32 → Int32 → Int32 → Int32 → Option (Int32)
  | 0, _, _, _, _ => none
  | n + 1, x2, x3, x4, x5 => if 16 ≤ x5 then (some (x4)) else ((f_X2_outsideOf v1_0 v1_1 ((16 * x2) + x5) x3).bind fun q22 => if q22 = ((-1)) then (f_X1_cellsHaving_b38 v1_0 v1_1 (f_X1_cellsHaving_b6 v1_0 v1_1 n) x2 x3 x4 x5) else (f_X1_cellsHaving_b38 v1_0 v1_1 (f_X1_cellsHaving_b6 v1_0 v1_1 n) x2 x3 (x4 ||| (((1 : Int32)) <<< (x5 &&& 31))) x5))
set_option maxHeartbeats 4000000 in
set_option maxRecDepth 100000 in
theorem w_X1_cellsHaving_b6 {p : Program} {l : Launch} {e : Env} {s : State} {m : MethodId} {below : List Frame} {meth : Method} {c : Code} {D : va_G} {cs : Nat → ClassId} {av : Array Value} {w0 : va_W} (C0 : Cx p s m meth c av wsX1_cellsHaving cX1_cellsHaving 6 (some .int) RX1 D cs w0)  (a0 : Nat) (p0 : Nat → Nat) (i0_0 : Int32) (i0_1 : Int32) (v0_2 : Nat → Int32) (v0_3 : Nat → Int32) (a1 : Nat) (p1 : Nat → Nat) (i1_3 : Int32) (i1_4 : Int32) (i1_5 : Int32) (i1_6 : Int32) (i1_7 : Int32) (v1_0 : Nat → Int32) (v1_1 : Nat → Int32) (v1_2 : Nat → Int32) (res : Int32)  : ∀ (n : Nat) (x2 : Int32) (x3 : Int32) (x4 : Int32) (x5 : Int32), f_X1_cellsHaving_b6 v1_0 v1_1 n x2 x3 x4 x5 = some res → ∀ (H : Heap) (locs : List Loc) (ls : Array Slot), va_P D vwCl (W_X1_cellsHaving cs a0 p0 i0_0 i0_1 v0_2 v0_3 a1 p1 i1_3 i1_4 i1_5 i1_6 i1_7 v1_0 v1_1 v1_2) H → va_D (va_A w0 s.heap.size) (W_X1_cellsHaving cs a0 p0 i0_0 i0_1 v0_2 v0_3 a1 p1 i1_3 i1_4 i1_5 i1_6 i1_7 v1_0 v1_1 v1_2) → va_S (va_A w0 s.heap.size) s.heap H locs → lv_has ls 6 [(1, .ref a1), (2, .int x2), (3, .int x3), (4, .int x4), (5, .int x5)] → W p l e rm_X1_cellsHaving s m av below meth c H locs 0 0 (MQ below (oI D cs w0 (W_X1_cellsHaving cs a0 p0 i0_0 i0_1 v0_2 v0_3 a1 p1 i1_3 i1_4 i1_5 i1_6 i1_7 v1_0 v1_1 v1_2) res s.heap.size) av s 0 0 (va_A w0 s.heap.size)) (F0 m 6 ls []) := by
  obtain ⟨hx, hb, hr, hlk, hml, hown, hts, hK, hG, hE⟩ := id C0
  intro n
  induction n with
  | zero =>
    intro x2 x3 x4 x5 hf
    rw [f_X1_cellsHaving_b6] at hf
    cases hf
  | succ n ih =>
    intro x2 x3 x4 x5 hf H locs ls hP hD hS hl
    rw [f_X1_cellsHaving_b6] at hf
    refine lv_iload hx hb dX1_cellsHaving_6 (lv_at hl 4 rfl) ?_
    refine lv_bipush (v := 16) hx hb dX1_cellsHaving_8 (by decide) ?_
    refine lv_icmp_ge (tgt := 44) hx hb dX1_cellsHaving_10 (by decide) (fun hc => ?_) (fun hc => ?_)
    · replace hf := ow_t hc hf
      refine lv_iload hx hb dX1_cellsHaving_44 (lv_at hl 3 rfl) ?_
      obtain rfl := Option.some.inj hf
      exact ow_retI C0 hP hD hS dX1_cellsHaving_46
    · replace hf := ow_f hc hf
      refine lv_aload_n hx hb dX1_cellsHaving_13 rfl (lv_at hl 0 rfl) ?_
      refine lv_bipush (v := 16) hx hb dX1_cellsHaving_14 (by decide) ?_
      refine lv_iload_n hx hb dX1_cellsHaving_16 rfl (lv_at hl 1 rfl) ?_
      refine lv_imul hx hb dX1_cellsHaving_17 ?_
      refine lv_iload hx hb dX1_cellsHaving_18 (lv_at hl 4 rfl) ?_
      refine lv_iadd hx hb dX1_cellsHaving_20 ?_
      refine lv_iload_n hx hb dX1_cellsHaving_21 rfl (lv_at hl 2 rfl) ?_
      obtain ⟨q22, hq, hf⟩ := bd_some hf
      refine ow_callVI (As := [.int ((16 * x2) + x5), .int x3]) (rest := []) (wr := ow_pk (W_X1_cellsHaving cs a0 p0 i0_0 i0_1 v0_2 v0_3 a1 p1 i1_3 i1_4 i1_5 i1_6 i1_7 v1_0 v1_1 v1_2) [0, 1, 2]) (wf := (W_X1_cellsHaving cs a0 p0 i0_0 i0_1 v0_2 v0_3 a1 p1 i1_3 i1_4 i1_5 i1_6 i1_7 v1_0 v1_1 v1_2)) (r := q22) C0 (c_X2_outsideOf l D cs H.size a1 p1 i1_3 i1_4 i1_5 i1_6 i1_7 v1_0 v1_1 v1_2 ((16 * x2) + x5) x3 q22 hq) (cwV 2 hts gX1_cellsHaving_X2_outsideOf rfl rfl rfl (by decide +kernel) ⟨Nat.le_of_ble_eq_true rfl, Nat.le_of_ble_eq_true rfl⟩) 2 rfl rfl hP hD hS (fun q h => Or.inr h) [3, 4, 5, 6] [0, 1, 2] [0, 1, 2, 3, 4, 5, 6] rfl (by decide) rfl (by decide) (by decide) rfl (by decide) rfl hl.1 rfl (Nat.le_of_ble_eq_true rfl) ⟨Nat.zero_le _, Nat.zero_le _⟩ dX1_cellsHaving_22 (fun H locs hP hD hS => ?_)
      refine lv_iconst (v := (-1)) hx hb dX1_cellsHaving_25 (by decide) ?_
      refine lv_icmp_eq (tgt := 38) hx hb dX1_cellsHaving_26 (by decide) (fun hc => ?_) (fun hc => ?_)
      · replace hf := ow_t hc hf
        exact w_X1_cellsHaving_b38 C0 a0 p0 i0_0 i0_1 v0_2 v0_3 a1 p1 i1_3 i1_4 i1_5 i1_6 i1_7 v1_0 v1_1 v1_2 res (f_X1_cellsHaving_b6 v1_0 v1_1 n) ih x2 x3 x4 x5 hf _ _ _ hP hD hS (lv_sub hl [0, 1, 2, 3, 4] rfl)
      · replace hf := ow_f hc hf
        refine lv_iload hx hb dX1_cellsHaving_29 (lv_at hl 3 rfl) ?_
        refine lv_iconst (v := 1) hx hb dX1_cellsHaving_31 (by decide) ?_
        refine lv_iload hx hb dX1_cellsHaving_32 (lv_at hl 4 rfl) ?_
        refine lv_ishl hx hb dX1_cellsHaving_34 ?_
        refine lv_ior hx hb dX1_cellsHaving_35 ?_
        refine lv_istore (lv' := [(4, .int (x4 ||| (((1 : Int32)) <<< (x5 &&& 31)))), (1, .ref a1), (2, .int x2), (3, .int x3), (5, .int x5)]) hx hb dX1_cellsHaving_36 hl (by decide) rfl (fun ls hl => ?_)
        exact w_X1_cellsHaving_b38 C0 a0 p0 i0_0 i0_1 v0_2 v0_3 a1 p1 i1_3 i1_4 i1_5 i1_6 i1_7 v1_0 v1_1 v1_2 res (f_X1_cellsHaving_b6 v1_0 v1_1 n) ih x2 x3 (x4 ||| (((1 : Int32)) <<< (x5 &&& 31))) x5 hf _ _ _ hP hD hS (lv_sub hl [1, 2, 3, 0, 4] rfl)
def f_X1_cellsHaving  (v1_0 : Nat → Int32) (v1_1 : Nat → Int32) (x2 : Int32) (x3 : Int32) : Option (Int32) := f_X1_cellsHaving_b6 v1_0 v1_1 4000 x2 x3 (0) (0)
set_option maxHeartbeats 4000000 in
set_option maxRecDepth 100000 in
theorem c_X1_cellsHaving (l : Launch) (D : va_G) (cs : Nat → ClassId)  (sz : Nat) (a0 : Nat) (p0 : Nat → Nat) (i0_0 : Int32) (i0_1 : Int32) (v0_2 : Nat → Int32) (v0_3 : Nat → Int32) (a1 : Nat) (p1 : Nat → Nat) (i1_3 : Int32) (i1_4 : Int32) (i1_5 : Int32) (i1_6 : Int32) (i1_7 : Int32) (v1_0 : Nat → Int32) (v1_1 : Nat → Int32) (v1_2 : Nat → Int32) (x2 : Int32) (x3 : Int32) (res : Int32) (hf : f_X1_cellsHaving  v1_0 v1_1 x2 x3 = some res) : MI l D cs yX1_cellsHaving wsX1_cellsHaving rm_X1_cellsHaving [.ref a0, .ref a1, .int x2, .int x3] sz (W_X1_cellsHaving cs a0 p0 i0_0 i0_1 v0_2 v0_3 a1 p1 i1_3 i1_4 i1_5 i1_6 i1_7 v1_0 v1_1 v1_2) (W_X1_cellsHaving cs a0 p0 i0_0 i0_1 v0_2 v0_3 a1 p1 i1_3 i1_4 i1_5 i1_6 i1_7 v1_0 v1_1 v1_2) res := by
  rw [f_X1_cellsHaving] at hf
  refine ow_enter (cc := cX1_cellsHaving) (nL := 6) (ret := (some .int)) (by decide) rfl (Nat.le_of_ble_eq_true rfl) (fun p e s m below meth c ls H locs C0 hP hD hS hA hl => ?_)
  obtain ⟨hx, hb, hr, hlk, hml, hown, hts, hK, hG, hE⟩ := id C0
  have hl : lv_has ls 6 [(0, .ref a0), (1, .ref a1), (2, .int x2), (3, .int x3)] := hl
  refine lv_iconst (v := 0) hx hb dX1_cellsHaving_0 (by decide) ?_
  refine lv_istore (lv' := [(4, .int 0), (0, .ref a0), (1, .ref a1), (2, .int x2), (3, .int x3)]) hx hb dX1_cellsHaving_1 hl (by decide) rfl (fun ls hl => ?_)
  refine lv_iconst (v := 0) hx hb dX1_cellsHaving_3 (by decide) ?_
  refine lv_istore (lv' := [(5, .int 0), (4, .int 0), (0, .ref a0), (1, .ref a1), (2, .int x2), (3, .int x3)]) hx hb dX1_cellsHaving_4 hl (by decide) rfl (fun ls hl => ?_)
  exact w_X1_cellsHaving_b6 C0 a0 p0 i0_0 i0_1 v0_2 v0_3 a1 p1 i1_3 i1_4 i1_5 i1_6 i1_7 v1_0 v1_1 v1_2 res 4000 x2 x3 (0) (0) hf _ _ _ hP hD hS (lv_sub hl [3, 4, 5, 1, 0] rfl)

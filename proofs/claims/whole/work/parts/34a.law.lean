theorem in_X3_valueFor_X3 : ∀ w ∈ u_ws RX3 TX3 3, w ∈ wsX3_valueFor := fun w h => List.mem_cons_of_mem _ (List.mem_append_right _ h)
abbrev W_X3_valueFor (cs : Nat → ClassId) (a0 : Nat) (p0 : Nat → Nat) (i0_2 : Int32) (v0_0 : Nat → Int32) (v0_1 : Nat → Int32) (a1 : Nat) (n1 : Nat) (v1 : Nat → Int32) : va_W := wX3 cs a0 p0 i0_2 v0_0 v0_1 ++ [(a1, .inl (cs 0, n1, .inl v1))]
abbrev rm_X3_valueFor : Room := { frames := 0, cells := 0, slots := 0, locals := 0 }
def f_X3_valueFor_b233  (i0_2 : Int32) (v0_0 : Nat → Int32) (n1 : Nat) (v1 : Nat → Int32) (k4 : (Nat → Int32) → Int32 → Int32 → Option (Int32 × (Nat → Int32))) (v0_1 : Nat → Int32) (x2 : Int32) (x3 : Int32) : Option (Int32 × (Nat → Int32)) := k4 v0_1 x2 (x3 + 1)
set_option maxHeartbeats 4000000 in
set_option maxRecDepth 100000 in
theorem w_X3_valueFor_b233 {p : Program} {l : Launch} {e : Env} {s : State} {m : MethodId} {below : List Frame} {meth : Method} {c : Code} {D : va_G} {cs : Nat → ClassId} {av : Array Value} {w0 : va_W} (C0 : Cx p s m meth c av wsX3_valueFor cX3_valueFor 8 (some .int) RX3 D cs w0)  (a0 : Nat) (p0 : Nat → Nat) (i0_2 : Int32) (v0_0 : Nat → Int32) (a1 : Nat) (n1 : Nat) (v1 : Nat → Int32) (res : Int32 × (Nat → Int32)) (k4 : (Nat → Int32) → Int32 → Int32 → Option (Int32 × (Nat → Int32))) (hk4 : ∀ (v0_1 : Nat → Int32) (x2 : Int32) (x3 : Int32), k4 v0_1 x2 x3 = some res → ∀ (H : Heap) (locs : List Loc) (ls : Array Slot), va_P D vwCl (W_X3_valueFor cs a0 p0 i0_2 v0_0 v0_1 a1 n1 v1) H → va_D (va_A w0 s.heap.size) (W_X3_valueFor cs a0 p0 i0_2 v0_0 v0_1 a1 n1 v1) → va_S (va_A w0 s.heap.size) s.heap H locs → lv_has ls 8 [(0, .ref a0), (1, .ref a1), (2, .int x2), (3, .int x3)] → W p l e rm_X3_valueFor s m av below meth c H locs 0 0 (MQ below (oI D cs w0 (W_X3_valueFor cs a0 p0 i0_2 v0_0 res.2 a1 n1 v1) res.1 s.heap.size) av s 0 0 (va_A w0 s.heap.size)) (F0 m 4 ls [])) : ∀ (v0_1 : Nat → Int32) (x2 : Int32) (x3 : Int32), f_X3_valueFor_b233 i0_2 v0_0 n1 v1 k4 v0_1 x2 x3 = some res → ∀ (H : Heap) (locs : List Loc) (ls : Array Slot), va_P D vwCl (W_X3_valueFor cs a0 p0 i0_2 v0_0 v0_1 a1 n1 v1) H → va_D (va_A w0 s.heap.size) (W_X3_valueFor cs a0 p0 i0_2 v0_0 v0_1 a1 n1 v1) → va_S (va_A w0 s.heap.size) s.heap H locs → lv_has ls 8 [(0, .ref a0), (1, .ref a1), (2, .int x2), (3, .int x3)] → W p l e rm_X3_valueFor s m av below meth c H locs 0 0 (MQ below (oI D cs w0 (W_X3_valueFor cs a0 p0 i0_2 v0_0 res.2 a1 n1 v1) res.1 s.heap.size) av s 0 0 (va_A w0 s.heap.size)) (F0 m 233 ls []) := by
  obtain ⟨hx, hb, hr, hlk, hml, hown, hts, hK, hG, hE⟩ := id C0
  intro v0_1 x2 x3 hf H locs ls hP hD hS hl
  rw [f_X3_valueFor_b233] at hf
  refine lv_iinc (v := x3 + 1) (lv' := [(3, .int (x3 + 1)), (0, .ref a0), (1, .ref a1), (2, .int x2)]) hx hb dX3_valueFor_233 hl (k := 3) rfl (ow_inc (by decide)) (by decide) rfl (fun ls hl => ?_)
  refine lv_goto (tgt := 4) hx hb dX3_valueFor_236 (by decide) ?_
  exact hk4 v0_1 x2 (x3 + 1) hf _ _ _ hP hD hS (lv_sub hl [1, 2, 3, 0] rfl)
def f_X3_valueFor_b48  (i0_2 : Int32) (v0_0 : Nat → Int32) (n1 : Nat) (v1 : Nat → Int32) (k4 : (Nat → Int32) → Int32 → Int32 → Option (Int32 × (Nat → Int32))) (v0_1 : Nat → Int32) (x2 : Int32) (x3 : Int32) (t1 : Int32) (t2 : Int32) : Option (Int32 × (Nat → Int32)) := ck t1 150 (f_X3_valueFor_b233 i0_2 v0_0 n1 v1 k4 (upd v0_1 (t1).toNatClampNeg t2) (x2 + 1) x3)
set_option maxHeartbeats 4000000 in
set_option maxRecDepth 100000 in
theorem w_X3_valueFor_b48 {p : Program} {l : Launch} {e : Env} {s : State} {m : MethodId} {below : List Frame} {meth : Method} {c : Code} {D : va_G} {cs : Nat → ClassId} {av : Array Value} {w0 : va_W} (C0 : Cx p s m meth c av wsX3_valueFor cX3_valueFor 8 (some .int) RX3 D cs w0)  (a0 : Nat) (p0 : Nat → Nat) (i0_2 : Int32) (v0_0 : Nat → Int32) (a1 : Nat) (n1 : Nat) (v1 : Nat → Int32) (res : Int32 × (Nat → Int32)) (k4 : (Nat → Int32) → Int32 → Int32 → Option (Int32 × (Nat → Int32))) (hk4 : ∀ (v0_1 : Nat → Int32) (x2 : Int32) (x3 : Int32), k4 v0_1 x2 x3 = some res → ∀ (H : Heap) (locs : List Loc) (ls : Array Slot), va_P D vwCl (W_X3_valueFor cs a0 p0 i0_2 v0_0 v0_1 a1 n1 v1) H → va_D (va_A w0 s.heap.size) (W_X3_valueFor cs a0 p0 i0_2 v0_0 v0_1 a1 n1 v1) → va_S (va_A w0 s.heap.size) s.heap H locs → lv_has ls 8 [(0, .ref a0), (1, .ref a1), (2, .int x2), (3, .int x3)] → W p l e rm_X3_valueFor s m av below meth c H locs 0 0 (MQ below (oI D cs w0 (W_X3_valueFor cs a0 p0 i0_2 v0_0 res.2 a1 n1 v1) res.1 s.heap.size) av s 0 0 (va_A w0 s.heap.size)) (F0 m 4 ls [])) : ∀ (v0_1 : Nat → Int32) (x2 : Int32) (x3 : Int32) (t1 : Int32) (t2 : Int32), f_X3_valueFor_b48 i0_2 v0_0 n1 v1 k4 v0_1 x2 x3 t1 t2 = some res → ∀ (H : Heap) (locs : List Loc) (ls : Array Slot), va_P D vwCl (W_X3_valueFor cs a0 p0 i0_2 v0_0 v0_1 a1 n1 v1) H → va_D (va_A w0 s.heap.size) (W_X3_valueFor cs a0 p0 i0_2 v0_0 v0_1 a1 n1 v1) → va_S (va_A w0 s.heap.size) s.heap H locs → lv_has ls 8 [(0, .ref a0), (1, .ref a1), (2, .int x2), (3, .int x3)] → W p l e rm_X3_valueFor s m av below meth c H locs 0 0 (MQ below (oI D cs w0 (W_X3_valueFor cs a0 p0 i0_2 v0_0 res.2 a1 n1 v1) res.1 s.heap.size) av s 0 0 (va_A w0 s.heap.size)) (F0 m 48 ls [.int t2, .int t1, .ref (p0 1)]) := by
  obtain ⟨hx, hb, hr, hlk, hml, hown, hts, hK, hG, hE⟩ := id C0
  intro v0_1 x2 x3 t1 t2 hf H locs ls hP hD hS hl
  rw [f_X3_valueFor_b48] at hf
  obtain ⟨hin, hf⟩ := ck_some hf
  refine va_iast (f := v0_1) hx hb hK hP hD hS 2 0 rfl rfl hin dX3_valueFor_48 (fun H locs (hP : va_P D vwCl (W_X3_valueFor cs a0 p0 i0_2 v0_0 (upd v0_1 (t1).toNatClampNeg t2) a1 n1 v1) H) (hD : va_D _ (W_X3_valueFor cs a0 p0 i0_2 v0_0 (upd v0_1 (t1).toNatClampNeg t2) a1 n1 v1)) hS => ?_)
  refine lv_iinc (v := x2 + 1) (lv' := [(2, .int (x2 + 1)), (0, .ref a0), (1, .ref a1), (3, .int x3)]) hx hb dX3_valueFor_49 hl (k := 2) rfl (ow_inc (by decide)) (by decide) rfl (fun ls hl => ?_)
  refine lv_goto (tgt := 233) hx hb dX3_valueFor_52 (by decide) ?_
  exact w_X3_valueFor_b233 C0 a0 p0 i0_2 v0_0 a1 n1 v1 res k4 hk4 (upd v0_1 (t1).toNatClampNeg t2) (x2 + 1) x3 hf _ _ _ hP hD hS (lv_sub hl [1, 2, 0, 3] rfl)
def f_X3_valueFor_b223  (i0_2 : Int32) (v0_0 : Nat → Int32) (n1 : Nat) (v1 : Nat → Int32) (k4 : (Nat → Int32) → Int32 → Int32 → Option (Int32 × (Nat → Int32))) (v0_1 : Nat → Int32) (x2 : Int32) (x3 : Int32) (x7 : Int32) : Option (Int32 × (Nat → Int32)) := ck (x2 - 1) 150 (f_X3_valueFor_b233 i0_2 v0_0 n1 v1 k4 (upd v0_1 (x2 - 1).toNatClampNeg x7) x2 x3)
set_option maxHeartbeats 4000000 in
set_option maxRecDepth 100000 in
theorem w_X3_valueFor_b223 {p : Program} {l : Launch} {e : Env} {s : State} {m : MethodId} {below : List Frame} {meth : Method} {c : Code} {D : va_G} {cs : Nat → ClassId} {av : Array Value} {w0 : va_W} (C0 : Cx p s m meth c av wsX3_valueFor cX3_valueFor 8 (some .int) RX3 D cs w0)  (a0 : Nat) (p0 : Nat → Nat) (i0_2 : Int32) (v0_0 : Nat → Int32) (a1 : Nat) (n1 : Nat) (v1 : Nat → Int32) (res : Int32 × (Nat → Int32)) (k4 : (Nat → Int32) → Int32 → Int32 → Option (Int32 × (Nat → Int32))) (hk4 : ∀ (v0_1 : Nat → Int32) (x2 : Int32) (x3 : Int32), k4 v0_1 x2 x3 = some res → ∀ (H : Heap) (locs : List Loc) (ls : Array Slot), va_P D vwCl (W_X3_valueFor cs a0 p0 i0_2 v0_0 v0_1 a1 n1 v1) H → va_D (va_A w0 s.heap.size) (W_X3_valueFor cs a0 p0 i0_2 v0_0 v0_1 a1 n1 v1) → va_S (va_A w0 s.heap.size) s.heap H locs → lv_has ls 8 [(0, .ref a0), (1, .ref a1), (2, .int x2), (3, .int x3)] → W p l e rm_X3_valueFor s m av below meth c H locs 0 0 (MQ below (oI D cs w0 (W_X3_valueFor cs a0 p0 i0_2 v0_0 res.2 a1 n1 v1) res.1 s.heap.size) av s 0 0 (va_A w0 s.heap.size)) (F0 m 4 ls [])) : ∀ (v0_1 : Nat → Int32) (x2 : Int32) (x3 : Int32) (x7 : Int32), f_X3_valueFor_b223 i0_2 v0_0 n1 v1 k4 v0_1 x2 x3 x7 = some res → ∀ (H : Heap) (locs : List Loc) (ls : Array Slot), va_P D vwCl (W_X3_valueFor cs a0 p0 i0_2 v0_0 v0_1 a1 n1 v1) H → va_D (va_A w0 s.heap.size) (W_X3_valueFor cs a0 p0 i0_2 v0_0 v0_1 a1 n1 v1) → va_S (va_A w0 s.heap.size) s.heap H locs → lv_has ls 8 [(0, .ref a0), (1, .ref a1), (2, .int x2), (3, .int x3), (7, .int x7)] → W p l e rm_X3_valueFor s m av below meth c H locs 0 0 (MQ below (oI D cs w0 (W_X3_valueFor cs a0 p0 i0_2 v0_0 res.2 a1 n1 v1) res.1 s.heap.size) av s 0 0 (va_A w0 s.heap.size)) (F0 m 223 ls []) := by
  obtain ⟨hx, hb, hr, hlk, hml, hown, hts, hK, hG, hE⟩ := id C0
  intro v0_1 x2 x3 x7 hf H locs ls hP hD hS hl
  rw [f_X3_valueFor_b223] at hf
  refine lv_aload_n hx hb dX3_valueFor_223 rfl (lv_at hl 0 rfl) ?_
  refine va_get (D := D) (ci := 3) (v := .ref (p0 1)) (C := RX3) (T := TX3) (N := 3) hx hb hts in_X3_valueFor_X3 hown hK hP 0 rfl rfl 1 (by decide) (hts (.fieldLink RX3 15 "PaneDays$Law" "stack" "[I") (List.mem_of_getElem? (i := 3) rfl)) (fun _ h9 => h9) rfl dX3_valueFor_224 ?_
  refine lv_iload_n hx hb dX3_valueFor_227 rfl (lv_at hl 2 rfl) ?_
  refine lv_iconst (v := 1) hx hb dX3_valueFor_228 (by decide) ?_
  refine lv_isub hx hb dX3_valueFor_229 ?_
  refine lv_iload hx hb dX3_valueFor_230 (lv_at hl 4 rfl) ?_
  obtain ⟨hin, hf⟩ := ck_some hf
  refine va_iast (f := v0_1) hx hb hK hP hD hS 2 0 rfl rfl hin dX3_valueFor_232 (fun H locs (hP : va_P D vwCl (W_X3_valueFor cs a0 p0 i0_2 v0_0 (upd v0_1 (x2 - 1).toNatClampNeg x7) a1 n1 v1) H) (hD : va_D _ (W_X3_valueFor cs a0 p0 i0_2 v0_0 (upd v0_1 (x2 - 1).toNatClampNeg x7) a1 n1 v1)) hS => ?_)
  exact w_X3_valueFor_b233 C0 a0 p0 i0_2 v0_0 a1 n1 v1 res k4 hk4 (upd v0_1 (x2 - 1).toNatClampNeg x7) x2 x3 hf _ _ _ hP hD hS (lv_sub hl [0, 1, 2, 3] rfl)
def f_X3_valueFor_b164  (i0_2 : Int32) (v0_0 : Nat → Int32) (n1 : Nat) (v1 : Nat → Int32) (k4 : (Nat → Int32) → Int32 → Int32 → Option (Int32 × (Nat → Int32))) (v0_1 : Nat → Int32) (x2 : Int32) (x3 : Int32) (t0 : Int32) : Option (Int32 × (Nat → Int32)) := f_X3_valueFor_b223 i0_2 v0_0 n1 v1 k4 v0_1 x2 x3 t0
set_option maxHeartbeats 4000000 in
set_option maxRecDepth 100000 in
theorem w_X3_valueFor_b164 {p : Program} {l : Launch} {e : Env} {s : State} {m : MethodId} {below : List Frame} {meth : Method} {c : Code} {D : va_G} {cs : Nat → ClassId} {av : Array Value} {w0 : va_W} (C0 : Cx p s m meth c av wsX3_valueFor cX3_valueFor 8 (some .int) RX3 D cs w0)  (a0 : Nat) (p0 : Nat → Nat) (i0_2 : Int32) (v0_0 : Nat → Int32) (a1 : Nat) (n1 : Nat) (v1 : Nat → Int32) (res : Int32 × (Nat → Int32)) (k4 : (Nat → Int32) → Int32 → Int32 → Option (Int32 × (Nat → Int32))) (hk4 : ∀ (v0_1 : Nat → Int32) (x2 : Int32) (x3 : Int32), k4 v0_1 x2 x3 = some res → ∀ (H : Heap) (locs : List Loc) (ls : Array Slot), va_P D vwCl (W_X3_valueFor cs a0 p0 i0_2 v0_0 v0_1 a1 n1 v1) H → va_D (va_A w0 s.heap.size) (W_X3_valueFor cs a0 p0 i0_2 v0_0 v0_1 a1 n1 v1) → va_S (va_A w0 s.heap.size) s.heap H locs → lv_has ls 8 [(0, .ref a0), (1, .ref a1), (2, .int x2), (3, .int x3)] → W p l e rm_X3_valueFor s m av below meth c H locs 0 0 (MQ below (oI D cs w0 (W_X3_valueFor cs a0 p0 i0_2 v0_0 res.2 a1 n1 v1) res.1 s.heap.size) av s 0 0 (va_A w0 s.heap.size)) (F0 m 4 ls [])) : ∀ (v0_1 : Nat → Int32) (x2 : Int32) (x3 : Int32) (t0 : Int32), f_X3_valueFor_b164 i0_2 v0_0 n1 v1 k4 v0_1 x2 x3 t0 = some res → ∀ (H : Heap) (locs : List Loc) (ls : Array Slot), va_P D vwCl (W_X3_valueFor cs a0 p0 i0_2 v0_0 v0_1 a1 n1 v1) H → va_D (va_A w0 s.heap.size) (W_X3_valueFor cs a0 p0 i0_2 v0_0 v0_1 a1 n1 v1) → va_S (va_A w0 s.heap.size) s.heap H locs → lv_has ls 8 [(0, .ref a0), (1, .ref a1), (2, .int x2), (3, .int x3)] → W p l e rm_X3_valueFor s m av below meth c H locs 0 0 (MQ below (oI D cs w0 (W_X3_valueFor cs a0 p0 i0_2 v0_0 res.2 a1 n1 v1) res.1 s.heap.size) av s 0 0 (va_A w0 s.heap.size)) (F0 m 164 ls [.int t0]) := by
  obtain ⟨hx, hb, hr, hlk, hml, hown, hts, hK, hG, hE⟩ := id C0
  intro v0_1 x2 x3 t0 hf H locs ls hP hD hS hl
  rw [f_X3_valueFor_b164] at hf
  refine lv_istore (lv' := [(7, .int t0), (0, .ref a0), (1, .ref a1), (2, .int x2), (3, .int x3)]) hx hb dX3_valueFor_164 hl (by decide) rfl (fun ls hl => ?_)
  refine lv_goto (tgt := 223) hx hb dX3_valueFor_166 (by decide) ?_
  exact w_X3_valueFor_b223 C0 a0 p0 i0_2 v0_0 a1 n1 v1 res k4 hk4 v0_1 x2 x3 t0 hf _ _ _ hP hD hS (lv_sub hl [1, 2, 3, 4, 0] rfl)
def f_X3_valueFor_b183  (i0_2 : Int32) (v0_0 : Nat → Int32) (n1 : Nat) (v1 : Nat → Int32) (k4 : (Nat → Int32) → Int32 → Int32 → Option (Int32 × (Nat → Int32))) (v0_1 : Nat → Int32) (x2 : Int32) (x3 : Int32) (t0 : Int32) : Option (Int32 × (Nat → Int32)) := f_X3_valueFor_b223 i0_2 v0_0 n1 v1 k4 v0_1 x2 x3 t0
set_option maxHeartbeats 4000000 in
set_option maxRecDepth 100000 in
theorem w_X3_valueFor_b183 {p : Program} {l : Launch} {e : Env} {s : State} {m : MethodId} {below : List Frame} {meth : Method} {c : Code} {D : va_G} {cs : Nat → ClassId} {av : Array Value} {w0 : va_W} (C0 : Cx p s m meth c av wsX3_valueFor cX3_valueFor 8 (some .int) RX3 D cs w0)  (a0 : Nat) (p0 : Nat → Nat) (i0_2 : Int32) (v0_0 : Nat → Int32) (a1 : Nat) (n1 : Nat) (v1 : Nat → Int32) (res : Int32 × (Nat → Int32)) (k4 : (Nat → Int32) → Int32 → Int32 → Option (Int32 × (Nat → Int32))) (hk4 : ∀ (v0_1 : Nat → Int32) (x2 : Int32) (x3 : Int32), k4 v0_1 x2 x3 = some res → ∀ (H : Heap) (locs : List Loc) (ls : Array Slot), va_P D vwCl (W_X3_valueFor cs a0 p0 i0_2 v0_0 v0_1 a1 n1 v1) H → va_D (va_A w0 s.heap.size) (W_X3_valueFor cs a0 p0 i0_2 v0_0 v0_1 a1 n1 v1) → va_S (va_A w0 s.heap.size) s.heap H locs → lv_has ls 8 [(0, .ref a0), (1, .ref a1), (2, .int x2), (3, .int x3)] → W p l e rm_X3_valueFor s m av below meth c H locs 0 0 (MQ below (oI D cs w0 (W_X3_valueFor cs a0 p0 i0_2 v0_0 res.2 a1 n1 v1) res.1 s.heap.size) av s 0 0 (va_A w0 s.heap.size)) (F0 m 4 ls [])) : ∀ (v0_1 : Nat → Int32) (x2 : Int32) (x3 : Int32) (t0 : Int32), f_X3_valueFor_b183 i0_2 v0_0 n1 v1 k4 v0_1 x2 x3 t0 = some res → ∀ (H : Heap) (locs : List Loc) (ls : Array Slot), va_P D vwCl (W_X3_valueFor cs a0 p0 i0_2 v0_0 v0_1 a1 n1 v1) H → va_D (va_A w0 s.heap.size) (W_X3_valueFor cs a0 p0 i0_2 v0_0 v0_1 a1 n1 v1) → va_S (va_A w0 s.heap.size) s.heap H locs → lv_has ls 8 [(0, .ref a0), (1, .ref a1), (2, .int x2), (3, .int x3)] → W p l e rm_X3_valueFor s m av below meth c H locs 0 0 (MQ below (oI D cs w0 (W_X3_valueFor cs a0 p0 i0_2 v0_0 res.2 a1 n1 v1) res.1 s.heap.size) av s 0 0 (va_A w0 s.heap.size)) (F0 m 183 ls [.int t0]) := by
  obtain ⟨hx, hb, hr, hlk, hml, hown, hts, hK, hG, hE⟩ := id C0
  intro v0_1 x2 x3 t0 hf H locs ls hP hD hS hl
  rw [f_X3_valueFor_b183] at hf
  refine lv_istore (lv' := [(7, .int t0), (0, .ref a0), (1, .ref a1), (2, .int x2), (3, .int x3)]) hx hb dX3_valueFor_183 hl (by decide) rfl (fun ls hl => ?_)
  refine lv_goto (tgt := 223) hx hb dX3_valueFor_185 (by decide) ?_
  exact w_X3_valueFor_b223 C0 a0 p0 i0_2 v0_0 a1 n1 v1 res k4 hk4 v0_1 x2 x3 t0 hf _ _ _ hP hD hS (lv_sub hl [1, 2, 3, 4, 0] rfl)
def f_X3_valueFor_b202  (i0_2 : Int32) (v0_0 : Nat → Int32) (n1 : Nat) (v1 : Nat → Int32) (k4 : (Nat → Int32) → Int32 → Int32 → Option (Int32 × (Nat → Int32))) (v0_1 : Nat → Int32) (x2 : Int32) (x3 : Int32) (t0 : Int32) : Option (Int32 × (Nat → Int32)) := f_X3_valueFor_b223 i0_2 v0_0 n1 v1 k4 v0_1 x2 x3 t0
set_option maxHeartbeats 4000000 in
set_option maxRecDepth 100000 in
theorem w_X3_valueFor_b202 {p : Program} {l : Launch} {e : Env} {s : State} {m : MethodId} {below : List Frame} {meth : Method} {c : Code} {D : va_G} {cs : Nat → ClassId} {av : Array Value} {w0 : va_W} (C0 : Cx p s m meth c av wsX3_valueFor cX3_valueFor 8 (some .int) RX3 D cs w0)  (a0 : Nat) (p0 : Nat → Nat) (i0_2 : Int32) (v0_0 : Nat → Int32) (a1 : Nat) (n1 : Nat) (v1 : Nat → Int32) (res : Int32 × (Nat → Int32)) (k4 : (Nat → Int32) → Int32 → Int32 → Option (Int32 × (Nat → Int32))) (hk4 : ∀ (v0_1 : Nat → Int32) (x2 : Int32) (x3 : Int32), k4 v0_1 x2 x3 = some res → ∀ (H : Heap) (locs : List Loc) (ls : Array Slot), va_P D vwCl (W_X3_valueFor cs a0 p0 i0_2 v0_0 v0_1 a1 n1 v1) H → va_D (va_A w0 s.heap.size) (W_X3_valueFor cs a0 p0 i0_2 v0_0 v0_1 a1 n1 v1) → va_S (va_A w0 s.heap.size) s.heap H locs → lv_has ls 8 [(0, .ref a0), (1, .ref a1), (2, .int x2), (3, .int x3)] → W p l e rm_X3_valueFor s m av below meth c H locs 0 0 (MQ below (oI D cs w0 (W_X3_valueFor cs a0 p0 i0_2 v0_0 res.2 a1 n1 v1) res.1 s.heap.size) av s 0 0 (va_A w0 s.heap.size)) (F0 m 4 ls [])) : ∀ (v0_1 : Nat → Int32) (x2 : Int32) (x3 : Int32) (t0 : Int32), f_X3_valueFor_b202 i0_2 v0_0 n1 v1 k4 v0_1 x2 x3 t0 = some res → ∀ (H : Heap) (locs : List Loc) (ls : Array Slot), va_P D vwCl (W_X3_valueFor cs a0 p0 i0_2 v0_0 v0_1 a1 n1 v1) H → va_D (va_A w0 s.heap.size) (W_X3_valueFor cs a0 p0 i0_2 v0_0 v0_1 a1 n1 v1) → va_S (va_A w0 s.heap.size) s.heap H locs → lv_has ls 8 [(0, .ref a0), (1, .ref a1), (2, .int x2), (3, .int x3)] → W p l e rm_X3_valueFor s m av below meth c H locs 0 0 (MQ below (oI D cs w0 (W_X3_valueFor cs a0 p0 i0_2 v0_0 res.2 a1 n1 v1) res.1 s.heap.size) av s 0 0 (va_A w0 s.heap.size)) (F0 m 202 ls [.int t0]) := by
  obtain ⟨hx, hb, hr, hlk, hml, hown, hts, hK, hG, hE⟩ := id C0
  intro v0_1 x2 x3 t0 hf H locs ls hP hD hS hl
  rw [f_X3_valueFor_b202] at hf
  refine lv_istore (lv' := [(7, .int t0), (0, .ref a0), (1, .ref a1), (2, .int x2), (3, .int x3)]) hx hb dX3_valueFor_202 hl (by decide) rfl (fun ls hl => ?_)
  refine lv_goto (tgt := 223) hx hb dX3_valueFor_204 (by decide) ?_
  exact w_X3_valueFor_b223 C0 a0 p0 i0_2 v0_0 a1 n1 v1 res k4 hk4 v0_1 x2 x3 t0 hf _ _ _ hP hD hS (lv_sub hl [1, 2, 3, 4, 0] rfl)
def f_X3_valueFor_b221  (i0_2 : Int32) (v0_0 : Nat → Int32) (n1 : Nat) (v1 : Nat → Int32) (k4 : (Nat → Int32) → Int32 → Int32 → Option (Int32 × (Nat → Int32))) (v0_1 : Nat → Int32) (x2 : Int32) (x3 : Int32) (t0 : Int32) : Option (Int32 × (Nat → Int32)) := f_X3_valueFor_b223 i0_2 v0_0 n1 v1 k4 v0_1 x2 x3 t0
set_option maxHeartbeats 4000000 in
set_option maxRecDepth 100000 in
theorem w_X3_valueFor_b221 {p : Program} {l : Launch} {e : Env} {s : State} {m : MethodId} {below : List Frame} {meth : Method} {c : Code} {D : va_G} {cs : Nat → ClassId} {av : Array Value} {w0 : va_W} (C0 : Cx p s m meth c av wsX3_valueFor cX3_valueFor 8 (some .int) RX3 D cs w0)  (a0 : Nat) (p0 : Nat → Nat) (i0_2 : Int32) (v0_0 : Nat → Int32) (a1 : Nat) (n1 : Nat) (v1 : Nat → Int32) (res : Int32 × (Nat → Int32)) (k4 : (Nat → Int32) → Int32 → Int32 → Option (Int32 × (Nat → Int32))) (hk4 : ∀ (v0_1 : Nat → Int32) (x2 : Int32) (x3 : Int32), k4 v0_1 x2 x3 = some res → ∀ (H : Heap) (locs : List Loc) (ls : Array Slot), va_P D vwCl (W_X3_valueFor cs a0 p0 i0_2 v0_0 v0_1 a1 n1 v1) H → va_D (va_A w0 s.heap.size) (W_X3_valueFor cs a0 p0 i0_2 v0_0 v0_1 a1 n1 v1) → va_S (va_A w0 s.heap.size) s.heap H locs → lv_has ls 8 [(0, .ref a0), (1, .ref a1), (2, .int x2), (3, .int x3)] → W p l e rm_X3_valueFor s m av below meth c H locs 0 0 (MQ below (oI D cs w0 (W_X3_valueFor cs a0 p0 i0_2 v0_0 res.2 a1 n1 v1) res.1 s.heap.size) av s 0 0 (va_A w0 s.heap.size)) (F0 m 4 ls [])) : ∀ (v0_1 : Nat → Int32) (x2 : Int32) (x3 : Int32) (t0 : Int32), f_X3_valueFor_b221 i0_2 v0_0 n1 v1 k4 v0_1 x2 x3 t0 = some res → ∀ (H : Heap) (locs : List Loc) (ls : Array Slot), va_P D vwCl (W_X3_valueFor cs a0 p0 i0_2 v0_0 v0_1 a1 n1 v1) H → va_D (va_A w0 s.heap.size) (W_X3_valueFor cs a0 p0 i0_2 v0_0 v0_1 a1 n1 v1) → va_S (va_A w0 s.heap.size) s.heap H locs → lv_has ls 8 [(0, .ref a0), (1, .ref a1), (2, .int x2), (3, .int x3)] → W p l e rm_X3_valueFor s m av below meth c H locs 0 0 (MQ below (oI D cs w0 (W_X3_valueFor cs a0 p0 i0_2 v0_0 res.2 a1 n1 v1) res.1 s.heap.size) av s 0 0 (va_A w0 s.heap.size)) (F0 m 221 ls [.int t0]) := by
  obtain ⟨hx, hb, hr, hlk, hml, hown, hts, hK, hG, hE⟩ := id C0
  intro v0_1 x2 x3 t0 hf H locs ls hP hD hS hl
  rw [f_X3_valueFor_b221] at hf
  refine lv_istore (lv' := [(7, .int t0), (0, .ref a0), (1, .ref a1), (2, .int x2), (3, .int x3)]) hx hb dX3_valueFor_221 hl (by decide) rfl (fun ls hl => ?_)
  exact w_X3_valueFor_b223 C0 a0 p0 i0_2 v0_0 a1 n1 v1 res k4 hk4 v0_1 x2 x3 t0 hf _ _ _ hP hD hS (lv_sub hl [1, 2, 3, 4, 0] rfl)
def f_X3_valueFor_b4  (i0_2 : Int32) (v0_0 : Nat → Int32) (n1 : Nat) (v1 : Nat → Int32)  : Nat → (Nat → Int32) → Int32 → Int32 → Option (Int32 × (Nat → Int32))
  | 0, _, _, _ => none
  | n + 1, v0_1, x2, x3 => if i0_2 ≤ x3 then (if x2 ≤ 0 then (some (0, v0_1)) else (ck (x2 - 1) 150 (some (v0_1 (x2 - 1).toNatClampNeg, v0_1)))) else (ck x3 150 (if (v0_0 (x3).toNatClampNeg) < ((-8)) then (if x2 < 2 then (f_X3_valueFor_b233 i0_2 v0_0 n1 v1 (f_X3_valueFor_b4 i0_2 v0_0 n1 v1 n) v0_1 x2 x3) else (ck ((x2 + (-1)) - 1) 150 (ck (x2 + (-1)) 150 (if (v0_0 (x3).toNatClampNeg) = (-14) then (if (v0_1 (x2 + (-1)).toNatClampNeg) ≤ (v0_1 ((x2 + (-1)) - 1).toNatClampNeg) then (f_X3_valueFor_b202 i0_2 v0_0 n1 v1 (f_X3_valueFor_b4 i0_2 v0_0 n1 v1 n) v0_1 (x2 + (-1)) x3 (v0_1 (x2 + (-1)).toNatClampNeg)) else (f_X3_valueFor_b202 i0_2 v0_0 n1 v1 (f_X3_valueFor_b4 i0_2 v0_0 n1 v1 n) v0_1 (x2 + (-1)) x3 (v0_1 ((x2 + (-1)) - 1).toNatClampNeg))) else (if (v0_0 (x3).toNatClampNeg) = (-13) then (if (v0_1 (x2 + (-1)).toNatClampNeg) = 0 then (f_X3_valueFor_b183 i0_2 v0_0 n1 v1 (f_X3_valueFor_b4 i0_2 v0_0 n1 v1 n) v0_1 (x2 + (-1)) x3 (0)) else (cd (v0_1 (x2 + (-1)).toNatClampNeg) (f_X3_valueFor_b183 i0_2 v0_0 n1 v1 (f_X3_valueFor_b4 i0_2 v0_0 n1 v1 n) v0_1 (x2 + (-1)) x3 ((v0_1 ((x2 + (-1)) - 1).toNatClampNeg) - (v0_1 ((x2 + (-1)) - 1).toNatClampNeg) / (v0_1 (x2 + (-1)).toNatClampNeg) * (v0_1 (x2 + (-1)).toNatClampNeg))))) else (if (v0_0 (x3).toNatClampNeg) = (-12) then (if (v0_1 (x2 + (-1)).toNatClampNeg) = 0 then (f_X3_valueFor_b164 i0_2 v0_0 n1 v1 (f_X3_valueFor_b4 i0_2 v0_0 n1 v1 n) v0_1 (x2 + (-1)) x3 (0)) else (cd (v0_1 (x2 + (-1)).toNatClampNeg) (f_X3_valueFor_b164 i0_2 v0_0 n1 v1 (f_X3_valueFor_b4 i0_2 v0_0 n1 v1 n) v0_1 (x2 + (-1)) x3 ((v0_1 ((x2 + (-1)) - 1).toNatClampNeg) / (v0_1 (x2 + (-1)).toNatClampNeg))))) else (if (v0_0 (x3).toNatClampNeg) = (-11) then (f_X3_valueFor_b223 i0_2 v0_0 n1 v1 (f_X3_valueFor_b4 i0_2 v0_0 n1 v1 n) v0_1 (x2 + (-1)) x3 ((v0_1 ((x2 + (-1)) - 1).toNatClampNeg) * (v0_1 (x2 + (-1)).toNatClampNeg))) else (if (v0_0 (x3).toNatClampNeg) = (-10) then (f_X3_valueFor_b223 i0_2 v0_0 n1 v1 (f_X3_valueFor_b4 i0_2 v0_0 n1 v1 n) v0_1 (x2 + (-1)) x3 ((v0_1 ((x2 + (-1)) - 1).toNatClampNeg) - (v0_1 (x2 + (-1)).toNatClampNeg))) else (if (v0_0 (x3).toNatClampNeg) = (-9) then (f_X3_valueFor_b223 i0_2 v0_0 n1 v1 (f_X3_valueFor_b4 i0_2 v0_0 n1 v1 n) v0_1 (x2 + (-1)) x3 ((v0_1 ((x2 + (-1)) - 1).toNatClampNeg) + (v0_1 (x2 + (-1)).toNatClampNeg))) else (if (v0_1 ((x2 + (-1)) - 1).toNatClampNeg) ≤ (v0_1 (x2 + (-1)).toNatClampNeg) then (f_X3_valueFor_b221 i0_2 v0_0 n1 v1 (f_X3_valueFor_b4 i0_2 v0_0 n1 v1 n) v0_1 (x2 + (-1)) x3 (v0_1 (x2 + (-1)).toNatClampNeg)) else (f_X3_valueFor_b221 i0_2 v0_0 n1 v1 (f_X3_valueFor_b4 i0_2 v0_0 n1 v1 n) v0_1 (x2 + (-1)) x3 (v0_1 ((x2 + (-1)) - 1).toNatClampNeg)))))))))))) else (if (v0_0 (x3).toNatClampNeg) < 0 then (ck (((-1)) - (v0_0 (x3).toNatClampNeg)) n1 (f_X3_valueFor_b48 i0_2 v0_0 n1 v1 (f_X3_valueFor_b4 i0_2 v0_0 n1 v1 n) v0_1 x2 x3 x2 (v1 (((-1)) - (v0_0 (x3).toNatClampNeg)).toNatClampNeg))) else (f_X3_valueFor_b48 i0_2 v0_0 n1 v1 (f_X3_valueFor_b4 i0_2 v0_0 n1 v1 n) v0_1 x2 x3 x2 (v0_0 (x3).toNatClampNeg)))))
set_option maxHeartbeats 4000000 in
set_option maxRecDepth 100000 in
theorem w_X3_valueFor_b4 {p : Program} {l : Launch} {e : Env} {s : State} {m : MethodId} {below : List Frame} {meth : Method} {c : Code} {D : va_G} {cs : Nat → ClassId} {av : Array Value} {w0 : va_W} (C0 : Cx p s m meth c av wsX3_valueFor cX3_valueFor 8 (some .int) RX3 D cs w0)  (a0 : Nat) (p0 : Nat → Nat) (i0_2 : Int32) (v0_0 : Nat → Int32) (a1 : Nat) (n1 : Nat) (v1 : Nat → Int32) (res : Int32 × (Nat → Int32))  : ∀ (n : Nat) (v0_1 : Nat → Int32) (x2 : Int32) (x3 : Int32), f_X3_valueFor_b4 i0_2 v0_0 n1 v1 n v0_1 x2 x3 = some res → ∀ (H : Heap) (locs : List Loc) (ls : Array Slot), va_P D vwCl (W_X3_valueFor cs a0 p0 i0_2 v0_0 v0_1 a1 n1 v1) H → va_D (va_A w0 s.heap.size) (W_X3_valueFor cs a0 p0 i0_2 v0_0 v0_1 a1 n1 v1) → va_S (va_A w0 s.heap.size) s.heap H locs → lv_has ls 8 [(0, .ref a0), (1, .ref a1), (2, .int x2), (3, .int x3)] → W p l e rm_X3_valueFor s m av below meth c H locs 0 0 (MQ below (oI D cs w0 (W_X3_valueFor cs a0 p0 i0_2 v0_0 res.2 a1 n1 v1) res.1 s.heap.size) av s 0 0 (va_A w0 s.heap.size)) (F0 m 4 ls []) := by
  obtain ⟨hx, hb, hr, hlk, hml, hown, hts, hK, hG, hE⟩ := id C0
  intro n
  induction n with
  | zero =>
    intro v0_1 x2 x3 hf
    rw [f_X3_valueFor_b4] at hf
    cases hf
  | succ n ih =>
    intro v0_1 x2 x3 hf H locs ls hP hD hS hl
    rw [f_X3_valueFor_b4] at hf
    refine lv_iload_n hx hb dX3_valueFor_4 rfl (lv_at hl 3 rfl) ?_
    refine lv_aload_n hx hb dX3_valueFor_5 rfl (lv_at hl 0 rfl) ?_
    refine va_get (D := D) (ci := 3) (v := .int i0_2) (C := RX3) (T := TX3) (N := 3) hx hb hts in_X3_valueFor_X3 hown hK hP 0 rfl rfl 2 (by decide) (hts (.fieldLink RX3 21 "PaneDays$Law" "length" "I") (List.mem_of_getElem? (i := 1) rfl)) (fun _ h9 => h9) rfl dX3_valueFor_6 ?_
    refine lv_icmp_ge (tgt := 239) hx hb dX3_valueFor_9 (by decide) (fun hc => ?_) (fun hc => ?_)
    · replace hf := ow_t hc hf
      refine lv_iload_n hx hb dX3_valueFor_239 rfl (lv_at hl 2 rfl) ?_
      refine lv_if_le (tgt := 254) hx hb dX3_valueFor_240 (by decide) (fun hc => ?_) (fun hc => ?_)
      · replace hf := ow_t hc hf
        refine lv_iconst (v := 0) hx hb dX3_valueFor_254 (by decide) ?_
        obtain rfl := Option.some.inj hf
        exact ow_retI C0 hP hD hS dX3_valueFor_255
      · replace hf := ow_f hc hf
        refine lv_aload_n hx hb dX3_valueFor_243 rfl (lv_at hl 0 rfl) ?_
        refine va_get (D := D) (ci := 3) (v := .ref (p0 1)) (C := RX3) (T := TX3) (N := 3) hx hb hts in_X3_valueFor_X3 hown hK hP 0 rfl rfl 1 (by decide) (hts (.fieldLink RX3 15 "PaneDays$Law" "stack" "[I") (List.mem_of_getElem? (i := 3) rfl)) (fun _ h9 => h9) rfl dX3_valueFor_244 ?_
        refine lv_iload_n hx hb dX3_valueFor_247 rfl (lv_at hl 2 rfl) ?_
        refine lv_iconst (v := 1) hx hb dX3_valueFor_248 (by decide) ?_
        refine lv_isub hx hb dX3_valueFor_249 ?_
        obtain ⟨hin, hf⟩ := ck_some hf
        refine va_iald (f := v0_1) hx hb hK hP 2 0 rfl rfl hin dX3_valueFor_250 ?_
        refine lv_goto (tgt := 255) hx hb dX3_valueFor_251 (by decide) ?_
        obtain rfl := Option.some.inj hf
        exact ow_retI C0 hP hD hS dX3_valueFor_255
    · replace hf := ow_f hc hf
      refine lv_aload_n hx hb dX3_valueFor_12 rfl (lv_at hl 0 rfl) ?_
      refine va_get (D := D) (ci := 3) (v := .ref (p0 0)) (C := RX3) (T := TX3) (N := 3) hx hb hts in_X3_valueFor_X3 hown hK hP 0 rfl rfl 0 (by decide) (hts (.fieldLink RX3 9 "PaneDays$Law" "code" "[I") (List.mem_of_getElem? (i := 2) rfl)) (fun _ h9 => h9) rfl dX3_valueFor_13 ?_
      refine lv_iload_n hx hb dX3_valueFor_16 rfl (lv_at hl 3 rfl) ?_
      obtain ⟨hin, hf⟩ := ck_some hf
      refine va_iald (f := v0_0) hx hb hK hP 1 0 rfl rfl hin dX3_valueFor_17 ?_
      refine lv_istore (lv' := [(4, .int (v0_0 (x3).toNatClampNeg)), (0, .ref a0), (1, .ref a1), (2, .int x2), (3, .int x3)]) hx hb dX3_valueFor_18 hl (by decide) rfl (fun ls hl => ?_)
      refine lv_iload hx hb dX3_valueFor_20 (lv_at hl 0 rfl) ?_
      refine lv_bipush (v := (-8)) hx hb dX3_valueFor_22 (by decide) ?_
      refine lv_icmp_lt (tgt := 55) hx hb dX3_valueFor_24 (by decide) (fun hc => ?_) (fun hc => ?_)
      · replace hf := ow_t hc hf
        refine lv_iload_n hx hb dX3_valueFor_55 rfl (lv_at hl 3 rfl) ?_
        refine lv_iconst (v := 2) hx hb dX3_valueFor_56 (by decide) ?_
        refine lv_icmp_lt (tgt := 233) hx hb dX3_valueFor_57 (by decide) (fun hc => ?_) (fun hc => ?_)
        · replace hf := ow_t hc hf
          exact w_X3_valueFor_b233 C0 a0 p0 i0_2 v0_0 a1 n1 v1 res (f_X3_valueFor_b4 i0_2 v0_0 n1 v1 n) ih v0_1 x2 x3 hf _ _ _ hP hD hS (lv_sub hl [1, 2, 3, 4] rfl)
        · replace hf := ow_f hc hf
          refine lv_iinc (v := x2 + (-1)) (lv' := [(2, .int (x2 + (-1))), (4, .int (v0_0 (x3).toNatClampNeg)), (0, .ref a0), (1, .ref a1), (3, .int x3)]) hx hb dX3_valueFor_60 hl (k := 3) rfl (ow_inc (by decide)) (by decide) rfl (fun ls hl => ?_)
          refine lv_aload_n hx hb dX3_valueFor_63 rfl (lv_at hl 2 rfl) ?_
          refine va_get (D := D) (ci := 3) (v := .ref (p0 1)) (C := RX3) (T := TX3) (N := 3) hx hb hts in_X3_valueFor_X3 hown hK hP 0 rfl rfl 1 (by decide) (hts (.fieldLink RX3 15 "PaneDays$Law" "stack" "[I") (List.mem_of_getElem? (i := 3) rfl)) (fun _ h9 => h9) rfl dX3_valueFor_64 ?_
          refine lv_iload_n hx hb dX3_valueFor_67 rfl (lv_at hl 0 rfl) ?_
          refine lv_iconst (v := 1) hx hb dX3_valueFor_68 (by decide) ?_
          refine lv_isub hx hb dX3_valueFor_69 ?_
          obtain ⟨hin, hf⟩ := ck_some hf
          refine va_iald (f := v0_1) hx hb hK hP 2 0 rfl rfl hin dX3_valueFor_70 ?_
          refine lv_istore (lv' := [(5, .int (v0_1 ((x2 + (-1)) - 1).toNatClampNeg)), (2, .int (x2 + (-1))), (4, .int (v0_0 (x3).toNatClampNeg)), (0, .ref a0), (1, .ref a1), (3, .int x3)]) hx hb dX3_valueFor_71 hl (by decide) rfl (fun ls hl => ?_)
          refine lv_aload_n hx hb dX3_valueFor_73 rfl (lv_at hl 3 rfl) ?_
          refine va_get (D := D) (ci := 3) (v := .ref (p0 1)) (C := RX3) (T := TX3) (N := 3) hx hb hts in_X3_valueFor_X3 hown hK hP 0 rfl rfl 1 (by decide) (hts (.fieldLink RX3 15 "PaneDays$Law" "stack" "[I") (List.mem_of_getElem? (i := 3) rfl)) (fun _ h9 => h9) rfl dX3_valueFor_74 ?_
          refine lv_iload_n hx hb dX3_valueFor_77 rfl (lv_at hl 1 rfl) ?_
          obtain ⟨hin, hf⟩ := ck_some hf
          refine va_iald (f := v0_1) hx hb hK hP 2 0 rfl rfl hin dX3_valueFor_78 ?_
          refine lv_istore (lv' := [(6, .int (v0_1 (x2 + (-1)).toNatClampNeg)), (5, .int (v0_1 ((x2 + (-1)) - 1).toNatClampNeg)), (2, .int (x2 + (-1))), (4, .int (v0_0 (x3).toNatClampNeg)), (0, .ref a0), (1, .ref a1), (3, .int x3)]) hx hb dX3_valueFor_79 hl (by decide) rfl (fun ls hl => ?_)
          refine lv_iload hx hb dX3_valueFor_81 (lv_at hl 3 rfl) ?_
          rcases Decidable.em ((v0_0 (x3).toNatClampNeg) = (-14)) with hc | hc
          · replace hf := ow_t hc hf
            refine lv_tableIn (tgt := 188) hx hb dX3_valueFor_83 (by rw [hc]; decide) (by rw [hc]; decide) (by rw [hc]; rfl) (by decide) ?_
            refine lv_iload hx hb dX3_valueFor_188 (lv_at hl 1 rfl) ?_
            refine lv_iload hx hb dX3_valueFor_190 (lv_at hl 0 rfl) ?_
            refine lv_icmp_ge (tgt := 200) hx hb dX3_valueFor_192 (by decide) (fun hc => ?_) (fun hc => ?_)
            · replace hf := ow_t hc hf
              refine lv_iload hx hb dX3_valueFor_200 (lv_at hl 0 rfl) ?_
              exact w_X3_valueFor_b202 C0 a0 p0 i0_2 v0_0 a1 n1 v1 res (f_X3_valueFor_b4 i0_2 v0_0 n1 v1 n) ih v0_1 (x2 + (-1)) x3 (v0_1 (x2 + (-1)).toNatClampNeg) hf _ _ _ hP hD hS (lv_sub hl [4, 5, 2, 6] rfl)
            · replace hf := ow_f hc hf
              refine lv_iload hx hb dX3_valueFor_195 (lv_at hl 1 rfl) ?_
              refine lv_goto (tgt := 202) hx hb dX3_valueFor_197 (by decide) ?_
              exact w_X3_valueFor_b202 C0 a0 p0 i0_2 v0_0 a1 n1 v1 res (f_X3_valueFor_b4 i0_2 v0_0 n1 v1 n) ih v0_1 (x2 + (-1)) x3 (v0_1 ((x2 + (-1)) - 1).toNatClampNeg) hf _ _ _ hP hD hS (lv_sub hl [4, 5, 2, 6] rfl)
          replace hf := ow_f hc hf
          have hn0 := hc
          rcases Decidable.em ((v0_0 (x3).toNatClampNeg) = (-13)) with hc | hc
          · replace hf := ow_t hc hf
            refine lv_tableIn (tgt := 169) hx hb dX3_valueFor_83 (by rw [hc]; decide) (by rw [hc]; decide) (by rw [hc]; rfl) (by decide) ?_
            refine lv_iload hx hb dX3_valueFor_169 (lv_at hl 0 rfl) ?_
            refine lv_if_ne (tgt := 178) hx hb dX3_valueFor_171 (by decide) (fun hc => ?_) (fun hc => ?_)
            · replace hf := ow_f hc hf
              refine lv_iload hx hb dX3_valueFor_178 (lv_at hl 1 rfl) ?_
              refine lv_iload hx hb dX3_valueFor_180 (lv_at hl 0 rfl) ?_
              obtain ⟨hnz, hf⟩ := cd_some hf
              refine lv_irem hx hb dX3_valueFor_182 hnz ?_
              exact w_X3_valueFor_b183 C0 a0 p0 i0_2 v0_0 a1 n1 v1 res (f_X3_valueFor_b4 i0_2 v0_0 n1 v1 n) ih v0_1 (x2 + (-1)) x3 ((v0_1 ((x2 + (-1)) - 1).toNatClampNeg) - (v0_1 ((x2 + (-1)) - 1).toNatClampNeg) / (v0_1 (x2 + (-1)).toNatClampNeg) * (v0_1 (x2 + (-1)).toNatClampNeg)) hf _ _ _ hP hD hS (lv_sub hl [4, 5, 2, 6] rfl)
            · replace hf := ow_t hc hf
              refine lv_iconst (v := 0) hx hb dX3_valueFor_174 (by decide) ?_
              refine lv_goto (tgt := 183) hx hb dX3_valueFor_175 (by decide) ?_
              exact w_X3_valueFor_b183 C0 a0 p0 i0_2 v0_0 a1 n1 v1 res (f_X3_valueFor_b4 i0_2 v0_0 n1 v1 n) ih v0_1 (x2 + (-1)) x3 (0) hf _ _ _ hP hD hS (lv_sub hl [4, 5, 2, 6] rfl)
          replace hf := ow_f hc hf
          have hn1 := hc
          rcases Decidable.em ((v0_0 (x3).toNatClampNeg) = (-12)) with hc | hc
          · replace hf := ow_t hc hf
            refine lv_tableIn (tgt := 150) hx hb dX3_valueFor_83 (by rw [hc]; decide) (by rw [hc]; decide) (by rw [hc]; rfl) (by decide) ?_
            refine lv_iload hx hb dX3_valueFor_150 (lv_at hl 0 rfl) ?_
            refine lv_if_ne (tgt := 159) hx hb dX3_valueFor_152 (by decide) (fun hc => ?_) (fun hc => ?_)
            · replace hf := ow_f hc hf
              refine lv_iload hx hb dX3_valueFor_159 (lv_at hl 1 rfl) ?_
              refine lv_iload hx hb dX3_valueFor_161 (lv_at hl 0 rfl) ?_
              obtain ⟨hnz, hf⟩ := cd_some hf
              refine lv_idiv hx hb dX3_valueFor_163 hnz ?_
              exact w_X3_valueFor_b164 C0 a0 p0 i0_2 v0_0 a1 n1 v1 res (f_X3_valueFor_b4 i0_2 v0_0 n1 v1 n) ih v0_1 (x2 + (-1)) x3 ((v0_1 ((x2 + (-1)) - 1).toNatClampNeg) / (v0_1 (x2 + (-1)).toNatClampNeg)) hf _ _ _ hP hD hS (lv_sub hl [4, 5, 2, 6] rfl)
            · replace hf := ow_t hc hf
              refine lv_iconst (v := 0) hx hb dX3_valueFor_155 (by decide) ?_
              refine lv_goto (tgt := 164) hx hb dX3_valueFor_156 (by decide) ?_
              exact w_X3_valueFor_b164 C0 a0 p0 i0_2 v0_0 a1 n1 v1 res (f_X3_valueFor_b4 i0_2 v0_0 n1 v1 n) ih v0_1 (x2 + (-1)) x3 (0) hf _ _ _ hP hD hS (lv_sub hl [4, 5, 2, 6] rfl)
          replace hf := ow_f hc hf
          have hn2 := hc
          rcases Decidable.em ((v0_0 (x3).toNatClampNeg) = (-11)) with hc | hc
          · replace hf := ow_t hc hf
            refine lv_tableIn (tgt := 140) hx hb dX3_valueFor_83 (by rw [hc]; decide) (by rw [hc]; decide) (by rw [hc]; rfl) (by decide) ?_
            refine lv_iload hx hb dX3_valueFor_140 (lv_at hl 1 rfl) ?_
            refine lv_iload hx hb dX3_valueFor_142 (lv_at hl 0 rfl) ?_
            refine lv_imul hx hb dX3_valueFor_144 ?_
            refine lv_istore (lv' := [(7, .int ((v0_1 ((x2 + (-1)) - 1).toNatClampNeg) * (v0_1 (x2 + (-1)).toNatClampNeg))), (6, .int (v0_1 (x2 + (-1)).toNatClampNeg)), (5, .int (v0_1 ((x2 + (-1)) - 1).toNatClampNeg)), (2, .int (x2 + (-1))), (4, .int (v0_0 (x3).toNatClampNeg)), (0, .ref a0), (1, .ref a1), (3, .int x3)]) hx hb dX3_valueFor_145 hl (by decide) rfl (fun ls hl => ?_)
            refine lv_goto (tgt := 223) hx hb dX3_valueFor_147 (by decide) ?_
            exact w_X3_valueFor_b223 C0 a0 p0 i0_2 v0_0 a1 n1 v1 res (f_X3_valueFor_b4 i0_2 v0_0 n1 v1 n) ih v0_1 (x2 + (-1)) x3 ((v0_1 ((x2 + (-1)) - 1).toNatClampNeg) * (v0_1 (x2 + (-1)).toNatClampNeg)) hf _ _ _ hP hD hS (lv_sub hl [5, 6, 3, 7, 0] rfl)
          replace hf := ow_f hc hf
          have hn3 := hc
          rcases Decidable.em ((v0_0 (x3).toNatClampNeg) = (-10)) with hc | hc
          · replace hf := ow_t hc hf
            refine lv_tableIn (tgt := 130) hx hb dX3_valueFor_83 (by rw [hc]; decide) (by rw [hc]; decide) (by rw [hc]; rfl) (by decide) ?_
            refine lv_iload hx hb dX3_valueFor_130 (lv_at hl 1 rfl) ?_
            refine lv_iload hx hb dX3_valueFor_132 (lv_at hl 0 rfl) ?_
            refine lv_isub hx hb dX3_valueFor_134 ?_
            refine lv_istore (lv' := [(7, .int ((v0_1 ((x2 + (-1)) - 1).toNatClampNeg) - (v0_1 (x2 + (-1)).toNatClampNeg))), (6, .int (v0_1 (x2 + (-1)).toNatClampNeg)), (5, .int (v0_1 ((x2 + (-1)) - 1).toNatClampNeg)), (2, .int (x2 + (-1))), (4, .int (v0_0 (x3).toNatClampNeg)), (0, .ref a0), (1, .ref a1), (3, .int x3)]) hx hb dX3_valueFor_135 hl (by decide) rfl (fun ls hl => ?_)
            refine lv_goto (tgt := 223) hx hb dX3_valueFor_137 (by decide) ?_
            exact w_X3_valueFor_b223 C0 a0 p0 i0_2 v0_0 a1 n1 v1 res (f_X3_valueFor_b4 i0_2 v0_0 n1 v1 n) ih v0_1 (x2 + (-1)) x3 ((v0_1 ((x2 + (-1)) - 1).toNatClampNeg) - (v0_1 (x2 + (-1)).toNatClampNeg)) hf _ _ _ hP hD hS (lv_sub hl [5, 6, 3, 7, 0] rfl)
          replace hf := ow_f hc hf
          have hn4 := hc
          rcases Decidable.em ((v0_0 (x3).toNatClampNeg) = (-9)) with hc | hc
          · replace hf := ow_t hc hf
            refine lv_tableIn (tgt := 120) hx hb dX3_valueFor_83 (by rw [hc]; decide) (by rw [hc]; decide) (by rw [hc]; rfl) (by decide) ?_
            refine lv_iload hx hb dX3_valueFor_120 (lv_at hl 1 rfl) ?_
            refine lv_iload hx hb dX3_valueFor_122 (lv_at hl 0 rfl) ?_
            refine lv_iadd hx hb dX3_valueFor_124 ?_
            refine lv_istore (lv' := [(7, .int ((v0_1 ((x2 + (-1)) - 1).toNatClampNeg) + (v0_1 (x2 + (-1)).toNatClampNeg))), (6, .int (v0_1 (x2 + (-1)).toNatClampNeg)), (5, .int (v0_1 ((x2 + (-1)) - 1).toNatClampNeg)), (2, .int (x2 + (-1))), (4, .int (v0_0 (x3).toNatClampNeg)), (0, .ref a0), (1, .ref a1), (3, .int x3)]) hx hb dX3_valueFor_125 hl (by decide) rfl (fun ls hl => ?_)
            refine lv_goto (tgt := 223) hx hb dX3_valueFor_127 (by decide) ?_
            exact w_X3_valueFor_b223 C0 a0 p0 i0_2 v0_0 a1 n1 v1 res (f_X3_valueFor_b4 i0_2 v0_0 n1 v1 n) ih v0_1 (x2 + (-1)) x3 ((v0_1 ((x2 + (-1)) - 1).toNatClampNeg) + (v0_1 (x2 + (-1)).toNatClampNeg)) hf _ _ _ hP hD hS (lv_sub hl [5, 6, 3, 7, 0] rfl)
          replace hf := ow_f hc hf
          have hn5 := hc
          refine lv_tableOut (x := v0_0 (x3).toNatClampNeg) (tgt := 207) hx hb dX3_valueFor_83 (ow_out (fun z h1 h2 => by rcases (show z = (-14) ∨ z = (-13) ∨ z = (-12) ∨ z = (-11) ∨ z = (-10) ∨ z = (-9) by omega) with rfl | rfl | rfl | rfl | rfl | rfl <;> first | exact lv_neT hn0 (by decide) | exact lv_neT hn1 (by decide) | exact lv_neT hn2 (by decide) | exact lv_neT hn3 (by decide) | exact lv_neT hn4 (by decide) | exact lv_neT hn5 (by decide))) (by decide) ?_
          refine lv_iload hx hb dX3_valueFor_207 (lv_at hl 1 rfl) ?_
          refine lv_iload hx hb dX3_valueFor_209 (lv_at hl 0 rfl) ?_
          refine lv_icmp_le (tgt := 219) hx hb dX3_valueFor_211 (by decide) (fun hc => ?_) (fun hc => ?_)
          · replace hf := ow_t hc hf
            refine lv_iload hx hb dX3_valueFor_219 (lv_at hl 0 rfl) ?_
            exact w_X3_valueFor_b221 C0 a0 p0 i0_2 v0_0 a1 n1 v1 res (f_X3_valueFor_b4 i0_2 v0_0 n1 v1 n) ih v0_1 (x2 + (-1)) x3 (v0_1 (x2 + (-1)).toNatClampNeg) hf _ _ _ hP hD hS (lv_sub hl [4, 5, 2, 6] rfl)
          · replace hf := ow_f hc hf
            refine lv_iload hx hb dX3_valueFor_214 (lv_at hl 1 rfl) ?_
            refine lv_goto (tgt := 221) hx hb dX3_valueFor_216 (by decide) ?_
            exact w_X3_valueFor_b221 C0 a0 p0 i0_2 v0_0 a1 n1 v1 res (f_X3_valueFor_b4 i0_2 v0_0 n1 v1 n) ih v0_1 (x2 + (-1)) x3 (v0_1 ((x2 + (-1)) - 1).toNatClampNeg) hf _ _ _ hP hD hS (lv_sub hl [4, 5, 2, 6] rfl)
      · replace hf := ow_f hc hf
        refine lv_aload_n hx hb dX3_valueFor_27 rfl (lv_at hl 1 rfl) ?_
        refine va_get (D := D) (ci := 3) (v := .ref (p0 1)) (C := RX3) (T := TX3) (N := 3) hx hb hts in_X3_valueFor_X3 hown hK hP 0 rfl rfl 1 (by decide) (hts (.fieldLink RX3 15 "PaneDays$Law" "stack" "[I") (List.mem_of_getElem? (i := 3) rfl)) (fun _ h9 => h9) rfl dX3_valueFor_28 ?_
        refine lv_iload_n hx hb dX3_valueFor_31 rfl (lv_at hl 3 rfl) ?_
        refine lv_iload hx hb dX3_valueFor_32 (lv_at hl 0 rfl) ?_
        refine lv_if_lt (tgt := 42) hx hb dX3_valueFor_34 (by decide) (fun hc => ?_) (fun hc => ?_)
        · replace hf := ow_t hc hf
          refine lv_aload_n hx hb dX3_valueFor_42 rfl (lv_at hl 2 rfl) ?_
          refine lv_iconst (v := (-1)) hx hb dX3_valueFor_43 (by decide) ?_
          refine lv_iload hx hb dX3_valueFor_44 (lv_at hl 0 rfl) ?_
          refine lv_isub hx hb dX3_valueFor_46 ?_
          obtain ⟨hin, hf⟩ := ck_some hf
          refine va_iald (f := v1) hx hb hK hP 3 0 rfl rfl hin dX3_valueFor_47 ?_
          exact w_X3_valueFor_b48 C0 a0 p0 i0_2 v0_0 a1 n1 v1 res (f_X3_valueFor_b4 i0_2 v0_0 n1 v1 n) ih v0_1 x2 x3 x2 (v1 (((-1)) - (v0_0 (x3).toNatClampNeg)).toNatClampNeg) hf _ _ _ hP hD hS (lv_sub hl [1, 2, 3, 4] rfl)
        · replace hf := ow_f hc hf
          refine lv_iload hx hb dX3_valueFor_37 (lv_at hl 0 rfl) ?_
          refine lv_goto (tgt := 48) hx hb dX3_valueFor_39 (by decide) ?_
          exact w_X3_valueFor_b48 C0 a0 p0 i0_2 v0_0 a1 n1 v1 res (f_X3_valueFor_b4 i0_2 v0_0 n1 v1 n) ih v0_1 x2 x3 x2 (v0_0 (x3).toNatClampNeg) hf _ _ _ hP hD hS (lv_sub hl [1, 2, 3, 4] rfl)
def f_X3_valueFor  (i0_2 : Int32) (v0_0 : Nat → Int32) (v0_1 : Nat → Int32) (n1 : Nat) (v1 : Nat → Int32)  : Option (Int32 × (Nat → Int32)) := f_X3_valueFor_b4 i0_2 v0_0 n1 v1 4000 v0_1 (0) (0)
set_option maxHeartbeats 4000000 in
set_option maxRecDepth 100000 in
theorem c_X3_valueFor (l : Launch) (D : va_G) (cs : Nat → ClassId)  (sz : Nat) (a0 : Nat) (p0 : Nat → Nat) (i0_2 : Int32) (v0_0 : Nat → Int32) (v0_1 : Nat → Int32) (a1 : Nat) (n1 : Nat) (v1 : Nat → Int32)  (res : Int32 × (Nat → Int32)) (hf : f_X3_valueFor  i0_2 v0_0 v0_1 n1 v1  = some res) : MI l D cs yX3_valueFor wsX3_valueFor rm_X3_valueFor [.ref a0, .ref a1] sz (W_X3_valueFor cs a0 p0 i0_2 v0_0 v0_1 a1 n1 v1) (W_X3_valueFor cs a0 p0 i0_2 v0_0 res.2 a1 n1 v1) res.1 := by
  rw [f_X3_valueFor] at hf
  refine ow_enter (cc := cX3_valueFor) (nL := 8) (ret := (some .int)) (by decide) rfl (Nat.le_of_ble_eq_true rfl) (fun p e s m below meth c ls H locs C0 hP hD hS hA hl => ?_)
  obtain ⟨hx, hb, hr, hlk, hml, hown, hts, hK, hG, hE⟩ := id C0
  have hl : lv_has ls 8 [(0, .ref a0), (1, .ref a1)] := hl
  refine lv_iconst (v := 0) hx hb dX3_valueFor_0 (by decide) ?_
  refine lv_istore_n (lv' := [(2, .int 0), (0, .ref a0), (1, .ref a1)]) hx hb dX3_valueFor_1 rfl hl (by decide) rfl (fun ls hl => ?_)
  refine lv_iconst (v := 0) hx hb dX3_valueFor_2 (by decide) ?_
  refine lv_istore_n (lv' := [(3, .int 0), (2, .int 0), (0, .ref a0), (1, .ref a1)]) hx hb dX3_valueFor_3 rfl hl (by decide) rfl (fun ls hl => ?_)
  exact w_X3_valueFor_b4 C0 a0 p0 i0_2 v0_0 a1 n1 v1 res 4000 v0_1 (0) (0) hf _ _ _ hP hD hS (lv_sub hl [2, 3, 1, 0] rfl)

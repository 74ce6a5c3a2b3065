abbrev W_X3_valueFor (cs : Nat → ClassId) (a0 : Nat) (p0 : Nat → Nat) (i0_2 : Int32) (v0_0 : Nat → Int32) (v0_1 : Nat → Int32) (a1 : Nat) (n1 : Nat) (v1 : Nat → Int32) : va_W := wX3 cs a0 p0 i0_2 v0_0 v0_1 ++ [(a1, .inl (cs 0, n1, .inl v1))]
abbrev rm_X3_valueFor : Room := { frames := 0, cells := 0, slots := 0, locals := 0 }
def f_X3_valueFor_b233  (i0_2 : Int32) (v0_0 : Nat → Int32) (n1 : Nat) (v1 : Nat → Int32) (k4 : (Nat → Int32) → Int32 → Int32 → Option (Int32 × (Nat → Int32))) (v0_1 : Nat → Int32) (x2 : Int32) (x3 : Int32) : Option (Int32 × (Nat → Int32)) := k4 v0_1 x2 (x3 + 1)
set_option maxHeartbeats 4000000 in
set_option maxRecDepth 100000 in
theorem w_X3_valueFor_b233 {p : Program} {l : Launch} {e : Env} {s : State} {m : MethodId} {below : List Frame} {meth : Method} {c : Code} {D : va_G} {cs : Nat → ClassId} {av : Array Value} {w0 : va_W} (C0 : Cx p s m meth c av wsX3_valueFor cX3_valueFor 8 (some .int) RX3 D cs w0)  (a0 : Nat) (p0 : Nat → Nat) (i0_2 : Int32) (v0_0 : Nat → Int32) (a1 : Nat) (n1 : Nat) (v1 : Nat → Int32) (res : Int32 × (Nat → Int32)) (k4 : (Nat → Int32) → Int32 → Int32 → Option (Int32 × (Nat → Int32))) (hk4 : ∀ (v0_1 : Nat → Int32) (x2 : Int32) (x3 : Int32), k4 v0_1 x2 x3 = some res → ∀ (H : Heap) (locs : List Loc) (ls : Array Slot), va_P D vwCl (W_X3_valueFor cs a0 p0 i0_2 v0_0 v0_1 a1 n1 v1) H → va_D (va_A w0 s.heap.size) (W_X3_valueFor cs a0 p0 i0_2 v0_0 v0_1 a1 n1 v1) → va_S (va_A w0 s.heap.size) s.heap H locs → lv_has ls 8 [(0, .ref a0), (1, .ref a1), (2, .int x2), (3, .int x3)] → W p l e rm_X3_valueFor s m av below meth c H locs 0 0 (MQ below (oI D cs w0 (W_X3_valueFor cs a0 p0 i0_2 v0_0 res.2 a1 n1 v1) res.1 s.heap.size) av s 0 0 (va_A w0 s.heap.size)) (F0 m 4 ls [])) : ∀ (v0_1 : Nat → Int32) (x2 : Int32) (x3 : Int32), f_X3_valueFor_b233 i0_2 v0_0 n1 v1 k4 v0_1 x2 x3 = some res → ∀ (H : Heap) (locs : List Loc) (ls : Array Slot), va_P D vwCl (W_X3_valueFor cs a0 p0 i0_2 v0_0 v0_1 a1 n1 v1) H → va_D (va_A w0 s.heap.size) (W_X3_valueFor cs a0 p0 i0_2 v0_0 v0_1 a1 n1 v1) → va_S (va_A w0 s.heap.size) s.heap H locs → lv_has ls 8 [(0, .ref a0), (1, .ref a1), (2, .int x2), (3, .int x3)] → W p l e rm_X3_valueFor s m av below meth c H locs 0 0 (MQ below (oI D cs w0 (W_X3_valueFor cs a0 p0 i0_2 v0_0 res.2 a1 n1 v1) res.1 s.heap.size) av s 0 0 (va_A w0 s.heap.size)) (F0 m 233 ls []) := by
  obtain ⟨hx, hb, hr, hlk, hml, hown, hts, hK, hG, hE⟩ := id C0
  have in_X3 : ∀ w ∈ u_ws RX3 TX3 3, w ∈ wsX3_valueFor := by decide +kernel
  intro v0_1 x2 x3 hf H locs ls hP hD hS hl
  rw [f_X3_valueFor_b233] at hf
  refine lv_iinc (v := x3 + 1) (lv' := [(3, .int (x3 + 1)), (0, .ref a0), (1, .ref a1), (2, .int x2)]) hx hb dX3_valueFor_233 hl (k := 3) rfl (ow_inc (by decide)) (by decide) rfl (fun ls hl => ?_)
  refine lv_goto (tgt := 4) hx hb dX3_valueFor_236 (by decide) ?_
  exact hk4 v0_1 x2 (x3 + 1) hf _ _ _ hP hD hS (lv_sub hl [1, 2, 3, 0] rfl)
def f_X3_valueFor_b48  (i0_2 : Int32) (v0_0 : Nat → Int32) (n1 : Nat) (v1 : Nat → Int32) (k4 : (Nat → Int32) → Int32 → Int32 → Option (Int32 × (Nat → Int32))) (v0_1 : Nat → Int32) (x2 : Int32) (x3 : Int32) (t1 : Int32) (t2 : Int32) : Option (Int32 × (Nat → Int32)) := ck t1 150 (f_X3_valueFor_b233 i0_2 v0_0 n1 v1 k4 (upd v0_1 (t1).toNatClampNeg t2) (x2 + 1) x3)
set_option maxHeartbeats 4000000 in
set_option maxRecDepth 100000 in
theorem w_X3_valueFor_b48 {p : Program} {l : Launch} {e : Env} {s : State} {m : MethodId} {below : List Frame} {meth : Method} {c : Code} {D : va_G} {cs : Nat → ClassId} {av : Array Value} {w0 : va_W} (C0 : Cx p s m meth c av wsX3_valueFor cX3_valueFor 8 (some .int) RX3 D cs w0)  (a0 : Nat) (p0 : Nat → Nat) (i0_2 : Int32) (v0_0 : Nat → Int32) (a1 : Nat) (n1 : Nat) (v1 : Nat → Int32) (res : Int32 × (Nat → Int32)) (k4 : (Nat → Int32) → Int32 → Int32 → Option (Int32 × (Nat → Int32))) (hk4 : ∀ (v0_1 : Nat → Int32) (x2 : Int32) (x3 : Int32), k4 v0_1 x2 x3 = some res → ∀ (H : Heap) (locs : List Loc) (ls : Array Slot), va_P D vwCl (W_X3_valueFor cs a0 p0 i0_2 v0_0 v0_1 a1 n1 v1) H → va_D (va_A w0 s.heap.size) (W_X3_valueFor cs a0 p0 i0_2 v0_0 v0_1 a1 n1 v1) → va_S (va_A w0 s.heap.size) s.heap H locs → lv_has ls 8 [(0, .ref a0), (1, .ref a1), (2, .int x2), (3, .int x3)] → W p l e rm_X3_valueFor s m av below meth c H locs 0 0 (MQ below (oI D cs w0 (W_X3_valueFor cs a0 p0 i0_2 v0_0 res.2 a1 n1 v1) res.1 s.heap.size) av s 0 0 (va_A w0 s.heap.size)) (F0 m 4 ls [])) : ∀ (v0_1 : Nat → Int32) (x2 : Int32) (x3 : Int32) (t1 : Int32) (t2 : Int32), f_X3_valueFor_b48 i0_2 v0_0 n1 v1 k4 v0_1 x2 x3 t1 t2 = some res → ∀ (H : Heap) (locs : List Loc) (ls : Array Slot), va_P D vwCl (W_X3_valueFor cs a0 p0 i0_2 v0_0 v0_1 a1 n1 v1) H → va_D (va_A w0 s.heap.size) (W_X3_valueFor cs a0 p0 i0_2 v0_0 v0_1 a1 n1 v1) → va_S (va_A w0 s.heap.size) s.heap H locs → lv_has ls 8 [(0, .ref a0), (1, .ref a1), (2, .int x2), (3, .int x3)] → W p l e rm_X3_valueFor s m av below meth c H locs 0 0 (MQ below (oI D cs w0 (W_X3_valueFor cs a0 p0 i0_2 v0_0 res.2 a1 n1 v1) res.1 s.heap.size) av s 0 0 (va_A w0 s.heap.size)) (F0 m 48 ls [.int t2, .int t1, .ref (p0 1)]) := by
  obtain ⟨hx, hb, hr, hlk, hml, hown, hts, hK, hG, hE⟩ := id C0
  have in_X3 : ∀ w ∈ u_ws RX3 TX3 3, w ∈ wsX3_valueFor := by decide +kernel
  intro v0_1 x2 x3 t1 t2 hf H locs ls hP hD hS hl
  rw [f_X3_valueFor_b48] at hf
  obtain ⟨hin, hf⟩ := ck_some hf
  refine va_iast (f := v0_1) hx hb hK hP hD hS 2 0 rfl rfl hin dX3_valueFor_48 (fun H locs (hP : va_P D vwCl (W_X3_valueFor cs a0 p0 i0_2 v0_0 (upd v0_1 (t1).toNatClampNeg t2) a1 n1 v1) H) (hD : va_D _ (W_X3_valueFor cs a0 p0 i0_2 v0_0 (upd v0_1 (t1).toNatClampNeg t2) a1 n1 v1)) hS => ?_)
  refine lv_iinc (v := x2 + 1) (lv' := [(2, .int (x2 + 1)), (0, .ref a0), (1, .ref a1), (3, .int x3)]) hx hb dX3_valueFor_49 hl (k := 2) rfl (ow_inc (by decide)) (by decide) rfl (fun ls hl => ?_)
  refine lv_goto (tgt := 233) hx hb dX3_valueFor_52 (by decide) ?_
  exact w_X3_valueFor_b233 C0 a0 p0 i0_2 v0_0 a1 n1 v1 res k4 hk4 (upd v0_1 (t1).toNatClampNeg t2) (x2 + 1) x3 hf _ _ _ hP hD hS (lv_sub hl [1, 2, 0, 3] rfl)
def f_X3_valueFor_b223  (i0_2 : Int32) (v0_0 : Nat → Int32) (n1 : Nat) (v1 : Nat → Int32) (k4 : (Nat → Int32) → Int32 → Int32 → Option (Int32 × (Nat → Int32))) (v0_1 : Nat → Int32) (x2 : Int32) (x3 : Int32) (x7 : Int32) : Option (Int32 × (Nat → Int32)) := ck (x2 - 1) 150 (f_X3_valueFor_b233 i0_2 v0_0 n1 v1 k4 (upd v0_1 (x2 - 1).toNatClampNeg x7) x2 x3)
set_option maxHeartbeats 4000000 in
set_option maxRecDepth 100000 in
theorem w_X3_valueFor_b223 {p : Program} {l : Launch} {e : Env} {s : State} {m : MethodId} {below : List Frame} {meth : Method} {c : Code} {D : va_G} {cs : Nat → ClassId} {av : Array Value} {w0 : va_W} (C0 : Cx p s m meth c av wsX3_valueFor cX3_valueFor 8 (some .int) RX3 D cs w0)  (a0 : Nat) (p0 : Nat → Nat) (i0_2 : Int32) (v0_0 : Nat → Int32) (a1 : Nat) (n1 : Nat) (v1 : Nat → Int32) (res : Int32 × (Nat → Int32)) (k4 : (Nat → Int32) → Int32 → Int32 → Option (Int32 × (Nat → Int32))) (hk4 : ∀ (v0_1 : Nat → Int32) (x2 : Int32) (x3 : Int32), k4 v0_1 x2 x3 = some res → ∀ (H : Heap) (locs : List Loc) (ls : Array Slot), va_P D vwCl (W_X3_valueFor cs a0 p0 i0_2 v0_0 v0_1 a1 n1 v1) H → va_D (va_A w0 s.heap.size) (W_X3_valueFor cs a0 p0 i0_2 v0_0 v0_1 a1 n1 v1) → va_S (va_A w0 s.heap.size) s.heap H locs → lv_has ls 8 [(0, .ref a0), (1, .ref a1), (2, .int x2), (3, .int x3)] → W p l e rm_X3_valueFor s m av below meth c H locs 0 0 (MQ below (oI D cs w0 (W_X3_valueFor cs a0 p0 i0_2 v0_0 res.2 a1 n1 v1) res.1 s.heap.size) av s 0 0 (va_A w0 s.heap.size)) (F0 m 4 ls [])) : ∀ (v0_1 : Nat → Int32) (x2 : Int32) (x3 : Int32) (x7 : Int32), f_X3_valueFor_b223 i0_2 v0_0 n1 v1 k4 v0_1 x2 x3 x7 = some res → ∀ (H : Heap) (locs : List Loc) (ls : Array Slot), va_P D vwCl (W_X3_valueFor cs a0 p0 i0_2 v0_0 v0_1 a1 n1 v1) H → va_D (va_A w0 s.heap.size) (W_X3_valueFor cs a0 p0 i0_2 v0_0 v0_1 a1 n1 v1) → va_S (va_A w0 s.heap.size) s.heap H locs → lv_has ls 8 [(0, .ref a0), (1, .ref a1), (2, .int x2), (3, .int x3), (7, .int x7)] → W p l e rm_X3_valueFor s m av below meth c H locs 0 0 (MQ below (oI D cs w0 (W_X3_valueFor cs a0 p0 i0_2 v0_0 res.2 a1 n1 v1) res.1 s.heap.size) av s 0 0 (va_A w0 s.heap.size)) (F0 m 223 ls []) := by
  obtain ⟨hx, hb, hr, hlk, hml, hown, hts, hK, hG, hE⟩ := id C0
  have in_X3 : ∀ w ∈ u_ws RX3 TX3 3, w ∈ wsX3_valueFor := by decide +kernel
  intro v0_1 x2 x3 x7 hf H locs ls hP hD hS hl
  rw [f_X3_valueFor_b223] at hf
  refine lv_aload_n hx hb dX3_valueFor_223 rfl (lv_at hl 0 rfl) ?_
  refine va_get (D := D) (ci := 3) (v := .ref (p0 1)) (C := RX3) (T := TX3) (N := 3) hx hb hts in_X3 hown hK hP 0 rfl rfl 1 (by decide) (hts (.fieldLink RX3 15 "PaneDays$Law" "stack" "[I") (by decide +kernel)) (fun _ h9 => h9) rfl dX3_valueFor_224 ?_
  refine lv_iload_n hx hb dX3_valueFor_227 rfl (lv_at hl 2 rfl) ?_
  refine lv_iconst (v := 1) hx hb dX3_valueFor_228 (by decide) ?_
  refine lv_isub hx hb dX3_valueFor_229 ?_
  refine lv_iload hx hb dX3_valueFor_230 (lv_at hl 4 rfl) ?_
  obtain ⟨hin, hf⟩ := ck_some hf
  refine va_iast (f := v0_1) hx hb hK hP hD hS 2 0 rfl rfl hin dX3_valueFor_232 (fun H locs (hP : va_P D vwCl (W_X3_valueFor cs a0 p0 i0_2 v0_0 (upd v0_1 (x2 - 1).toNatClampNeg x7) a1 n1 v1) H) (hD : va_D _ (W_X3_valueFor cs a0 p0 i0_2 v0_0 (upd v0_1 (x2 - 1).toNatClampNeg x7) a1 n1 v1)) hS => ?_)
  exact w_X3_valueFor_b233 C0 a0 p0 i0_2 v0_0 a1 n1 v1 res k4 hk4 (upd v0_1 (x2 - 1).toNatClampNeg x7) x2 x3 hf _ _ _ hP hD hS (lv_sub hl [0, 1, 2, 3] rfl)
def f_X3_valueFor_b164  (i0_2 : Int32) (v0_0 : Nat → Int32) (n1 : Nat) (v1 : Nat → Int32) (k4 : (Nat → Int32) → Int32 → Int32 → Option (Int32 × (Nat → Int32))) (v0_1 : Nat → Int32) (x2 : Int32) (x3 : Int32) (t0 : Int32) : Option (Int32 × (Nat → Int32)) := f_X3_valueFor_b223 i0_2 v0_0 n1 v1 k4 v0_1 x2 x3 t0
set_option maxHeartbeats 4000000 in
set_option maxRecDepth 100000 in
theorem w_X3_valueFor_b164 {p : Program} {l : Launch} {e : Env} {s : State} {m : MethodId} {below : List Frame} {meth : Method} {c : Code} {D : va_G} {cs : Nat → ClassId} {av : Array Value} {w0 : va_W} (C0 : Cx p s m meth c av wsX3_valueFor cX3_valueFor 8 (some .int) RX3 D cs w0)  (a0 : Nat) (p0 : Nat → Nat) (i0_2 : Int32) (v0_0 : Nat → Int32) (a1 : Nat) (n1 : Nat) (v1 : Nat → Int32) (res : Int32 × (Nat → Int32)) (k4 : (Nat → Int32) → Int32 → Int32 → Option (Int32 × (Nat → Int32))) (hk4 : ∀ (v0_1 : Nat → Int32) (x2 : Int32) (x3 : Int32), k4 v0_1 x2 x3 = some res → ∀ (H : Heap) (locs : List Loc) (ls : Array Slot), va_P D vwCl (W_X3_valueFor cs a0 p0 i0_2 v0_0 v0_1 a1 n1 v1) H → va_D (va_A w0 s.heap.size) (W_X3_valueFor cs a0 p0 i0_2 v0_0 v0_1 a1 n1 v1) → va_S (va_A w0 s.heap.size) s.heap H locs → lv_has ls 8 [(0, .ref a0), (1, .ref a1), (2, .int x2), (3, .int x3)] → W p l e rm_X3_valueFor s m av below meth c H locs 0 0 (MQ below (oI D cs w0 (W_X3_valueFor cs a0 p0 i0_2 v0_0 res.2 a1 n1 v1) res.1 s.heap.size) av s 0 0 (va_A w0 s.heap.size)) (F0 m 4 ls [])) : ∀ (v0_1 : Nat → Int32) (x2 : Int32) (x3 : Int32) (t0 : Int32), f_X3_valueFor_b164 i0_2 v0_0 n1 v1 k4 v0_1 x2 x3 t0 = some res → ∀ (H : Heap) (locs : List Loc) (ls : Array Slot), va_P D vwCl (W_X3_valueFor cs a0 p0 i0_2 v0_0 v0_1 a1 n1 v1) H → va_D (va_A w0 s.heap.size) (W_X3_valueFor cs a0 p0 i0_2 v0_0 v0_1 a1 n1 v1) → va_S (va_A w0 s.heap.size) s.heap H locs → lv_has ls 8 [(0, .ref a0), (1, .ref a1), (2, .int x2), (3, .int x3)] → W p l e rm_X3_valueFor s m av below meth c H locs 0 0 (MQ below (oI D cs w0 (W_X3_valueFor cs a0 p0 i0_2 v0_0 res.2 a1 n1 v1) res.1 s.heap.size) av s 0 0 (va_A w0 s.heap.size)) (F0 m 164 ls [.int t0]) := by
  obtain ⟨hx, hb, hr, hlk, hml, hown, hts, hK, hG, hE⟩ := id C0
  have in_X3 : ∀ w ∈ u_ws RX3 TX3 3, w ∈ wsX3_valueFor := by decide +kernel
  intro v0_1 x2 x3 t0 hf H locs ls hP hD hS hl
  rw [f_X3_valueFor_b164] at hf
  refine lv_istore (lv' := [(7, .int t0), (0, .ref a0), (1, .ref a1), (2, .int x2), (3, .int x3)]) hx hb dX3_valueFor_164 hl (by decide) rfl (fun ls hl => ?_)
  refine lv_goto (tgt := 223) hx hb dX3_valueFor_166 (by decide) ?_
  exact w_X3_valueFor_b223 C0 a0 p0 i0_2 v0_0 a1 n1 v1 res k4 hk4 v0_1 x2 x3 t0 hf _ _ _ hP hD hS (lv_sub hl [1, 2, 3, 4, 0] rfl)
def f_X3_valueFor_b183  (i0_2 : Int32) (v0_0 : Nat → Int32) (n1 : Nat) (v1 : Nat → Int32) (k4 : (Nat → Int32) → Int32 → Int32 → Option (Int32 × (Nat → Int32))) (v0_1 : Nat → Int32) (x2 : Int32) (x3 : Int32) (t0 : Int32) : Option (Int32 × (Nat → Int32)) := f_X3_valueFor_b223 i0_2 v0_0 n1 v1 k4 v0_1 x2 x3 t0
set_option maxHeartbeats 4000000 in
set_option maxRecDepth 100000 in
theorem w_X3_valueFor_b183 {p : Program} {l : Launch} {e : Env} {s : State} {m : MethodId} {below : List Frame} {meth : Method} {c : Code} {D : va_G} {cs : Nat → ClassId} {av : Array Value} {w0 : va_W} (C0 : Cx p s m meth c av wsX3_valueFor cX3_valueFor 8 (some .int) RX3 D cs w0)  (a0 : Nat) (p0 : Nat → Nat) (i0_2 : Int32) (v0_0 : Nat → Int32) (a1 : Nat) (n1 : Nat) (v1 : Nat → Int32) (res : Int32 × (Nat → Int32)) (k4 : (Nat → Int32) → Int32 → Int32 → Option (Int32 × (Nat → Int32))) (hk4 : ∀ (v0_1 : Nat → Int32) (x2 : Int32) (x3 : Int32), k4 v0_1 x2 x3 = some res → ∀ (H : Heap) (locs : List Loc) (ls : Array Slot), va_P D vwCl (W_X3_valueFor cs a0 p0 i0_2 v0_0 v0_1 a1 n1 v1) H → va_D (va_A w0 s.heap.size) (W_X3_valueFor cs a0 p0 i0_2 v0_0 v0_1 a1 n1 v1) → va_S (va_A w0 s.heap.size) s.heap H locs → lv_has ls 8 [(0, .ref a0), (1, .ref a1), (2, .int x2), (3, .int x3)] → W p l e rm_X3_valueFor s m av below meth c H locs 0 0 (MQ below (oI D cs w0 (W_X3_valueFor cs a0 p0 i0_2 v0_0 res.2 a1 n1 v1) res.1 s.heap.size) av s 0 0 (va_A w0 s.heap.size)) (F0 m 4 ls [])) : ∀ (v0_1 : Nat → Int32) (x2 : Int32) (x3 : Int32) (t0 : Int32), f_X3_valueFor_b183 i0_2 v0_0 n1 v1 k4 v0_1 x2 x3 t0 = some res → ∀ (H : Heap) (locs : List Loc) (ls : Array Slot), va_P D vwCl (W_X3_valueFor cs a0 p0 i0_2 v0_0 v0_1 a1 n1 v1) H → va_D (va_A w0 s.heap.size) (W_X3_valueFor cs a0 p0 i0_2 v0_0 v0_1 a1 n1 v1) → va_S (va_A w0 s.heap.size) s.heap H locs → lv_has ls 8 [(0, .ref a0), (1, .ref a1), (2, .int x2), (3, .int x3)] → W p l e rm_X3_valueFor s m av below meth c H locs 0 0 (MQ below (oI D cs w0 (W_X3_valueFor cs a0 p0 i0_2 v0_0 res.2 a1 n1 v1) res.1 s.heap.size) av s 0 0 (va_A w0 s.heap.size)) (F0 m 183 ls [.int t0]) := by
  obtain ⟨hx, hb, hr, hlk, hml, hown, hts, hK, hG, hE⟩ := id C0
  have in_X3 : ∀ w ∈ u_ws RX3 TX3 3, w ∈ wsX3_valueFor := by decide +kernel
  intro v0_1 x2 x3 t0 hf H locs ls hP hD hS hl
  rw [f_X3_valueFor_b183] at hf
  refine lv_istore (lv' := [(7, .int t0), (0, .ref a0), (1, .ref a1), (2, .int x2), (3, .int x3)]) hx hb dX3_valueFor_183 hl (by decide) rfl (fun ls hl => ?_)
  refine lv_goto (tgt := 223) hx hb dX3_valueFor_185 (by decide) ?_
  exact w_X3_valueFor_b223 C0 a0 p0 i0_2 v0_0 a1 n1 v1 res k4 hk4 v0_1 x2 x3 t0 hf _ _ _ hP hD hS (lv_sub hl [1, 2, 3, 4, 0] rfl)
def f_X3_valueFor_b202  (i0_2 : Int32) (v0_0 : Nat → Int32) (n1 : Nat) (v1 : Nat → Int32) (k4 : (Nat → Int32) → Int32 → Int32 → Option (Int32 × (Nat → Int32))) (v0_1 : Nat → Int32) (x2 : Int32) (x3 : Int32) (t0 : Int32) : Option (Int32 × (Nat → Int32)) := f_X3_valueFor_b223 i0_2 v0_0 n1 v1 k4 v0_1 x2 x3 t0
set_option maxHeartbeats 4000000 in
set_option maxRecDepth 100000 in
theorem w_X3_valueFor_b202 {p : Program} {l : Launch} {e : Env} {s : State} {m : MethodId} {below : List Frame} {meth : Method} {c : Code} {D : va_G} {cs : Nat → ClassId} {av : Array Value} {w0 : va_W} (C0 : Cx p s m meth c av wsX3_valueFor cX3_valueFor 8 (some .int) RX3 D cs w0)  (a0 : Nat) (p0 : Nat → Nat) (i0_2 : Int32) (v0_0 : Nat → Int32) (a1 : Nat) (n1 : Nat) (v1 : Nat → Int32) (res : Int32 × (Nat → Int32)) (k4 : (Nat → Int32) → Int32 → Int32 → Option (Int32 × (Nat → Int32))) (hk4 : ∀ (v0_1 : Nat → Int32) (x2 : Int32) (x3 : Int32), k4 v0_1 x2 x3 = some res → ∀ (H : Heap) (locs : List Loc) (ls : Array Slot), va_P D vwCl (W_X3_valueFor cs a0 p0 i0_2 v0_0 v0_1 a1 n1 v1) H → va_D (va_A w0 s.heap.size) (W_X3_valueFor cs a0 p0 i0_2 v0_0 v0_1 a1 n1 v1) → va_S (va_A w0 s.heap.size) s.heap H locs → lv_has ls 8 [(0, .ref a0), (1, .ref a1), (2, .int x2), (3, .int x3)] → W p l e rm_X3_valueFor s m av below meth c H locs 0 0 (MQ below (oI D cs w0 (W_X3_valueFor cs a0 p0 i0_2 v0_0 res.2 a1 n1 v1) res.1 s.heap.size) av s 0 0 (va_A w0 s.heap.size)) (F0 m 4 ls [])) : ∀ (v0_1 : Nat → Int32) (x2 : Int32) (x3 : Int32) (t0 : Int32), f_X3_valueFor_b202 i0_2 v0_0 n1 v1 k4 v0_1 x2 x3 t0 = some res → ∀ (H : Heap) (locs : List Loc) (ls : Array Slot), va_P D vwCl (W_X3_valueFor cs a0 p0 i0_2 v0_0 v0_1 a1 n1 v1) H → va_D (va_A w0 s.heap.size) (W_X3_valueFor cs a0 p0 i0_2 v0_0 v0_1 a1 n1 v1) → va_S (va_A w0 s.heap.size) s.heap H locs → lv_has ls 8 [(0, .ref a0), (1, .ref a1), (2, .int x2), (3, .int x3)] → W p l e rm_X3_valueFor s m av below meth c H locs 0 0 (MQ below (oI D cs w0 (W_X3_valueFor cs a0 p0 i0_2 v0_0 res.2 a1 n1 v1) res.1 s.heap.size) av s 0 0 (va_A w0 s.heap.size)) (F0 m 202 ls [.int t0]) := by
  obtain ⟨hx, hb, hr, hlk, hml, hown, hts, hK, hG, hE⟩ := id C0
  have in_X3 : ∀ w ∈ u_ws RX3 TX3 3, w ∈ wsX3_valueFor := by decide +kernel
  intro v0_1 x2 x3 t0 hf H locs ls hP hD hS hl
  rw [f_X3_valueFor_b202] at hf
  refine lv_istore (lv' := [(7, .int t0), (0, .ref a0), (1, .ref a1), (2, .int x2), (3, .int x3)]) hx hb dX3_valueFor_202 hl (by decide) rfl (fun ls hl => ?_)
  refine lv_goto (tgt := 223) hx hb dX3_valueFor_204 (by decide) ?_
  exact w_X3_valueFor_b223 C0 a0 p0 i0_2 v0_0 a1 n1 v1 res k4 hk4 v0_1 x2 x3 t0 hf _ _ _ hP hD hS (lv_sub hl [1, 2, 3, 4, 0] rfl)
def f_X3_valueFor_b221  (i0_2 : Int32) (v0_0 : Nat → Int32) (n1 : Nat) (v1 : Nat → Int32) (k4 : (Nat → Int32) → Int32 → Int32 → Option (Int32 × (Nat → Int32))) (v0_1 : Nat → Int32) (x2 : Int32) (x3 : Int32) (t0 : Int32) : Option (Int32 × (Nat → Int32)) := f_X3_valueFor_b223 i0_2 v0_0 n1 v1 k4 v0_1 x2 x3 t0
set_option maxHeartbeats 4000000 in
set_option maxRecDepth 100000 in
theorem w_X3_valueFor_b221 {p : Program} {l : Launch} {e : Env} {s : State} {m : MethodId} {below : List Frame} {meth : Method} {c : Code} {D : va_G} {cs : Nat → ClassId} {av : Array Value} {w0 : va_W} (C0 : Cx p s m meth c av wsX3_valueFor cX3_valueFor 8 (some .int) RX3 D cs w0)  (a0 : Nat) (p0 : Nat → Nat) (i0_2 : Int32) (v0_0 : Nat → Int32) (a1 : Nat) (n1 : Nat) (v1 : Nat → Int32) (res : Int32 × (Nat → Int32)) (k4 : (Nat → Int32) → Int32 → Int32 → Option (Int32 × (Nat → Int32))) (hk4 : ∀ (v0_1 : Nat → Int32) (x2 : Int32) (x3 : Int32), k4 v0_1 x2 x3 = some res → ∀ (H : Heap) (locs : List Loc) (ls : Array Slot), va_P D vwCl (W_X3_valueFor cs a0 p0 i0_2 v0_0 v0_1 a1 n1 v1) H → va_D (va_A w0 s.heap.size) (W_X3_valueFor cs a0 p0 i0_2 v0_0 v0_1 a1 n1 v1) → va_S (va_A w0 s.heap.size) s.heap H locs → lv_has ls 8 [(0, .ref a0), (1, .ref a1), (2, .int x2), (3, .int x3)] → W p l e rm_X3_valueFor s m av below meth c H locs 0 0 (MQ below (oI D cs w0 (W_X3_valueFor cs a0 p0 i0_2 v0_0 res.2 a1 n1 v1) res.1 s.heap.size) av s 0 0 (va_A w0 s.heap.size)) (F0 m 4 ls [])) : ∀ (v0_1 : Nat → Int32) (x2 : Int32) (x3 : Int32) (t0 : Int32), f_X3_valueFor_b221 i0_2 v0_0 n1 v1 k4 v0_1 x2 x3 t0 = some res → ∀ (H : Heap) (locs : List Loc) (ls : Array Slot), va_P D vwCl (W_X3_valueFor cs a0 p0 i0_2 v0_0 v0_1 a1 n1 v1) H → va_D (va_A w0 s.heap.size) (W_X3_valueFor cs a0 p0 i0_2 v0_0 v0_1 a1 n1 v1) → va_S (va_A w0 s.heap.size) s.heap H locs → lv_has ls 8 [(0, .ref a0), (1, .ref a1), (2, .int x2), (3, .int x3)] → W p l e rm_X3_valueFor s m av below meth c H locs 0 0 (MQ below (oI D cs w0 (W_X3_valueFor cs a0 p0 i0_2 v0_0 res.2 a1 n1 v1) res.1 s.heap.size) av s 0 0 (va_A w0 s.heap.size)) (F0 m 221 ls [.int t0]) := by
  obtain ⟨hx, hb, hr, hlk, hml, hown, hts, hK, hG, hE⟩ := id C0
  have in_X3 : ∀ w ∈ u_ws RX3 TX3 3, w ∈ wsX3_valueFor := by decide +kernel
  intro v0_1 x2 x3 t0 hf H locs ls hP hD hS hl
  rw [f_X3_valueFor_b221] at hf
  refine lv_istore (lv' := [(7, .int t0), (0, .ref a0), (1, .ref a1), (2, .int x2), (3, .int x3)]) hx hb dX3_valueFor_221 hl (by decide) rfl (fun ls hl => ?_)
  exact w_X3_valueFor_b223 C0 a0 p0 i0_2 v0_0 a1 n1 v1 res k4 hk4 v0_1 x2 x3 t0 hf _ _ _ hP hD hS (lv_sub hl [1, 2, 3, 4, 0] rfl)
def f_X3_valueFor_b4  (i0_2 : Int32) (v0_0 : Nat → Int32) (n1 : Nat) (v1 : Nat → Int32)  : Nat → (Nat → Int32) → Int32 → Int32 → Option (Int32 × (Nat → Int32))
  | 0, _, _, _ => none
  | n + 1, v0_1, x2, x3 => if i0_2 ≤ x3 then (if x2 ≤ 0 then (some (0, v0_1)) else (ck (x2 - 1) 150 (some (v0_1 (x2 - 1).toNatClampNeg, v0_1)))) else (ck x3 150 (if (v0_0 (x3).toNatClampNeg) < ((-8)) then (if x2 < 2 then (f_X3_valueFor_b233 i0_2 v0_0 n1 v1 (f_X3_valueFor_b4 i0_2 v0_0 n1 v1 n) v0_1 x2 x3) else (ck ((x2 + (-1)) - 1) 150 (ck (x2 + (-1)) 150 (if (v0_0 (x3).toNatClampNeg) = (-14) then (if (v0_1 (x2 + (-1)).toNatClampNeg) ≤ (v0_1 ((x2 + (-1)) - 1).toNatClampNeg) then (f_X3_valueFor_b202 i0_2 v0_0 n1 v1 (f_X3_valueFor_b4 i0_2 v0_0 n1 v1 n) v0_1 (x2 + (-1)) x3 (v0_1 (x2 + (-1)).toNatClampNeg)) else (f_X3_valueFor_b202 i0_2 v0_0 n1 v1 (f_X3_valueFor_b4 i0_2 v0_0 n1 v1 n) v0_1 (x2 + (-1)) x3 (v0_1 ((x2 + (-1)) - 1).toNatClampNeg))) else (if (v0_0 (x3).toNatClampNeg) = (-13) then (if (v0_1 (x2 + (-1)).toNatClampNeg) = 0 then (f_X3_valueFor_b183 i0_2 v0_0 n1 v1 (f_X3_valueFor_b4 i0_2 v0_0 n1 v1 n) v0_1 (x2 + (-1)) x3 (0)) else (cd (v0_1 (x2 + (-1)).toNatClampNeg) (f_X3_valueFor_b183 i0_2 v0_0 n1 v1 (f_X3_valueFor_b4 i0_2 v0_0 n1 v1 n) v0_1 (x2 + (-1)) x3 ((v0_1 ((x2 + (-1)) - 1).toNatClampNeg) - (v0_1 ((x2 + (-1)) - 1).toNatClampNeg) / (v0_1 (x2 + (-1)).toNatClampNeg) * (v0_1 (x2 + (-1)).toNatClampNeg))))) else (if (v0_0 (x3).toNatClampNeg) = (-12) then (if (v0_1 (x2 + (-1)).toNatClampNeg) = 0 then (f_X3_valueFor_b164 i0_2 v0_0 n1 v1 (f_X3_valueFor_b4 i0_2 v0_0 n1 v1 n) v0_1 (x2 + (-1)) x3 (0)) else (cd (v0_1 (x2 + (-1)).toNatClampNeg) (f_X3_valueFor_b164 i0_2 v0_0 n1 v1 (f_X3_valueFor_b4 i0_2 v0_0 n1 v1 n) v0_1 (x2 + (-1)) x3 ((v0_1 ((x2 + (-1)) - 1).toNatClampNeg) / (v0_1 (x2 + (-1)).toNatClampNeg))))) else (if (v0_0 (x3).toNatClampNeg) = (-11) then (f_X3_valueFor_b223 i0_2 v0_0 n1 v1 (f_X3_valueFor_b4 i0_2 v0_0 n1 v1 n) v0_1 (x2 + (-1)) x3 ((v0_1 ((x2 + (-1)) - 1).toNatClampNeg) * (v0_1 (x2 + (-1)).toNatClampNeg))) else (if (v0_0 (x3).toNatClampNeg) = (-10) then (f_X3_valueFor_b223 i0_2 v0_0 n1 v1 (f_X3_valueFor_b4 i0_2 v0_0 n1 v1 n) v0_1 (x2 + (-1)) x3 ((v0_1 ((x2 + (-1)) - 1).toNatClampNeg) - (v0_1 (x2 + (-1)).toNatClampNeg))) else (if (v0_0 (x3).toNatClampNeg) = (-9) then (f_X3_valueFor_b223 i0_2 v0_0 n1 v1 (f_X3_valueFor_b4 i0_2 v0_0 n1 v1 n) v0_1 (x2 + (-1)) x3 ((v0_1 ((x2 + (-1)) - 1).toNatClampNeg) + (v0_1 (x2 + (-1)).toNatClampNeg))) else (if (v0_1 ((x2 + (-1)) - 1).toNatClampNeg) ≤ (v0_1 (x2 + (-1)).toNatClampNeg) then (f_X3_valueFor_b221 i0_2 v0_0 n1 v1 (f_X3_valueFor_b4 i0_2 v0_0 n1 v1 n) v0_1 (x2 + (-1)) x3 (v0_1 (x2 + (-1)).toNatClampNeg)) else (f_X3_valueFor_b221 i0_2 v0_0 n1 v1 (f_X3_valueFor_b4 i0_2 v0_0 n1 v1 n) v0_1 (x2 + (-1)) x3 (v0_1 ((x2 + (-1)) - 1).toNatClampNeg)))))))))))) else (if (v0_0 (x3).toNatClampNeg) < 0 then (ck (((-1)) - (v0_0 (x3).toNatClampNeg)) n1 (f_X3_valueFor_b48 i0_2 v0_0 n1 v1 (f_X3_valueFor_b4 i0_2 v0_0 n1 v1 n) v0_1 x2 x3 x2 (v1 (((-1)) - (v0_0 (x3).toNatClampNeg)).toNatClampNeg))) else (f_X3_valueFor_b48 i0_2 v0_0 n1 v1 (f_X3_valueFor_b4 i0_2 v0_0 n1 v1 n) v0_1 x2 x3 x2 (v0_0 (x3).toNatClampNeg)))))
set_option maxHeartbeats 4000000 in
set_option maxRecDepth 100000 in
theorem w_X3_valueFor_b4 {p : Program} {l : Launch} {e : Env} {s : State} {m : MethodId} {below : List Frame} {meth : Method} {c : Code} {D : va_G} {cs : Nat → ClassId} {av : Array Value} {w0 : va_W} (C0 : Cx p s m meth c av wsX3_valueFor cX3_valueFor 8 (some .int) RX3 D cs w0)  (a0 : Nat) (p0 : Nat → Nat) (i0_2 : Int32) (v0_0 : Nat → Int32) (a1 : Nat) (n1 : Nat) (v1 : Nat → Int32) (res : Int32 × (Nat → Int32))  : ∀ (n : Nat) (v0_1 : Nat → Int32) (x2 : Int32) (x3 : Int32), f_X3_valueFor_b4 i0_2 v0_0 n1 v1 n v0_1 x2 x3 = some res → ∀ (H : Heap) (locs : List Loc) (ls : Array Slot), va_P D vwCl (W_X3_valueFor cs a0 p0 i0_2 v0_0 v0_1 a1 n1 v1) H → va_D (va_A w0 s.heap.size) (W_X3_valueFor cs a0 p0 i0_2 v0_0 v0_1 a1 n1 v1) → va_S (va_A w0 s.heap.size) s.heap H locs → lv_has ls 8 [(0, .ref a0), (1, .ref a1), (2, .int x2), (3, .int x3)] → W p l e rm_X3_valueFor s m av below meth c H locs 0 0 (MQ below (oI D cs w0 (W_X3_valueFor cs a0 p0 i0_2 v0_0 res.2 a1 n1 v1) res.1 s.heap.size) av s 0 0 (va_A w0 s.heap.size)) (F0 m 4 ls []) := by
  obtain ⟨hx, hb, hr, hlk, hml, hown, hts, hK, hG, hE⟩ := id C0
  have in_X3 : ∀ w ∈ u_ws RX3 TX3 3, w ∈ wsX3_valueFor := by decide +kernel
  intro n
  induction n with
  | zero =>
    intro v0_1 x2 x3 hf
    rw [f_X3_valueFor_b4] at hf
    cases hf
  | succ n ih =>
    intro v0_1 x2 x3 hf H locs ls hP hD hS hl
    rw [f_X3_valueFor_b4] at hf
    refine lv_iload_n hx hb dX3_valueFor_4 rfl (lv_at hl 3 rfl) ?_
    refine lv_aload_n hx hb dX3_valueFor_5 rfl (lv_at hl 0 rfl) ?_
    refine va_get (D := D) (ci := 3) (v := .int i0_2) (C := RX3) (T := TX3) (N := 3) hx hb hts in_X3 hown hK hP 0 rfl rfl 2 (by decide) (hts (.fieldLink RX3 21 "PaneDays$Law" "length" "I") (by decide +kernel)) (fun _ h9 => h9) rfl dX3_valueFor_6 ?_
    refine lv_icmp_ge (tgt := 239) hx hb dX3_valueFor_9 (by decide) (fun hc => ?_) (fun hc => ?_)
    · replace hf := ow_t hc hf
      refine lv_iload_n hx hb dX3_valueFor_239 rfl (lv_at hl 2 rfl) ?_
      refine lv_if_le (tgt := 254) hx hb dX3_valueFor_240 (by decide) (fun hc => ?_) (fun hc => ?_)
      · replace hf := ow_t hc hf
        refine lv_iconst (v := 0) hx hb dX3_valueFor_254 (by decide) ?_
        obtain rfl := Option.some.inj hf
        exact ow_retI C0 hP hD hS dX3_valueFor_255
      · replace hf := ow_f hc hf
        refine lv_aload_n hx hb dX3_valueFor_243 rfl (lv_at hl 0 rfl) ?_
        refine va_get (D := D) (ci := 3) (v := .ref (p0 1)) (C := RX3) (T := TX3) (N := 3) hx hb hts in_X3 hown hK hP 0 rfl rfl 1 (by decide) (hts (.fieldLink RX3 15 "PaneDays$Law" "stack" "[I") (by decide +kernel)) (fun _ h9 => h9) rfl dX3_valueFor_244 ?_
        refine lv_iload_n hx hb dX3_valueFor_247 rfl (lv_at hl 2 rfl) ?_
        refine lv_iconst (v := 1) hx hb dX3_valueFor_248 (by decide) ?_
        refine lv_isub hx hb dX3_valueFor_249 ?_
        obtain ⟨hin, hf⟩ := ck_some hf
        refine va_iald (f := v0_1) hx hb hK hP 2 0 rfl rfl hin dX3_valueFor_250 ?_
        refine lv_goto (tgt := 255) hx hb dX3_valueFor_251 (by decide) ?_
        obtain rfl := Option.some.inj hf
        exact ow_retI C0 hP hD hS dX3_valueFor_255
    · replace hf := ow_f hc hf
      refine lv_aload_n hx hb dX3_valueFor_12 rfl (lv_at hl 0 rfl) ?_
      refine va_get (D := D) (ci := 3) (v := .ref (p0 0)) (C := RX3) (T := TX3) (N := 3) hx hb hts in_X3 hown hK hP 0 rfl rfl 0 (by decide) (hts (.fieldLink RX3 9 "PaneDays$Law" "code" "[I") (by decide +kernel)) (fun _ h9 => h9) rfl dX3_valueFor_13 ?_
      refine lv_iload_n hx hb dX3_valueFor_16 rfl (lv_at hl 3 rfl) ?_
      obtain ⟨hin, hf⟩ := ck_some hf
      refine va_iald (f := v0_0) hx hb hK hP 1 0 rfl rfl hin dX3_valueFor_17 ?_
      refine lv_istore (lv' := [(4, .int (v0_0 (x3).toNatClampNeg)), (0, .ref a0), (1, .ref a1), (2, .int x2), (3, .int x3)]) hx hb dX3_valueFor_18 hl (by decide) rfl (fun ls hl => ?_)
      refine lv_iload hx hb dX3_valueFor_20 (lv_at hl 0 rfl) ?_
      refine lv_bipush (v := (-8)) hx hb dX3_valueFor_22 (by decide) ?_
      refine lv_icmp_lt (tgt := 55) hx hb dX3_valueFor_24 (by decide) (fun hc => ?_) (fun hc => ?_)
      · replace hf := ow_t hc hf
        refine lv_iload_n hx hb dX3_valueFor_55 rfl (lv_at hl 3 rfl) ?_
        refine lv_iconst (v := 2) hx hb dX3_valueFor_56 (by decide) ?_
        refine lv_icmp_lt (tgt := 233) hx hb dX3_valueFor_57 (by decide) (fun hc => ?_) (fun hc => ?_)
        · replace hf := ow_t hc hf
          exact w_X3_valueFor_b233 C0 a0 p0 i0_2 v0_0 a1 n1 v1 res (f_X3_valueFor_b4 i0_2 v0_0 n1 v1 n) ih v0_1 x2 x3 hf _ _ _ hP hD hS (lv_sub hl [1, 2, 3, 4] rfl)
        · replace hf := ow_f hc hf
          refine lv_iinc (v := x2 + (-1)) (lv' := [(2, .int (x2 + (-1))), (4, .int (v0_0 (x3).toNatClampNeg)), (0, .ref a0), (1, .ref a1), (3, .int x3)]) hx hb dX3_valueFor_60 hl (k := 3) rfl (ow_inc (by decide)) (by decide) rfl (fun ls hl => ?_)
          refine lv_aload_n hx hb dX3_valueFor_63 rfl (lv_at hl 2 rfl) ?_
          refine va_get (D := D) (ci := 3) (v := .ref (p0 1)) (C := RX3) (T := TX3) (N := 3) hx hb hts in_X3 hown hK hP 0 rfl rfl 1 (by decide) (hts (.fieldLink RX3 15 "PaneDays$Law" "stack" "[I") (by decide +kernel)) (fun _ h9 => h9) rfl dX3_valueFor_64 ?_
          refine lv_iload_n hx hb dX3_valueFor_67 rfl (lv_at hl 0 rfl) ?_
          refine lv_iconst (v := 1) hx hb dX3_valueFor_68 (by decide) ?_
          refine lv_isub hx hb dX3_valueFor_69 ?_
          obtain ⟨hin, hf⟩ := ck_some hf
          refine va_iald (f := v0_1) hx hb hK hP 2 0 rfl rfl hin dX3_valueFor_70 ?_
          refine lv_istore (lv' := [(5, .int (v0_1 ((x2 + (-1)) - 1).toNatClampNeg)), (2, .int (x2 + (-1))), (4, .int (v0_0 (x3).toNatClampNeg)), (0, .ref a0), (1, .ref a1), (3, .int x3)]) hx hb dX3_valueFor_71 hl (by decide) rfl (fun ls hl => ?_)
          refine lv_aload_n hx hb dX3_valueFor_73 rfl (lv_at hl 3 rfl) ?_
          refine va_get (D := D) (ci := 3) (v := .ref (p0 1)) (C := RX3) (T := TX3) (N := 3) hx hb hts in_X3 hown hK hP 0 rfl rfl 1 (by decide) (hts (.fieldLink RX3 15 "PaneDays$Law" "stack" "[I") (by decide +kernel)) (fun _ h9 => h9) rfl dX3_valueFor_74 ?_
          refine lv_iload_n hx hb dX3_valueFor_77 rfl (lv_at hl 1 rfl) ?_
          obtain ⟨hin, hf⟩ := ck_some hf
          refine va_iald (f := v0_1) hx hb hK hP 2 0 rfl rfl hin dX3_valueFor_78 ?_
          refine lv_istore (lv' := [(6, .int (v0_1 (x2 + (-1)).toNatClampNeg)), (5, .int (v0_1 ((x2 + (-1)) - 1).toNatClampNeg)), (2, .int (x2 + (-1))), (4, .int (v0_0 (x3).toNatClampNeg)), (0, .ref a0), (1, .ref a1), (3, .int x3)]) hx hb dX3_valueFor_79 hl (by decide) rfl (fun ls hl => ?_)
          refine lv_iload hx hb dX3_valueFor_81 (lv_at hl 3 rfl) ?_
          rcases Decidable.em ((v0_0 (x3).toNatClampNeg) = (-14)) with hc | hc
          · replace hf := ow_t hc hf
            refine lv_tableIn (tgt := 188) hx hb dX3_valueFor_83 (by rw [hc]; decide) (by rw [hc]; decide) (by rw [hc]; rfl) (by decide) ?_
            refine lv_iload hx hb dX3_valueFor_188 (lv_at hl 1 rfl) ?_
            refine lv_iload hx hb dX3_valueFor_190 (lv_at hl 0 rfl) ?_
            refine lv_icmp_ge (tgt := 200) hx hb dX3_valueFor_192 (by decide) (fun hc => ?_) (fun hc => ?_)
            · replace hf := ow_t hc hf
              refine lv_iload hx hb dX3_valueFor_200 (lv_at hl 0 rfl) ?_
              exact w_X3_valueFor_b202 C0 a0 p0 i0_2 v0_0 a1 n1 v1 res (f_X3_valueFor_b4 i0_2 v0_0 n1 v1 n) ih v0_1 (x2 + (-1)) x3 (v0_1 (x2 + (-1)).toNatClampNeg) hf _ _ _ hP hD hS (lv_sub hl [4, 5, 2, 6] rfl)
            · replace hf := ow_f hc hf
              refine lv_iload hx hb dX3_valueFor_195 (lv_at hl 1 rfl) ?_
              refine lv_goto (tgt := 202) hx hb dX3_valueFor_197 (by decide) ?_
              exact w_X3_valueFor_b202 C0 a0 p0 i0_2 v0_0 a1 n1 v1 res (f_X3_valueFor_b4 i0_2 v0_0 n1 v1 n) ih v0_1 (x2 + (-1)) x3 (v0_1 ((x2 + (-1)) - 1).toNatClampNeg) hf _ _ _ hP hD hS (lv_sub hl [4, 5, 2, 6] rfl)
          replace hf := ow_f hc hf
          have hn0 := hc
          rcases Decidable.em ((v0_0 (x3).toNatClampNeg) = (-13)) with hc | hc
          · replace hf := ow_t hc hf
            refine lv_tableIn (tgt := 169) hx hb dX3_valueFor_83 (by rw [hc]; decide) (by rw [hc]; decide) (by rw [hc]; rfl) (by decide) ?_
            refine lv_iload hx hb dX3_valueFor_169 (lv_at hl 0 rfl) ?_
            refine lv_if_ne (tgt := 178) hx hb dX3_valueFor_171 (by decide) (fun hc => ?_) (fun hc => ?_)
            · replace hf := ow_f hc hf
              refine lv_iload hx hb dX3_valueFor_178 (lv_at hl 1 rfl) ?_
              refine lv_iload hx hb dX3_valueFor_180 (lv_at hl 0 rfl) ?_
              obtain ⟨hnz, hf⟩ := cd_some hf
              refine lv_irem hx hb dX3_valueFor_182 hnz ?_
              exact w_X3_valueFor_b183 C0 a0 p0 i0_2 v0_0 a1 n1 v1 res (f_X3_valueFor_b4 i0_2 v0_0 n1 v1 n) ih v0_1 (x2 + (-1)) x3 ((v0_1 ((x2 + (-1)) - 1).toNatClampNeg) - (v0_1 ((x2 + (-1)) - 1).toNatClampNeg) / (v0_1 (x2 + (-1)).toNatClampNeg) * (v0_1 (x2 + (-1)).toNatClampNeg)) hf _ _ _ hP hD hS (lv_sub hl [4, 5, 2, 6] rfl)
            · replace hf := ow_t hc hf
              refine lv_iconst (v := 0) hx hb dX3_valueFor_174 (by decide) ?_
              refine lv_goto (tgt := 183) hx hb dX3_valueFor_175 (by decide) ?_
              exact w_X3_valueFor_b183 C0 a0 p0 i0_2 v0_0 a1 n1 v1 res (f_X3_valueFor_b4 i0_2 v0_0 n1 v1 n) ih v0_1 (x2 + (-1)) x3 (0) hf _ _ _ hP hD hS (lv_sub hl [4, 5, 2, 6] rfl)
          replace hf := ow_f hc hf
          have hn1 := hc
          rcases Decidable.em ((v0_0 (x3).toNatClampNeg) = (-12)) with hc | hc
          · replace hf := ow_t hc hf
            refine lv_tableIn (tgt := 150) hx hb dX3_valueFor_83 (by rw [hc]; decide) (by rw [hc]; decide) (by rw [hc]; rfl) (by decide) ?_
            refine lv_iload hx hb dX3_valueFor_150 (lv_at hl 0 rfl) ?_
            refine lv_if_ne (tgt := 159) hx hb dX3_valueFor_152 (by decide) (fun hc => ?_) (fun hc => ?_)
            · replace hf := ow_f hc hf
              refine lv_iload hx hb dX3_valueFor_159 (lv_at hl 1 rfl) ?_
              refine lv_iload hx hb dX3_valueFor_161 (lv_at hl 0 rfl) ?_
              obtain ⟨hnz, hf⟩ := cd_some hf
              refine lv_idiv hx hb dX3_valueFor_163 hnz ?_
              exact w_X3_valueFor_b164 C0 a0 p0 i0_2 v0_0 a1 n1 v1 res (f_X3_valueFor_b4 i0_2 v0_0 n1 v1 n) ih v0_1 (x2 + (-1)) x3 ((v0_1 ((x2 + (-1)) - 1).toNatClampNeg) / (v0_1 (x2 + (-1)).toNatClampNeg)) hf _ _ _ hP hD hS (lv_sub hl [4, 5, 2, 6] rfl)
            · replace hf := ow_t hc hf
              refine lv_iconst (v := 0) hx hb dX3_valueFor_155 (by decide) ?_
              refine lv_goto (tgt := 164) hx hb dX3_valueFor_156 (by decide) ?_
              exact w_X3_valueFor_b164 C0 a0 p0 i0_2 v0_0 a1 n1 v1 res (f_X3_valueFor_b4 i0_2 v0_0 n1 v1 n) ih v0_1 (x2 + (-1)) x3 (0) hf _ _ _ hP hD hS (lv_sub hl [4, 5, 2, 6] rfl)
          replace hf := ow_f hc hf
          have hn2 := hc
          rcases Decidable.em ((v0_0 (x3).toNatClampNeg) = (-11)) with hc | hc
          · replace hf := ow_t hc hf
            refine lv_tableIn (tgt := 140) hx hb dX3_valueFor_83 (by rw [hc]; decide) (by rw [hc]; decide) (by rw [hc]; rfl) (by decide) ?_
            refine lv_iload hx hb dX3_valueFor_140 (lv_at hl 1 rfl) ?_
            refine lv_iload hx hb dX3_valueFor_142 (lv_at hl 0 rfl) ?_
            refine lv_imul hx hb dX3_valueFor_144 ?_
            refine lv_istore (lv' := [(7, .int ((v0_1 ((x2 + (-1)) - 1).toNatClampNeg) * (v0_1 (x2 + (-1)).toNatClampNeg))), (6, .int (v0_1 (x2 + (-1)).toNatClampNeg)), (5, .int (v0_1 ((x2 + (-1)) - 1).toNatClampNeg)), (2, .int (x2 + (-1))), (4, .int (v0_0 (x3).toNatClampNeg)), (0, .ref a0), (1, .ref a1), (3, .int x3)]) hx hb dX3_valueFor_145 hl (by decide) rfl (fun ls hl => ?_)
            refine lv_goto (tgt := 223) hx hb dX3_valueFor_147 (by decide) ?_
            exact w_X3_valueFor_b223 C0 a0 p0 i0_2 v0_0 a1 n1 v1 res (f_X3_valueFor_b4 i0_2 v0_0 n1 v1 n) ih v0_1 (x2 + (-1)) x3 ((v0_1 ((x2 + (-1)) - 1).toNatClampNeg) * (v0_1 (x2 + (-1)).toNatClampNeg)) hf _ _ _ hP hD hS (lv_sub hl [5, 6, 3, 7, 0] rfl)
          replace hf := ow_f hc hf
          have hn3 := hc
          rcases Decidable.em ((v0_0 (x3).toNatClampNeg) = (-10)) with hc | hc
          · replace hf := ow_t hc hf
            refine lv_tableIn (tgt := 130) hx hb dX3_valueFor_83 (by rw [hc]; decide) (by rw [hc]; decide) (by rw [hc]; rfl) (by decide) ?_
            refine lv_iload hx hb dX3_valueFor_130 (lv_at hl 1 rfl) ?_
            refine lv_iload hx hb dX3_valueFor_132 (lv_at hl 0 rfl) ?_
            refine lv_isub hx hb dX3_valueFor_134 ?_
            refine lv_istore (lv' := [(7, .int ((v0_1 ((x2 + (-1)) - 1).toNatClampNeg) - (v0_1 (x2 + (-1)).toNatClampNeg))), (6, .int (v0_1 (x2 + (-1)).toNatClampNeg)), (5, .int (v0_1 ((x2 + (-1)) - 1).toNatClampNeg)), (2, .int (x2 + (-1))), (4, .int (v0_0 (x3).toNatClampNeg)), (0, .ref a0), (1, .ref a1), (3, .int x3)]) hx hb dX3_valueFor_135 hl (by decide) rfl (fun ls hl => ?_)
            refine lv_goto (tgt := 223) hx hb dX3_valueFor_137 (by decide) ?_
            exact w_X3_valueFor_b223 C0 a0 p0 i0_2 v0_0 a1 n1 v1 res (f_X3_valueFor_b4 i0_2 v0_0 n1 v1 n) ih v0_1 (x2 + (-1)) x3 ((v0_1 ((x2 + (-1)) - 1).toNatClampNeg) - (v0_1 (x2 + (-1)).toNatClampNeg)) hf _ _ _ hP hD hS (lv_sub hl [5, 6, 3, 7, 0] rfl)
          replace hf := ow_f hc hf
          have hn4 := hc
          rcases Decidable.em ((v0_0 (x3).toNatClampNeg) = (-9)) with hc | hc
          · replace hf := ow_t hc hf
            refine lv_tableIn (tgt := 120) hx hb dX3_valueFor_83 (by rw [hc]; decide) (by rw [hc]; decide) (by rw [hc]; rfl) (by decide) ?_
            refine lv_iload hx hb dX3_valueFor_120 (lv_at hl 1 rfl) ?_
            refine lv_iload hx hb dX3_valueFor_122 (lv_at hl 0 rfl) ?_
            refine lv_iadd hx hb dX3_valueFor_124 ?_
            refine lv_istore (lv' := [(7, .int ((v0_1 ((x2 + (-1)) - 1).toNatClampNeg) + (v0_1 (x2 + (-1)).toNatClampNeg))), (6, .int (v0_1 (x2 + (-1)).toNatClampNeg)), (5, .int (v0_1 ((x2 + (-1)) - 1).toNatClampNeg)), (2, .int (x2 + (-1))), (4, .int (v0_0 (x3).toNatClampNeg)), (0, .ref a0), (1, .ref a1), (3, .int x3)]) hx hb dX3_valueFor_125 hl (by decide) rfl (fun ls hl => ?_)
            refine lv_goto (tgt := 223) hx hb dX3_valueFor_127 (by decide) ?_
            exact w_X3_valueFor_b223 C0 a0 p0 i0_2 v0_0 a1 n1 v1 res (f_X3_valueFor_b4 i0_2 v0_0 n1 v1 n) ih v0_1 (x2 + (-1)) x3 ((v0_1 ((x2 + (-1)) - 1).toNatClampNeg) + (v0_1 (x2 + (-1)).toNatClampNeg)) hf _ _ _ hP hD hS (lv_sub hl [5, 6, 3, 7, 0] rfl)
          replace hf := ow_f hc hf
          have hn5 := hc
          refine lv_tableOut (x := v0_0 (x3).toNatClampNeg) (tgt := 207) hx hb dX3_valueFor_83 (ow_out (fun z h1 h2 => by rcases (show z = (-14) ∨ z = (-13) ∨ z = (-12) ∨ z = (-11) ∨ z = (-10) ∨ z = (-9) by omega) with rfl | rfl | rfl | rfl | rfl | rfl <;> first | exact lv_neT hn0 (by decide) | exact lv_neT hn1 (by decide) | exact lv_neT hn2 (by decide) | exact lv_neT hn3 (by decide) | exact lv_neT hn4 (by decide) | exact lv_neT hn5 (by decide))) (by decide) ?_
          refine lv_iload hx hb dX3_valueFor_207 (lv_at hl 1 rfl) ?_
          refine lv_iload hx hb dX3_valueFor_209 (lv_at hl 0 rfl) ?_
          refine lv_icmp_le (tgt := 219) hx hb dX3_valueFor_211 (by decide) (fun hc => ?_) (fun hc => ?_)
          · replace hf := ow_t hc hf
            refine lv_iload hx hb dX3_valueFor_219 (lv_at hl 0 rfl) ?_
            exact w_X3_valueFor_b221 C0 a0 p0 i0_2 v0_0 a1 n1 v1 res (f_X3_valueFor_b4 i0_2 v0_0 n1 v1 n) ih v0_1 (x2 + (-1)) x3 (v0_1 (x2 + (-1)).toNatClampNeg) hf _ _ _ hP hD hS (lv_sub hl [4, 5, 2, 6] rfl)
          · replace hf := ow_f hc hf
            refine lv_iload hx hb dX3_valueFor_214 (lv_at hl 1 rfl) ?_
            refine lv_goto (tgt := 221) hx hb dX3_valueFor_216 (by decide) ?_
            exact w_X3_valueFor_b221 C0 a0 p0 i0_2 v0_0 a1 n1 v1 res (f_X3_valueFor_b4 i0_2 v0_0 n1 v1 n) ih v0_1 (x2 + (-1)) x3 (v0_1 ((x2 + (-1)) - 1).toNatClampNeg) hf _ _ _ hP hD hS (lv_sub hl [4, 5, 2, 6] rfl)
      · replace hf := ow_f hc hf
        refine lv_aload_n hx hb dX3_valueFor_27 rfl (lv_at hl 1 rfl) ?_
        refine va_get (D := D) (ci := 3) (v := .ref (p0 1)) (C := RX3) (T := TX3) (N := 3) hx hb hts in_X3 hown hK hP 0 rfl rfl 1 (by decide) (hts (.fieldLink RX3 15 "PaneDays$Law" "stack" "[I") (by decide +kernel)) (fun _ h9 => h9) rfl dX3_valueFor_28 ?_
        refine lv_iload_n hx hb dX3_valueFor_31 rfl (lv_at hl 3 rfl) ?_
        refine lv_iload hx hb dX3_valueFor_32 (lv_at hl 0 rfl) ?_
        refine lv_if_lt (tgt := 42) hx hb dX3_valueFor_34 (by decide) (fun hc => ?_) (fun hc => ?_)
        · replace hf := ow_t hc hf
          refine lv_aload_n hx hb dX3_valueFor_42 rfl (lv_at hl 2 rfl) ?_
          refine lv_iconst (v := (-1)) hx hb dX3_valueFor_43 (by decide) ?_
          refine lv_iload hx hb dX3_valueFor_44 (lv_at hl 0 rfl) ?_
          refine lv_isub hx hb dX3_valueFor_46 ?_
          obtain ⟨hin, hf⟩ := ck_some hf
          refine va_iald (f := v1) hx hb hK hP 3 0 rfl rfl hin dX3_valueFor_47 ?_
          exact w_X3_valueFor_b48 C0 a0 p0 i0_2 v0_0 a1 n1 v1 res (f_X3_valueFor_b4 i0_2 v0_0 n1 v1 n) ih v0_1 x2 x3 x2 (v1 (((-1)) - (v0_0 (x3).toNatClampNeg)).toNatClampNeg) hf _ _ _ hP hD hS (lv_sub hl [1, 2, 3, 4] rfl)
        · replace hf := ow_f hc hf
          refine lv_iload hx hb dX3_valueFor_37 (lv_at hl 0 rfl) ?_
          refine lv_goto (tgt := 48) hx hb dX3_valueFor_39 (by decide) ?_
          exact w_X3_valueFor_b48 C0 a0 p0 i0_2 v0_0 a1 n1 v1 res (f_X3_valueFor_b4 i0_2 v0_0 n1 v1 n) ih v0_1 x2 x3 x2 (v0_0 (x3).toNatClampNeg) hf _ _ _ hP hD hS (lv_sub hl [1, 2, 3, 4] rfl)
def f_X3_valueFor  (i0_2 : Int32) (v0_0 : Nat → Int32) (v0_1 : Nat → Int32) (n1 : Nat) (v1 : Nat → Int32)  : Option (Int32 × (Nat → Int32)) := f_X3_valueFor_b4 i0_2 v0_0 n1 v1 4000 v0_1 (0) (0)
set_option maxHeartbeats 4000000 in
set_option maxRecDepth 100000 in
theorem c_X3_valueFor (l : Launch) (D : va_G) (cs : Nat → ClassId)  (sz : Nat) (a0 : Nat) (p0 : Nat → Nat) (i0_2 : Int32) (v0_0 : Nat → Int32) (v0_1 : Nat → Int32) (a1 : Nat) (n1 : Nat) (v1 : Nat → Int32)  (res : Int32 × (Nat → Int32)) (hf : f_X3_valueFor  i0_2 v0_0 v0_1 n1 v1  = some res) : MI l D cs yX3_valueFor wsX3_valueFor rm_X3_valueFor [.ref a0, .ref a1] sz (W_X3_valueFor cs a0 p0 i0_2 v0_0 v0_1 a1 n1 v1) (W_X3_valueFor cs a0 p0 i0_2 v0_0 res.2 a1 n1 v1) res.1 := by
  rw [f_X3_valueFor] at hf
  refine ow_enter (cc := cX3_valueFor) (nL := 8) (ret := (some .int)) (by decide) rfl (Nat.le_of_ble_eq_true rfl) (fun p e s m below meth c ls H locs C0 hP hD hS hA hl => ?_)
  obtain ⟨hx, hb, hr, hlk, hml, hown, hts, hK, hG, hE⟩ := id C0
  have in_X3 : ∀ w ∈ u_ws RX3 TX3 3, w ∈ wsX3_valueFor := by decide +kernel
  have hl : lv_has ls 8 [(0, .ref a0), (1, .ref a1)] := hl
  refine lv_iconst (v := 0) hx hb dX3_valueFor_0 (by decide) ?_
  refine lv_istore_n (lv' := [(2, .int 0), (0, .ref a0), (1, .ref a1)]) hx hb dX3_valueFor_1 rfl hl (by decide) rfl (fun ls hl => ?_)
  refine lv_iconst (v := 0) hx hb dX3_valueFor_2 (by decide) ?_
  refine lv_istore_n (lv' := [(3, .int 0), (2, .int 0), (0, .ref a0), (1, .ref a1)]) hx hb dX3_valueFor_3 rfl hl (by decide) rfl (fun ls hl => ?_)
  exact w_X3_valueFor_b4 C0 a0 p0 i0_2 v0_0 a1 n1 v1 res 4000 v0_1 (0) (0) hf _ _ _ hP hD hS (lv_sub hl [2, 3, 1, 0] rfl)
abbrev W_X3_nameOf (cs : Nat → ClassId) (a0 : Nat) (p0 : Nat → Nat) (i0_1 : Int32) (i0_2 : Int32) (i0_3 : Int32) (i0_4 : Int32) (i0_5 : Int32) (i0_6 : Int32) (i0_7 : Int32) (i0_8 : Int32) (v0_0 : Nat → Int32) : va_W := wX7 cs a0 p0 i0_1 i0_2 i0_3 i0_4 i0_5 i0_6 i0_7 i0_8 v0_0
abbrev rm_X3_nameOf : Room := { frames := 9, cells := 0, slots := 0, locals := 222 }
def f_X3_nameOf  (i0_3 : Int32) (i0_4 : Int32) (i0_5 : Int32) (v0_0 : Nat → Int32)  : Option (Int32) := (f_X7_isWord i0_3 i0_4 i0_5 v0_0 7).bind fun q3 => if q3 = 0 then ((f_X7_isWord i0_3 i0_4 i0_5 v0_0 8).bind fun q14 => if q14 = 0 then ((f_X7_isWord i0_3 i0_4 i0_5 v0_0 9).bind fun q25 => if q25 = 0 then ((f_X7_isWord i0_3 i0_4 i0_5 v0_0 10).bind fun q36 => if q36 = 0 then ((f_X7_isWord i0_3 i0_4 i0_5 v0_0 11).bind fun q47 => if q47 = 0 then ((f_X7_isWord i0_3 i0_4 i0_5 v0_0 12).bind fun q58 => if q58 = 0 then ((f_X7_isWord i0_3 i0_4 i0_5 v0_0 13).bind fun q69 => if q69 = 0 then ((f_X7_isWord i0_3 i0_4 i0_5 v0_0 14).bind fun q81 => if q81 = 0 then (some ((-1))) else (some (7))) else (some (6))) else (some (5))) else (some (4))) else (some (3))) else (some (2))) else (some (1))) else (some (0))
set_option maxHeartbeats 4000000 in
set_option maxRecDepth 100000 in
theorem c_X3_nameOf (l : Launch) (D : va_G) (cs : Nat → ClassId)  (sz : Nat) (a0 : Nat) (p0 : Nat → Nat) (i0_1 : Int32) (i0_2 : Int32) (i0_3 : Int32) (i0_4 : Int32) (i0_5 : Int32) (i0_6 : Int32) (i0_7 : Int32) (i0_8 : Int32) (v0_0 : Nat → Int32)  (res : Int32) (hf : f_X3_nameOf  i0_3 i0_4 i0_5 v0_0  = some res) : MI l D cs yX3_nameOf wsX3_nameOf rm_X3_nameOf [.ref a0] sz (W_X3_nameOf cs a0 p0 i0_1 i0_2 i0_3 i0_4 i0_5 i0_6 i0_7 i0_8 v0_0) (W_X3_nameOf cs a0 p0 i0_1 i0_2 i0_3 i0_4 i0_5 i0_6 i0_7 i0_8 v0_0) res := by
  rw [f_X3_nameOf] at hf
  refine ow_enter (cc := cX3_nameOf) (nL := 1) (ret := (some .int)) (by decide) rfl (Nat.le_of_ble_eq_true rfl) (fun p e s m below meth c ls H locs C0 hP hD hS hA hl => ?_)
  obtain ⟨hx, hb, hr, hlk, hml, hown, hts, hK, hG, hE⟩ := id C0
  have hl : lv_has ls 1 [(0, .ref a0)] := hl
  refine lv_aload_n hx hb dX3_nameOf_0 rfl (lv_at hl 0 rfl) ?_
  refine va_ldcS (q := D.2 100 7) hx hb hown (hG.2.2 _ (List.mem_of_getElem? (i := 7) rfl)) dX3_nameOf_1 ?_
  obtain ⟨q3, hq, hf⟩ := bd_some hf
  refine ow_callVI (As := [.ref (D.2 100 7)]) (rest := []) (wr := ow_pk (W_X3_nameOf cs a0 p0 i0_1 i0_2 i0_3 i0_4 i0_5 i0_6 i0_7 i0_8 v0_0) []) (wf := (W_X3_nameOf cs a0 p0 i0_1 i0_2 i0_3 i0_4 i0_5 i0_6 i0_7 i0_8 v0_0)) (r := q3) C0 (c_X7_isWord l D cs H.size a0 p0 i0_1 i0_2 i0_3 i0_4 i0_5 i0_6 i0_7 i0_8 v0_0 7 (by decide)  q3 hq) (cwV 1 hts gX3_nameOf_X7_isWord rfl rfl rfl (by decide +kernel) ⟨Nat.le_of_ble_eq_true rfl, Nat.le_of_ble_eq_true rfl⟩) 7 rfl rfl hP hD hS (fun q h => Or.inr h) [0, 1] [] [0, 1] rfl (by decide) rfl (by decide) (by decide) rfl (by decide) rfl hl.1 rfl (Nat.le_of_ble_eq_true rfl) ⟨Nat.zero_le _, Nat.zero_le _⟩ dX3_nameOf_3 (fun H locs hP hD hS => ?_)
  refine lv_if_eq (tgt := 11) hx hb dX3_nameOf_6 (by decide) (fun hc => ?_) (fun hc => ?_)
  · replace hf := ow_t hc hf
    refine lv_aload_n hx hb dX3_nameOf_11 rfl (lv_at hl 0 rfl) ?_
    refine va_ldcS (q := D.2 100 8) hx hb hown (hG.2.2 _ (List.mem_of_getElem? (i := 8) rfl)) dX3_nameOf_12 ?_
    obtain ⟨q14, hq, hf⟩ := bd_some hf
    refine ow_callVI (As := [.ref (D.2 100 8)]) (rest := []) (wr := ow_pk (W_X3_nameOf cs a0 p0 i0_1 i0_2 i0_3 i0_4 i0_5 i0_6 i0_7 i0_8 v0_0) []) (wf := (W_X3_nameOf cs a0 p0 i0_1 i0_2 i0_3 i0_4 i0_5 i0_6 i0_7 i0_8 v0_0)) (r := q14) C0 (c_X7_isWord l D cs H.size a0 p0 i0_1 i0_2 i0_3 i0_4 i0_5 i0_6 i0_7 i0_8 v0_0 8 (by decide)  q14 hq) (cwV 1 hts gX3_nameOf_X7_isWord rfl rfl rfl (by decide +kernel) ⟨Nat.le_of_ble_eq_true rfl, Nat.le_of_ble_eq_true rfl⟩) 7 rfl rfl hP hD hS (fun q h => Or.inr h) [0, 1] [] [0, 1] rfl (by decide) rfl (by decide) (by decide) rfl (by decide) rfl hl.1 rfl (Nat.le_of_ble_eq_true rfl) ⟨Nat.zero_le _, Nat.zero_le _⟩ dX3_nameOf_14 (fun H locs hP hD hS => ?_)
    refine lv_if_eq (tgt := 22) hx hb dX3_nameOf_17 (by decide) (fun hc => ?_) (fun hc => ?_)
    · replace hf := ow_t hc hf
      refine lv_aload_n hx hb dX3_nameOf_22 rfl (lv_at hl 0 rfl) ?_
      refine va_ldcS (q := D.2 100 9) hx hb hown (hG.2.2 _ (List.mem_of_getElem? (i := 9) rfl)) dX3_nameOf_23 ?_
      obtain ⟨q25, hq, hf⟩ := bd_some hf
      refine ow_callVI (As := [.ref (D.2 100 9)]) (rest := []) (wr := ow_pk (W_X3_nameOf cs a0 p0 i0_1 i0_2 i0_3 i0_4 i0_5 i0_6 i0_7 i0_8 v0_0) []) (wf := (W_X3_nameOf cs a0 p0 i0_1 i0_2 i0_3 i0_4 i0_5 i0_6 i0_7 i0_8 v0_0)) (r := q25) C0 (c_X7_isWord l D cs H.size a0 p0 i0_1 i0_2 i0_3 i0_4 i0_5 i0_6 i0_7 i0_8 v0_0 9 (by decide)  q25 hq) (cwV 1 hts gX3_nameOf_X7_isWord rfl rfl rfl (by decide +kernel) ⟨Nat.le_of_ble_eq_true rfl, Nat.le_of_ble_eq_true rfl⟩) 7 rfl rfl hP hD hS (fun q h => Or.inr h) [0, 1] [] [0, 1] rfl (by decide) rfl (by decide) (by decide) rfl (by decide) rfl hl.1 rfl (Nat.le_of_ble_eq_true rfl) ⟨Nat.zero_le _, Nat.zero_le _⟩ dX3_nameOf_25 (fun H locs hP hD hS => ?_)
      refine lv_if_eq (tgt := 33) hx hb dX3_nameOf_28 (by decide) (fun hc => ?_) (fun hc => ?_)
      · replace hf := ow_t hc hf
        refine lv_aload_n hx hb dX3_nameOf_33 rfl (lv_at hl 0 rfl) ?_
        refine va_ldcS (q := D.2 100 10) hx hb hown (hG.2.2 _ (List.mem_of_getElem? (i := 10) rfl)) dX3_nameOf_34 ?_
        obtain ⟨q36, hq, hf⟩ := bd_some hf
        refine ow_callVI (As := [.ref (D.2 100 10)]) (rest := []) (wr := ow_pk (W_X3_nameOf cs a0 p0 i0_1 i0_2 i0_3 i0_4 i0_5 i0_6 i0_7 i0_8 v0_0) []) (wf := (W_X3_nameOf cs a0 p0 i0_1 i0_2 i0_3 i0_4 i0_5 i0_6 i0_7 i0_8 v0_0)) (r := q36) C0 (c_X7_isWord l D cs H.size a0 p0 i0_1 i0_2 i0_3 i0_4 i0_5 i0_6 i0_7 i0_8 v0_0 10 (by decide)  q36 hq) (cwV 1 hts gX3_nameOf_X7_isWord rfl rfl rfl (by decide +kernel) ⟨Nat.le_of_ble_eq_true rfl, Nat.le_of_ble_eq_true rfl⟩) 7 rfl rfl hP hD hS (fun q h => Or.inr h) [0, 1] [] [0, 1] rfl (by decide) rfl (by decide) (by decide) rfl (by decide) rfl hl.1 rfl (Nat.le_of_ble_eq_true rfl) ⟨Nat.zero_le _, Nat.zero_le _⟩ dX3_nameOf_36 (fun H locs hP hD hS => ?_)
        refine lv_if_eq (tgt := 44) hx hb dX3_nameOf_39 (by decide) (fun hc => ?_) (fun hc => ?_)
        · replace hf := ow_t hc hf
          refine lv_aload_n hx hb dX3_nameOf_44 rfl (lv_at hl 0 rfl) ?_
          refine va_ldcS (q := D.2 100 11) hx hb hown (hG.2.2 _ (List.mem_of_getElem? (i := 11) rfl)) dX3_nameOf_45 ?_
          obtain ⟨q47, hq, hf⟩ := bd_some hf
          refine ow_callVI (As := [.ref (D.2 100 11)]) (rest := []) (wr := ow_pk (W_X3_nameOf cs a0 p0 i0_1 i0_2 i0_3 i0_4 i0_5 i0_6 i0_7 i0_8 v0_0) []) (wf := (W_X3_nameOf cs a0 p0 i0_1 i0_2 i0_3 i0_4 i0_5 i0_6 i0_7 i0_8 v0_0)) (r := q47) C0 (c_X7_isWord l D cs H.size a0 p0 i0_1 i0_2 i0_3 i0_4 i0_5 i0_6 i0_7 i0_8 v0_0 11 (by decide)  q47 hq) (cwV 1 hts gX3_nameOf_X7_isWord rfl rfl rfl (by decide +kernel) ⟨Nat.le_of_ble_eq_true rfl, Nat.le_of_ble_eq_true rfl⟩) 7 rfl rfl hP hD hS (fun q h => Or.inr h) [0, 1] [] [0, 1] rfl (by decide) rfl (by decide) (by decide) rfl (by decide) rfl hl.1 rfl (Nat.le_of_ble_eq_true rfl) ⟨Nat.zero_le _, Nat.zero_le _⟩ dX3_nameOf_47 (fun H locs hP hD hS => ?_)
          refine lv_if_eq (tgt := 55) hx hb dX3_nameOf_50 (by decide) (fun hc => ?_) (fun hc => ?_)
          · replace hf := ow_t hc hf
            refine lv_aload_n hx hb dX3_nameOf_55 rfl (lv_at hl 0 rfl) ?_
            refine va_ldcS (q := D.2 100 12) hx hb hown (hG.2.2 _ (List.mem_of_getElem? (i := 12) rfl)) dX3_nameOf_56 ?_
            obtain ⟨q58, hq, hf⟩ := bd_some hf
            refine ow_callVI (As := [.ref (D.2 100 12)]) (rest := []) (wr := ow_pk (W_X3_nameOf cs a0 p0 i0_1 i0_2 i0_3 i0_4 i0_5 i0_6 i0_7 i0_8 v0_0) []) (wf := (W_X3_nameOf cs a0 p0 i0_1 i0_2 i0_3 i0_4 i0_5 i0_6 i0_7 i0_8 v0_0)) (r := q58) C0 (c_X7_isWord l D cs H.size a0 p0 i0_1 i0_2 i0_3 i0_4 i0_5 i0_6 i0_7 i0_8 v0_0 12 (by decide)  q58 hq) (cwV 1 hts gX3_nameOf_X7_isWord rfl rfl rfl (by decide +kernel) ⟨Nat.le_of_ble_eq_true rfl, Nat.le_of_ble_eq_true rfl⟩) 7 rfl rfl hP hD hS (fun q h => Or.inr h) [0, 1] [] [0, 1] rfl (by decide) rfl (by decide) (by decide) rfl (by decide) rfl hl.1 rfl (Nat.le_of_ble_eq_true rfl) ⟨Nat.zero_le _, Nat.zero_le _⟩ dX3_nameOf_58 (fun H locs hP hD hS => ?_)
            refine lv_if_eq (tgt := 66) hx hb dX3_nameOf_61 (by decide) (fun hc => ?_) (fun hc => ?_)
            · replace hf := ow_t hc hf
              refine lv_aload_n hx hb dX3_nameOf_66 rfl (lv_at hl 0 rfl) ?_
              refine va_ldcS (q := D.2 100 13) hx hb hown (hG.2.2 _ (List.mem_of_getElem? (i := 13) rfl)) dX3_nameOf_67 ?_
              obtain ⟨q69, hq, hf⟩ := bd_some hf
              refine ow_callVI (As := [.ref (D.2 100 13)]) (rest := []) (wr := ow_pk (W_X3_nameOf cs a0 p0 i0_1 i0_2 i0_3 i0_4 i0_5 i0_6 i0_7 i0_8 v0_0) []) (wf := (W_X3_nameOf cs a0 p0 i0_1 i0_2 i0_3 i0_4 i0_5 i0_6 i0_7 i0_8 v0_0)) (r := q69) C0 (c_X7_isWord l D cs H.size a0 p0 i0_1 i0_2 i0_3 i0_4 i0_5 i0_6 i0_7 i0_8 v0_0 13 (by decide)  q69 hq) (cwV 1 hts gX3_nameOf_X7_isWord rfl rfl rfl (by decide +kernel) ⟨Nat.le_of_ble_eq_true rfl, Nat.le_of_ble_eq_true rfl⟩) 7 rfl rfl hP hD hS (fun q h => Or.inr h) [0, 1] [] [0, 1] rfl (by decide) rfl (by decide) (by decide) rfl (by decide) rfl hl.1 rfl (Nat.le_of_ble_eq_true rfl) ⟨Nat.zero_le _, Nat.zero_le _⟩ dX3_nameOf_69 (fun H locs hP hD hS => ?_)
              refine lv_if_eq (tgt := 78) hx hb dX3_nameOf_72 (by decide) (fun hc => ?_) (fun hc => ?_)
              · replace hf := ow_t hc hf
                refine lv_aload_n hx hb dX3_nameOf_78 rfl (lv_at hl 0 rfl) ?_
                refine va_ldcS (q := D.2 100 14) hx hb hown (hG.2.2 _ (List.mem_of_getElem? (i := 14) rfl)) dX3_nameOf_79 ?_
                obtain ⟨q81, hq, hf⟩ := bd_some hf
                refine ow_callVI (As := [.ref (D.2 100 14)]) (rest := []) (wr := ow_pk (W_X3_nameOf cs a0 p0 i0_1 i0_2 i0_3 i0_4 i0_5 i0_6 i0_7 i0_8 v0_0) []) (wf := (W_X3_nameOf cs a0 p0 i0_1 i0_2 i0_3 i0_4 i0_5 i0_6 i0_7 i0_8 v0_0)) (r := q81) C0 (c_X7_isWord l D cs H.size a0 p0 i0_1 i0_2 i0_3 i0_4 i0_5 i0_6 i0_7 i0_8 v0_0 14 (by decide)  q81 hq) (cwV 1 hts gX3_nameOf_X7_isWord rfl rfl rfl (by decide +kernel) ⟨Nat.le_of_ble_eq_true rfl, Nat.le_of_ble_eq_true rfl⟩) 7 rfl rfl hP hD hS (fun q h => Or.inr h) [0, 1] [] [0, 1] rfl (by decide) rfl (by decide) (by decide) rfl (by decide) rfl hl.1 rfl (Nat.le_of_ble_eq_true rfl) ⟨Nat.zero_le _, Nat.zero_le _⟩ dX3_nameOf_81 (fun H locs hP hD hS => ?_)
                refine lv_if_eq (tgt := 92) hx hb dX3_nameOf_84 (by decide) (fun hc => ?_) (fun hc => ?_)
                · replace hf := ow_t hc hf
                  refine lv_iconst (v := (-1)) hx hb dX3_nameOf_92 (by decide) ?_
                  obtain rfl := Option.some.inj hf
                  exact ow_retI C0 hP hD hS dX3_nameOf_93
                · replace hf := ow_f hc hf
                  refine lv_bipush (v := 7) hx hb dX3_nameOf_87 (by decide) ?_
                  refine lv_goto (tgt := 93) hx hb dX3_nameOf_89 (by decide) ?_
                  obtain rfl := Option.some.inj hf
                  exact ow_retI C0 hP hD hS dX3_nameOf_93
              · replace hf := ow_f hc hf
                refine lv_bipush (v := 6) hx hb dX3_nameOf_75 (by decide) ?_
                obtain rfl := Option.some.inj hf
                exact ow_retI C0 hP hD hS dX3_nameOf_77
            · replace hf := ow_f hc hf
              refine lv_iconst (v := 5) hx hb dX3_nameOf_64 (by decide) ?_
              obtain rfl := Option.some.inj hf
              exact ow_retI C0 hP hD hS dX3_nameOf_65
          · replace hf := ow_f hc hf
            refine lv_iconst (v := 4) hx hb dX3_nameOf_53 (by decide) ?_
            obtain rfl := Option.some.inj hf
            exact ow_retI C0 hP hD hS dX3_nameOf_54
        · replace hf := ow_f hc hf
          refine lv_iconst (v := 3) hx hb dX3_nameOf_42 (by decide) ?_
          obtain rfl := Option.some.inj hf
          exact ow_retI C0 hP hD hS dX3_nameOf_43
      · replace hf := ow_f hc hf
        refine lv_iconst (v := 2) hx hb dX3_nameOf_31 (by decide) ?_
        obtain rfl := Option.some.inj hf
        exact ow_retI C0 hP hD hS dX3_nameOf_32
    · replace hf := ow_f hc hf
      refine lv_iconst (v := 1) hx hb dX3_nameOf_20 (by decide) ?_
      obtain rfl := Option.some.inj hf
      exact ow_retI C0 hP hD hS dX3_nameOf_21
  · replace hf := ow_f hc hf
    refine lv_iconst (v := 0) hx hb dX3_nameOf_9 (by decide) ?_
    obtain rfl := Option.some.inj hf
    exact ow_retI C0 hP hD hS dX3_nameOf_10
abbrev W_X3_put (cs : Nat → ClassId) (a0 : Nat) (p0 : Nat → Nat) (i0_2 : Int32) (v0_0 : Nat → Int32) (v0_1 : Nat → Int32) : va_W := wX3 cs a0 p0 i0_2 v0_0 v0_1
abbrev rm_X3_put : Room := { frames := 0, cells := 0, slots := 0, locals := 0 }
def f_X3_put  (i0_2 : Int32) (v0_0 : Nat → Int32) (x1 : Int32) : Option (Int32 × (Nat → Int32)) := if 150 ≤ i0_2 then (some (i0_2, v0_0)) else (ck i0_2 150 (some (i0_2 + 1, upd v0_0 (i0_2).toNatClampNeg x1)))
set_option maxHeartbeats 4000000 in
set_option maxRecDepth 100000 in
theorem c_X3_put (l : Launch) (D : va_G) (cs : Nat → ClassId)  (sz : Nat) (a0 : Nat) (p0 : Nat → Nat) (i0_2 : Int32) (v0_0 : Nat → Int32) (v0_1 : Nat → Int32) (x1 : Int32) (res : Int32 × (Nat → Int32)) (hf : f_X3_put  i0_2 v0_0 x1 = some res) : MV l D cs yX3_put wsX3_put rm_X3_put [.ref a0, .int x1] sz (W_X3_put cs a0 p0 i0_2 v0_0 v0_1) (W_X3_put cs a0 p0 res.1 res.2 v0_1) := by
  rw [f_X3_put] at hf
  refine ow_enter (cc := cX3_put) (nL := 2) (ret := none) (by decide) rfl (Nat.le_of_ble_eq_true rfl) (fun p e s m below meth c ls H locs C0 hP hD hS hA hl => ?_)
  obtain ⟨hx, hb, hr, hlk, hml, hown, hts, hK, hG, hE⟩ := id C0
  have in_X3 : ∀ w ∈ u_ws RX3 TX3 3, w ∈ wsX3_put := by decide +kernel
  have hl : lv_has ls 2 [(0, .ref a0), (1, .int x1)] := hl
  refine lv_aload_n hx hb dX3_put_0 rfl (lv_at hl 0 rfl) ?_
  refine va_get (D := D) (ci := 3) (v := .int i0_2) (C := RX3) (T := TX3) (N := 3) hx hb hts in_X3 hown hK hP 0 rfl rfl 2 (by decide) (hts (.fieldLink RX3 21 "PaneDays$Law" "length" "I") (by decide +kernel)) (fun _ h9 => h9) rfl dX3_put_1 ?_
  refine lv_sipush (v := 150) hx hb dX3_put_4 (by decide) ?_
  refine lv_icmp_ge (tgt := 30) hx hb dX3_put_7 (by decide) (fun hc => ?_) (fun hc => ?_)
  · replace hf := ow_t hc hf
    obtain rfl := Option.some.inj hf
    exact ow_retV C0 hP hD hS dX3_put_30
  · replace hf := ow_f hc hf
    refine lv_aload_n hx hb dX3_put_10 rfl (lv_at hl 0 rfl) ?_
    refine va_get (D := D) (ci := 3) (v := .ref (p0 0)) (C := RX3) (T := TX3) (N := 3) hx hb hts in_X3 hown hK hP 0 rfl rfl 0 (by decide) (hts (.fieldLink RX3 9 "PaneDays$Law" "code" "[I") (by decide +kernel)) (fun _ h9 => h9) rfl dX3_put_11 ?_
    refine lv_aload_n hx hb dX3_put_14 rfl (lv_at hl 0 rfl) ?_
    refine va_get (D := D) (ci := 3) (v := .int i0_2) (C := RX3) (T := TX3) (N := 3) hx hb hts in_X3 hown hK hP 0 rfl rfl 2 (by decide) (hts (.fieldLink RX3 21 "PaneDays$Law" "length" "I") (by decide +kernel)) (fun _ h9 => h9) rfl dX3_put_15 ?_
    refine lv_iload_n hx hb dX3_put_18 rfl (lv_at hl 1 rfl) ?_
    obtain ⟨hin, hf⟩ := ck_some hf
    refine va_iast (f := v0_0) hx hb hK hP hD hS 1 0 rfl rfl hin dX3_put_19 (fun H locs (hP : va_P D vwCl (W_X3_put cs a0 p0 i0_2 (upd v0_0 (i0_2).toNatClampNeg x1) v0_1) H) (hD : va_D _ (W_X3_put cs a0 p0 i0_2 (upd v0_0 (i0_2).toNatClampNeg x1) v0_1)) hS => ?_)
    refine lv_aload_n hx hb dX3_put_20 rfl (lv_at hl 0 rfl) ?_
    refine lv_dup hx hb dX3_put_21 rfl ?_
    refine va_get (D := D) (ci := 3) (v := .int i0_2) (C := RX3) (T := TX3) (N := 3) hx hb hts in_X3 hown hK hP 0 rfl rfl 2 (by decide) (hts (.fieldLink RX3 21 "PaneDays$Law" "length" "I") (by decide +kernel)) (fun _ h9 => h9) rfl dX3_put_22 ?_
    refine lv_iconst (v := 1) hx hb dX3_put_25 (by decide) ?_
    refine lv_iadd hx hb dX3_put_26 ?_
    refine va_put (D := D) (ci := 3) (v := .int (i0_2 + 1)) (ty := .int) (C := RX3) (T := TX3) (N := 3) hx hb hts in_X3 tyX3 tyX3_ok nmX3 hown hK hP hD hS 0 rfl rfl 2 (by decide) (hts (.fieldLink RX3 21 "PaneDays$Law" "length" "I") (by decide +kernel)) (fun _ h9 => h9) rfl (by decide +kernel) rfl rfl (Nat.le_of_ble_eq_true rfl) dX3_put_27 (fun H locs (hP : va_P D vwCl (W_X3_put cs a0 p0 (i0_2 + 1) (upd v0_0 (i0_2).toNatClampNeg x1) v0_1) H) (hD : va_D _ (W_X3_put cs a0 p0 (i0_2 + 1) (upd v0_0 (i0_2).toNatClampNeg x1) v0_1)) hS => ?_)
    obtain rfl := Option.some.inj hf
    exact ow_retV C0 hP hD hS dX3_put_30
abbrev W_X3_readUnit (cs : Nat → ClassId) (a0 : Nat) (p0 : Nat → Nat) (i0_2 : Int32) (v0_0 : Nat → Int32) (v0_1 : Nat → Int32) (a1 : Nat) (p1 : Nat → Nat) (i1_1 : Int32) (i1_2 : Int32) (i1_3 : Int32) (i1_4 : Int32) (i1_5 : Int32) (i1_6 : Int32) (i1_7 : Int32) (i1_8 : Int32) (v1_0 : Nat → Int32) : va_W := wX3 cs a0 p0 i0_2 v0_0 v0_1 ++ wX7 cs a1 p1 i1_1 i1_2 i1_3 i1_4 i1_5 i1_6 i1_7 i1_8 v1_0
abbrev rm_X3_readUnit (n : Nat) : Room := { frames := 10 * n, cells := 0, slots := 0, locals := 242 * n }
abbrev W_X3_readProduct (cs : Nat → ClassId) (a0 : Nat) (p0 : Nat → Nat) (i0_2 : Int32) (v0_0 : Nat → Int32) (v0_1 : Nat → Int32) (a1 : Nat) (p1 : Nat → Nat) (i1_1 : Int32) (i1_2 : Int32) (i1_3 : Int32) (i1_4 : Int32) (i1_5 : Int32) (i1_6 : Int32) (i1_7 : Int32) (i1_8 : Int32) (v1_0 : Nat → Int32) : va_W := wX3 cs a0 p0 i0_2 v0_0 v0_1 ++ wX7 cs a1 p1 i1_1 i1_2 i1_3 i1_4 i1_5 i1_6 i1_7 i1_8 v1_0
abbrev rm_X3_readProduct (ρ : Room) : Room := { frames := ρ.frames + 2, cells := 0, slots := 0, locals := ρ.locals + 41 }
def f_X3_readProduct_b58 (F : (Int32) → (Nat → Int32) → (Int32) → (Int32) → (Int32) → (Int32) → (Int32) → (Int32) → (Int32) → (Nat → Int32) → Int32 → Option (Int32 × (Nat → Int32) × Int32 × Int32 × Int32 × Int32 × Int32 × Int32)) (i1_2 : Int32) (v1_0 : Nat → Int32) (k8 : (Int32) → (Nat → Int32) → (Int32) → (Int32) → (Int32) → (Int32) → (Int32) → (Int32) → Int32 → Int32 → Option (Int32 × (Nat → Int32) × Int32 × Int32 × Int32 × Int32 × Int32 × Int32)) (i0_2 : Int32) (v0_0 : Nat → Int32) (i1_3 : Int32) (i1_4 : Int32) (i1_5 : Int32) (i1_6 : Int32) (i1_7 : Int32) (i1_8 : Int32) (x2 : Int32) (x3 : Int32) (t0 : Int32) : Option (Int32 × (Nat → Int32) × Int32 × Int32 × Int32 × Int32 × Int32 × Int32) := if t0 = 0 then (some (i0_2, v0_0, i1_3, i1_4, i1_5, i1_6, i1_7, i1_8)) else ((f_X7_step i1_2 i1_3 i1_4 i1_5 i1_6 i1_7 v1_0).bind fun q69 => (F i0_2 v0_0 i1_2 q69.1 q69.2.1 q69.2.2.1 q69.2.2.2 i1_7 i1_8 v1_0 x2).bind fun q75 => (f_X3_put q75.1 q75.2.1 t0).bind fun q81 => k8 q81.1 q81.2 q75.2.2.1 q75.2.2.2.1 q75.2.2.2.2.1 q75.2.2.2.2.2.1 q75.2.2.2.2.2.2.1 q75.2.2.2.2.2.2.2 x2 (x3 + 1))
set_option maxHeartbeats 4000000 in
set_option maxRecDepth 100000 in
theorem w_X3_readProduct_b58 {p : Program} {l : Launch} {e : Env} {s : State} {m : MethodId} {below : List Frame} {meth : Method} {c : Code} {D : va_G} {cs : Nat → ClassId} {av : Array Value} {w0 : va_W} (C0 : Cx p s m meth c av wsX3_readProduct cX3_readProduct 5 none RX3 D cs w0) (F : (Int32) → (Nat → Int32) → (Int32) → (Int32) → (Int32) → (Int32) → (Int32) → (Int32) → (Int32) → (Nat → Int32) → Int32 → Option (Int32 × (Nat → Int32) × Int32 × Int32 × Int32 × Int32 × Int32 × Int32)) (ρ : Room) (hρ : ρ.cells = 0 ∧ ρ.slots = 0) (hF : ∀ (sz : Nat) (a0 : Nat) (p0 : Nat → Nat) (i0_2 : Int32) (v0_0 : Nat → Int32) (v0_1 : Nat → Int32) (a1 : Nat) (p1 : Nat → Nat) (i1_1 : Int32) (i1_2 : Int32) (i1_3 : Int32) (i1_4 : Int32) (i1_5 : Int32) (i1_6 : Int32) (i1_7 : Int32) (i1_8 : Int32) (v1_0 : Nat → Int32) (x2 : Int32) (res : Int32 × (Nat → Int32) × Int32 × Int32 × Int32 × Int32 × Int32 × Int32), F i0_2 v0_0 i1_2 i1_3 i1_4 i1_5 i1_6 i1_7 i1_8 v1_0 x2 = some res → MV l D cs yX3_readUnit wsX3_readUnit ρ [.ref a0, .ref a1, .int x2] sz (W_X3_readUnit cs a0 p0 i0_2 v0_0 v0_1 a1 p1 i1_1 i1_2 i1_3 i1_4 i1_5 i1_6 i1_7 i1_8 v1_0) (W_X3_readUnit cs a0 p0 res.1 res.2.1 v0_1 a1 p1 i1_1 i1_2 res.2.2.1 res.2.2.2.1 res.2.2.2.2.1 res.2.2.2.2.2.1 res.2.2.2.2.2.2.1 res.2.2.2.2.2.2.2 v1_0)) (a0 : Nat) (p0 : Nat → Nat) (v0_1 : Nat → Int32) (a1 : Nat) (p1 : Nat → Nat) (i1_1 : Int32) (i1_2 : Int32) (v1_0 : Nat → Int32) (res : Int32 × (Nat → Int32) × Int32 × Int32 × Int32 × Int32 × Int32 × Int32) (k8 : (Int32) → (Nat → Int32) → (Int32) → (Int32) → (Int32) → (Int32) → (Int32) → (Int32) → Int32 → Int32 → Option (Int32 × (Nat → Int32) × Int32 × Int32 × Int32 × Int32 × Int32 × Int32)) (hk8 : ∀ (i0_2 : Int32) (v0_0 : Nat → Int32) (i1_3 : Int32) (i1_4 : Int32) (i1_5 : Int32) (i1_6 : Int32) (i1_7 : Int32) (i1_8 : Int32) (x2 : Int32) (x3 : Int32), k8 i0_2 v0_0 i1_3 i1_4 i1_5 i1_6 i1_7 i1_8 x2 x3 = some res → ∀ (H : Heap) (locs : List Loc) (ls : Array Slot), va_P D vwCl (W_X3_readProduct cs a0 p0 i0_2 v0_0 v0_1 a1 p1 i1_1 i1_2 i1_3 i1_4 i1_5 i1_6 i1_7 i1_8 v1_0) H → va_D (va_A w0 s.heap.size) (W_X3_readProduct cs a0 p0 i0_2 v0_0 v0_1 a1 p1 i1_1 i1_2 i1_3 i1_4 i1_5 i1_6 i1_7 i1_8 v1_0) → va_S (va_A w0 s.heap.size) s.heap H locs → lv_has ls 5 [(0, .ref a0), (1, .ref a1), (2, .int x2), (3, .int x3)] → W p l e (rm_X3_readProduct ρ) s m av below meth c H locs 0 0 (MQ below (oV D cs w0 (W_X3_readProduct cs a0 p0 res.1 res.2.1 v0_1 a1 p1 i1_1 i1_2 res.2.2.1 res.2.2.2.1 res.2.2.2.2.1 res.2.2.2.2.2.1 res.2.2.2.2.2.2.1 res.2.2.2.2.2.2.2 v1_0) s.heap.size) av s 0 0 (va_A w0 s.heap.size)) (F0 m 8 ls [])) : ∀ (i0_2 : Int32) (v0_0 : Nat → Int32) (i1_3 : Int32) (i1_4 : Int32) (i1_5 : Int32) (i1_6 : Int32) (i1_7 : Int32) (i1_8 : Int32) (x2 : Int32) (x3 : Int32) (t0 : Int32), f_X3_readProduct_b58 F i1_2 v1_0 k8 i0_2 v0_0 i1_3 i1_4 i1_5 i1_6 i1_7 i1_8 x2 x3 t0 = some res → ∀ (H : Heap) (locs : List Loc) (ls : Array Slot), va_P D vwCl (W_X3_readProduct cs a0 p0 i0_2 v0_0 v0_1 a1 p1 i1_1 i1_2 i1_3 i1_4 i1_5 i1_6 i1_7 i1_8 v1_0) H → va_D (va_A w0 s.heap.size) (W_X3_readProduct cs a0 p0 i0_2 v0_0 v0_1 a1 p1 i1_1 i1_2 i1_3 i1_4 i1_5 i1_6 i1_7 i1_8 v1_0) → va_S (va_A w0 s.heap.size) s.heap H locs → lv_has ls 5 [(0, .ref a0), (1, .ref a1), (2, .int x2), (3, .int x3)] → W p l e (rm_X3_readProduct ρ) s m av below meth c H locs 0 0 (MQ below (oV D cs w0 (W_X3_readProduct cs a0 p0 res.1 res.2.1 v0_1 a1 p1 i1_1 i1_2 res.2.2.1 res.2.2.2.1 res.2.2.2.2.1 res.2.2.2.2.2.1 res.2.2.2.2.2.2.1 res.2.2.2.2.2.2.2 v1_0) s.heap.size) av s 0 0 (va_A w0 s.heap.size)) (F0 m 58 ls [.int t0]) := by
  obtain ⟨hx, hb, hr, hlk, hml, hown, hts, hK, hG, hE⟩ := id C0
  intro i0_2 v0_0 i1_3 i1_4 i1_5 i1_6 i1_7 i1_8 x2 x3 t0 hf H locs ls hP hD hS hl
  rw [f_X3_readProduct_b58] at hf
  refine lv_istore (lv' := [(4, .int t0), (0, .ref a0), (1, .ref a1), (2, .int x2), (3, .int x3)]) hx hb dX3_readProduct_58 hl (by decide) rfl (fun ls hl => ?_)
  refine lv_iload hx hb dX3_readProduct_60 (lv_at hl 0 rfl) ?_
  refine lv_if_ne (tgt := 68) hx hb dX3_readProduct_62 (by decide) (fun hc => ?_) (fun hc => ?_)
  · replace hf := ow_f hc hf
    refine lv_aload_n hx hb dX3_readProduct_68 rfl (lv_at hl 2 rfl) ?_
    obtain ⟨q69, hq, hf⟩ := bd_some hf
    refine ow_callVV (As := []) (rest := []) (wr := ow_pk (W_X3_readProduct cs a0 p0 i0_2 v0_0 v0_1 a1 p1 i1_1 i1_2 i1_3 i1_4 i1_5 i1_6 i1_7 i1_8 v1_0) [0, 1, 2]) (wf := (W_X3_readProduct cs a0 p0 i0_2 v0_0 v0_1 a1 p1 i1_1 i1_2 q69.1 q69.2.1 q69.2.2.1 q69.2.2.2 i1_7 i1_8 v1_0)) C0 (c_X7_step l D cs H.size a1 p1 i1_1 i1_2 i1_3 i1_4 i1_5 i1_6 i1_7 i1_8 v1_0  q69 hq) (cwV 0 hts gX3_readProduct_X7_step rfl rfl rfl (by decide +kernel) ⟨by simp only [rm_X3_readProduct, rm_X7_step]; omega, by simp only [rm_X3_readProduct, rm_X7_step]; omega⟩) 7 rfl rfl hP hD hS (fun q h => Or.inr h) [3, 4] [0, 1, 2] [0, 1, 2, 3, 4] rfl (by decide) rfl (by decide) (by decide) rfl (by decide) rfl hl.1 rfl (Nat.le_of_ble_eq_true rfl) ⟨Nat.zero_le _, Nat.zero_le _⟩ dX3_readProduct_69 (fun H locs hP hD hS => ?_)
    refine lv_aload_n hx hb dX3_readProduct_72 rfl (lv_at hl 1 rfl) ?_
    refine lv_aload_n hx hb dX3_readProduct_73 rfl (lv_at hl 2 rfl) ?_
    refine lv_iload_n hx hb dX3_readProduct_74 rfl (lv_at hl 3 rfl) ?_
    obtain ⟨q75, hq, hf⟩ := bd_some hf
    refine ow_callVV (As := [.ref a1, .int x2]) (rest := []) (wr := ow_pk (W_X3_readProduct cs a0 p0 i0_2 v0_0 v0_1 a1 p1 i1_1 i1_2 q69.1 q69.2.1 q69.2.2.1 q69.2.2.2 i1_7 i1_8 v1_0) []) (wf := (W_X3_readProduct cs a0 p0 q75.1 q75.2.1 v0_1 a1 p1 i1_1 i1_2 q75.2.2.1 q75.2.2.2.1 q75.2.2.2.2.1 q75.2.2.2.2.2.1 q75.2.2.2.2.2.2.1 q75.2.2.2.2.2.2.2 v1_0)) C0 (hF H.size a0 p0 i0_2 v0_0 v0_1 a1 p1 i1_1 i1_2 q69.1 q69.2.1 q69.2.2.1 q69.2.2.2 i1_7 i1_8 v1_0 x2 q75 hq) (cwV 2 hts gX3_readProduct_X3_readUnit rfl hρ.1 hρ.2 (by decide +kernel) ⟨by simp only [rm_X3_readProduct]; omega, by simp only [rm_X3_readProduct]; omega⟩) 3 rfl rfl hP hD hS (fun q h => Or.inr h) [0, 1, 2, 3, 4] [] [0, 1, 2, 3, 4] rfl (by decide) rfl (by decide) (by decide) rfl (by decide) rfl hl.1 rfl (Nat.le_of_ble_eq_true rfl) ⟨Nat.zero_le _, Nat.zero_le _⟩ dX3_readProduct_75 (fun H locs hP hD hS => ?_)
    refine lv_aload_n hx hb dX3_readProduct_78 rfl (lv_at hl 1 rfl) ?_
    refine lv_iload hx hb dX3_readProduct_79 (lv_at hl 0 rfl) ?_
    obtain ⟨q81, hq, hf⟩ := bd_some hf
    refine ow_callVV (As := [.int t0]) (rest := []) (wr := ow_pk (W_X3_readProduct cs a0 p0 q75.1 q75.2.1 v0_1 a1 p1 i1_1 i1_2 q75.2.2.1 q75.2.2.2.1 q75.2.2.2.2.1 q75.2.2.2.2.2.1 q75.2.2.2.2.2.2.1 q75.2.2.2.2.2.2.2 v1_0) [3, 4]) (wf := (W_X3_readProduct cs a0 p0 q81.1 q81.2 v0_1 a1 p1 i1_1 i1_2 q75.2.2.1 q75.2.2.2.1 q75.2.2.2.2.1 q75.2.2.2.2.2.1 q75.2.2.2.2.2.2.1 q75.2.2.2.2.2.2.2 v1_0)) C0 (c_X3_put l D cs H.size a0 p0 q75.1 q75.2.1 v0_1 t0 q81 hq) (cwV 1 hts gX3_readProduct_X3_put rfl rfl rfl (by decide +kernel) ⟨by simp only [rm_X3_readProduct, rm_X3_put]; omega, by simp only [rm_X3_readProduct, rm_X3_put]; omega⟩) 3 rfl rfl hP hD hS (fun q h => Or.inr h) [0, 1, 2] [3, 4] [2, 3, 4, 0, 1] rfl (by decide) rfl (by decide) (by decide) rfl (by decide) rfl hl.1 rfl (Nat.le_of_ble_eq_true rfl) ⟨Nat.zero_le _, Nat.zero_le _⟩ dX3_readProduct_81 (fun H locs hP hD hS => ?_)
    refine lv_iinc (v := x3 + 1) (lv' := [(3, .int (x3 + 1)), (4, .int t0), (0, .ref a0), (1, .ref a1), (2, .int x2)]) hx hb dX3_readProduct_84 hl (k := 4) rfl (ow_inc (by decide)) (by decide) rfl (fun ls hl => ?_)
    refine lv_goto (tgt := 8) hx hb dX3_readProduct_87 (by decide) ?_
    exact hk8 q81.1 q81.2 q75.2.2.1 q75.2.2.2.1 q75.2.2.2.2.1 q75.2.2.2.2.2.1 q75.2.2.2.2.2.2.1 q75.2.2.2.2.2.2.2 x2 (x3 + 1) hf _ _ _ hP hD hS (lv_sub hl [2, 3, 4, 0] rfl)
  · replace hf := ow_t hc hf
    refine lv_goto (tgt := 90) hx hb dX3_readProduct_65 (by decide) ?_
    obtain rfl := Option.some.inj hf
    exact ow_retV C0 hP hD hS dX3_readProduct_90
def f_X3_readProduct_b8 (F : (Int32) → (Nat → Int32) → (Int32) → (Int32) → (Int32) → (Int32) → (Int32) → (Int32) → (Int32) → (Nat → Int32) → Int32 → Option (Int32 × (Nat → Int32) × Int32 × Int32 × Int32 × Int32 × Int32 × Int32)) (i1_2 : Int32) (v1_0 : Nat → Int32)  : Nat → (Int32) → (Nat → Int32) → (Int32) → (Int32) → (Int32) → (Int32) → (Int32) → (Int32) → Int32 → Int32 → Option (Int32 × (Nat → Int32) × Int32 × Int32 × Int32 × Int32 × Int32 × Int32)
  | 0, _, _, _, _, _, _, _, _, _, _ => none
  | n + 1, i0_2, v0_0, i1_3, i1_4, i1_5, i1_6, i1_7, i1_8, x2, x3 => if 150 ≤ x3 then (some (i0_2, v0_0, i1_3, i1_4, i1_5, i1_6, i1_7, i1_8)) else ((f_X7_isSign i1_3 i1_4 v1_0 (42)).bind fun q18 => if q18 = 0 then ((f_X7_isSign i1_3 i1_4 v1_0 (47)).bind fun q32 => if q32 = 0 then ((f_X7_isSign i1_3 i1_4 v1_0 (37)).bind fun q46 => if q46 = 0 then (f_X3_readProduct_b58 F i1_2 v1_0 (f_X3_readProduct_b8 F i1_2 v1_0 n) i0_2 v0_0 i1_3 i1_4 i1_5 i1_6 i1_7 i1_8 x2 x3 (0)) else (f_X3_readProduct_b58 F i1_2 v1_0 (f_X3_readProduct_b8 F i1_2 v1_0 n) i0_2 v0_0 i1_3 i1_4 i1_5 i1_6 i1_7 i1_8 x2 x3 ((-13)))) else (f_X3_readProduct_b58 F i1_2 v1_0 (f_X3_readProduct_b8 F i1_2 v1_0 n) i0_2 v0_0 i1_3 i1_4 i1_5 i1_6 i1_7 i1_8 x2 x3 ((-12)))) else (f_X3_readProduct_b58 F i1_2 v1_0 (f_X3_readProduct_b8 F i1_2 v1_0 n) i0_2 v0_0 i1_3 i1_4 i1_5 i1_6 i1_7 i1_8 x2 x3 ((-11))))
set_option maxHeartbeats 4000000 in
set_option maxRecDepth 100000 in
theorem w_X3_readProduct_b8 {p : Program} {l : Launch} {e : Env} {s : State} {m : MethodId} {below : List Frame} {meth : Method} {c : Code} {D : va_G} {cs : Nat → ClassId} {av : Array Value} {w0 : va_W} (C0 : Cx p s m meth c av wsX3_readProduct cX3_readProduct 5 none RX3 D cs w0) (F : (Int32) → (Nat → Int32) → (Int32) → (Int32) → (Int32) → (Int32) → (Int32) → (Int32) → (Int32) → (Nat → Int32) → Int32 → Option (Int32 × (Nat → Int32) × Int32 × Int32 × Int32 × Int32 × Int32 × Int32)) (ρ : Room) (hρ : ρ.cells = 0 ∧ ρ.slots = 0) (hF : ∀ (sz : Nat) (a0 : Nat) (p0 : Nat → Nat) (i0_2 : Int32) (v0_0 : Nat → Int32) (v0_1 : Nat → Int32) (a1 : Nat) (p1 : Nat → Nat) (i1_1 : Int32) (i1_2 : Int32) (i1_3 : Int32) (i1_4 : Int32) (i1_5 : Int32) (i1_6 : Int32) (i1_7 : Int32) (i1_8 : Int32) (v1_0 : Nat → Int32) (x2 : Int32) (res : Int32 × (Nat → Int32) × Int32 × Int32 × Int32 × Int32 × Int32 × Int32), F i0_2 v0_0 i1_2 i1_3 i1_4 i1_5 i1_6 i1_7 i1_8 v1_0 x2 = some res → MV l D cs yX3_readUnit wsX3_readUnit ρ [.ref a0, .ref a1, .int x2] sz (W_X3_readUnit cs a0 p0 i0_2 v0_0 v0_1 a1 p1 i1_1 i1_2 i1_3 i1_4 i1_5 i1_6 i1_7 i1_8 v1_0) (W_X3_readUnit cs a0 p0 res.1 res.2.1 v0_1 a1 p1 i1_1 i1_2 res.2.2.1 res.2.2.2.1 res.2.2.2.2.1 res.2.2.2.2.2.1 res.2.2.2.2.2.2.1 res.2.2.2.2.2.2.2 v1_0)) (a0 : Nat) (p0 : Nat → Nat) (v0_1 : Nat → Int32) (a1 : Nat) (p1 : Nat → Nat) (i1_1 : Int32) (i1_2 : Int32) (v1_0 : Nat → Int32) (res : Int32 × (Nat → Int32) × Int32 × Int32 × Int32 × Int32 × Int32 × Int32)  : ∀ (n : Nat) (i0_2 : Int32) (v0_0 : Nat → Int32) (i1_3 : Int32) (i1_4 : Int32) (i1_5 : Int32) (i1_6 : Int32) (i1_7 : Int32) (i1_8 : Int32) (x2 : Int32) (x3 : Int32), f_X3_readProduct_b8 F i1_2 v1_0 n i0_2 v0_0 i1_3 i1_4 i1_5 i1_6 i1_7 i1_8 x2 x3 = some res → ∀ (H : Heap) (locs : List Loc) (ls : Array Slot), va_P D vwCl (W_X3_readProduct cs a0 p0 i0_2 v0_0 v0_1 a1 p1 i1_1 i1_2 i1_3 i1_4 i1_5 i1_6 i1_7 i1_8 v1_0) H → va_D (va_A w0 s.heap.size) (W_X3_readProduct cs a0 p0 i0_2 v0_0 v0_1 a1 p1 i1_1 i1_2 i1_3 i1_4 i1_5 i1_6 i1_7 i1_8 v1_0) → va_S (va_A w0 s.heap.size) s.heap H locs → lv_has ls 5 [(0, .ref a0), (1, .ref a1), (2, .int x2), (3, .int x3)] → W p l e (rm_X3_readProduct ρ) s m av below meth c H locs 0 0 (MQ below (oV D cs w0 (W_X3_readProduct cs a0 p0 res.1 res.2.1 v0_1 a1 p1 i1_1 i1_2 res.2.2.1 res.2.2.2.1 res.2.2.2.2.1 res.2.2.2.2.2.1 res.2.2.2.2.2.2.1 res.2.2.2.2.2.2.2 v1_0) s.heap.size) av s 0 0 (va_A w0 s.heap.size)) (F0 m 8 ls []) := by
  obtain ⟨hx, hb, hr, hlk, hml, hown, hts, hK, hG, hE⟩ := id C0
  intro n
  induction n with
  | zero =>
    intro i0_2 v0_0 i1_3 i1_4 i1_5 i1_6 i1_7 i1_8 x2 x3 hf
    rw [f_X3_readProduct_b8] at hf
    cases hf
  | succ n ih =>
    intro i0_2 v0_0 i1_3 i1_4 i1_5 i1_6 i1_7 i1_8 x2 x3 hf H locs ls hP hD hS hl
    rw [f_X3_readProduct_b8] at hf
    refine lv_iload_n hx hb dX3_readProduct_8 rfl (lv_at hl 3 rfl) ?_
    refine lv_sipush (v := 150) hx hb dX3_readProduct_9 (by decide) ?_
    refine lv_icmp_ge (tgt := 90) hx hb dX3_readProduct_12 (by decide) (fun hc => ?_) (fun hc => ?_)
    · replace hf := ow_t hc hf
      obtain rfl := Option.some.inj hf
      exact ow_retV C0 hP hD hS dX3_readProduct_90
    · replace hf := ow_f hc hf
      refine lv_aload_n hx hb dX3_readProduct_15 rfl (lv_at hl 1 rfl) ?_
      refine lv_bipush (v := 42) hx hb dX3_readProduct_16 (by decide) ?_
      obtain ⟨q18, hq, hf⟩ := bd_some hf
      refine ow_callVI (As := [.int 42]) (rest := []) (wr := ow_pk (W_X3_readProduct cs a0 p0 i0_2 v0_0 v0_1 a1 p1 i1_1 i1_2 i1_3 i1_4 i1_5 i1_6 i1_7 i1_8 v1_0) [0, 1, 2]) (wf := (W_X3_readProduct cs a0 p0 i0_2 v0_0 v0_1 a1 p1 i1_1 i1_2 i1_3 i1_4 i1_5 i1_6 i1_7 i1_8 v1_0)) (r := q18) C0 (c_X7_isSign l D cs H.size a1 p1 i1_1 i1_2 i1_3 i1_4 i1_5 i1_6 i1_7 i1_8 v1_0 (42) q18 hq) (cwV 1 hts gX3_readProduct_X7_isSign rfl rfl rfl (by decide +kernel) ⟨by simp only [rm_X3_readProduct, rm_X7_isSign]; omega, by simp only [rm_X3_readProduct, rm_X7_isSign]; omega⟩) 7 rfl rfl hP hD hS (fun q h => Or.inr h) [3, 4] [0, 1, 2] [0, 1, 2, 3, 4] rfl (by decide) rfl (by decide) (by decide) rfl (by decide) rfl hl.1 rfl (Nat.le_of_ble_eq_true rfl) ⟨Nat.zero_le _, Nat.zero_le _⟩ dX3_readProduct_18 (fun H locs hP hD hS => ?_)
      refine lv_if_eq (tgt := 29) hx hb dX3_readProduct_21 (by decide) (fun hc => ?_) (fun hc => ?_)
      · replace hf := ow_t hc hf
        refine lv_aload_n hx hb dX3_readProduct_29 rfl (lv_at hl 1 rfl) ?_
        refine lv_bipush (v := 47) hx hb dX3_readProduct_30 (by decide) ?_
        obtain ⟨q32, hq, hf⟩ := bd_some hf
        refine ow_callVI (As := [.int 47]) (rest := []) (wr := ow_pk (W_X3_readProduct cs a0 p0 i0_2 v0_0 v0_1 a1 p1 i1_1 i1_2 i1_3 i1_4 i1_5 i1_6 i1_7 i1_8 v1_0) [0, 1, 2]) (wf := (W_X3_readProduct cs a0 p0 i0_2 v0_0 v0_1 a1 p1 i1_1 i1_2 i1_3 i1_4 i1_5 i1_6 i1_7 i1_8 v1_0)) (r := q32) C0 (c_X7_isSign l D cs H.size a1 p1 i1_1 i1_2 i1_3 i1_4 i1_5 i1_6 i1_7 i1_8 v1_0 (47) q32 hq) (cwV 1 hts gX3_readProduct_X7_isSign rfl rfl rfl (by decide +kernel) ⟨by simp only [rm_X3_readProduct, rm_X7_isSign]; omega, by simp only [rm_X3_readProduct, rm_X7_isSign]; omega⟩) 7 rfl rfl hP hD hS (fun q h => Or.inr h) [3, 4] [0, 1, 2] [0, 1, 2, 3, 4] rfl (by decide) rfl (by decide) (by decide) rfl (by decide) rfl hl.1 rfl (Nat.le_of_ble_eq_true rfl) ⟨Nat.zero_le _, Nat.zero_le _⟩ dX3_readProduct_32 (fun H locs hP hD hS => ?_)
        refine lv_if_eq (tgt := 43) hx hb dX3_readProduct_35 (by decide) (fun hc => ?_) (fun hc => ?_)
        · replace hf := ow_t hc hf
          refine lv_aload_n hx hb dX3_readProduct_43 rfl (lv_at hl 1 rfl) ?_
          refine lv_bipush (v := 37) hx hb dX3_readProduct_44 (by decide) ?_
          obtain ⟨q46, hq, hf⟩ := bd_some hf
          refine ow_callVI (As := [.int 37]) (rest := []) (wr := ow_pk (W_X3_readProduct cs a0 p0 i0_2 v0_0 v0_1 a1 p1 i1_1 i1_2 i1_3 i1_4 i1_5 i1_6 i1_7 i1_8 v1_0) [0, 1, 2]) (wf := (W_X3_readProduct cs a0 p0 i0_2 v0_0 v0_1 a1 p1 i1_1 i1_2 i1_3 i1_4 i1_5 i1_6 i1_7 i1_8 v1_0)) (r := q46) C0 (c_X7_isSign l D cs H.size a1 p1 i1_1 i1_2 i1_3 i1_4 i1_5 i1_6 i1_7 i1_8 v1_0 (37) q46 hq) (cwV 1 hts gX3_readProduct_X7_isSign rfl rfl rfl (by decide +kernel) ⟨by simp only [rm_X3_readProduct, rm_X7_isSign]; omega, by simp only [rm_X3_readProduct, rm_X7_isSign]; omega⟩) 7 rfl rfl hP hD hS (fun q h => Or.inr h) [3, 4] [0, 1, 2] [0, 1, 2, 3, 4] rfl (by decide) rfl (by decide) (by decide) rfl (by decide) rfl hl.1 rfl (Nat.le_of_ble_eq_true rfl) ⟨Nat.zero_le _, Nat.zero_le _⟩ dX3_readProduct_46 (fun H locs hP hD hS => ?_)
          refine lv_if_eq (tgt := 57) hx hb dX3_readProduct_49 (by decide) (fun hc => ?_) (fun hc => ?_)
          · replace hf := ow_t hc hf
            refine lv_iconst (v := 0) hx hb dX3_readProduct_57 (by decide) ?_
            exact w_X3_readProduct_b58 C0 F ρ hρ hF a0 p0 v0_1 a1 p1 i1_1 i1_2 v1_0 res (f_X3_readProduct_b8 F i1_2 v1_0 n) ih i0_2 v0_0 i1_3 i1_4 i1_5 i1_6 i1_7 i1_8 x2 x3 (0) hf _ _ _ hP hD hS (lv_sub hl [0, 1, 2, 3] rfl)
          · replace hf := ow_f hc hf
            refine lv_bipush (v := (-13)) hx hb dX3_readProduct_52 (by decide) ?_
            refine lv_goto (tgt := 58) hx hb dX3_readProduct_54 (by decide) ?_
            exact w_X3_readProduct_b58 C0 F ρ hρ hF a0 p0 v0_1 a1 p1 i1_1 i1_2 v1_0 res (f_X3_readProduct_b8 F i1_2 v1_0 n) ih i0_2 v0_0 i1_3 i1_4 i1_5 i1_6 i1_7 i1_8 x2 x3 ((-13)) hf _ _ _ hP hD hS (lv_sub hl [0, 1, 2, 3] rfl)
        · replace hf := ow_f hc hf
          refine lv_bipush (v := (-12)) hx hb dX3_readProduct_38 (by decide) ?_
          refine lv_goto (tgt := 58) hx hb dX3_readProduct_40 (by decide) ?_
          exact w_X3_readProduct_b58 C0 F ρ hρ hF a0 p0 v0_1 a1 p1 i1_1 i1_2 v1_0 res (f_X3_readProduct_b8 F i1_2 v1_0 n) ih i0_2 v0_0 i1_3 i1_4 i1_5 i1_6 i1_7 i1_8 x2 x3 ((-12)) hf _ _ _ hP hD hS (lv_sub hl [0, 1, 2, 3] rfl)
      · replace hf := ow_f hc hf
        refine lv_bipush (v := (-11)) hx hb dX3_readProduct_24 (by decide) ?_
        refine lv_goto (tgt := 58) hx hb dX3_readProduct_26 (by decide) ?_
        exact w_X3_readProduct_b58 C0 F ρ hρ hF a0 p0 v0_1 a1 p1 i1_1 i1_2 v1_0 res (f_X3_readProduct_b8 F i1_2 v1_0 n) ih i0_2 v0_0 i1_3 i1_4 i1_5 i1_6 i1_7 i1_8 x2 x3 ((-11)) hf _ _ _ hP hD hS (lv_sub hl [0, 1, 2, 3] rfl)
def f_X3_readProduct (F : (Int32) → (Nat → Int32) → (Int32) → (Int32) → (Int32) → (Int32) → (Int32) → (Int32) → (Int32) → (Nat → Int32) → Int32 → Option (Int32 × (Nat → Int32) × Int32 × Int32 × Int32 × Int32 × Int32 × Int32)) (i0_2 : Int32) (v0_0 : Nat → Int32) (i1_2 : Int32) (i1_3 : Int32) (i1_4 : Int32) (i1_5 : Int32) (i1_6 : Int32) (i1_7 : Int32) (i1_8 : Int32) (v1_0 : Nat → Int32) (x2 : Int32) : Option (Int32 × (Nat → Int32) × Int32 × Int32 × Int32 × Int32 × Int32 × Int32) := (F i0_2 v0_0 i1_2 i1_3 i1_4 i1_5 i1_6 i1_7 i1_8 v1_0 x2).bind fun q3 => f_X3_readProduct_b8 F i1_2 v1_0 4000 q3.1 q3.2.1 q3.2.2.1 q3.2.2.2.1 q3.2.2.2.2.1 q3.2.2.2.2.2.1 q3.2.2.2.2.2.2.1 q3.2.2.2.2.2.2.2 x2 (0)
set_option maxHeartbeats 4000000 in
set_option maxRecDepth 100000 in
theorem c_X3_readProduct (l : Launch) (D : va_G) (cs : Nat → ClassId) (F : (Int32) → (Nat → Int32) → (Int32) → (Int32) → (Int32) → (Int32) → (Int32) → (Int32) → (Int32) → (Nat → Int32) → Int32 → Option (Int32 × (Nat → Int32) × Int32 × Int32 × Int32 × Int32 × Int32 × Int32)) (ρ : Room) (hρ : ρ.cells = 0 ∧ ρ.slots = 0) (hF : ∀ (sz : Nat) (a0 : Nat) (p0 : Nat → Nat) (i0_2 : Int32) (v0_0 : Nat → Int32) (v0_1 : Nat → Int32) (a1 : Nat) (p1 : Nat → Nat) (i1_1 : Int32) (i1_2 : Int32) (i1_3 : Int32) (i1_4 : Int32) (i1_5 : Int32) (i1_6 : Int32) (i1_7 : Int32) (i1_8 : Int32) (v1_0 : Nat → Int32) (x2 : Int32) (res : Int32 × (Nat → Int32) × Int32 × Int32 × Int32 × Int32 × Int32 × Int32), F i0_2 v0_0 i1_2 i1_3 i1_4 i1_5 i1_6 i1_7 i1_8 v1_0 x2 = some res → MV l D cs yX3_readUnit wsX3_readUnit ρ [.ref a0, .ref a1, .int x2] sz (W_X3_readUnit cs a0 p0 i0_2 v0_0 v0_1 a1 p1 i1_1 i1_2 i1_3 i1_4 i1_5 i1_6 i1_7 i1_8 v1_0) (W_X3_readUnit cs a0 p0 res.1 res.2.1 v0_1 a1 p1 i1_1 i1_2 res.2.2.1 res.2.2.2.1 res.2.2.2.2.1 res.2.2.2.2.2.1 res.2.2.2.2.2.2.1 res.2.2.2.2.2.2.2 v1_0)) (sz : Nat) (a0 : Nat) (p0 : Nat → Nat) (i0_2 : Int32) (v0_0 : Nat → Int32) (v0_1 : Nat → Int32) (a1 : Nat) (p1 : Nat → Nat) (i1_1 : Int32) (i1_2 : Int32) (i1_3 : Int32) (i1_4 : Int32) (i1_5 : Int32) (i1_6 : Int32) (i1_7 : Int32) (i1_8 : Int32) (v1_0 : Nat → Int32) (x2 : Int32) (res : Int32 × (Nat → Int32) × Int32 × Int32 × Int32 × Int32 × Int32 × Int32) (hf : f_X3_readProduct F i0_2 v0_0 i1_2 i1_3 i1_4 i1_5 i1_6 i1_7 i1_8 v1_0 x2 = some res) : MV l D cs yX3_readProduct wsX3_readProduct (rm_X3_readProduct ρ) [.ref a0, .ref a1, .int x2] sz (W_X3_readProduct cs a0 p0 i0_2 v0_0 v0_1 a1 p1 i1_1 i1_2 i1_3 i1_4 i1_5 i1_6 i1_7 i1_8 v1_0) (W_X3_readProduct cs a0 p0 res.1 res.2.1 v0_1 a1 p1 i1_1 i1_2 res.2.2.1 res.2.2.2.1 res.2.2.2.2.1 res.2.2.2.2.2.1 res.2.2.2.2.2.2.1 res.2.2.2.2.2.2.2 v1_0) := by
  rw [f_X3_readProduct] at hf
  refine ow_enter (cc := cX3_readProduct) (nL := 5) (ret := none) (by decide) rfl (Nat.le_of_ble_eq_true rfl) (fun p e s m below meth c ls H locs C0 hP hD hS hA hl => ?_)
  obtain ⟨hx, hb, hr, hlk, hml, hown, hts, hK, hG, hE⟩ := id C0
  have hl : lv_has ls 5 [(0, .ref a0), (1, .ref a1), (2, .int x2)] := hl
  refine lv_aload_n hx hb dX3_readProduct_0 rfl (lv_at hl 0 rfl) ?_
  refine lv_aload_n hx hb dX3_readProduct_1 rfl (lv_at hl 1 rfl) ?_
  refine lv_iload_n hx hb dX3_readProduct_2 rfl (lv_at hl 2 rfl) ?_
  obtain ⟨q3, hq, hf⟩ := bd_some hf
  refine ow_callVV (As := [.ref a1, .int x2]) (rest := []) (wr := ow_pk (W_X3_readProduct cs a0 p0 i0_2 v0_0 v0_1 a1 p1 i1_1 i1_2 i1_3 i1_4 i1_5 i1_6 i1_7 i1_8 v1_0) []) (wf := (W_X3_readProduct cs a0 p0 q3.1 q3.2.1 v0_1 a1 p1 i1_1 i1_2 q3.2.2.1 q3.2.2.2.1 q3.2.2.2.2.1 q3.2.2.2.2.2.1 q3.2.2.2.2.2.2.1 q3.2.2.2.2.2.2.2 v1_0)) C0 (hF H.size a0 p0 i0_2 v0_0 v0_1 a1 p1 i1_1 i1_2 i1_3 i1_4 i1_5 i1_6 i1_7 i1_8 v1_0 x2 q3 hq) (cwV 2 hts gX3_readProduct_X3_readUnit rfl hρ.1 hρ.2 (by decide +kernel) ⟨by simp only [rm_X3_readProduct]; omega, by simp only [rm_X3_readProduct]; omega⟩) 3 rfl rfl hP hD hS (fun q h => Or.inr h) [0, 1, 2, 3, 4] [] [0, 1, 2, 3, 4] rfl (by decide) rfl (by decide) (by decide) rfl (by decide) rfl hl.1 rfl (Nat.le_of_ble_eq_true rfl) ⟨Nat.zero_le _, Nat.zero_le _⟩ dX3_readProduct_3 (fun H locs hP hD hS => ?_)
  refine lv_iconst (v := 0) hx hb dX3_readProduct_6 (by decide) ?_
  refine lv_istore_n (lv' := [(3, .int 0), (0, .ref a0), (1, .ref a1), (2, .int x2)]) hx hb dX3_readProduct_7 rfl hl (by decide) rfl (fun ls hl => ?_)
  exact w_X3_readProduct_b8 C0 F ρ hρ hF a0 p0 v0_1 a1 p1 i1_1 i1_2 v1_0 res 4000 q3.1 q3.2.1 q3.2.2.1 q3.2.2.2.1 q3.2.2.2.2.1 q3.2.2.2.2.2.1 q3.2.2.2.2.2.2.1 q3.2.2.2.2.2.2.2 x2 (0) hf _ _ _ hP hD hS (lv_sub hl [1, 2, 3, 0] rfl)
abbrev W_X3_readSum (cs : Nat → ClassId) (a0 : Nat) (p0 : Nat → Nat) (i0_2 : Int32) (v0_0 : Nat → Int32) (v0_1 : Nat → Int32) (a1 : Nat) (p1 : Nat → Nat) (i1_1 : Int32) (i1_2 : Int32) (i1_3 : Int32) (i1_4 : Int32) (i1_5 : Int32) (i1_6 : Int32) (i1_7 : Int32) (i1_8 : Int32) (v1_0 : Nat → Int32) : va_W := wX3 cs a0 p0 i0_2 v0_0 v0_1 ++ wX7 cs a1 p1 i1_1 i1_2 i1_3 i1_4 i1_5 i1_6 i1_7 i1_8 v1_0
abbrev rm_X3_readSum (ρ : Room) : Room := { frames := ρ.frames + 3, cells := 0, slots := 0, locals := ρ.locals + 65 }
def f_X3_readSum_b49 (F : (Int32) → (Nat → Int32) → (Int32) → (Int32) → (Int32) → (Int32) → (Int32) → (Int32) → (Int32) → (Nat → Int32) → Int32 → Option (Int32 × (Nat → Int32) × Int32 × Int32 × Int32 × Int32 × Int32 × Int32)) (i1_2 : Int32) (v1_0 : Nat → Int32) (k8 : (Int32) → (Nat → Int32) → (Int32) → (Int32) → (Int32) → (Int32) → (Int32) → (Int32) → Int32 → Int32 → Option (Int32 × (Nat → Int32) × Int32 × Int32 × Int32 × Int32 × Int32 × Int32)) (i0_2 : Int32) (v0_0 : Nat → Int32) (i1_3 : Int32) (i1_4 : Int32) (i1_5 : Int32) (i1_6 : Int32) (i1_7 : Int32) (i1_8 : Int32) (x2 : Int32) (x3 : Int32) (t0 : Int32) : Option (Int32 × (Nat → Int32) × Int32 × Int32 × Int32 × Int32 × Int32 × Int32) := (f_X7_step i1_2 i1_3 i1_4 i1_5 i1_6 i1_7 v1_0).bind fun q52 => (f_X3_readProduct F i0_2 v0_0 i1_2 q52.1 q52.2.1 q52.2.2.1 q52.2.2.2 i1_7 i1_8 v1_0 x2).bind fun q58 => (f_X3_put q58.1 q58.2.1 t0).bind fun q64 => k8 q64.1 q64.2 q58.2.2.1 q58.2.2.2.1 q58.2.2.2.2.1 q58.2.2.2.2.2.1 q58.2.2.2.2.2.2.1 q58.2.2.2.2.2.2.2 x2 (x3 + 1)
set_option maxHeartbeats 4000000 in
set_option maxRecDepth 100000 in
theorem w_X3_readSum_b49 {p : Program} {l : Launch} {e : Env} {s : State} {m : MethodId} {below : List Frame} {meth : Method} {c : Code} {D : va_G} {cs : Nat → ClassId} {av : Array Value} {w0 : va_W} (C0 : Cx p s m meth c av wsX3_readSum cX3_readSum 5 none RX3 D cs w0) (F : (Int32) → (Nat → Int32) → (Int32) → (Int32) → (Int32) → (Int32) → (Int32) → (Int32) → (Int32) → (Nat → Int32) → Int32 → Option (Int32 × (Nat → Int32) × Int32 × Int32 × Int32 × Int32 × Int32 × Int32)) (ρ : Room) (hρ : ρ.cells = 0 ∧ ρ.slots = 0) (hF : ∀ (sz : Nat) (a0 : Nat) (p0 : Nat → Nat) (i0_2 : Int32) (v0_0 : Nat → Int32) (v0_1 : Nat → Int32) (a1 : Nat) (p1 : Nat → Nat) (i1_1 : Int32) (i1_2 : Int32) (i1_3 : Int32) (i1_4 : Int32) (i1_5 : Int32) (i1_6 : Int32) (i1_7 : Int32) (i1_8 : Int32) (v1_0 : Nat → Int32) (x2 : Int32) (res : Int32 × (Nat → Int32) × Int32 × Int32 × Int32 × Int32 × Int32 × Int32), F i0_2 v0_0 i1_2 i1_3 i1_4 i1_5 i1_6 i1_7 i1_8 v1_0 x2 = some res → MV l D cs yX3_readUnit wsX3_readUnit ρ [.ref a0, .ref a1, .int x2] sz (W_X3_readUnit cs a0 p0 i0_2 v0_0 v0_1 a1 p1 i1_1 i1_2 i1_3 i1_4 i1_5 i1_6 i1_7 i1_8 v1_0) (W_X3_readUnit cs a0 p0 res.1 res.2.1 v0_1 a1 p1 i1_1 i1_2 res.2.2.1 res.2.2.2.1 res.2.2.2.2.1 res.2.2.2.2.2.1 res.2.2.2.2.2.2.1 res.2.2.2.2.2.2.2 v1_0)) (a0 : Nat) (p0 : Nat → Nat) (v0_1 : Nat → Int32) (a1 : Nat) (p1 : Nat → Nat) (i1_1 : Int32) (i1_2 : Int32) (v1_0 : Nat → Int32) (res : Int32 × (Nat → Int32) × Int32 × Int32 × Int32 × Int32 × Int32 × Int32) (k8 : (Int32) → (Nat → Int32) → (Int32) → (Int32) → (Int32) → (Int32) → (Int32) → (Int32) → Int32 → Int32 → Option (Int32 × (Nat → Int32) × Int32 × Int32 × Int32 × Int32 × Int32 × Int32)) (hk8 : ∀ (i0_2 : Int32) (v0_0 : Nat → Int32) (i1_3 : Int32) (i1_4 : Int32) (i1_5 : Int32) (i1_6 : Int32) (i1_7 : Int32) (i1_8 : Int32) (x2 : Int32) (x3 : Int32), k8 i0_2 v0_0 i1_3 i1_4 i1_5 i1_6 i1_7 i1_8 x2 x3 = some res → ∀ (H : Heap) (locs : List Loc) (ls : Array Slot), va_P D vwCl (W_X3_readSum cs a0 p0 i0_2 v0_0 v0_1 a1 p1 i1_1 i1_2 i1_3 i1_4 i1_5 i1_6 i1_7 i1_8 v1_0) H → va_D (va_A w0 s.heap.size) (W_X3_readSum cs a0 p0 i0_2 v0_0 v0_1 a1 p1 i1_1 i1_2 i1_3 i1_4 i1_5 i1_6 i1_7 i1_8 v1_0) → va_S (va_A w0 s.heap.size) s.heap H locs → lv_has ls 5 [(0, .ref a0), (1, .ref a1), (2, .int x2), (3, .int x3)] → W p l e (rm_X3_readSum ρ) s m av below meth c H locs 0 0 (MQ below (oV D cs w0 (W_X3_readSum cs a0 p0 res.1 res.2.1 v0_1 a1 p1 i1_1 i1_2 res.2.2.1 res.2.2.2.1 res.2.2.2.2.1 res.2.2.2.2.2.1 res.2.2.2.2.2.2.1 res.2.2.2.2.2.2.2 v1_0) s.heap.size) av s 0 0 (va_A w0 s.heap.size)) (F0 m 8 ls [])) : ∀ (i0_2 : Int32) (v0_0 : Nat → Int32) (i1_3 : Int32) (i1_4 : Int32) (i1_5 : Int32) (i1_6 : Int32) (i1_7 : Int32) (i1_8 : Int32) (x2 : Int32) (x3 : Int32) (t0 : Int32), f_X3_readSum_b49 F i1_2 v1_0 k8 i0_2 v0_0 i1_3 i1_4 i1_5 i1_6 i1_7 i1_8 x2 x3 t0 = some res → ∀ (H : Heap) (locs : List Loc) (ls : Array Slot), va_P D vwCl (W_X3_readSum cs a0 p0 i0_2 v0_0 v0_1 a1 p1 i1_1 i1_2 i1_3 i1_4 i1_5 i1_6 i1_7 i1_8 v1_0) H → va_D (va_A w0 s.heap.size) (W_X3_readSum cs a0 p0 i0_2 v0_0 v0_1 a1 p1 i1_1 i1_2 i1_3 i1_4 i1_5 i1_6 i1_7 i1_8 v1_0) → va_S (va_A w0 s.heap.size) s.heap H locs → lv_has ls 5 [(0, .ref a0), (1, .ref a1), (2, .int x2), (3, .int x3)] → W p l e (rm_X3_readSum ρ) s m av below meth c H locs 0 0 (MQ below (oV D cs w0 (W_X3_readSum cs a0 p0 res.1 res.2.1 v0_1 a1 p1 i1_1 i1_2 res.2.2.1 res.2.2.2.1 res.2.2.2.2.1 res.2.2.2.2.2.1 res.2.2.2.2.2.2.1 res.2.2.2.2.2.2.2 v1_0) s.heap.size) av s 0 0 (va_A w0 s.heap.size)) (F0 m 49 ls [.int t0]) := by
  obtain ⟨hx, hb, hr, hlk, hml, hown, hts, hK, hG, hE⟩ := id C0
  intro i0_2 v0_0 i1_3 i1_4 i1_5 i1_6 i1_7 i1_8 x2 x3 t0 hf H locs ls hP hD hS hl
  rw [f_X3_readSum_b49] at hf
  refine lv_istore (lv' := [(4, .int t0), (0, .ref a0), (1, .ref a1), (2, .int x2), (3, .int x3)]) hx hb dX3_readSum_49 hl (by decide) rfl (fun ls hl => ?_)
  refine lv_aload_n hx hb dX3_readSum_51 rfl (lv_at hl 2 rfl) ?_
  obtain ⟨q52, hq, hf⟩ := bd_some hf
  refine ow_callVV (As := []) (rest := []) (wr := ow_pk (W_X3_readSum cs a0 p0 i0_2 v0_0 v0_1 a1 p1 i1_1 i1_2 i1_3 i1_4 i1_5 i1_6 i1_7 i1_8 v1_0) [0, 1, 2]) (wf := (W_X3_readSum cs a0 p0 i0_2 v0_0 v0_1 a1 p1 i1_1 i1_2 q52.1 q52.2.1 q52.2.2.1 q52.2.2.2 i1_7 i1_8 v1_0)) C0 (c_X7_step l D cs H.size a1 p1 i1_1 i1_2 i1_3 i1_4 i1_5 i1_6 i1_7 i1_8 v1_0  q52 hq) (cwV 0 hts gX3_readSum_X7_step rfl rfl rfl (by decide +kernel) ⟨by simp only [rm_X3_readSum, rm_X7_step]; omega, by simp only [rm_X3_readSum, rm_X7_step]; omega⟩) 7 rfl rfl hP hD hS (fun q h => Or.inr h) [3, 4] [0, 1, 2] [0, 1, 2, 3, 4] rfl (by decide) rfl (by decide) (by decide) rfl (by decide) rfl hl.1 rfl (Nat.le_of_ble_eq_true rfl) ⟨Nat.zero_le _, Nat.zero_le _⟩ dX3_readSum_52 (fun H locs hP hD hS => ?_)
  refine lv_aload_n hx hb dX3_readSum_55 rfl (lv_at hl 1 rfl) ?_
  refine lv_aload_n hx hb dX3_readSum_56 rfl (lv_at hl 2 rfl) ?_
  refine lv_iload_n hx hb dX3_readSum_57 rfl (lv_at hl 3 rfl) ?_
  obtain ⟨q58, hq, hf⟩ := bd_some hf
  refine ow_callVV (As := [.ref a1, .int x2]) (rest := []) (wr := ow_pk (W_X3_readSum cs a0 p0 i0_2 v0_0 v0_1 a1 p1 i1_1 i1_2 q52.1 q52.2.1 q52.2.2.1 q52.2.2.2 i1_7 i1_8 v1_0) []) (wf := (W_X3_readSum cs a0 p0 q58.1 q58.2.1 v0_1 a1 p1 i1_1 i1_2 q58.2.2.1 q58.2.2.2.1 q58.2.2.2.2.1 q58.2.2.2.2.2.1 q58.2.2.2.2.2.2.1 q58.2.2.2.2.2.2.2 v1_0)) C0 (c_X3_readProduct l D cs F ρ hρ hF H.size a0 p0 i0_2 v0_0 v0_1 a1 p1 i1_1 i1_2 q52.1 q52.2.1 q52.2.2.1 q52.2.2.2 i1_7 i1_8 v1_0 x2 q58 hq) (cwV 2 hts gX3_readSum_X3_readProduct rfl rfl rfl (by decide +kernel) ⟨by simp only [rm_X3_readSum, rm_X3_readProduct]; omega, by simp only [rm_X3_readSum, rm_X3_readProduct]; omega⟩) 3 rfl rfl hP hD hS (fun q h => Or.inr h) [0, 1, 2, 3, 4] [] [0, 1, 2, 3, 4] rfl (by decide) rfl (by decide) (by decide) rfl (by decide) rfl hl.1 rfl (Nat.le_of_ble_eq_true rfl) ⟨Nat.zero_le _, Nat.zero_le _⟩ dX3_readSum_58 (fun H locs hP hD hS => ?_)
  refine lv_aload_n hx hb dX3_readSum_61 rfl (lv_at hl 1 rfl) ?_
  refine lv_iload hx hb dX3_readSum_62 (lv_at hl 0 rfl) ?_
  obtain ⟨q64, hq, hf⟩ := bd_some hf
  refine ow_callVV (As := [.int t0]) (rest := []) (wr := ow_pk (W_X3_readSum cs a0 p0 q58.1 q58.2.1 v0_1 a1 p1 i1_1 i1_2 q58.2.2.1 q58.2.2.2.1 q58.2.2.2.2.1 q58.2.2.2.2.2.1 q58.2.2.2.2.2.2.1 q58.2.2.2.2.2.2.2 v1_0) [3, 4]) (wf := (W_X3_readSum cs a0 p0 q64.1 q64.2 v0_1 a1 p1 i1_1 i1_2 q58.2.2.1 q58.2.2.2.1 q58.2.2.2.2.1 q58.2.2.2.2.2.1 q58.2.2.2.2.2.2.1 q58.2.2.2.2.2.2.2 v1_0)) C0 (c_X3_put l D cs H.size a0 p0 q58.1 q58.2.1 v0_1 t0 q64 hq) (cwV 1 hts gX3_readSum_X3_put rfl rfl rfl (by decide +kernel) ⟨by simp only [rm_X3_readSum, rm_X3_put]; omega, by simp only [rm_X3_readSum, rm_X3_put]; omega⟩) 3 rfl rfl hP hD hS (fun q h => Or.inr h) [0, 1, 2] [3, 4] [2, 3, 4, 0, 1] rfl (by decide) rfl (by decide) (by decide) rfl (by decide) rfl hl.1 rfl (Nat.le_of_ble_eq_true rfl) ⟨Nat.zero_le _, Nat.zero_le _⟩ dX3_readSum_64 (fun H locs hP hD hS => ?_)
  refine lv_iinc (v := x3 + 1) (lv' := [(3, .int (x3 + 1)), (4, .int t0), (0, .ref a0), (1, .ref a1), (2, .int x2)]) hx hb dX3_readSum_67 hl (k := 4) rfl (ow_inc (by decide)) (by decide) rfl (fun ls hl => ?_)
  refine lv_goto (tgt := 8) hx hb dX3_readSum_70 (by decide) ?_
  exact hk8 q64.1 q64.2 q58.2.2.1 q58.2.2.2.1 q58.2.2.2.2.1 q58.2.2.2.2.2.1 q58.2.2.2.2.2.2.1 q58.2.2.2.2.2.2.2 x2 (x3 + 1) hf _ _ _ hP hD hS (lv_sub hl [2, 3, 4, 0] rfl)
def f_X3_readSum_b33 (F : (Int32) → (Nat → Int32) → (Int32) → (Int32) → (Int32) → (Int32) → (Int32) → (Int32) → (Int32) → (Nat → Int32) → Int32 → Option (Int32 × (Nat → Int32) × Int32 × Int32 × Int32 × Int32 × Int32 × Int32)) (i1_2 : Int32) (v1_0 : Nat → Int32) (k8 : (Int32) → (Nat → Int32) → (Int32) → (Int32) → (Int32) → (Int32) → (Int32) → (Int32) → Int32 → Int32 → Option (Int32 × (Nat → Int32) × Int32 × Int32 × Int32 × Int32 × Int32 × Int32)) (i0_2 : Int32) (v0_0 : Nat → Int32) (i1_3 : Int32) (i1_4 : Int32) (i1_5 : Int32) (i1_6 : Int32) (i1_7 : Int32) (i1_8 : Int32) (x2 : Int32) (x3 : Int32) : Option (Int32 × (Nat → Int32) × Int32 × Int32 × Int32 × Int32 × Int32 × Int32) := (f_X7_isSign i1_3 i1_4 v1_0 (43)).bind fun q36 => if q36 = 0 then (f_X3_readSum_b49 F i1_2 v1_0 k8 i0_2 v0_0 i1_3 i1_4 i1_5 i1_6 i1_7 i1_8 x2 x3 ((-10))) else (f_X3_readSum_b49 F i1_2 v1_0 k8 i0_2 v0_0 i1_3 i1_4 i1_5 i1_6 i1_7 i1_8 x2 x3 ((-9)))
set_option maxHeartbeats 4000000 in
set_option maxRecDepth 100000 in
theorem w_X3_readSum_b33 {p : Program} {l : Launch} {e : Env} {s : State} {m : MethodId} {below : List Frame} {meth : Method} {c : Code} {D : va_G} {cs : Nat → ClassId} {av : Array Value} {w0 : va_W} (C0 : Cx p s m meth c av wsX3_readSum cX3_readSum 5 none RX3 D cs w0) (F : (Int32) → (Nat → Int32) → (Int32) → (Int32) → (Int32) → (Int32) → (Int32) → (Int32) → (Int32) → (Nat → Int32) → Int32 → Option (Int32 × (Nat → Int32) × Int32 × Int32 × Int32 × Int32 × Int32 × Int32)) (ρ : Room) (hρ : ρ.cells = 0 ∧ ρ.slots = 0) (hF : ∀ (sz : Nat) (a0 : Nat) (p0 : Nat → Nat) (i0_2 : Int32) (v0_0 : Nat → Int32) (v0_1 : Nat → Int32) (a1 : Nat) (p1 : Nat → Nat) (i1_1 : Int32) (i1_2 : Int32) (i1_3 : Int32) (i1_4 : Int32) (i1_5 : Int32) (i1_6 : Int32) (i1_7 : Int32) (i1_8 : Int32) (v1_0 : Nat → Int32) (x2 : Int32) (res : Int32 × (Nat → Int32) × Int32 × Int32 × Int32 × Int32 × Int32 × Int32), F i0_2 v0_0 i1_2 i1_3 i1_4 i1_5 i1_6 i1_7 i1_8 v1_0 x2 = some res → MV l D cs yX3_readUnit wsX3_readUnit ρ [.ref a0, .ref a1, .int x2] sz (W_X3_readUnit cs a0 p0 i0_2 v0_0 v0_1 a1 p1 i1_1 i1_2 i1_3 i1_4 i1_5 i1_6 i1_7 i1_8 v1_0) (W_X3_readUnit cs a0 p0 res.1 res.2.1 v0_1 a1 p1 i1_1 i1_2 res.2.2.1 res.2.2.2.1 res.2.2.2.2.1 res.2.2.2.2.2.1 res.2.2.2.2.2.2.1 res.2.2.2.2.2.2.2 v1_0)) (a0 : Nat) (p0 : Nat → Nat) (v0_1 : Nat → Int32) (a1 : Nat) (p1 : Nat → Nat) (i1_1 : Int32) (i1_2 : Int32) (v1_0 : Nat → Int32) (res : Int32 × (Nat → Int32) × Int32 × Int32 × Int32 × Int32 × Int32 × Int32) (k8 : (Int32) → (Nat → Int32) → (Int32) → (Int32) → (Int32) → (Int32) → (Int32) → (Int32) → Int32 → Int32 → Option (Int32 × (Nat → Int32) × Int32 × Int32 × Int32 × Int32 × Int32 × Int32)) (hk8 : ∀ (i0_2 : Int32) (v0_0 : Nat → Int32) (i1_3 : Int32) (i1_4 : Int32) (i1_5 : Int32) (i1_6 : Int32) (i1_7 : Int32) (i1_8 : Int32) (x2 : Int32) (x3 : Int32), k8 i0_2 v0_0 i1_3 i1_4 i1_5 i1_6 i1_7 i1_8 x2 x3 = some res → ∀ (H : Heap) (locs : List Loc) (ls : Array Slot), va_P D vwCl (W_X3_readSum cs a0 p0 i0_2 v0_0 v0_1 a1 p1 i1_1 i1_2 i1_3 i1_4 i1_5 i1_6 i1_7 i1_8 v1_0) H → va_D (va_A w0 s.heap.size) (W_X3_readSum cs a0 p0 i0_2 v0_0 v0_1 a1 p1 i1_1 i1_2 i1_3 i1_4 i1_5 i1_6 i1_7 i1_8 v1_0) → va_S (va_A w0 s.heap.size) s.heap H locs → lv_has ls 5 [(0, .ref a0), (1, .ref a1), (2, .int x2), (3, .int x3)] → W p l e (rm_X3_readSum ρ) s m av below meth c H locs 0 0 (MQ below (oV D cs w0 (W_X3_readSum cs a0 p0 res.1 res.2.1 v0_1 a1 p1 i1_1 i1_2 res.2.2.1 res.2.2.2.1 res.2.2.2.2.1 res.2.2.2.2.2.1 res.2.2.2.2.2.2.1 res.2.2.2.2.2.2.2 v1_0) s.heap.size) av s 0 0 (va_A w0 s.heap.size)) (F0 m 8 ls [])) : ∀ (i0_2 : Int32) (v0_0 : Nat → Int32) (i1_3 : Int32) (i1_4 : Int32) (i1_5 : Int32) (i1_6 : Int32) (i1_7 : Int32) (i1_8 : Int32) (x2 : Int32) (x3 : Int32), f_X3_readSum_b33 F i1_2 v1_0 k8 i0_2 v0_0 i1_3 i1_4 i1_5 i1_6 i1_7 i1_8 x2 x3 = some res → ∀ (H : Heap) (locs : List Loc) (ls : Array Slot), va_P D vwCl (W_X3_readSum cs a0 p0 i0_2 v0_0 v0_1 a1 p1 i1_1 i1_2 i1_3 i1_4 i1_5 i1_6 i1_7 i1_8 v1_0) H → va_D (va_A w0 s.heap.size) (W_X3_readSum cs a0 p0 i0_2 v0_0 v0_1 a1 p1 i1_1 i1_2 i1_3 i1_4 i1_5 i1_6 i1_7 i1_8 v1_0) → va_S (va_A w0 s.heap.size) s.heap H locs → lv_has ls 5 [(0, .ref a0), (1, .ref a1), (2, .int x2), (3, .int x3)] → W p l e (rm_X3_readSum ρ) s m av below meth c H locs 0 0 (MQ below (oV D cs w0 (W_X3_readSum cs a0 p0 res.1 res.2.1 v0_1 a1 p1 i1_1 i1_2 res.2.2.1 res.2.2.2.1 res.2.2.2.2.1 res.2.2.2.2.2.1 res.2.2.2.2.2.2.1 res.2.2.2.2.2.2.2 v1_0) s.heap.size) av s 0 0 (va_A w0 s.heap.size)) (F0 m 33 ls []) := by
  obtain ⟨hx, hb, hr, hlk, hml, hown, hts, hK, hG, hE⟩ := id C0
  intro i0_2 v0_0 i1_3 i1_4 i1_5 i1_6 i1_7 i1_8 x2 x3 hf H locs ls hP hD hS hl
  rw [f_X3_readSum_b33] at hf
  refine lv_aload_n hx hb dX3_readSum_33 rfl (lv_at hl 1 rfl) ?_
  refine lv_bipush (v := 43) hx hb dX3_readSum_34 (by decide) ?_
  obtain ⟨q36, hq, hf⟩ := bd_some hf
  refine ow_callVI (As := [.int 43]) (rest := []) (wr := ow_pk (W_X3_readSum cs a0 p0 i0_2 v0_0 v0_1 a1 p1 i1_1 i1_2 i1_3 i1_4 i1_5 i1_6 i1_7 i1_8 v1_0) [0, 1, 2]) (wf := (W_X3_readSum cs a0 p0 i0_2 v0_0 v0_1 a1 p1 i1_1 i1_2 i1_3 i1_4 i1_5 i1_6 i1_7 i1_8 v1_0)) (r := q36) C0 (c_X7_isSign l D cs H.size a1 p1 i1_1 i1_2 i1_3 i1_4 i1_5 i1_6 i1_7 i1_8 v1_0 (43) q36 hq) (cwV 1 hts gX3_readSum_X7_isSign rfl rfl rfl (by decide +kernel) ⟨by simp only [rm_X3_readSum, rm_X7_isSign]; omega, by simp only [rm_X3_readSum, rm_X7_isSign]; omega⟩) 7 rfl rfl hP hD hS (fun q h => Or.inr h) [3, 4] [0, 1, 2] [0, 1, 2, 3, 4] rfl (by decide) rfl (by decide) (by decide) rfl (by decide) rfl hl.1 rfl (Nat.le_of_ble_eq_true rfl) ⟨Nat.zero_le _, Nat.zero_le _⟩ dX3_readSum_36 (fun H locs hP hD hS => ?_)
  refine lv_if_eq (tgt := 47) hx hb dX3_readSum_39 (by decide) (fun hc => ?_) (fun hc => ?_)
  · replace hf := ow_t hc hf
    refine lv_bipush (v := (-10)) hx hb dX3_readSum_47 (by decide) ?_
    exact w_X3_readSum_b49 C0 F ρ hρ hF a0 p0 v0_1 a1 p1 i1_1 i1_2 v1_0 res k8 hk8 i0_2 v0_0 i1_3 i1_4 i1_5 i1_6 i1_7 i1_8 x2 x3 ((-10)) hf _ _ _ hP hD hS (lv_sub hl [0, 1, 2, 3] rfl)
  · replace hf := ow_f hc hf
    refine lv_bipush (v := (-9)) hx hb dX3_readSum_42 (by decide) ?_
    refine lv_goto (tgt := 49) hx hb dX3_readSum_44 (by decide) ?_
    exact w_X3_readSum_b49 C0 F ρ hρ hF a0 p0 v0_1 a1 p1 i1_1 i1_2 v1_0 res k8 hk8 i0_2 v0_0 i1_3 i1_4 i1_5 i1_6 i1_7 i1_8 x2 x3 ((-9)) hf _ _ _ hP hD hS (lv_sub hl [0, 1, 2, 3] rfl)
def f_X3_readSum_b8 (F : (Int32) → (Nat → Int32) → (Int32) → (Int32) → (Int32) → (Int32) → (Int32) → (Int32) → (Int32) → (Nat → Int32) → Int32 → Option (Int32 × (Nat → Int32) × Int32 × Int32 × Int32 × Int32 × Int32 × Int32)) (i1_2 : Int32) (v1_0 : Nat → Int32)  : Nat → (Int32) → (Nat → Int32) → (Int32) → (Int32) → (Int32) → (Int32) → (Int32) → (Int32) → Int32 → Int32 → Option (Int32 × (Nat → Int32) × Int32 × Int32 × Int32 × Int32 × Int32 × Int32)
  | 0, _, _, _, _, _, _, _, _, _, _ => none
  | n + 1, i0_2, v0_0, i1_3, i1_4, i1_5, i1_6, i1_7, i1_8, x2, x3 => if 150 ≤ x3 then (some (i0_2, v0_0, i1_3, i1_4, i1_5, i1_6, i1_7, i1_8)) else ((f_X7_isSign i1_3 i1_4 v1_0 (43)).bind fun q18 => if q18 = 0 then ((f_X7_isSign i1_3 i1_4 v1_0 (45)).bind fun q27 => if q27 = 0 then (some (i0_2, v0_0, i1_3, i1_4, i1_5, i1_6, i1_7, i1_8)) else (f_X3_readSum_b33 F i1_2 v1_0 (f_X3_readSum_b8 F i1_2 v1_0 n) i0_2 v0_0 i1_3 i1_4 i1_5 i1_6 i1_7 i1_8 x2 x3)) else (f_X3_readSum_b33 F i1_2 v1_0 (f_X3_readSum_b8 F i1_2 v1_0 n) i0_2 v0_0 i1_3 i1_4 i1_5 i1_6 i1_7 i1_8 x2 x3))
set_option maxHeartbeats 4000000 in
set_option maxRecDepth 100000 in
theorem w_X3_readSum_b8 {p : Program} {l : Launch} {e : Env} {s : State} {m : MethodId} {below : List Frame} {meth : Method} {c : Code} {D : va_G} {cs : Nat → ClassId} {av : Array Value} {w0 : va_W} (C0 : Cx p s m meth c av wsX3_readSum cX3_readSum 5 none RX3 D cs w0) (F : (Int32) → (Nat → Int32) → (Int32) → (Int32) → (Int32) → (Int32) → (Int32) → (Int32) → (Int32) → (Nat → Int32) → Int32 → Option (Int32 × (Nat → Int32) × Int32 × Int32 × Int32 × Int32 × Int32 × Int32)) (ρ : Room) (hρ : ρ.cells = 0 ∧ ρ.slots = 0) (hF : ∀ (sz : Nat) (a0 : Nat) (p0 : Nat → Nat) (i0_2 : Int32) (v0_0 : Nat → Int32) (v0_1 : Nat → Int32) (a1 : Nat) (p1 : Nat → Nat) (i1_1 : Int32) (i1_2 : Int32) (i1_3 : Int32) (i1_4 : Int32) (i1_5 : Int32) (i1_6 : Int32) (i1_7 : Int32) (i1_8 : Int32) (v1_0 : Nat → Int32) (x2 : Int32) (res : Int32 × (Nat → Int32) × Int32 × Int32 × Int32 × Int32 × Int32 × Int32), F i0_2 v0_0 i1_2 i1_3 i1_4 i1_5 i1_6 i1_7 i1_8 v1_0 x2 = some res → MV l D cs yX3_readUnit wsX3_readUnit ρ [.ref a0, .ref a1, .int x2] sz (W_X3_readUnit cs a0 p0 i0_2 v0_0 v0_1 a1 p1 i1_1 i1_2 i1_3 i1_4 i1_5 i1_6 i1_7 i1_8 v1_0) (W_X3_readUnit cs a0 p0 res.1 res.2.1 v0_1 a1 p1 i1_1 i1_2 res.2.2.1 res.2.2.2.1 res.2.2.2.2.1 res.2.2.2.2.2.1 res.2.2.2.2.2.2.1 res.2.2.2.2.2.2.2 v1_0)) (a0 : Nat) (p0 : Nat → Nat) (v0_1 : Nat → Int32) (a1 : Nat) (p1 : Nat → Nat) (i1_1 : Int32) (i1_2 : Int32) (v1_0 : Nat → Int32) (res : Int32 × (Nat → Int32) × Int32 × Int32 × Int32 × Int32 × Int32 × Int32)  : ∀ (n : Nat) (i0_2 : Int32) (v0_0 : Nat → Int32) (i1_3 : Int32) (i1_4 : Int32) (i1_5 : Int32) (i1_6 : Int32) (i1_7 : Int32) (i1_8 : Int32) (x2 : Int32) (x3 : Int32), f_X3_readSum_b8 F i1_2 v1_0 n i0_2 v0_0 i1_3 i1_4 i1_5 i1_6 i1_7 i1_8 x2 x3 = some res → ∀ (H : Heap) (locs : List Loc) (ls : Array Slot), va_P D vwCl (W_X3_readSum cs a0 p0 i0_2 v0_0 v0_1 a1 p1 i1_1 i1_2 i1_3 i1_4 i1_5 i1_6 i1_7 i1_8 v1_0) H → va_D (va_A w0 s.heap.size) (W_X3_readSum cs a0 p0 i0_2 v0_0 v0_1 a1 p1 i1_1 i1_2 i1_3 i1_4 i1_5 i1_6 i1_7 i1_8 v1_0) → va_S (va_A w0 s.heap.size) s.heap H locs → lv_has ls 5 [(0, .ref a0), (1, .ref a1), (2, .int x2), (3, .int x3)] → W p l e (rm_X3_readSum ρ) s m av below meth c H locs 0 0 (MQ below (oV D cs w0 (W_X3_readSum cs a0 p0 res.1 res.2.1 v0_1 a1 p1 i1_1 i1_2 res.2.2.1 res.2.2.2.1 res.2.2.2.2.1 res.2.2.2.2.2.1 res.2.2.2.2.2.2.1 res.2.2.2.2.2.2.2 v1_0) s.heap.size) av s 0 0 (va_A w0 s.heap.size)) (F0 m 8 ls []) := by
  obtain ⟨hx, hb, hr, hlk, hml, hown, hts, hK, hG, hE⟩ := id C0
  intro n
  induction n with
  | zero =>
    intro i0_2 v0_0 i1_3 i1_4 i1_5 i1_6 i1_7 i1_8 x2 x3 hf
    rw [f_X3_readSum_b8] at hf
    cases hf
  | succ n ih =>
    intro i0_2 v0_0 i1_3 i1_4 i1_5 i1_6 i1_7 i1_8 x2 x3 hf H locs ls hP hD hS hl
    rw [f_X3_readSum_b8] at hf
    refine lv_iload_n hx hb dX3_readSum_8 rfl (lv_at hl 3 rfl) ?_
    refine lv_sipush (v := 150) hx hb dX3_readSum_9 (by decide) ?_
    refine lv_icmp_ge (tgt := 73) hx hb dX3_readSum_12 (by decide) (fun hc => ?_) (fun hc => ?_)
    · replace hf := ow_t hc hf
      obtain rfl := Option.some.inj hf
      exact ow_retV C0 hP hD hS dX3_readSum_73
    · replace hf := ow_f hc hf
      refine lv_aload_n hx hb dX3_readSum_15 rfl (lv_at hl 1 rfl) ?_
      refine lv_bipush (v := 43) hx hb dX3_readSum_16 (by decide) ?_
      obtain ⟨q18, hq, hf⟩ := bd_some hf
      refine ow_callVI (As := [.int 43]) (rest := []) (wr := ow_pk (W_X3_readSum cs a0 p0 i0_2 v0_0 v0_1 a1 p1 i1_1 i1_2 i1_3 i1_4 i1_5 i1_6 i1_7 i1_8 v1_0) [0, 1, 2]) (wf := (W_X3_readSum cs a0 p0 i0_2 v0_0 v0_1 a1 p1 i1_1 i1_2 i1_3 i1_4 i1_5 i1_6 i1_7 i1_8 v1_0)) (r := q18) C0 (c_X7_isSign l D cs H.size a1 p1 i1_1 i1_2 i1_3 i1_4 i1_5 i1_6 i1_7 i1_8 v1_0 (43) q18 hq) (cwV 1 hts gX3_readSum_X7_isSign rfl rfl rfl (by decide +kernel) ⟨by simp only [rm_X3_readSum, rm_X7_isSign]; omega, by simp only [rm_X3_readSum, rm_X7_isSign]; omega⟩) 7 rfl rfl hP hD hS (fun q h => Or.inr h) [3, 4] [0, 1, 2] [0, 1, 2, 3, 4] rfl (by decide) rfl (by decide) (by decide) rfl (by decide) rfl hl.1 rfl (Nat.le_of_ble_eq_true rfl) ⟨Nat.zero_le _, Nat.zero_le _⟩ dX3_readSum_18 (fun H locs hP hD hS => ?_)
      refine lv_if_ne (tgt := 33) hx hb dX3_readSum_21 (by decide) (fun hc => ?_) (fun hc => ?_)
      · replace hf := ow_f hc hf
        exact w_X3_readSum_b33 C0 F ρ hρ hF a0 p0 v0_1 a1 p1 i1_1 i1_2 v1_0 res (f_X3_readSum_b8 F i1_2 v1_0 n) ih i0_2 v0_0 i1_3 i1_4 i1_5 i1_6 i1_7 i1_8 x2 x3 hf _ _ _ hP hD hS (lv_sub hl [0, 1, 2, 3] rfl)
      · replace hf := ow_t hc hf
        refine lv_aload_n hx hb dX3_readSum_24 rfl (lv_at hl 1 rfl) ?_
        refine lv_bipush (v := 45) hx hb dX3_readSum_25 (by decide) ?_
        obtain ⟨q27, hq, hf⟩ := bd_some hf
        refine ow_callVI (As := [.int 45]) (rest := []) (wr := ow_pk (W_X3_readSum cs a0 p0 i0_2 v0_0 v0_1 a1 p1 i1_1 i1_2 i1_3 i1_4 i1_5 i1_6 i1_7 i1_8 v1_0) [0, 1, 2]) (wf := (W_X3_readSum cs a0 p0 i0_2 v0_0 v0_1 a1 p1 i1_1 i1_2 i1_3 i1_4 i1_5 i1_6 i1_7 i1_8 v1_0)) (r := q27) C0 (c_X7_isSign l D cs H.size a1 p1 i1_1 i1_2 i1_3 i1_4 i1_5 i1_6 i1_7 i1_8 v1_0 (45) q27 hq) (cwV 1 hts gX3_readSum_X7_isSign rfl rfl rfl (by decide +kernel) ⟨by simp only [rm_X3_readSum, rm_X7_isSign]; omega, by simp only [rm_X3_readSum, rm_X7_isSign]; omega⟩) 7 rfl rfl hP hD hS (fun q h => Or.inr h) [3, 4] [0, 1, 2] [0, 1, 2, 3, 4] rfl (by decide) rfl (by decide) (by decide) rfl (by decide) rfl hl.1 rfl (Nat.le_of_ble_eq_true rfl) ⟨Nat.zero_le _, Nat.zero_le _⟩ dX3_readSum_27 (fun H locs hP hD hS => ?_)
        refine lv_if_eq (tgt := 73) hx hb dX3_readSum_30 (by decide) (fun hc => ?_) (fun hc => ?_)
        · replace hf := ow_t hc hf
          obtain rfl := Option.some.inj hf
          exact ow_retV C0 hP hD hS dX3_readSum_73
        · replace hf := ow_f hc hf
          exact w_X3_readSum_b33 C0 F ρ hρ hF a0 p0 v0_1 a1 p1 i1_1 i1_2 v1_0 res (f_X3_readSum_b8 F i1_2 v1_0 n) ih i0_2 v0_0 i1_3 i1_4 i1_5 i1_6 i1_7 i1_8 x2 x3 hf _ _ _ hP hD hS (lv_sub hl [0, 1, 2, 3] rfl)
def f_X3_readSum (F : (Int32) → (Nat → Int32) → (Int32) → (Int32) → (Int32) → (Int32) → (Int32) → (Int32) → (Int32) → (Nat → Int32) → Int32 → Option (Int32 × (Nat → Int32) × Int32 × Int32 × Int32 × Int32 × Int32 × Int32)) (i0_2 : Int32) (v0_0 : Nat → Int32) (i1_2 : Int32) (i1_3 : Int32) (i1_4 : Int32) (i1_5 : Int32) (i1_6 : Int32) (i1_7 : Int32) (i1_8 : Int32) (v1_0 : Nat → Int32) (x2 : Int32) : Option (Int32 × (Nat → Int32) × Int32 × Int32 × Int32 × Int32 × Int32 × Int32) := (f_X3_readProduct F i0_2 v0_0 i1_2 i1_3 i1_4 i1_5 i1_6 i1_7 i1_8 v1_0 x2).bind fun q3 => f_X3_readSum_b8 F i1_2 v1_0 4000 q3.1 q3.2.1 q3.2.2.1 q3.2.2.2.1 q3.2.2.2.2.1 q3.2.2.2.2.2.1 q3.2.2.2.2.2.2.1 q3.2.2.2.2.2.2.2 x2 (0)
set_option maxHeartbeats 4000000 in
set_option maxRecDepth 100000 in
theorem c_X3_readSum (l : Launch) (D : va_G) (cs : Nat → ClassId) (F : (Int32) → (Nat → Int32) → (Int32) → (Int32) → (Int32) → (Int32) → (Int32) → (Int32) → (Int32) → (Nat → Int32) → Int32 → Option (Int32 × (Nat → Int32) × Int32 × Int32 × Int32 × Int32 × Int32 × Int32)) (ρ : Room) (hρ : ρ.cells = 0 ∧ ρ.slots = 0) (hF : ∀ (sz : Nat) (a0 : Nat) (p0 : Nat → Nat) (i0_2 : Int32) (v0_0 : Nat → Int32) (v0_1 : Nat → Int32) (a1 : Nat) (p1 : Nat → Nat) (i1_1 : Int32) (i1_2 : Int32) (i1_3 : Int32) (i1_4 : Int32) (i1_5 : Int32) (i1_6 : Int32) (i1_7 : Int32) (i1_8 : Int32) (v1_0 : Nat → Int32) (x2 : Int32) (res : Int32 × (Nat → Int32) × Int32 × Int32 × Int32 × Int32 × Int32 × Int32), F i0_2 v0_0 i1_2 i1_3 i1_4 i1_5 i1_6 i1_7 i1_8 v1_0 x2 = some res → MV l D cs yX3_readUnit wsX3_readUnit ρ [.ref a0, .ref a1, .int x2] sz (W_X3_readUnit cs a0 p0 i0_2 v0_0 v0_1 a1 p1 i1_1 i1_2 i1_3 i1_4 i1_5 i1_6 i1_7 i1_8 v1_0) (W_X3_readUnit cs a0 p0 res.1 res.2.1 v0_1 a1 p1 i1_1 i1_2 res.2.2.1 res.2.2.2.1 res.2.2.2.2.1 res.2.2.2.2.2.1 res.2.2.2.2.2.2.1 res.2.2.2.2.2.2.2 v1_0)) (sz : Nat) (a0 : Nat) (p0 : Nat → Nat) (i0_2 : Int32) (v0_0 : Nat → Int32) (v0_1 : Nat → Int32) (a1 : Nat) (p1 : Nat → Nat) (i1_1 : Int32) (i1_2 : Int32) (i1_3 : Int32) (i1_4 : Int32) (i1_5 : Int32) (i1_6 : Int32) (i1_7 : Int32) (i1_8 : Int32) (v1_0 : Nat → Int32) (x2 : Int32) (res : Int32 × (Nat → Int32) × Int32 × Int32 × Int32 × Int32 × Int32 × Int32) (hf : f_X3_readSum F i0_2 v0_0 i1_2 i1_3 i1_4 i1_5 i1_6 i1_7 i1_8 v1_0 x2 = some res) : MV l D cs yX3_readSum wsX3_readSum (rm_X3_readSum ρ) [.ref a0, .ref a1, .int x2] sz (W_X3_readSum cs a0 p0 i0_2 v0_0 v0_1 a1 p1 i1_1 i1_2 i1_3 i1_4 i1_5 i1_6 i1_7 i1_8 v1_0) (W_X3_readSum cs a0 p0 res.1 res.2.1 v0_1 a1 p1 i1_1 i1_2 res.2.2.1 res.2.2.2.1 res.2.2.2.2.1 res.2.2.2.2.2.1 res.2.2.2.2.2.2.1 res.2.2.2.2.2.2.2 v1_0) := by
  rw [f_X3_readSum] at hf
  refine ow_enter (cc := cX3_readSum) (nL := 5) (ret := none) (by decide) rfl (Nat.le_of_ble_eq_true rfl) (fun p e s m below meth c ls H locs C0 hP hD hS hA hl => ?_)
  obtain ⟨hx, hb, hr, hlk, hml, hown, hts, hK, hG, hE⟩ := id C0
  have hl : lv_has ls 5 [(0, .ref a0), (1, .ref a1), (2, .int x2)] := hl
  refine lv_aload_n hx hb dX3_readSum_0 rfl (lv_at hl 0 rfl) ?_
  refine lv_aload_n hx hb dX3_readSum_1 rfl (lv_at hl 1 rfl) ?_
  refine lv_iload_n hx hb dX3_readSum_2 rfl (lv_at hl 2 rfl) ?_
  obtain ⟨q3, hq, hf⟩ := bd_some hf
  refine ow_callVV (As := [.ref a1, .int x2]) (rest := []) (wr := ow_pk (W_X3_readSum cs a0 p0 i0_2 v0_0 v0_1 a1 p1 i1_1 i1_2 i1_3 i1_4 i1_5 i1_6 i1_7 i1_8 v1_0) []) (wf := (W_X3_readSum cs a0 p0 q3.1 q3.2.1 v0_1 a1 p1 i1_1 i1_2 q3.2.2.1 q3.2.2.2.1 q3.2.2.2.2.1 q3.2.2.2.2.2.1 q3.2.2.2.2.2.2.1 q3.2.2.2.2.2.2.2 v1_0)) C0 (c_X3_readProduct l D cs F ρ hρ hF H.size a0 p0 i0_2 v0_0 v0_1 a1 p1 i1_1 i1_2 i1_3 i1_4 i1_5 i1_6 i1_7 i1_8 v1_0 x2 q3 hq) (cwV 2 hts gX3_readSum_X3_readProduct rfl rfl rfl (by decide +kernel) ⟨by simp only [rm_X3_readSum, rm_X3_readProduct]; omega, by simp only [rm_X3_readSum, rm_X3_readProduct]; omega⟩) 3 rfl rfl hP hD hS (fun q h => Or.inr h) [0, 1, 2, 3, 4] [] [0, 1, 2, 3, 4] rfl (by decide) rfl (by decide) (by decide) rfl (by decide) rfl hl.1 rfl (Nat.le_of_ble_eq_true rfl) ⟨Nat.zero_le _, Nat.zero_le _⟩ dX3_readSum_3 (fun H locs hP hD hS => ?_)
  refine lv_iconst (v := 0) hx hb dX3_readSum_6 (by decide) ?_
  refine lv_istore_n (lv' := [(3, .int 0), (0, .ref a0), (1, .ref a1), (2, .int x2)]) hx hb dX3_readSum_7 rfl hl (by decide) rfl (fun ls hl => ?_)
  exact w_X3_readSum_b8 C0 F ρ hρ hF a0 p0 v0_1 a1 p1 i1_1 i1_2 v1_0 res 4000 q3.1 q3.2.1 q3.2.2.1 q3.2.2.2.1 q3.2.2.2.2.1 q3.2.2.2.2.2.1 q3.2.2.2.2.2.2.1 q3.2.2.2.2.2.2.2 x2 (0) hf _ _ _ hP hD hS (lv_sub hl [1, 2, 3, 0] rfl)
abbrev W_X3_readPair (cs : Nat → ClassId) (a0 : Nat) (p0 : Nat → Nat) (i0_2 : Int32) (v0_0 : Nat → Int32) (v0_1 : Nat → Int32) (a1 : Nat) (p1 : Nat → Nat) (i1_1 : Int32) (i1_2 : Int32) (i1_3 : Int32) (i1_4 : Int32) (i1_5 : Int32) (i1_6 : Int32) (i1_7 : Int32) (i1_8 : Int32) (v1_0 : Nat → Int32) : va_W := wX3 cs a0 p0 i0_2 v0_0 v0_1 ++ wX7 cs a1 p1 i1_1 i1_2 i1_3 i1_4 i1_5 i1_6 i1_7 i1_8 v1_0
abbrev rm_X3_readPair (ρ : Room) : Room := { frames := ρ.frames + 4, cells := 0, slots := 0, locals := ρ.locals + 89 }
def f_X3_readPair (F : (Int32) → (Nat → Int32) → (Int32) → (Int32) → (Int32) → (Int32) → (Int32) → (Int32) → (Int32) → (Nat → Int32) → Int32 → Option (Int32 × (Nat → Int32) × Int32 × Int32 × Int32 × Int32 × Int32 × Int32)) (i0_2 : Int32) (v0_0 : Nat → Int32) (i1_2 : Int32) (i1_3 : Int32) (i1_4 : Int32) (i1_5 : Int32) (i1_6 : Int32) (i1_7 : Int32) (i1_8 : Int32) (v1_0 : Nat → Int32) (x2 : Int32) : Option (Int32 × (Nat → Int32) × Int32 × Int32 × Int32 × Int32 × Int32 × Int32) := (f_X7_takeSign i1_2 i1_3 i1_4 i1_5 i1_6 i1_7 i1_8 v1_0 (91)).bind fun q3 => (f_X3_readSum F i0_2 v0_0 i1_2 q3.1 q3.2.1 q3.2.2.1 q3.2.2.2.1 q3.2.2.2.2.1 q3.2.2.2.2.2 v1_0 x2).bind fun q9 => (f_X7_takeSign i1_2 q9.2.2.1 q9.2.2.2.1 q9.2.2.2.2.1 q9.2.2.2.2.2.1 q9.2.2.2.2.2.2.1 q9.2.2.2.2.2.2.2 v1_0 (44)).bind fun q15 => (f_X3_readSum F q9.1 q9.2.1 i1_2 q15.1 q15.2.1 q15.2.2.1 q15.2.2.2.1 q15.2.2.2.2.1 q15.2.2.2.2.2 v1_0 x2).bind fun q21 => (f_X7_takeSign i1_2 q21.2.2.1 q21.2.2.2.1 q21.2.2.2.2.1 q21.2.2.2.2.2.1 q21.2.2.2.2.2.2.1 q21.2.2.2.2.2.2.2 v1_0 (93)).bind fun q27 => some (q21.1, q21.2.1, q27.1, q27.2.1, q27.2.2.1, q27.2.2.2.1, q27.2.2.2.2.1, q27.2.2.2.2.2)
set_option maxHeartbeats 4000000 in
set_option maxRecDepth 100000 in
theorem c_X3_readPair (l : Launch) (D : va_G) (cs : Nat → ClassId) (F : (Int32) → (Nat → Int32) → (Int32) → (Int32) → (Int32) → (Int32) → (Int32) → (Int32) → (Int32) → (Nat → Int32) → Int32 → Option (Int32 × (Nat → Int32) × Int32 × Int32 × Int32 × Int32 × Int32 × Int32)) (ρ : Room) (hρ : ρ.cells = 0 ∧ ρ.slots = 0) (hF : ∀ (sz : Nat) (a0 : Nat) (p0 : Nat → Nat) (i0_2 : Int32) (v0_0 : Nat → Int32) (v0_1 : Nat → Int32) (a1 : Nat) (p1 : Nat → Nat) (i1_1 : Int32) (i1_2 : Int32) (i1_3 : Int32) (i1_4 : Int32) (i1_5 : Int32) (i1_6 : Int32) (i1_7 : Int32) (i1_8 : Int32) (v1_0 : Nat → Int32) (x2 : Int32) (res : Int32 × (Nat → Int32) × Int32 × Int32 × Int32 × Int32 × Int32 × Int32), F i0_2 v0_0 i1_2 i1_3 i1_4 i1_5 i1_6 i1_7 i1_8 v1_0 x2 = some res → MV l D cs yX3_readUnit wsX3_readUnit ρ [.ref a0, .ref a1, .int x2] sz (W_X3_readUnit cs a0 p0 i0_2 v0_0 v0_1 a1 p1 i1_1 i1_2 i1_3 i1_4 i1_5 i1_6 i1_7 i1_8 v1_0) (W_X3_readUnit cs a0 p0 res.1 res.2.1 v0_1 a1 p1 i1_1 i1_2 res.2.2.1 res.2.2.2.1 res.2.2.2.2.1 res.2.2.2.2.2.1 res.2.2.2.2.2.2.1 res.2.2.2.2.2.2.2 v1_0)) (sz : Nat) (a0 : Nat) (p0 : Nat → Nat) (i0_2 : Int32) (v0_0 : Nat → Int32) (v0_1 : Nat → Int32) (a1 : Nat) (p1 : Nat → Nat) (i1_1 : Int32) (i1_2 : Int32) (i1_3 : Int32) (i1_4 : Int32) (i1_5 : Int32) (i1_6 : Int32) (i1_7 : Int32) (i1_8 : Int32) (v1_0 : Nat → Int32) (x2 : Int32) (res : Int32 × (Nat → Int32) × Int32 × Int32 × Int32 × Int32 × Int32 × Int32) (hf : f_X3_readPair F i0_2 v0_0 i1_2 i1_3 i1_4 i1_5 i1_6 i1_7 i1_8 v1_0 x2 = some res) : MV l D cs yX3_readPair wsX3_readPair (rm_X3_readPair ρ) [.ref a0, .ref a1, .int x2] sz (W_X3_readPair cs a0 p0 i0_2 v0_0 v0_1 a1 p1 i1_1 i1_2 i1_3 i1_4 i1_5 i1_6 i1_7 i1_8 v1_0) (W_X3_readPair cs a0 p0 res.1 res.2.1 v0_1 a1 p1 i1_1 i1_2 res.2.2.1 res.2.2.2.1 res.2.2.2.2.1 res.2.2.2.2.2.1 res.2.2.2.2.2.2.1 res.2.2.2.2.2.2.2 v1_0) := by
  rw [f_X3_readPair] at hf
  refine ow_enter (cc := cX3_readPair) (nL := 3) (ret := none) (by decide) rfl (Nat.le_of_ble_eq_true rfl) (fun p e s m below meth c ls H locs C0 hP hD hS hA hl => ?_)
  obtain ⟨hx, hb, hr, hlk, hml, hown, hts, hK, hG, hE⟩ := id C0
  have hl : lv_has ls 3 [(0, .ref a0), (1, .ref a1), (2, .int x2)] := hl
  refine lv_aload_n hx hb dX3_readPair_0 rfl (lv_at hl 1 rfl) ?_
  refine lv_bipush (v := 91) hx hb dX3_readPair_1 (by decide) ?_
  obtain ⟨q3, hq, hf⟩ := bd_some hf
  refine ow_callVV (As := [.int 91]) (rest := []) (wr := ow_pk (W_X3_readPair cs a0 p0 i0_2 v0_0 v0_1 a1 p1 i1_1 i1_2 i1_3 i1_4 i1_5 i1_6 i1_7 i1_8 v1_0) [0, 1, 2]) (wf := (W_X3_readPair cs a0 p0 i0_2 v0_0 v0_1 a1 p1 i1_1 i1_2 q3.1 q3.2.1 q3.2.2.1 q3.2.2.2.1 q3.2.2.2.2.1 q3.2.2.2.2.2 v1_0)) C0 (c_X7_takeSign l D cs H.size a1 p1 i1_1 i1_2 i1_3 i1_4 i1_5 i1_6 i1_7 i1_8 v1_0 (91) q3 hq) (cwV 1 hts gX3_readPair_X7_takeSign rfl rfl rfl (by decide +kernel) ⟨by simp only [rm_X3_readPair, rm_X7_takeSign]; omega, by simp only [rm_X3_readPair, rm_X7_takeSign]; omega⟩) 7 rfl rfl hP hD hS (fun q h => Or.inr h) [3, 4] [0, 1, 2] [0, 1, 2, 3, 4] rfl (by decide) rfl (by decide) (by decide) rfl (by decide) rfl hl.1 rfl (Nat.le_of_ble_eq_true rfl) ⟨Nat.zero_le _, Nat.zero_le _⟩ dX3_readPair_3 (fun H locs hP hD hS => ?_)
  refine lv_aload_n hx hb dX3_readPair_6 rfl (lv_at hl 0 rfl) ?_
  refine lv_aload_n hx hb dX3_readPair_7 rfl (lv_at hl 1 rfl) ?_
  refine lv_iload_n hx hb dX3_readPair_8 rfl (lv_at hl 2 rfl) ?_
  obtain ⟨q9, hq, hf⟩ := bd_some hf
  refine ow_callVV (As := [.ref a1, .int x2]) (rest := []) (wr := ow_pk (W_X3_readPair cs a0 p0 i0_2 v0_0 v0_1 a1 p1 i1_1 i1_2 q3.1 q3.2.1 q3.2.2.1 q3.2.2.2.1 q3.2.2.2.2.1 q3.2.2.2.2.2 v1_0) []) (wf := (W_X3_readPair cs a0 p0 q9.1 q9.2.1 v0_1 a1 p1 i1_1 i1_2 q9.2.2.1 q9.2.2.2.1 q9.2.2.2.2.1 q9.2.2.2.2.2.1 q9.2.2.2.2.2.2.1 q9.2.2.2.2.2.2.2 v1_0)) C0 (c_X3_readSum l D cs F ρ hρ hF H.size a0 p0 i0_2 v0_0 v0_1 a1 p1 i1_1 i1_2 q3.1 q3.2.1 q3.2.2.1 q3.2.2.2.1 q3.2.2.2.2.1 q3.2.2.2.2.2 v1_0 x2 q9 hq) (cwV 2 hts gX3_readPair_X3_readSum rfl rfl rfl (by decide +kernel) ⟨by simp only [rm_X3_readPair, rm_X3_readSum]; omega, by simp only [rm_X3_readPair, rm_X3_readSum]; omega⟩) 3 rfl rfl hP hD hS (fun q h => Or.inr h) [0, 1, 2, 3, 4] [] [0, 1, 2, 3, 4] rfl (by decide) rfl (by decide) (by decide) rfl (by decide) rfl hl.1 rfl (Nat.le_of_ble_eq_true rfl) ⟨Nat.zero_le _, Nat.zero_le _⟩ dX3_readPair_9 (fun H locs hP hD hS => ?_)
  refine lv_aload_n hx hb dX3_readPair_12 rfl (lv_at hl 1 rfl) ?_
  refine lv_bipush (v := 44) hx hb dX3_readPair_13 (by decide) ?_
  obtain ⟨q15, hq, hf⟩ := bd_some hf
  refine ow_callVV (As := [.int 44]) (rest := []) (wr := ow_pk (W_X3_readPair cs a0 p0 q9.1 q9.2.1 v0_1 a1 p1 i1_1 i1_2 q9.2.2.1 q9.2.2.2.1 q9.2.2.2.2.1 q9.2.2.2.2.2.1 q9.2.2.2.2.2.2.1 q9.2.2.2.2.2.2.2 v1_0) [0, 1, 2]) (wf := (W_X3_readPair cs a0 p0 q9.1 q9.2.1 v0_1 a1 p1 i1_1 i1_2 q15.1 q15.2.1 q15.2.2.1 q15.2.2.2.1 q15.2.2.2.2.1 q15.2.2.2.2.2 v1_0)) C0 (c_X7_takeSign l D cs H.size a1 p1 i1_1 i1_2 q9.2.2.1 q9.2.2.2.1 q9.2.2.2.2.1 q9.2.2.2.2.2.1 q9.2.2.2.2.2.2.1 q9.2.2.2.2.2.2.2 v1_0 (44) q15 hq) (cwV 1 hts gX3_readPair_X7_takeSign rfl rfl rfl (by decide +kernel) ⟨by simp only [rm_X3_readPair, rm_X7_takeSign]; omega, by simp only [rm_X3_readPair, rm_X7_takeSign]; omega⟩) 7 rfl rfl hP hD hS (fun q h => Or.inr h) [3, 4] [0, 1, 2] [0, 1, 2, 3, 4] rfl (by decide) rfl (by decide) (by decide) rfl (by decide) rfl hl.1 rfl (Nat.le_of_ble_eq_true rfl) ⟨Nat.zero_le _, Nat.zero_le _⟩ dX3_readPair_15 (fun H locs hP hD hS => ?_)
  refine lv_aload_n hx hb dX3_readPair_18 rfl (lv_at hl 0 rfl) ?_
  refine lv_aload_n hx hb dX3_readPair_19 rfl (lv_at hl 1 rfl) ?_
  refine lv_iload_n hx hb dX3_readPair_20 rfl (lv_at hl 2 rfl) ?_
  obtain ⟨q21, hq, hf⟩ := bd_some hf
  refine ow_callVV (As := [.ref a1, .int x2]) (rest := []) (wr := ow_pk (W_X3_readPair cs a0 p0 q9.1 q9.2.1 v0_1 a1 p1 i1_1 i1_2 q15.1 q15.2.1 q15.2.2.1 q15.2.2.2.1 q15.2.2.2.2.1 q15.2.2.2.2.2 v1_0) []) (wf := (W_X3_readPair cs a0 p0 q21.1 q21.2.1 v0_1 a1 p1 i1_1 i1_2 q21.2.2.1 q21.2.2.2.1 q21.2.2.2.2.1 q21.2.2.2.2.2.1 q21.2.2.2.2.2.2.1 q21.2.2.2.2.2.2.2 v1_0)) C0 (c_X3_readSum l D cs F ρ hρ hF H.size a0 p0 q9.1 q9.2.1 v0_1 a1 p1 i1_1 i1_2 q15.1 q15.2.1 q15.2.2.1 q15.2.2.2.1 q15.2.2.2.2.1 q15.2.2.2.2.2 v1_0 x2 q21 hq) (cwV 2 hts gX3_readPair_X3_readSum rfl rfl rfl (by decide +kernel) ⟨by simp only [rm_X3_readPair, rm_X3_readSum]; omega, by simp only [rm_X3_readPair, rm_X3_readSum]; omega⟩) 3 rfl rfl hP hD hS (fun q h => Or.inr h) [0, 1, 2, 3, 4] [] [0, 1, 2, 3, 4] rfl (by decide) rfl (by decide) (by decide) rfl (by decide) rfl hl.1 rfl (Nat.le_of_ble_eq_true rfl) ⟨Nat.zero_le _, Nat.zero_le _⟩ dX3_readPair_21 (fun H locs hP hD hS => ?_)
  refine lv_aload_n hx hb dX3_readPair_24 rfl (lv_at hl 1 rfl) ?_
  refine lv_bipush (v := 93) hx hb dX3_readPair_25 (by decide) ?_
  obtain ⟨q27, hq, hf⟩ := bd_some hf
  refine ow_callVV (As := [.int 93]) (rest := []) (wr := ow_pk (W_X3_readPair cs a0 p0 q21.1 q21.2.1 v0_1 a1 p1 i1_1 i1_2 q21.2.2.1 q21.2.2.2.1 q21.2.2.2.2.1 q21.2.2.2.2.2.1 q21.2.2.2.2.2.2.1 q21.2.2.2.2.2.2.2 v1_0) [0, 1, 2]) (wf := (W_X3_readPair cs a0 p0 q21.1 q21.2.1 v0_1 a1 p1 i1_1 i1_2 q27.1 q27.2.1 q27.2.2.1 q27.2.2.2.1 q27.2.2.2.2.1 q27.2.2.2.2.2 v1_0)) C0 (c_X7_takeSign l D cs H.size a1 p1 i1_1 i1_2 q21.2.2.1 q21.2.2.2.1 q21.2.2.2.2.1 q21.2.2.2.2.2.1 q21.2.2.2.2.2.2.1 q21.2.2.2.2.2.2.2 v1_0 (93) q27 hq) (cwV 1 hts gX3_readPair_X7_takeSign rfl rfl rfl (by decide +kernel) ⟨by simp only [rm_X3_readPair, rm_X7_takeSign]; omega, by simp only [rm_X3_readPair, rm_X7_takeSign]; omega⟩) 7 rfl rfl hP hD hS (fun q h => Or.inr h) [3, 4] [0, 1, 2] [0, 1, 2, 3, 4] rfl (by decide) rfl (by decide) (by decide) rfl (by decide) rfl hl.1 rfl (Nat.le_of_ble_eq_true rfl) ⟨Nat.zero_le _, Nat.zero_le _⟩ dX3_readPair_27 (fun H locs hP hD hS => ?_)
  obtain rfl := Option.some.inj hf
  exact ow_retV C0 hP hD hS dX3_readPair_30
abbrev W_X3_readOpened (cs : Nat → ClassId) (a0 : Nat) (p0 : Nat → Nat) (i0_2 : Int32) (v0_0 : Nat → Int32) (v0_1 : Nat → Int32) (a1 : Nat) (p1 : Nat → Nat) (i1_1 : Int32) (i1_2 : Int32) (i1_3 : Int32) (i1_4 : Int32) (i1_5 : Int32) (i1_6 : Int32) (i1_7 : Int32) (i1_8 : Int32) (v1_0 : Nat → Int32) : va_W := wX3 cs a0 p0 i0_2 v0_0 v0_1 ++ wX7 cs a1 p1 i1_1 i1_2 i1_3 i1_4 i1_5 i1_6 i1_7 i1_8 v1_0
abbrev rm_X3_readOpened (ρ : Room) : Room := { frames := ρ.frames + 5, cells := 0, slots := 0, locals := ρ.locals + 111 }
def f_X3_readOpened (F : (Int32) → (Nat → Int32) → (Int32) → (Int32) → (Int32) → (Int32) → (Int32) → (Int32) → (Int32) → (Nat → Int32) → Int32 → Option (Int32 × (Nat → Int32) × Int32 × Int32 × Int32 × Int32 × Int32 × Int32)) (i0_2 : Int32) (v0_0 : Nat → Int32) (i1_2 : Int32) (i1_3 : Int32) (i1_4 : Int32) (i1_5 : Int32) (i1_6 : Int32) (i1_7 : Int32) (i1_8 : Int32) (v1_0 : Nat → Int32) (x2 : Int32) (x3 : Int32) : Option (Int32 × (Nat → Int32) × Int32 × Int32 × Int32 × Int32 × Int32 × Int32) := if x3 = 0 then ((f_X3_readSum F i0_2 v0_0 i1_2 i1_3 i1_4 i1_5 i1_6 i1_7 i1_8 v1_0 x2).bind fun q21 => (f_X7_takeSign i1_2 q21.2.2.1 q21.2.2.2.1 q21.2.2.2.2.1 q21.2.2.2.2.2.1 q21.2.2.2.2.2.2.1 q21.2.2.2.2.2.2.2 v1_0 (41)).bind fun q27 => some (q21.1, q21.2.1, q27.1, q27.2.1, q27.2.2.1, q27.2.2.2.1, q27.2.2.2.2.1, q27.2.2.2.2.2)) else ((f_X3_readPair F i0_2 v0_0 i1_2 i1_3 i1_4 i1_5 i1_6 i1_7 i1_8 v1_0 x2).bind fun q7 => (f_X3_put q7.1 q7.2.1 x3).bind fun q12 => some (q12.1, q12.2, q7.2.2.1, q7.2.2.2.1, q7.2.2.2.2.1, q7.2.2.2.2.2.1, q7.2.2.2.2.2.2.1, q7.2.2.2.2.2.2.2))
set_option maxHeartbeats 4000000 in
set_option maxRecDepth 100000 in
theorem c_X3_readOpened (l : Launch) (D : va_G) (cs : Nat → ClassId) (F : (Int32) → (Nat → Int32) → (Int32) → (Int32) → (Int32) → (Int32) → (Int32) → (Int32) → (Int32) → (Nat → Int32) → Int32 → Option (Int32 × (Nat → Int32) × Int32 × Int32 × Int32 × Int32 × Int32 × Int32)) (ρ : Room) (hρ : ρ.cells = 0 ∧ ρ.slots = 0) (hF : ∀ (sz : Nat) (a0 : Nat) (p0 : Nat → Nat) (i0_2 : Int32) (v0_0 : Nat → Int32) (v0_1 : Nat → Int32) (a1 : Nat) (p1 : Nat → Nat) (i1_1 : Int32) (i1_2 : Int32) (i1_3 : Int32) (i1_4 : Int32) (i1_5 : Int32) (i1_6 : Int32) (i1_7 : Int32) (i1_8 : Int32) (v1_0 : Nat → Int32) (x2 : Int32) (x3 : Int32) (res : Int32 × (Nat → Int32) × Int32 × Int32 × Int32 × Int32 × Int32 × Int32), F i0_2 v0_0 i1_2 i1_3 i1_4 i1_5 i1_6 i1_7 i1_8 v1_0 x2 = some res → MV l D cs yX3_readUnit wsX3_readUnit ρ [.ref a0, .ref a1, .int x2] sz (W_X3_readUnit cs a0 p0 i0_2 v0_0 v0_1 a1 p1 i1_1 i1_2 i1_3 i1_4 i1_5 i1_6 i1_7 i1_8 v1_0) (W_X3_readUnit cs a0 p0 res.1 res.2.1 v0_1 a1 p1 i1_1 i1_2 res.2.2.1 res.2.2.2.1 res.2.2.2.2.1 res.2.2.2.2.2.1 res.2.2.2.2.2.2.1 res.2.2.2.2.2.2.2 v1_0)) (sz : Nat) (a0 : Nat) (p0 : Nat → Nat) (i0_2 : Int32) (v0_0 : Nat → Int32) (v0_1 : Nat → Int32) (a1 : Nat) (p1 : Nat → Nat) (i1_1 : Int32) (i1_2 : Int32) (i1_3 : Int32) (i1_4 : Int32) (i1_5 : Int32) (i1_6 : Int32) (i1_7 : Int32) (i1_8 : Int32) (v1_0 : Nat → Int32) (x2 : Int32) (x3 : Int32) (res : Int32 × (Nat → Int32) × Int32 × Int32 × Int32 × Int32 × Int32 × Int32) (hf : f_X3_readOpened F i0_2 v0_0 i1_2 i1_3 i1_4 i1_5 i1_6 i1_7 i1_8 v1_0 x2 x3 = some res) : MV l D cs yX3_readOpened wsX3_readOpened (rm_X3_readOpened ρ) [.ref a0, .ref a1, .int x2, .int x3] sz (W_X3_readOpened cs a0 p0 i0_2 v0_0 v0_1 a1 p1 i1_1 i1_2 i1_3 i1_4 i1_5 i1_6 i1_7 i1_8 v1_0) (W_X3_readOpened cs a0 p0 res.1 res.2.1 v0_1 a1 p1 i1_1 i1_2 res.2.2.1 res.2.2.2.1 res.2.2.2.2.1 res.2.2.2.2.2.1 res.2.2.2.2.2.2.1 res.2.2.2.2.2.2.2 v1_0) := by
  rw [f_X3_readOpened] at hf
  refine ow_enter (cc := cX3_readOpened) (nL := 4) (ret := none) (by decide) rfl (Nat.le_of_ble_eq_true rfl) (fun p e s m below meth c ls H locs C0 hP hD hS hA hl => ?_)
  obtain ⟨hx, hb, hr, hlk, hml, hown, hts, hK, hG, hE⟩ := id C0
  have hl : lv_has ls 4 [(0, .ref a0), (1, .ref a1), (2, .int x2), (3, .int x3)] := hl
  refine lv_iload_n hx hb dX3_readOpened_0 rfl (lv_at hl 3 rfl) ?_
  refine lv_if_eq (tgt := 18) hx hb dX3_readOpened_1 (by decide) (fun hc => ?_) (fun hc => ?_)
  · replace hf := ow_t hc hf
    refine lv_aload_n hx hb dX3_readOpened_18 rfl (lv_at hl 0 rfl) ?_
    refine lv_aload_n hx hb dX3_readOpened_19 rfl (lv_at hl 1 rfl) ?_
    refine lv_iload_n hx hb dX3_readOpened_20 rfl (lv_at hl 2 rfl) ?_
    obtain ⟨q21, hq, hf⟩ := bd_some hf
    refine ow_callVV (As := [.ref a1, .int x2]) (rest := []) (wr := ow_pk (W_X3_readOpened cs a0 p0 i0_2 v0_0 v0_1 a1 p1 i1_1 i1_2 i1_3 i1_4 i1_5 i1_6 i1_7 i1_8 v1_0) []) (wf := (W_X3_readOpened cs a0 p0 q21.1 q21.2.1 v0_1 a1 p1 i1_1 i1_2 q21.2.2.1 q21.2.2.2.1 q21.2.2.2.2.1 q21.2.2.2.2.2.1 q21.2.2.2.2.2.2.1 q21.2.2.2.2.2.2.2 v1_0)) C0 (c_X3_readSum l D cs F ρ hρ hF H.size a0 p0 i0_2 v0_0 v0_1 a1 p1 i1_1 i1_2 i1_3 i1_4 i1_5 i1_6 i1_7 i1_8 v1_0 x2 q21 hq) (cwV 2 hts gX3_readOpened_X3_readSum rfl rfl rfl (by decide +kernel) ⟨by simp only [rm_X3_readOpened, rm_X3_readSum]; omega, by simp only [rm_X3_readOpened, rm_X3_readSum]; omega⟩) 3 rfl rfl hP hD hS (fun q h => Or.inr h) [0, 1, 2, 3, 4] [] [0, 1, 2, 3, 4] rfl (by decide) rfl (by decide) (by decide) rfl (by decide) rfl hl.1 rfl (Nat.le_of_ble_eq_true rfl) ⟨Nat.zero_le _, Nat.zero_le _⟩ dX3_readOpened_21 (fun H locs hP hD hS => ?_)
    refine lv_aload_n hx hb dX3_readOpened_24 rfl (lv_at hl 1 rfl) ?_
    refine lv_bipush (v := 41) hx hb dX3_readOpened_25 (by decide) ?_
    obtain ⟨q27, hq, hf⟩ := bd_some hf
    refine ow_callVV (As := [.int 41]) (rest := []) (wr := ow_pk (W_X3_readOpened cs a0 p0 q21.1 q21.2.1 v0_1 a1 p1 i1_1 i1_2 q21.2.2.1 q21.2.2.2.1 q21.2.2.2.2.1 q21.2.2.2.2.2.1 q21.2.2.2.2.2.2.1 q21.2.2.2.2.2.2.2 v1_0) [0, 1, 2]) (wf := (W_X3_readOpened cs a0 p0 q21.1 q21.2.1 v0_1 a1 p1 i1_1 i1_2 q27.1 q27.2.1 q27.2.2.1 q27.2.2.2.1 q27.2.2.2.2.1 q27.2.2.2.2.2 v1_0)) C0 (c_X7_takeSign l D cs H.size a1 p1 i1_1 i1_2 q21.2.2.1 q21.2.2.2.1 q21.2.2.2.2.1 q21.2.2.2.2.2.1 q21.2.2.2.2.2.2.1 q21.2.2.2.2.2.2.2 v1_0 (41) q27 hq) (cwV 1 hts gX3_readOpened_X7_takeSign rfl rfl rfl (by decide +kernel) ⟨by simp only [rm_X3_readOpened, rm_X7_takeSign]; omega, by simp only [rm_X3_readOpened, rm_X7_takeSign]; omega⟩) 7 rfl rfl hP hD hS (fun q h => Or.inr h) [3, 4] [0, 1, 2] [0, 1, 2, 3, 4] rfl (by decide) rfl (by decide) (by decide) rfl (by decide) rfl hl.1 rfl (Nat.le_of_ble_eq_true rfl) ⟨Nat.zero_le _, Nat.zero_le _⟩ dX3_readOpened_27 (fun H locs hP hD hS => ?_)
    obtain rfl := Option.some.inj hf
    exact ow_retV C0 hP hD hS dX3_readOpened_30
  · replace hf := ow_f hc hf
    refine lv_aload_n hx hb dX3_readOpened_4 rfl (lv_at hl 0 rfl) ?_
    refine lv_aload_n hx hb dX3_readOpened_5 rfl (lv_at hl 1 rfl) ?_
    refine lv_iload_n hx hb dX3_readOpened_6 rfl (lv_at hl 2 rfl) ?_
    obtain ⟨q7, hq, hf⟩ := bd_some hf
    refine ow_callVV (As := [.ref a1, .int x2]) (rest := []) (wr := ow_pk (W_X3_readOpened cs a0 p0 i0_2 v0_0 v0_1 a1 p1 i1_1 i1_2 i1_3 i1_4 i1_5 i1_6 i1_7 i1_8 v1_0) []) (wf := (W_X3_readOpened cs a0 p0 q7.1 q7.2.1 v0_1 a1 p1 i1_1 i1_2 q7.2.2.1 q7.2.2.2.1 q7.2.2.2.2.1 q7.2.2.2.2.2.1 q7.2.2.2.2.2.2.1 q7.2.2.2.2.2.2.2 v1_0)) C0 (c_X3_readPair l D cs F ρ hρ hF H.size a0 p0 i0_2 v0_0 v0_1 a1 p1 i1_1 i1_2 i1_3 i1_4 i1_5 i1_6 i1_7 i1_8 v1_0 x2 q7 hq) (cwV 2 hts gX3_readOpened_X3_readPair rfl rfl rfl (by decide +kernel) ⟨by simp only [rm_X3_readOpened, rm_X3_readPair]; omega, by simp only [rm_X3_readOpened, rm_X3_readPair]; omega⟩) 3 rfl rfl hP hD hS (fun q h => Or.inr h) [0, 1, 2, 3, 4] [] [0, 1, 2, 3, 4] rfl (by decide) rfl (by decide) (by decide) rfl (by decide) rfl hl.1 rfl (Nat.le_of_ble_eq_true rfl) ⟨Nat.zero_le _, Nat.zero_le _⟩ dX3_readOpened_7 (fun H locs hP hD hS => ?_)
    refine lv_aload_n hx hb dX3_readOpened_10 rfl (lv_at hl 0 rfl) ?_
    refine lv_iload_n hx hb dX3_readOpened_11 rfl (lv_at hl 3 rfl) ?_
    obtain ⟨q12, hq, hf⟩ := bd_some hf
    refine ow_callVV (As := [.int x3]) (rest := []) (wr := ow_pk (W_X3_readOpened cs a0 p0 q7.1 q7.2.1 v0_1 a1 p1 i1_1 i1_2 q7.2.2.1 q7.2.2.2.1 q7.2.2.2.2.1 q7.2.2.2.2.2.1 q7.2.2.2.2.2.2.1 q7.2.2.2.2.2.2.2 v1_0) [3, 4]) (wf := (W_X3_readOpened cs a0 p0 q12.1 q12.2 v0_1 a1 p1 i1_1 i1_2 q7.2.2.1 q7.2.2.2.1 q7.2.2.2.2.1 q7.2.2.2.2.2.1 q7.2.2.2.2.2.2.1 q7.2.2.2.2.2.2.2 v1_0)) C0 (c_X3_put l D cs H.size a0 p0 q7.1 q7.2.1 v0_1 x3 q12 hq) (cwV 1 hts gX3_readOpened_X3_put rfl rfl rfl (by decide +kernel) ⟨by simp only [rm_X3_readOpened, rm_X3_put]; omega, by simp only [rm_X3_readOpened, rm_X3_put]; omega⟩) 3 rfl rfl hP hD hS (fun q h => Or.inr h) [0, 1, 2] [3, 4] [2, 3, 4, 0, 1] rfl (by decide) rfl (by decide) (by decide) rfl (by decide) rfl hl.1 rfl (Nat.le_of_ble_eq_true rfl) ⟨Nat.zero_le _, Nat.zero_le _⟩ dX3_readOpened_12 (fun H locs hP hD hS => ?_)
    refine lv_goto (tgt := 30) hx hb dX3_readOpened_15 (by decide) ?_
    obtain rfl := Option.some.inj hf
    exact ow_retV C0 hP hD hS dX3_readOpened_30
def f_X3_readUnit_b99 (F : (Int32) → (Nat → Int32) → (Int32) → (Int32) → (Int32) → (Int32) → (Int32) → (Int32) → (Int32) → (Nat → Int32) → Int32 → Option (Int32 × (Nat → Int32) × Int32 × Int32 × Int32 × Int32 × Int32 × Int32)) (i1_2 : Int32) (v1_0 : Nat → Int32)  (i0_2 : Int32) (v0_0 : Nat → Int32) (i1_3 : Int32) (i1_4 : Int32) (i1_5 : Int32) (i1_6 : Int32) (i1_7 : Int32) (i1_8 : Int32) (x2 : Int32) (x3 : Int32) : Option (Int32 × (Nat → Int32) × Int32 × Int32 × Int32 × Int32 × Int32 × Int32) := if x2 < 6 then ((f_X7_step i1_2 i1_3 i1_4 i1_5 i1_6 i1_7 v1_0).bind fun q114 => (f_X3_readOpened F i0_2 v0_0 i1_2 q114.1 q114.2.1 q114.2.2.1 q114.2.2.2 i1_7 i1_8 v1_0 (x2 + 1) x3).bind fun q123 => some (q123.1, q123.2.1, q123.2.2.1, q123.2.2.2.1, q123.2.2.2.2.1, q123.2.2.2.2.2.1, q123.2.2.2.2.2.2.1, q123.2.2.2.2.2.2.2)) else ((f_X7_wrong i1_3 i1_4 i1_7 i1_8 (3)).bind fun q107 => some (i0_2, v0_0, q107.1, i1_4, i1_5, i1_6, q107.2.1, q107.2.2))
set_option maxHeartbeats 4000000 in
set_option maxRecDepth 100000 in
theorem w_X3_readUnit_b99 {p : Program} {l : Launch} {e : Env} {s : State} {m : MethodId} {below : List Frame} {meth : Method} {c : Code} {D : va_G} {cs : Nat → ClassId} {av : Array Value} {w0 : va_W} (C0 : Cx p s m meth c av wsX3_readUnit cX3_readUnit 5 none RX3 D cs w0) (F : (Int32) → (Nat → Int32) → (Int32) → (Int32) → (Int32) → (Int32) → (Int32) → (Int32) → (Int32) → (Nat → Int32) → Int32 → Option (Int32 × (Nat → Int32) × Int32 × Int32 × Int32 × Int32 × Int32 × Int32)) (n0 : Nat) (hF : ∀ (sz : Nat) (a0 : Nat) (p0 : Nat → Nat) (i0_2 : Int32) (v0_0 : Nat → Int32) (v0_1 : Nat → Int32) (a1 : Nat) (p1 : Nat → Nat) (i1_1 : Int32) (i1_2 : Int32) (i1_3 : Int32) (i1_4 : Int32) (i1_5 : Int32) (i1_6 : Int32) (i1_7 : Int32) (i1_8 : Int32) (v1_0 : Nat → Int32) (x2 : Int32) (res : Int32 × (Nat → Int32) × Int32 × Int32 × Int32 × Int32 × Int32 × Int32), F i0_2 v0_0 i1_2 i1_3 i1_4 i1_5 i1_6 i1_7 i1_8 v1_0 x2 = some res → MV l D cs yX3_readUnit wsX3_readUnit (rm_X3_readUnit n0) [.ref a0, .ref a1, .int x2] sz (W_X3_readUnit cs a0 p0 i0_2 v0_0 v0_1 a1 p1 i1_1 i1_2 i1_3 i1_4 i1_5 i1_6 i1_7 i1_8 v1_0) (W_X3_readUnit cs a0 p0 res.1 res.2.1 v0_1 a1 p1 i1_1 i1_2 res.2.2.1 res.2.2.2.1 res.2.2.2.2.1 res.2.2.2.2.2.1 res.2.2.2.2.2.2.1 res.2.2.2.2.2.2.2 v1_0)) (a0 : Nat) (p0 : Nat → Nat) (v0_1 : Nat → Int32) (a1 : Nat) (p1 : Nat → Nat) (i1_1 : Int32) (i1_2 : Int32) (v1_0 : Nat → Int32) (res : Int32 × (Nat → Int32) × Int32 × Int32 × Int32 × Int32 × Int32 × Int32)  : ∀ (i0_2 : Int32) (v0_0 : Nat → Int32) (i1_3 : Int32) (i1_4 : Int32) (i1_5 : Int32) (i1_6 : Int32) (i1_7 : Int32) (i1_8 : Int32) (x2 : Int32) (x3 : Int32), f_X3_readUnit_b99 F i1_2 v1_0 i0_2 v0_0 i1_3 i1_4 i1_5 i1_6 i1_7 i1_8 x2 x3 = some res → ∀ (H : Heap) (locs : List Loc) (ls : Array Slot), va_P D vwCl (W_X3_readUnit cs a0 p0 i0_2 v0_0 v0_1 a1 p1 i1_1 i1_2 i1_3 i1_4 i1_5 i1_6 i1_7 i1_8 v1_0) H → va_D (va_A w0 s.heap.size) (W_X3_readUnit cs a0 p0 i0_2 v0_0 v0_1 a1 p1 i1_1 i1_2 i1_3 i1_4 i1_5 i1_6 i1_7 i1_8 v1_0) → va_S (va_A w0 s.heap.size) s.heap H locs → lv_has ls 5 [(0, .ref a0), (1, .ref a1), (2, .int x2), (3, .int x3)] → W p l e (rm_X3_readUnit (n0 + 1)) s m av below meth c H locs 0 0 (MQ below (oV D cs w0 (W_X3_readUnit cs a0 p0 res.1 res.2.1 v0_1 a1 p1 i1_1 i1_2 res.2.2.1 res.2.2.2.1 res.2.2.2.2.1 res.2.2.2.2.2.1 res.2.2.2.2.2.2.1 res.2.2.2.2.2.2.2 v1_0) s.heap.size) av s 0 0 (va_A w0 s.heap.size)) (F0 m 99 ls []) := by
  obtain ⟨hx, hb, hr, hlk, hml, hown, hts, hK, hG, hE⟩ := id C0
  have in_X7 : ∀ w ∈ u_ws RX7 TX7 9, w ∈ wsX3_readUnit := by decide +kernel
  intro i0_2 v0_0 i1_3 i1_4 i1_5 i1_6 i1_7 i1_8 x2 x3 hf H locs ls hP hD hS hl
  rw [f_X3_readUnit_b99] at hf
  refine lv_iload_n hx hb dX3_readUnit_99 rfl (lv_at hl 2 rfl) ?_
  refine lv_bipush (v := 6) hx hb dX3_readUnit_100 (by decide) ?_
  refine lv_icmp_lt (tgt := 113) hx hb dX3_readUnit_102 (by decide) (fun hc => ?_) (fun hc => ?_)
  · replace hf := ow_t hc hf
    refine lv_aload_n hx hb dX3_readUnit_113 rfl (lv_at hl 1 rfl) ?_
    obtain ⟨q114, hq, hf⟩ := bd_some hf
    refine ow_callVV (As := []) (rest := []) (wr := ow_pk (W_X3_readUnit cs a0 p0 i0_2 v0_0 v0_1 a1 p1 i1_1 i1_2 i1_3 i1_4 i1_5 i1_6 i1_7 i1_8 v1_0) [0, 1, 2]) (wf := (W_X3_readUnit cs a0 p0 i0_2 v0_0 v0_1 a1 p1 i1_1 i1_2 q114.1 q114.2.1 q114.2.2.1 q114.2.2.2 i1_7 i1_8 v1_0)) C0 (c_X7_step l D cs H.size a1 p1 i1_1 i1_2 i1_3 i1_4 i1_5 i1_6 i1_7 i1_8 v1_0  q114 hq) (cwV 0 hts gX3_readUnit_X7_step rfl rfl rfl (by decide +kernel) ⟨by simp only [rm_X3_readUnit, rm_X7_step]; omega, by simp only [rm_X3_readUnit, rm_X7_step]; omega⟩) 7 rfl rfl hP hD hS (fun q h => Or.inr h) [3, 4] [0, 1, 2] [0, 1, 2, 3, 4] rfl (by decide) rfl (by decide) (by decide) rfl (by decide) rfl hl.1 rfl (Nat.le_of_ble_eq_true rfl) ⟨Nat.zero_le _, Nat.zero_le _⟩ dX3_readUnit_114 (fun H locs hP hD hS => ?_)
    refine lv_aload_n hx hb dX3_readUnit_117 rfl (lv_at hl 0 rfl) ?_
    refine lv_aload_n hx hb dX3_readUnit_118 rfl (lv_at hl 1 rfl) ?_
    refine lv_iload_n hx hb dX3_readUnit_119 rfl (lv_at hl 2 rfl) ?_
    refine lv_iconst (v := 1) hx hb dX3_readUnit_120 (by decide) ?_
    refine lv_iadd hx hb dX3_readUnit_121 ?_
    refine lv_iload_n hx hb dX3_readUnit_122 rfl (lv_at hl 3 rfl) ?_
    obtain ⟨q123, hq, hf⟩ := bd_some hf
    refine ow_callVV (As := [.ref a1, .int (x2 + 1), .int x3]) (rest := []) (wr := ow_pk (W_X3_readUnit cs a0 p0 i0_2 v0_0 v0_1 a1 p1 i1_1 i1_2 q114.1 q114.2.1 q114.2.2.1 q114.2.2.2 i1_7 i1_8 v1_0) []) (wf := (W_X3_readUnit cs a0 p0 q123.1 q123.2.1 v0_1 a1 p1 i1_1 i1_2 q123.2.2.1 q123.2.2.2.1 q123.2.2.2.2.1 q123.2.2.2.2.2.1 q123.2.2.2.2.2.2.1 q123.2.2.2.2.2.2.2 v1_0)) C0 (c_X3_readOpened l D cs F (rm_X3_readUnit n0) ⟨rfl, rfl⟩ hF H.size a0 p0 i0_2 v0_0 v0_1 a1 p1 i1_1 i1_2 q114.1 q114.2.1 q114.2.2.1 q114.2.2.2 i1_7 i1_8 v1_0 (x2 + 1) x3 q123 hq) (cwV 3 hts gX3_readUnit_X3_readOpened rfl rfl rfl (by decide +kernel) ⟨by simp only [rm_X3_readUnit, rm_X3_readOpened]; omega, by simp only [rm_X3_readUnit, rm_X3_readOpened]; omega⟩) 3 rfl rfl hP hD hS (fun q h => Or.inr h) [0, 1, 2, 3, 4] [] [0, 1, 2, 3, 4] rfl (by decide) rfl (by decide) (by decide) rfl (by decide) rfl hl.1 rfl (Nat.le_of_ble_eq_true rfl) ⟨Nat.zero_le _, Nat.zero_le _⟩ dX3_readUnit_123 (fun H locs hP hD hS => ?_)
    obtain rfl := Option.some.inj hf
    exact ow_retV C0 hP hD hS dX3_readUnit_126
  · replace hf := ow_f hc hf
    refine lv_aload_n hx hb dX3_readUnit_105 rfl (lv_at hl 1 rfl) ?_
    refine lv_iconst (v := 3) hx hb dX3_readUnit_106 (by decide) ?_
    obtain ⟨q107, hq, hf⟩ := bd_some hf
    refine ow_callVV (As := [.int 3]) (rest := []) (wr := ow_pk (W_X3_readUnit cs a0 p0 i0_2 v0_0 v0_1 a1 p1 i1_1 i1_2 i1_3 i1_4 i1_5 i1_6 i1_7 i1_8 v1_0) [0, 1, 2]) (wf := (W_X3_readUnit cs a0 p0 i0_2 v0_0 v0_1 a1 p1 i1_1 i1_2 q107.1 i1_4 i1_5 i1_6 q107.2.1 q107.2.2 v1_0)) C0 (c_X7_wrong l D cs H.size a1 p1 i1_1 i1_2 i1_3 i1_4 i1_5 i1_6 i1_7 i1_8 v1_0 (3) q107 hq) (cwV 1 hts gX3_readUnit_X7_wrong rfl rfl rfl (by decide +kernel) ⟨by simp only [rm_X3_readUnit, rm_X7_wrong]; omega, by simp only [rm_X3_readUnit, rm_X7_wrong]; omega⟩) 7 rfl rfl hP hD hS (fun q h => Or.inr h) [3, 4] [0, 1, 2] [0, 1, 2, 3, 4] rfl (by decide) rfl (by decide) (by decide) rfl (by decide) rfl hl.1 rfl (Nat.le_of_ble_eq_true rfl) ⟨Nat.zero_le _, Nat.zero_le _⟩ dX3_readUnit_107 (fun H locs hP hD hS => ?_)
    refine lv_goto (tgt := 126) hx hb dX3_readUnit_110 (by decide) ?_
    obtain rfl := Option.some.inj hf
    exact ow_retV C0 hP hD hS dX3_readUnit_126
def f_X3_readUnit_b50 (F : (Int32) → (Nat → Int32) → (Int32) → (Int32) → (Int32) → (Int32) → (Int32) → (Int32) → (Int32) → (Nat → Int32) → Int32 → Option (Int32 × (Nat → Int32) × Int32 × Int32 × Int32 × Int32 × Int32 × Int32)) (i1_2 : Int32) (v1_0 : Nat → Int32)  (i0_2 : Int32) (v0_0 : Nat → Int32) (i1_3 : Int32) (i1_4 : Int32) (i1_5 : Int32) (i1_6 : Int32) (i1_7 : Int32) (i1_8 : Int32) (x2 : Int32) (t0 : Int32) : Option (Int32 × (Nat → Int32) × Int32 × Int32 × Int32 × Int32 × Int32 × Int32) := (f_X3_nameOf i1_3 i1_4 i1_5 v1_0).bind fun q52 => if q52 = ((-1)) then (if t0 = 0 then ((f_X7_isSign i1_3 i1_4 v1_0 (40)).bind fun q85 => if q85 = 0 then ((f_X7_wrong i1_3 i1_4 i1_7 i1_8 (1)).bind fun q93 => some (i0_2, v0_0, q93.1, i1_4, i1_5, i1_6, q93.2.1, q93.2.2)) else (f_X3_readUnit_b99 F i1_2 v1_0 i0_2 v0_0 i1_3 i1_4 i1_5 i1_6 i1_7 i1_8 x2 t0)) else (f_X3_readUnit_b99 F i1_2 v1_0 i0_2 v0_0 i1_3 i1_4 i1_5 i1_6 i1_7 i1_8 x2 t0)) else ((f_X3_put i0_2 v0_0 (((-1)) - q52)).bind fun q68 => (f_X7_step i1_2 i1_3 i1_4 i1_5 i1_6 i1_7 v1_0).bind fun q72 => some (q68.1, q68.2, q72.1, q72.2.1, q72.2.2.1, q72.2.2.2, i1_7, i1_8))
set_option maxHeartbeats 4000000 in
set_option maxRecDepth 100000 in
theorem w_X3_readUnit_b50 {p : Program} {l : Launch} {e : Env} {s : State} {m : MethodId} {below : List Frame} {meth : Method} {c : Code} {D : va_G} {cs : Nat → ClassId} {av : Array Value} {w0 : va_W} (C0 : Cx p s m meth c av wsX3_readUnit cX3_readUnit 5 none RX3 D cs w0) (F : (Int32) → (Nat → Int32) → (Int32) → (Int32) → (Int32) → (Int32) → (Int32) → (Int32) → (Int32) → (Nat → Int32) → Int32 → Option (Int32 × (Nat → Int32) × Int32 × Int32 × Int32 × Int32 × Int32 × Int32)) (n0 : Nat) (hF : ∀ (sz : Nat) (a0 : Nat) (p0 : Nat → Nat) (i0_2 : Int32) (v0_0 : Nat → Int32) (v0_1 : Nat → Int32) (a1 : Nat) (p1 : Nat → Nat) (i1_1 : Int32) (i1_2 : Int32) (i1_3 : Int32) (i1_4 : Int32) (i1_5 : Int32) (i1_6 : Int32) (i1_7 : Int32) (i1_8 : Int32) (v1_0 : Nat → Int32) (x2 : Int32) (res : Int32 × (Nat → Int32) × Int32 × Int32 × Int32 × Int32 × Int32 × Int32), F i0_2 v0_0 i1_2 i1_3 i1_4 i1_5 i1_6 i1_7 i1_8 v1_0 x2 = some res → MV l D cs yX3_readUnit wsX3_readUnit (rm_X3_readUnit n0) [.ref a0, .ref a1, .int x2] sz (W_X3_readUnit cs a0 p0 i0_2 v0_0 v0_1 a1 p1 i1_1 i1_2 i1_3 i1_4 i1_5 i1_6 i1_7 i1_8 v1_0) (W_X3_readUnit cs a0 p0 res.1 res.2.1 v0_1 a1 p1 i1_1 i1_2 res.2.2.1 res.2.2.2.1 res.2.2.2.2.1 res.2.2.2.2.2.1 res.2.2.2.2.2.2.1 res.2.2.2.2.2.2.2 v1_0)) (a0 : Nat) (p0 : Nat → Nat) (v0_1 : Nat → Int32) (a1 : Nat) (p1 : Nat → Nat) (i1_1 : Int32) (i1_2 : Int32) (v1_0 : Nat → Int32) (res : Int32 × (Nat → Int32) × Int32 × Int32 × Int32 × Int32 × Int32 × Int32)  : ∀ (i0_2 : Int32) (v0_0 : Nat → Int32) (i1_3 : Int32) (i1_4 : Int32) (i1_5 : Int32) (i1_6 : Int32) (i1_7 : Int32) (i1_8 : Int32) (x2 : Int32) (t0 : Int32), f_X3_readUnit_b50 F i1_2 v1_0 i0_2 v0_0 i1_3 i1_4 i1_5 i1_6 i1_7 i1_8 x2 t0 = some res → ∀ (H : Heap) (locs : List Loc) (ls : Array Slot), va_P D vwCl (W_X3_readUnit cs a0 p0 i0_2 v0_0 v0_1 a1 p1 i1_1 i1_2 i1_3 i1_4 i1_5 i1_6 i1_7 i1_8 v1_0) H → va_D (va_A w0 s.heap.size) (W_X3_readUnit cs a0 p0 i0_2 v0_0 v0_1 a1 p1 i1_1 i1_2 i1_3 i1_4 i1_5 i1_6 i1_7 i1_8 v1_0) → va_S (va_A w0 s.heap.size) s.heap H locs → lv_has ls 5 [(0, .ref a0), (1, .ref a1), (2, .int x2)] → W p l e (rm_X3_readUnit (n0 + 1)) s m av below meth c H locs 0 0 (MQ below (oV D cs w0 (W_X3_readUnit cs a0 p0 res.1 res.2.1 v0_1 a1 p1 i1_1 i1_2 res.2.2.1 res.2.2.2.1 res.2.2.2.2.1 res.2.2.2.2.2.1 res.2.2.2.2.2.2.1 res.2.2.2.2.2.2.2 v1_0) s.heap.size) av s 0 0 (va_A w0 s.heap.size)) (F0 m 50 ls [.int t0]) := by
  obtain ⟨hx, hb, hr, hlk, hml, hown, hts, hK, hG, hE⟩ := id C0
  have in_X7 : ∀ w ∈ u_ws RX7 TX7 9, w ∈ wsX3_readUnit := by decide +kernel
  intro i0_2 v0_0 i1_3 i1_4 i1_5 i1_6 i1_7 i1_8 x2 t0 hf H locs ls hP hD hS hl
  rw [f_X3_readUnit_b50] at hf
  refine lv_istore_n (lv' := [(3, .int t0), (0, .ref a0), (1, .ref a1), (2, .int x2)]) hx hb dX3_readUnit_50 rfl hl (by decide) rfl (fun ls hl => ?_)
  refine lv_aload_n hx hb dX3_readUnit_51 rfl (lv_at hl 2 rfl) ?_
  obtain ⟨q52, hq, hf⟩ := bd_some hf
  refine ow_callSI (As := [.ref a1]) (rest := []) (wr := ow_pk (W_X3_readUnit cs a0 p0 i0_2 v0_0 v0_1 a1 p1 i1_1 i1_2 i1_3 i1_4 i1_5 i1_6 i1_7 i1_8 v1_0) [0, 1, 2]) (wf := (W_X3_readUnit cs a0 p0 i0_2 v0_0 v0_1 a1 p1 i1_1 i1_2 i1_3 i1_4 i1_5 i1_6 i1_7 i1_8 v1_0)) (r := q52) C0 (c_X3_nameOf l D cs H.size a1 p1 i1_1 i1_2 i1_3 i1_4 i1_5 i1_6 i1_7 i1_8 v1_0  q52 hq) (va_cwS 1 hts gX3_readUnit_X3_nameOf rfl rfl rfl (by decide +kernel) ⟨by simp only [rm_X3_readUnit, rm_X3_nameOf]; omega, by simp only [rm_X3_readUnit, rm_X3_nameOf]; omega⟩) hP hD hS (fun q h => Or.inr h) [3, 4] [0, 1, 2] [0, 1, 2, 3, 4] rfl (by decide) rfl (by decide) (by decide) rfl (by decide) rfl hl.1 rfl (Nat.le_of_ble_eq_true rfl) ⟨Nat.zero_le _, Nat.zero_le _⟩ dX3_readUnit_52 (fun H locs hP hD hS => ?_)
  refine lv_istore (lv' := [(4, .int q52), (3, .int t0), (0, .ref a0), (1, .ref a1), (2, .int x2)]) hx hb dX3_readUnit_55 hl (by decide) rfl (fun ls hl => ?_)
  refine lv_iload hx hb dX3_readUnit_57 (lv_at hl 0 rfl) ?_
  refine lv_iconst (v := (-1)) hx hb dX3_readUnit_59 (by decide) ?_
  refine lv_icmp_eq (tgt := 78) hx hb dX3_readUnit_60 (by decide) (fun hc => ?_) (fun hc => ?_)
  · replace hf := ow_t hc hf
    refine lv_iload_n hx hb dX3_readUnit_78 rfl (lv_at hl 1 rfl) ?_
    refine lv_if_ne (tgt := 99) hx hb dX3_readUnit_79 (by decide) (fun hc => ?_) (fun hc => ?_)
    · replace hf := ow_f hc hf
      exact w_X3_readUnit_b99 C0 F n0 hF a0 p0 v0_1 a1 p1 i1_1 i1_2 v1_0 res i0_2 v0_0 i1_3 i1_4 i1_5 i1_6 i1_7 i1_8 x2 t0 hf _ _ _ hP hD hS (lv_sub hl [2, 3, 4, 1] rfl)
    · replace hf := ow_t hc hf
      refine lv_aload_n hx hb dX3_readUnit_82 rfl (lv_at hl 3 rfl) ?_
      refine lv_bipush (v := 40) hx hb dX3_readUnit_83 (by decide) ?_
      obtain ⟨q85, hq, hf⟩ := bd_some hf
      refine ow_callVI (As := [.int 40]) (rest := []) (wr := ow_pk (W_X3_readUnit cs a0 p0 i0_2 v0_0 v0_1 a1 p1 i1_1 i1_2 i1_3 i1_4 i1_5 i1_6 i1_7 i1_8 v1_0) [0, 1, 2]) (wf := (W_X3_readUnit cs a0 p0 i0_2 v0_0 v0_1 a1 p1 i1_1 i1_2 i1_3 i1_4 i1_5 i1_6 i1_7 i1_8 v1_0)) (r := q85) C0 (c_X7_isSign l D cs H.size a1 p1 i1_1 i1_2 i1_3 i1_4 i1_5 i1_6 i1_7 i1_8 v1_0 (40) q85 hq) (cwV 1 hts gX3_readUnit_X7_isSign rfl rfl rfl (by decide +kernel) ⟨by simp only [rm_X3_readUnit, rm_X7_isSign]; omega, by simp only [rm_X3_readUnit, rm_X7_isSign]; omega⟩) 7 rfl rfl hP hD hS (fun q h => Or.inr h) [3, 4] [0, 1, 2] [0, 1, 2, 3, 4] rfl (by decide) rfl (by decide) (by decide) rfl (by decide) rfl hl.1 rfl (Nat.le_of_ble_eq_true rfl) ⟨Nat.zero_le _, Nat.zero_le _⟩ dX3_readUnit_85 (fun H locs hP hD hS => ?_)
      refine lv_if_ne (tgt := 99) hx hb dX3_readUnit_88 (by decide) (fun hc => ?_) (fun hc => ?_)
      · replace hf := ow_f hc hf
        exact w_X3_readUnit_b99 C0 F n0 hF a0 p0 v0_1 a1 p1 i1_1 i1_2 v1_0 res i0_2 v0_0 i1_3 i1_4 i1_5 i1_6 i1_7 i1_8 x2 t0 hf _ _ _ hP hD hS (lv_sub hl [2, 3, 4, 1] rfl)
      · replace hf := ow_t hc hf
        refine lv_aload_n hx hb dX3_readUnit_91 rfl (lv_at hl 3 rfl) ?_
        refine lv_iconst (v := 1) hx hb dX3_readUnit_92 (by decide) ?_
        obtain ⟨q93, hq, hf⟩ := bd_some hf
        refine ow_callVV (As := [.int 1]) (rest := []) (wr := ow_pk (W_X3_readUnit cs a0 p0 i0_2 v0_0 v0_1 a1 p1 i1_1 i1_2 i1_3 i1_4 i1_5 i1_6 i1_7 i1_8 v1_0) [0, 1, 2]) (wf := (W_X3_readUnit cs a0 p0 i0_2 v0_0 v0_1 a1 p1 i1_1 i1_2 q93.1 i1_4 i1_5 i1_6 q93.2.1 q93.2.2 v1_0)) C0 (c_X7_wrong l D cs H.size a1 p1 i1_1 i1_2 i1_3 i1_4 i1_5 i1_6 i1_7 i1_8 v1_0 (1) q93 hq) (cwV 1 hts gX3_readUnit_X7_wrong rfl rfl rfl (by decide +kernel) ⟨by simp only [rm_X3_readUnit, rm_X7_wrong]; omega, by simp only [rm_X3_readUnit, rm_X7_wrong]; omega⟩) 7 rfl rfl hP hD hS (fun q h => Or.inr h) [3, 4] [0, 1, 2] [0, 1, 2, 3, 4] rfl (by decide) rfl (by decide) (by decide) rfl (by decide) rfl hl.1 rfl (Nat.le_of_ble_eq_true rfl) ⟨Nat.zero_le _, Nat.zero_le _⟩ dX3_readUnit_93 (fun H locs hP hD hS => ?_)
        refine lv_goto (tgt := 126) hx hb dX3_readUnit_96 (by decide) ?_
        obtain rfl := Option.some.inj hf
        exact ow_retV C0 hP hD hS dX3_readUnit_126
  · replace hf := ow_f hc hf
    refine lv_aload_n hx hb dX3_readUnit_63 rfl (lv_at hl 2 rfl) ?_
    refine lv_iconst (v := (-1)) hx hb dX3_readUnit_64 (by decide) ?_
    refine lv_iload hx hb dX3_readUnit_65 (lv_at hl 0 rfl) ?_
    refine lv_isub hx hb dX3_readUnit_67 ?_
    obtain ⟨q68, hq, hf⟩ := bd_some hf
    refine ow_callVV (As := [.int (((-1)) - q52)]) (rest := []) (wr := ow_pk (W_X3_readUnit cs a0 p0 i0_2 v0_0 v0_1 a1 p1 i1_1 i1_2 i1_3 i1_4 i1_5 i1_6 i1_7 i1_8 v1_0) [3, 4]) (wf := (W_X3_readUnit cs a0 p0 q68.1 q68.2 v0_1 a1 p1 i1_1 i1_2 i1_3 i1_4 i1_5 i1_6 i1_7 i1_8 v1_0)) C0 (c_X3_put l D cs H.size a0 p0 i0_2 v0_0 v0_1 (((-1)) - q52) q68 hq) (cwV 1 hts gX3_readUnit_X3_put rfl rfl rfl (by decide +kernel) ⟨by simp only [rm_X3_readUnit, rm_X3_put]; omega, by simp only [rm_X3_readUnit, rm_X3_put]; omega⟩) 3 rfl rfl hP hD hS (fun q h => Or.inr h) [0, 1, 2] [3, 4] [2, 3, 4, 0, 1] rfl (by decide) rfl (by decide) (by decide) rfl (by decide) rfl hl.1 rfl (Nat.le_of_ble_eq_true rfl) ⟨Nat.zero_le _, Nat.zero_le _⟩ dX3_readUnit_68 (fun H locs hP hD hS => ?_)
    refine lv_aload_n hx hb dX3_readUnit_71 rfl (lv_at hl 3 rfl) ?_
    obtain ⟨q72, hq, hf⟩ := bd_some hf
    refine ow_callVV (As := []) (rest := []) (wr := ow_pk (W_X3_readUnit cs a0 p0 q68.1 q68.2 v0_1 a1 p1 i1_1 i1_2 i1_3 i1_4 i1_5 i1_6 i1_7 i1_8 v1_0) [0, 1, 2]) (wf := (W_X3_readUnit cs a0 p0 q68.1 q68.2 v0_1 a1 p1 i1_1 i1_2 q72.1 q72.2.1 q72.2.2.1 q72.2.2.2 i1_7 i1_8 v1_0)) C0 (c_X7_step l D cs H.size a1 p1 i1_1 i1_2 i1_3 i1_4 i1_5 i1_6 i1_7 i1_8 v1_0  q72 hq) (cwV 0 hts gX3_readUnit_X7_step rfl rfl rfl (by decide +kernel) ⟨by simp only [rm_X3_readUnit, rm_X7_step]; omega, by simp only [rm_X3_readUnit, rm_X7_step]; omega⟩) 7 rfl rfl hP hD hS (fun q h => Or.inr h) [3, 4] [0, 1, 2] [0, 1, 2, 3, 4] rfl (by decide) rfl (by decide) (by decide) rfl (by decide) rfl hl.1 rfl (Nat.le_of_ble_eq_true rfl) ⟨Nat.zero_le _, Nat.zero_le _⟩ dX3_readUnit_72 (fun H locs hP hD hS => ?_)
    refine lv_goto (tgt := 126) hx hb dX3_readUnit_75 (by decide) ?_
    obtain rfl := Option.some.inj hf
    exact ow_retV C0 hP hD hS dX3_readUnit_126
def fb_X3_readUnit (F : (Int32) → (Nat → Int32) → (Int32) → (Int32) → (Int32) → (Int32) → (Int32) → (Int32) → (Int32) → (Nat → Int32) → Int32 → Option (Int32 × (Nat → Int32) × Int32 × Int32 × Int32 × Int32 × Int32 × Int32)) (i0_2 : Int32) (v0_0 : Nat → Int32) (i1_2 : Int32) (i1_3 : Int32) (i1_4 : Int32) (i1_5 : Int32) (i1_6 : Int32) (i1_7 : Int32) (i1_8 : Int32) (v1_0 : Nat → Int32) (x2 : Int32) : Option (Int32 × (Nat → Int32) × Int32 × Int32 × Int32 × Int32 × Int32 × Int32) := if i1_3 = 1 then ((f_X7_takeNumber i1_2 i1_3 i1_4 i1_5 i1_6 i1_7 i1_8 v1_0 (0) (999)).bind fun q14 => (f_X3_put i0_2 v0_0 q14.1).bind fun q17 => some (q17.1, q17.2, q14.2.1, q14.2.2.1, q14.2.2.2.1, q14.2.2.2.2.1, q14.2.2.2.2.2.1, q14.2.2.2.2.2.2)) else ((f_X7_isWord i1_3 i1_4 i1_5 v1_0 5).bind fun q24 => if q24 = 0 then ((f_X7_isWord i1_3 i1_4 i1_5 v1_0 6).bind fun q38 => if q38 = 0 then (f_X3_readUnit_b50 F i1_2 v1_0 i0_2 v0_0 i1_3 i1_4 i1_5 i1_6 i1_7 i1_8 x2 (0)) else (f_X3_readUnit_b50 F i1_2 v1_0 i0_2 v0_0 i1_3 i1_4 i1_5 i1_6 i1_7 i1_8 x2 ((-15)))) else (f_X3_readUnit_b50 F i1_2 v1_0 i0_2 v0_0 i1_3 i1_4 i1_5 i1_6 i1_7 i1_8 x2 ((-14))))
def f_X3_readUnit : Nat → (Int32) → (Nat → Int32) → (Int32) → (Int32) → (Int32) → (Int32) → (Int32) → (Int32) → (Int32) → (Nat → Int32) → Int32 → Option (Int32 × (Nat → Int32) × Int32 × Int32 × Int32 × Int32 × Int32 × Int32)
  | 0, _, _, _, _, _, _, _, _, _, _, _ => none
  | n + 1, i0_2, v0_0, i1_2, i1_3, i1_4, i1_5, i1_6, i1_7, i1_8, v1_0, x2 => fb_X3_readUnit (f_X3_readUnit n) i0_2 v0_0 i1_2 i1_3 i1_4 i1_5 i1_6 i1_7 i1_8 v1_0 x2
set_option maxHeartbeats 4000000 in
set_option maxRecDepth 100000 in
theorem c_X3_readUnit (l : Launch) (D : va_G) (cs : Nat → ClassId) : ∀ (n0 sz : Nat) (a0 : Nat) (p0 : Nat → Nat) (i0_2 : Int32) (v0_0 : Nat → Int32) (v0_1 : Nat → Int32) (a1 : Nat) (p1 : Nat → Nat) (i1_1 : Int32) (i1_2 : Int32) (i1_3 : Int32) (i1_4 : Int32) (i1_5 : Int32) (i1_6 : Int32) (i1_7 : Int32) (i1_8 : Int32) (v1_0 : Nat → Int32) (x2 : Int32) (res : Int32 × (Nat → Int32) × Int32 × Int32 × Int32 × Int32 × Int32 × Int32), f_X3_readUnit n0 i0_2 v0_0 i1_2 i1_3 i1_4 i1_5 i1_6 i1_7 i1_8 v1_0 x2 = some res → MV l D cs yX3_readUnit wsX3_readUnit (rm_X3_readUnit n0) [.ref a0, .ref a1, .int x2] sz (W_X3_readUnit cs a0 p0 i0_2 v0_0 v0_1 a1 p1 i1_1 i1_2 i1_3 i1_4 i1_5 i1_6 i1_7 i1_8 v1_0) (W_X3_readUnit cs a0 p0 res.1 res.2.1 v0_1 a1 p1 i1_1 i1_2 res.2.2.1 res.2.2.2.1 res.2.2.2.2.1 res.2.2.2.2.2.1 res.2.2.2.2.2.2.1 res.2.2.2.2.2.2.2 v1_0) := by
  intro n0
  induction n0 with
  | zero =>
    intro sz a0 p0 i0_2 v0_0 v0_1 a1 p1 i1_1 i1_2 i1_3 i1_4 i1_5 i1_6 i1_7 i1_8 v1_0 x2 res hf
    rw [f_X3_readUnit] at hf
    cases hf
  | succ n0 hF =>
  intro sz a0 p0 i0_2 v0_0 v0_1 a1 p1 i1_1 i1_2 i1_3 i1_4 i1_5 i1_6 i1_7 i1_8 v1_0 x2 res hf
  rw [f_X3_readUnit] at hf
  revert hF hf
  generalize f_X3_readUnit n0 = F
  intro hF hf
  rw [fb_X3_readUnit] at hf
  refine ow_enter (cc := cX3_readUnit) (nL := 5) (ret := none) (by decide) rfl (Nat.le_of_ble_eq_true rfl) (fun p e s m below meth c ls H locs C0 hP hD hS hA hl => ?_)
  obtain ⟨hx, hb, hr, hlk, hml, hown, hts, hK, hG, hE⟩ := id C0
  have in_X7 : ∀ w ∈ u_ws RX7 TX7 9, w ∈ wsX3_readUnit := by decide +kernel
  have hl : lv_has ls 5 [(0, .ref a0), (1, .ref a1), (2, .int x2)] := hl
  refine lv_aload_n hx hb dX3_readUnit_0 rfl (lv_at hl 1 rfl) ?_
  refine va_get (D := D) (ci := 7) (v := .int i1_3) (C := RX7) (T := TX7) (N := 9) hx hb hts in_X7 hown hK hP 3 rfl rfl 3 (by decide) (hts (.fieldLink RX3 52 "PaneDays$Tape" "kind" "I") (by decide +kernel)) (fun _ h9 => h9) rfl dX3_readUnit_1 ?_
  refine lv_iconst (v := 1) hx hb dX3_readUnit_4 (by decide) ?_
  refine lv_icmp_ne (tgt := 21) hx hb dX3_readUnit_5 (by decide) (fun hc => ?_) (fun hc => ?_)
  · replace hf := ow_f hc hf
    refine lv_aload_n hx hb dX3_readUnit_21 rfl (lv_at hl 1 rfl) ?_
    refine va_ldcS (q := D.2 100 5) hx hb hown (hG.2.2 _ (List.mem_of_getElem? (i := 5) rfl)) dX3_readUnit_22 ?_
    obtain ⟨q24, hq, hf⟩ := bd_some hf
    refine ow_callVI (As := [.ref (D.2 100 5)]) (rest := []) (wr := ow_pk (W_X3_readUnit cs a0 p0 i0_2 v0_0 v0_1 a1 p1 i1_1 i1_2 i1_3 i1_4 i1_5 i1_6 i1_7 i1_8 v1_0) [0, 1, 2]) (wf := (W_X3_readUnit cs a0 p0 i0_2 v0_0 v0_1 a1 p1 i1_1 i1_2 i1_3 i1_4 i1_5 i1_6 i1_7 i1_8 v1_0)) (r := q24) C0 (c_X7_isWord l D cs H.size a1 p1 i1_1 i1_2 i1_3 i1_4 i1_5 i1_6 i1_7 i1_8 v1_0 5 (by decide)  q24 hq) (cwV 1 hts gX3_readUnit_X7_isWord rfl rfl rfl (by decide +kernel) ⟨by simp only [rm_X3_readUnit, rm_X7_isWord]; omega, by simp only [rm_X3_readUnit, rm_X7_isWord]; omega⟩) 7 rfl rfl hP hD hS (fun q h => Or.inr h) [3, 4] [0, 1, 2] [0, 1, 2, 3, 4] rfl (by decide) rfl (by decide) (by decide) rfl (by decide) rfl hl.1 rfl (Nat.le_of_ble_eq_true rfl) ⟨Nat.zero_le _, Nat.zero_le _⟩ dX3_readUnit_24 (fun H locs hP hD hS => ?_)
    refine lv_if_eq (tgt := 35) hx hb dX3_readUnit_27 (by decide) (fun hc => ?_) (fun hc => ?_)
    · replace hf := ow_t hc hf
      refine lv_aload_n hx hb dX3_readUnit_35 rfl (lv_at hl 1 rfl) ?_
      refine va_ldcS (q := D.2 100 6) hx hb hown (hG.2.2 _ (List.mem_of_getElem? (i := 6) rfl)) dX3_readUnit_36 ?_
      obtain ⟨q38, hq, hf⟩ := bd_some hf
      refine ow_callVI (As := [.ref (D.2 100 6)]) (rest := []) (wr := ow_pk (W_X3_readUnit cs a0 p0 i0_2 v0_0 v0_1 a1 p1 i1_1 i1_2 i1_3 i1_4 i1_5 i1_6 i1_7 i1_8 v1_0) [0, 1, 2]) (wf := (W_X3_readUnit cs a0 p0 i0_2 v0_0 v0_1 a1 p1 i1_1 i1_2 i1_3 i1_4 i1_5 i1_6 i1_7 i1_8 v1_0)) (r := q38) C0 (c_X7_isWord l D cs H.size a1 p1 i1_1 i1_2 i1_3 i1_4 i1_5 i1_6 i1_7 i1_8 v1_0 6 (by decide)  q38 hq) (cwV 1 hts gX3_readUnit_X7_isWord rfl rfl rfl (by decide +kernel) ⟨by simp only [rm_X3_readUnit, rm_X7_isWord]; omega, by simp only [rm_X3_readUnit, rm_X7_isWord]; omega⟩) 7 rfl rfl hP hD hS (fun q h => Or.inr h) [3, 4] [0, 1, 2] [0, 1, 2, 3, 4] rfl (by decide) rfl (by decide) (by decide) rfl (by decide) rfl hl.1 rfl (Nat.le_of_ble_eq_true rfl) ⟨Nat.zero_le _, Nat.zero_le _⟩ dX3_readUnit_38 (fun H locs hP hD hS => ?_)
      refine lv_if_eq (tgt := 49) hx hb dX3_readUnit_41 (by decide) (fun hc => ?_) (fun hc => ?_)
      · replace hf := ow_t hc hf
        refine lv_iconst (v := 0) hx hb dX3_readUnit_49 (by decide) ?_
        exact w_X3_readUnit_b50 C0 F n0 hF a0 p0 v0_1 a1 p1 i1_1 i1_2 v1_0 res i0_2 v0_0 i1_3 i1_4 i1_5 i1_6 i1_7 i1_8 x2 (0) hf _ _ _ hP hD hS (lv_sub hl [0, 1, 2] rfl)
      · replace hf := ow_f hc hf
        refine lv_bipush (v := (-15)) hx hb dX3_readUnit_44 (by decide) ?_
        refine lv_goto (tgt := 50) hx hb dX3_readUnit_46 (by decide) ?_
        exact w_X3_readUnit_b50 C0 F n0 hF a0 p0 v0_1 a1 p1 i1_1 i1_2 v1_0 res i0_2 v0_0 i1_3 i1_4 i1_5 i1_6 i1_7 i1_8 x2 ((-15)) hf _ _ _ hP hD hS (lv_sub hl [0, 1, 2] rfl)
    · replace hf := ow_f hc hf
      refine lv_bipush (v := (-14)) hx hb dX3_readUnit_30 (by decide) ?_
      refine lv_goto (tgt := 50) hx hb dX3_readUnit_32 (by decide) ?_
      exact w_X3_readUnit_b50 C0 F n0 hF a0 p0 v0_1 a1 p1 i1_1 i1_2 v1_0 res i0_2 v0_0 i1_3 i1_4 i1_5 i1_6 i1_7 i1_8 x2 ((-14)) hf _ _ _ hP hD hS (lv_sub hl [0, 1, 2] rfl)
  · replace hf := ow_t hc hf
    refine lv_aload_n hx hb dX3_readUnit_8 rfl (lv_at hl 0 rfl) ?_
    refine lv_aload_n hx hb dX3_readUnit_9 rfl (lv_at hl 1 rfl) ?_
    refine lv_iconst (v := 0) hx hb dX3_readUnit_10 (by decide) ?_
    refine lv_sipush (v := 999) hx hb dX3_readUnit_11 (by decide) ?_
    obtain ⟨q14, hq, hf⟩ := bd_some hf
    refine ow_callVI (As := [.int 0, .int 999]) (rest := [.ref a0]) (wr := ow_pk (W_X3_readUnit cs a0 p0 i0_2 v0_0 v0_1 a1 p1 i1_1 i1_2 i1_3 i1_4 i1_5 i1_6 i1_7 i1_8 v1_0) [0, 1, 2]) (wf := (W_X3_readUnit cs a0 p0 i0_2 v0_0 v0_1 a1 p1 i1_1 i1_2 q14.2.1 q14.2.2.1 q14.2.2.2.1 q14.2.2.2.2.1 q14.2.2.2.2.2.1 q14.2.2.2.2.2.2 v1_0)) (r := q14.1) C0 (c_X7_takeNumber l D cs H.size a1 p1 i1_1 i1_2 i1_3 i1_4 i1_5 i1_6 i1_7 i1_8 v1_0 (0) (999) q14 hq) (cwV 2 hts gX3_readUnit_X7_takeNumber rfl rfl rfl (by decide +kernel) ⟨by simp only [rm_X3_readUnit, rm_X7_takeNumber]; omega, by simp only [rm_X3_readUnit, rm_X7_takeNumber]; omega⟩) 7 rfl rfl hP hD hS (fun q h => Or.inr h) [3, 4] [0, 1, 2] [0, 1, 2, 3, 4] rfl (by decide) rfl (by decide) (by decide) rfl (by decide) rfl hl.1 rfl (Nat.le_of_ble_eq_true rfl) ⟨Nat.zero_le _, Nat.zero_le _⟩ dX3_readUnit_14 (fun H locs hP hD hS => ?_)
    obtain ⟨q17, hq, hf⟩ := bd_some hf
    refine ow_callVV (As := [.int q14.1]) (rest := []) (wr := ow_pk (W_X3_readUnit cs a0 p0 i0_2 v0_0 v0_1 a1 p1 i1_1 i1_2 q14.2.1 q14.2.2.1 q14.2.2.2.1 q14.2.2.2.2.1 q14.2.2.2.2.2.1 q14.2.2.2.2.2.2 v1_0) [3, 4]) (wf := (W_X3_readUnit cs a0 p0 q17.1 q17.2 v0_1 a1 p1 i1_1 i1_2 q14.2.1 q14.2.2.1 q14.2.2.2.1 q14.2.2.2.2.1 q14.2.2.2.2.2.1 q14.2.2.2.2.2.2 v1_0)) C0 (c_X3_put l D cs H.size a0 p0 i0_2 v0_0 v0_1 q14.1 q17 hq) (cwV 1 hts gX3_readUnit_X3_put rfl rfl rfl (by decide +kernel) ⟨by simp only [rm_X3_readUnit, rm_X3_put]; omega, by simp only [rm_X3_readUnit, rm_X3_put]; omega⟩) 3 rfl rfl hP hD hS (fun q h => Or.inr h) [0, 1, 2] [3, 4] [2, 3, 4, 0, 1] rfl (by decide) rfl (by decide) (by decide) rfl (by decide) rfl hl.1 rfl (Nat.le_of_ble_eq_true rfl) ⟨Nat.zero_le _, Nat.zero_le _⟩ dX3_readUnit_17 (fun H locs hP hD hS => ?_)
    obtain rfl := Option.some.inj hf
    exact ow_retV C0 hP hD hS dX3_readUnit_20
abbrev W_X3_read (cs : Nat → ClassId) (a0 : Nat) (p0 : Nat → Nat) (i0_2 : Int32) (v0_0 : Nat → Int32) (v0_1 : Nat → Int32) (a1 : Nat) (p1 : Nat → Nat) (i1_1 : Int32) (i1_2 : Int32) (i1_3 : Int32) (i1_4 : Int32) (i1_5 : Int32) (i1_6 : Int32) (i1_7 : Int32) (i1_8 : Int32) (v1_0 : Nat → Int32) : va_W := wX3 cs a0 p0 i0_2 v0_0 v0_1 ++ wX7 cs a1 p1 i1_1 i1_2 i1_3 i1_4 i1_5 i1_6 i1_7 i1_8 v1_0
abbrev rm_X3_read : Room := { frames := 94, cells := 0, slots := 0, locals := 2267 }
def f_X3_read  (i0_2 : Int32) (v0_0 : Nat → Int32) (i1_2 : Int32) (i1_3 : Int32) (i1_4 : Int32) (i1_5 : Int32) (i1_6 : Int32) (i1_7 : Int32) (i1_8 : Int32) (v1_0 : Nat → Int32)  : Option (Int32 × Int32 × (Nat → Int32) × Int32 × Int32 × Int32 × Int32 × Int32 × Int32) := (f_X3_readSum (f_X3_readUnit 9) (0) v0_0 i1_2 i1_3 i1_4 i1_5 i1_6 i1_7 i1_8 v1_0 (0)).bind fun q8 => (f_X7_takeEnd q8.2.2.1 q8.2.2.2.1 q8.2.2.2.2.2.2.1 q8.2.2.2.2.2.2.2).bind fun q12 => cz q12.1 (some (q12.1, q8.1, q8.2.1, q12.2.1, q8.2.2.2.1, q8.2.2.2.2.1, q8.2.2.2.2.2.1, q12.2.2.1, q12.2.2.2))
set_option maxHeartbeats 4000000 in
set_option maxRecDepth 100000 in
theorem c_X3_read (l : Launch) (D : va_G) (cs : Nat → ClassId)  (sz : Nat) (a0 : Nat) (p0 : Nat → Nat) (i0_2 : Int32) (v0_0 : Nat → Int32) (v0_1 : Nat → Int32) (a1 : Nat) (p1 : Nat → Nat) (i1_1 : Int32) (i1_2 : Int32) (i1_3 : Int32) (i1_4 : Int32) (i1_5 : Int32) (i1_6 : Int32) (i1_7 : Int32) (i1_8 : Int32) (v1_0 : Nat → Int32)  (res : Int32 × Int32 × (Nat → Int32) × Int32 × Int32 × Int32 × Int32 × Int32 × Int32) (hf : f_X3_read  i0_2 v0_0 i1_2 i1_3 i1_4 i1_5 i1_6 i1_7 i1_8 v1_0  = some res) : MI l D cs yX3_read wsX3_read rm_X3_read [.ref a0, .ref a1] sz (W_X3_read cs a0 p0 i0_2 v0_0 v0_1 a1 p1 i1_1 i1_2 i1_3 i1_4 i1_5 i1_6 i1_7 i1_8 v1_0) (W_X3_read cs a0 p0 res.2.1 res.2.2.1 v0_1 a1 p1 i1_1 i1_2 res.2.2.2.1 res.2.2.2.2.1 res.2.2.2.2.2.1 res.2.2.2.2.2.2.1 res.2.2.2.2.2.2.2.1 res.2.2.2.2.2.2.2.2 v1_0) res.1 := by
  rw [f_X3_read] at hf
  refine ow_enter (cc := cX3_read) (nL := 2) (ret := (some .boolean)) (by decide) rfl (Nat.le_of_ble_eq_true rfl) (fun p e s m below meth c ls H locs C0 hP hD hS hA hl => ?_)
  obtain ⟨hx, hb, hr, hlk, hml, hown, hts, hK, hG, hE⟩ := id C0
  have in_X3 : ∀ w ∈ u_ws RX3 TX3 3, w ∈ wsX3_read := by decide +kernel
  have hl : lv_has ls 2 [(0, .ref a0), (1, .ref a1)] := hl
  refine lv_aload_n hx hb dX3_read_0 rfl (lv_at hl 0 rfl) ?_
  refine lv_iconst (v := 0) hx hb dX3_read_1 (by decide) ?_
  refine va_put (D := D) (ci := 3) (v := .int 0) (ty := .int) (C := RX3) (T := TX3) (N := 3) hx hb hts in_X3 tyX3 tyX3_ok nmX3 hown hK hP hD hS 0 rfl rfl 2 (by decide) (hts (.fieldLink RX3 21 "PaneDays$Law" "length" "I") (by decide +kernel)) (fun _ h9 => h9) rfl (by decide +kernel) rfl rfl (Nat.le_of_ble_eq_true rfl) dX3_read_2 (fun H locs (hP : va_P D vwCl (W_X3_read cs a0 p0 (0) v0_0 v0_1 a1 p1 i1_1 i1_2 i1_3 i1_4 i1_5 i1_6 i1_7 i1_8 v1_0) H) (hD : va_D _ (W_X3_read cs a0 p0 (0) v0_0 v0_1 a1 p1 i1_1 i1_2 i1_3 i1_4 i1_5 i1_6 i1_7 i1_8 v1_0)) hS => ?_)
  refine lv_aload_n hx hb dX3_read_5 rfl (lv_at hl 0 rfl) ?_
  refine lv_aload_n hx hb dX3_read_6 rfl (lv_at hl 1 rfl) ?_
  refine lv_iconst (v := 0) hx hb dX3_read_7 (by decide) ?_
  obtain ⟨q8, hq, hf⟩ := bd_some hf
  refine ow_callVV (As := [.ref a1, .int 0]) (rest := []) (wr := ow_pk (W_X3_read cs a0 p0 (0) v0_0 v0_1 a1 p1 i1_1 i1_2 i1_3 i1_4 i1_5 i1_6 i1_7 i1_8 v1_0) []) (wf := (W_X3_read cs a0 p0 q8.1 q8.2.1 v0_1 a1 p1 i1_1 i1_2 q8.2.2.1 q8.2.2.2.1 q8.2.2.2.2.1 q8.2.2.2.2.2.1 q8.2.2.2.2.2.2.1 q8.2.2.2.2.2.2.2 v1_0)) C0 (c_X3_readSum l D cs (f_X3_readUnit 9) (rm_X3_readUnit 9) ⟨rfl, rfl⟩ (c_X3_readUnit l D cs 9) H.size a0 p0 (0) v0_0 v0_1 a1 p1 i1_1 i1_2 i1_3 i1_4 i1_5 i1_6 i1_7 i1_8 v1_0 (0) q8 hq) (cwV 2 hts gX3_read_X3_readSum rfl rfl rfl (by decide +kernel) ⟨Nat.le_of_ble_eq_true rfl, Nat.le_of_ble_eq_true rfl⟩) 3 rfl rfl hP hD hS (fun q h => Or.inr h) [0, 1, 2, 3, 4] [] [0, 1, 2, 3, 4] rfl (by decide) rfl (by decide) (by decide) rfl (by decide) rfl hl.1 rfl (Nat.le_of_ble_eq_true rfl) ⟨Nat.zero_le _, Nat.zero_le _⟩ dX3_read_8 (fun H locs hP hD hS => ?_)
  refine lv_aload_n hx hb dX3_read_11 rfl (lv_at hl 1 rfl) ?_
  obtain ⟨q12, hq, hf⟩ := bd_some hf
  refine ow_callVI (As := []) (rest := []) (wr := ow_pk (W_X3_read cs a0 p0 q8.1 q8.2.1 v0_1 a1 p1 i1_1 i1_2 q8.2.2.1 q8.2.2.2.1 q8.2.2.2.2.1 q8.2.2.2.2.2.1 q8.2.2.2.2.2.2.1 q8.2.2.2.2.2.2.2 v1_0) [0, 1, 2]) (wf := (W_X3_read cs a0 p0 q8.1 q8.2.1 v0_1 a1 p1 i1_1 i1_2 q12.2.1 q8.2.2.2.1 q8.2.2.2.2.1 q8.2.2.2.2.2.1 q12.2.2.1 q12.2.2.2 v1_0)) (r := q12.1) C0 (c_X7_takeEnd l D cs H.size a1 p1 i1_1 i1_2 q8.2.2.1 q8.2.2.2.1 q8.2.2.2.2.1 q8.2.2.2.2.2.1 q8.2.2.2.2.2.2.1 q8.2.2.2.2.2.2.2 v1_0  q12 hq) (cwV 0 hts gX3_read_X7_takeEnd rfl rfl rfl (by decide +kernel) ⟨Nat.le_of_ble_eq_true rfl, Nat.le_of_ble_eq_true rfl⟩) 7 rfl rfl hP hD hS (fun q h => Or.inr h) [3, 4] [0, 1, 2] [0, 1, 2, 3, 4] rfl (by decide) rfl (by decide) (by decide) rfl (by decide) rfl hl.1 rfl (Nat.le_of_ble_eq_true rfl) ⟨Nat.zero_le _, Nat.zero_le _⟩ dX3_read_12 (fun H locs hP hD hS => ?_)
  obtain ⟨hz, hf⟩ := cz_some hf
  obtain rfl := Option.some.inj hf
  exact ow_retZ C0 hz hP hD hS dX3_read_15
abbrev W_X3_forget (cs : Nat → ClassId) (a0 : Nat) (p0 : Nat → Nat) (i0_2 : Int32) (v0_0 : Nat → Int32) (v0_1 : Nat → Int32) : va_W := wX3 cs a0 p0 i0_2 v0_0 v0_1
abbrev rm_X3_forget : Room := { frames := 0, cells := 0, slots := 0, locals := 0 }
def f_X3_forget  (i0_2 : Int32) (v0_0 : Nat → Int32)  : Option (Int32 × (Nat → Int32)) := some (1, upd v0_0 (0 : Int32).toNatClampNeg 1)
set_option maxHeartbeats 4000000 in
set_option maxRecDepth 100000 in
theorem c_X3_forget (l : Launch) (D : va_G) (cs : Nat → ClassId)  (sz : Nat) (a0 : Nat) (p0 : Nat → Nat) (i0_2 : Int32) (v0_0 : Nat → Int32) (v0_1 : Nat → Int32)  (res : Int32 × (Nat → Int32)) (hf : f_X3_forget  i0_2 v0_0  = some res) : MV l D cs yX3_forget wsX3_forget rm_X3_forget [.ref a0] sz (W_X3_forget cs a0 p0 i0_2 v0_0 v0_1) (W_X3_forget cs a0 p0 res.1 res.2 v0_1) := by
  rw [f_X3_forget] at hf
  refine ow_enter (cc := cX3_forget) (nL := 1) (ret := none) (by decide) rfl (Nat.le_of_ble_eq_true rfl) (fun p e s m below meth c ls H locs C0 hP hD hS hA hl => ?_)
  obtain ⟨hx, hb, hr, hlk, hml, hown, hts, hK, hG, hE⟩ := id C0
  have in_X3 : ∀ w ∈ u_ws RX3 TX3 3, w ∈ wsX3_forget := by decide +kernel
  have hl : lv_has ls 1 [(0, .ref a0)] := hl
  refine lv_aload_n hx hb dX3_forget_0 rfl (lv_at hl 0 rfl) ?_
  refine va_get (D := D) (ci := 3) (v := .ref (p0 0)) (C := RX3) (T := TX3) (N := 3) hx hb hts in_X3 hown hK hP 0 rfl rfl 0 (by decide) (hts (.fieldLink RX3 9 "PaneDays$Law" "code" "[I") (by decide +kernel)) (fun _ h9 => h9) rfl dX3_forget_1 ?_
  refine lv_iconst (v := 0) hx hb dX3_forget_4 (by decide) ?_
  refine lv_iconst (v := 1) hx hb dX3_forget_5 (by decide) ?_
  refine va_iast (f := v0_0) hx hb hK hP hD hS 1 0 rfl rfl (vp_in_nI (n := 0) (by decide) (by decide)) dX3_forget_6 (fun H locs (hP : va_P D vwCl (W_X3_forget cs a0 p0 i0_2 (upd v0_0 (0 : Int32).toNatClampNeg 1) v0_1) H) (hD : va_D _ (W_X3_forget cs a0 p0 i0_2 (upd v0_0 (0 : Int32).toNatClampNeg 1) v0_1)) hS => ?_)
  refine lv_aload_n hx hb dX3_forget_7 rfl (lv_at hl 0 rfl) ?_
  refine lv_iconst (v := 1) hx hb dX3_forget_8 (by decide) ?_
  refine va_put (D := D) (ci := 3) (v := .int 1) (ty := .int) (C := RX3) (T := TX3) (N := 3) hx hb hts in_X3 tyX3 tyX3_ok nmX3 hown hK hP hD hS 0 rfl rfl 2 (by decide) (hts (.fieldLink RX3 21 "PaneDays$Law" "length" "I") (by decide +kernel)) (fun _ h9 => h9) rfl (by decide +kernel) rfl rfl (Nat.le_of_ble_eq_true rfl) dX3_forget_9 (fun H locs (hP : va_P D vwCl (W_X3_forget cs a0 p0 (1) (upd v0_0 (0 : Int32).toNatClampNeg 1) v0_1) H) (hD : va_D _ (W_X3_forget cs a0 p0 (1) (upd v0_0 (0 : Int32).toNatClampNeg 1) v0_1)) hS => ?_)
  obtain rfl := Option.some.inj hf
  exact ow_retV C0 hP hD hS dX3_forget_12

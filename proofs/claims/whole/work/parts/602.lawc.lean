set_option maxHeartbeats 4000000 in
set_option maxRecDepth 100000 in
theorem lc_0 {p : Program} {l : Launch} {e : Env} {s : State} {m : MethodId} {av : Array Value} {below : List Frame} {meth : Method} {c : Code} {D : va_G} {cs : Nat → ClassId} {cells slots : Nat} {Q : State → Prop} (C0 : Cx p s m meth c av lw_tbl code 7 (some .boolean) RL D cs []) (hN : gN s) (hC : gC s) {b L : Nat} {xs : Nat → Int32} (hX : va_X b L xs s s.heap) (hbl : b < s.heap.size) {x mo o : Nat} (i : Int32) (h1 : vp_in (i + 1) L) (h2 : vp_in (i + 2) L) (h3 : vp_in (i + 3) L) (h4 : vp_in (i + 4) L) (h5 : vp_in (i + 5) L) {S : Type} (w rw rw1 : va_W) (v : Nat → Int64) (fs fs2 fs3 : List Value) (hw0 : w[0]? = some (x, .inr (10, fs))) (hr0 : rw[0]? = some (mo, .inr (11, fs2))) (hr1 : rw1[0]? = some (mo, .inr (11, fs3))) (ok : S → Prop) (w' : S → va_W) (K : Nat) (r b1 th : Int32) (rmY : Room) (mc1 ms1 : Nat) (hc : rmY.cells = mc1) (hs : rmY.slots = ms1) (hf : rmY.frames ≤ 95) (hlo : rmY.locals ≤ 2300) (hrm : cells + mc1 ≤ room_1.cells ∧ slots + ms1 ≤ room_1.slots) (hM : ∀ sz, MJ l D cs yX10_feed wsX10_feed rmY [.ref x, .int (xs (i + 1).toNatClampNeg), .int (xs (i + 2).toNatClampNeg), .int (xs (i + 3).toNatClampNeg), .int (xs (i + 4).toNatClampNeg), .int (xs (i + 5).toNatClampNeg)] sz w ok w' r mc1 ms1) (heq : r = b1) (hR : ∀ sz, MI l D cs yX11_feed wsX11_feed rm_X11_feed [.ref mo, .int (xs (i + 1).toNatClampNeg), .int (xs (i + 2).toNatClampNeg), .int (xs (i + 3).toNatClampNeg), .int (xs (i + 4).toNatClampNeg), .int (xs (i + 5).toNatClampNeg)] sz rw rw1 b1) (H : Heap) (locs : List Loc) (ls : Array Slot) (hP : va_P D vwCl [w, rw, [oCell cs o v]].flatten H) (hD : va_D (va_A [] s.heap.size) [w, rw, [oCell cs o v]].flatten) (hS : va_S (va_A [] s.heap.size) s.heap H locs) (hl : lv_has ls 7 [(0, .ref b), (1, .ref x), (2, .ref mo), (3, .ref o), (4, .int i)]) (kk : ∀ (u : S) (v' : Nat → Int64) (H : Heap) (locs : List Loc) (ls : Array Slot), ok u → va_P D vwCl [w' u, rw1, [oCell cs o v']].flatten H → va_D (va_A [] s.heap.size) [w' u, rw1, [oCell cs o v']].flatten → va_S (va_A [] s.heap.size) s.heap H locs → lv_has ls 7 [(0, .ref b), (1, .ref x), (2, .ref mo), (3, .ref o), (4, .int i)] → W p l e room_1 s m av below meth c H locs (cells + mc1) (slots + ms1) Q (F0 m 2733 ls [])) : W p l e room_1 s m av below meth c H locs cells slots Q (F0 m 220 ls []) := by
  obtain ⟨hx, hb, hr, hlk, hml, hown, hts, hK0, hG, hE⟩ := id C0
  refine lv_aload_n hx hb dL_law__220 rfl (lv_at hl 1 rfl) ?_
  refine lv_aload_n hx hb dL_law__221 rfl (lv_at hl 0 rfl) ?_
  refine lv_iload hx hb dL_law__222 (lv_at hl 4 rfl) ?_
  refine lv_iconst (v := 1) hx hb dL_law__224 (by decide) ?_
  refine lv_iadd hx hb dL_law__225 ?_
  refine ow_scr C0 hX hbl hS h1 dL_law__226 ?_
  refine lv_aload_n hx hb dL_law__227 rfl (lv_at hl 0 rfl) ?_
  refine lv_iload hx hb dL_law__228 (lv_at hl 4 rfl) ?_
  refine lv_iconst (v := 2) hx hb dL_law__230 (by decide) ?_
  refine lv_iadd hx hb dL_law__231 ?_
  refine ow_scr C0 hX hbl hS h2 dL_law__232 ?_
  refine lv_aload_n hx hb dL_law__233 rfl (lv_at hl 0 rfl) ?_
  refine lv_iload hx hb dL_law__234 (lv_at hl 4 rfl) ?_
  refine lv_iconst (v := 3) hx hb dL_law__236 (by decide) ?_
  refine lv_iadd hx hb dL_law__237 ?_
  refine ow_scr C0 hX hbl hS h3 dL_law__238 ?_
  refine lv_aload_n hx hb dL_law__239 rfl (lv_at hl 0 rfl) ?_
  refine lv_iload hx hb dL_law__240 (lv_at hl 4 rfl) ?_
  refine lv_iconst (v := 4) hx hb dL_law__242 (by decide) ?_
  refine lv_iadd hx hb dL_law__243 ?_
  refine ow_scr C0 hX hbl hS h4 dL_law__244 ?_
  refine lv_aload_n hx hb dL_law__245 rfl (lv_at hl 0 rfl) ?_
  refine lv_iload hx hb dL_law__246 (lv_at hl 4 rfl) ?_
  refine lv_iconst (v := 5) hx hb dL_law__248 (by decide) ?_
  refine lv_iadd hx hb dL_law__249 ?_
  refine ow_scr C0 hX hbl hS h5 dL_law__250 ?_
  refine ow_lJ (As := [.int (xs (i + 1).toNatClampNeg), .int (xs (i + 2).toNatClampNeg), .int (xs (i + 3).toNatClampNeg), .int (xs (i + 4).toNatClampNeg), .int (xs (i + 5).toNatClampNeg)]) (rest := []) C0 hN (hM H.size) (cwV 5 hts gLV_122 rfl hc hs (by decide +kernel) ⟨by show rmY.frames + 1 ≤ 2048; omega, by show 8 + (_ + 11) + rmY.locals ≤ 84000; omega⟩) 10 rfl hw0 hP hD hS rfl hl.1 rfl (Nat.le_of_ble_eq_true rfl) hrm dL_law__251 (fun u H locs hok hP hD hS => ?_)
  refine lv_aload_n hx hb dL_law__254 rfl (lv_at hl 2 rfl) ?_
  refine lv_aload_n hx hb dL_law__255 rfl (lv_at hl 0 rfl) ?_
  refine lv_iload hx hb dL_law__256 (lv_at hl 4 rfl) ?_
  refine lv_iconst (v := 1) hx hb dL_law__258 (by decide) ?_
  refine lv_iadd hx hb dL_law__259 ?_
  refine ow_scr C0 hX hbl hS h1 dL_law__260 ?_
  refine lv_aload_n hx hb dL_law__261 rfl (lv_at hl 0 rfl) ?_
  refine lv_iload hx hb dL_law__262 (lv_at hl 4 rfl) ?_
  refine lv_iconst (v := 2) hx hb dL_law__264 (by decide) ?_
  refine lv_iadd hx hb dL_law__265 ?_
  refine ow_scr C0 hX hbl hS h2 dL_law__266 ?_
  refine lv_aload_n hx hb dL_law__267 rfl (lv_at hl 0 rfl) ?_
  refine lv_iload hx hb dL_law__268 (lv_at hl 4 rfl) ?_
  refine lv_iconst (v := 3) hx hb dL_law__270 (by decide) ?_
  refine lv_iadd hx hb dL_law__271 ?_
  refine ow_scr C0 hX hbl hS h3 dL_law__272 ?_
  refine lv_aload_n hx hb dL_law__273 rfl (lv_at hl 0 rfl) ?_
  refine lv_iload hx hb dL_law__274 (lv_at hl 4 rfl) ?_
  refine lv_iconst (v := 4) hx hb dL_law__276 (by decide) ?_
  refine lv_iadd hx hb dL_law__277 ?_
  refine ow_scr C0 hX hbl hS h4 dL_law__278 ?_
  refine lv_aload_n hx hb dL_law__279 rfl (lv_at hl 0 rfl) ?_
  refine lv_iload hx hb dL_law__280 (lv_at hl 4 rfl) ?_
  refine lv_iconst (v := 5) hx hb dL_law__282 (by decide) ?_
  refine lv_iadd hx hb dL_law__283 ?_
  refine ow_scr C0 hX hbl hS h5 dL_law__284 ?_
  refine ow_lR (As := [.int (xs (i + 1).toNatClampNeg), .int (xs (i + 2).toNatClampNeg), .int (xs (i + 3).toNatClampNeg), .int (xs (i + 4).toNatClampNeg), .int (xs (i + 5).toNatClampNeg)]) (rest := [.int r]) C0 (hR H.size) (cwV 5 hts gLV_126 rfl rfl rfl (by decide +kernel) ⟨(Nat.le_of_ble_eq_true rfl), (Nat.le_of_ble_eq_true rfl)⟩) 11 rfl hr0 hP hD hS rfl hl.1 rfl (Nat.le_of_ble_eq_true rfl) hrm dL_law__285 (fun H locs hP hD hS => ?_)
  refine lv_icmp_eq (tgt := 2733) hx hb dL_law__288 (by decide) (fun hc => ?_) (fun hc => absurd heq hc)
  exact kk u v H locs ls hok hP hD hS (lv_sub hl [0, 1, 2, 3, 4] rfl)
set_option maxHeartbeats 4000000 in
set_option maxRecDepth 100000 in
theorem lc_1 {p : Program} {l : Launch} {e : Env} {s : State} {m : MethodId} {av : Array Value} {below : List Frame} {meth : Method} {c : Code} {D : va_G} {cs : Nat → ClassId} {cells slots : Nat} {Q : State → Prop} (C0 : Cx p s m meth c av lw_tbl code 7 (some .boolean) RL D cs []) (hN : gN s) (hC : gC s) {b L : Nat} {xs : Nat → Int32} (hX : va_X b L xs s s.heap) (hbl : b < s.heap.size) {x mo o : Nat} (i : Int32) (h1 : vp_in (i + 1) L) {S : Type} (w rw rw1 : va_W) (v : Nat → Int64) (fs fs2 fs3 : List Value) (hw0 : w[0]? = some (x, .inr (10, fs))) (hr0 : rw[0]? = some (mo, .inr (11, fs2))) (hr1 : rw1[0]? = some (mo, .inr (11, fs3))) (ok : S → Prop) (w' : S → va_W) (K : Nat) (r b1 th : Int32) (rmY : Room) (mc1 ms1 : Nat) (hc : rmY.cells = mc1) (hs : rmY.slots = ms1) (hf : rmY.frames ≤ 95) (hlo : rmY.locals ≤ 2300) (hrm : cells + mc1 ≤ room_1.cells ∧ slots + ms1 ≤ room_1.slots) (hK : K = 0 ∨ K = 1) (hM : ∀ sz, XS l D cs yX10_street wsX10_street rmY [.ref x, .int (xs (i + 1).toNatClampNeg)] sz w ok w' K r mc1 ms1) (hT : ∀ sz, MI l D cs yX11_thrown wsX11_thrown rm_X11_thrown [.ref mo] sz rw1 rw1 th) (hth : th = (if K = 1 then 1 else 0 : Int32)) (hv : K = 0 → r = b1) (hR : ∀ sz, MI l D cs yX11_street wsX11_street rm_X11_street [.ref mo, .int (xs (i + 1).toNatClampNeg)] sz rw rw1 b1) (H : Heap) (locs : List Loc) (ls : Array Slot) (hP : va_P D vwCl [w, rw, [oCell cs o v]].flatten H) (hD : va_D (va_A [] s.heap.size) [w, rw, [oCell cs o v]].flatten) (hS : va_S (va_A [] s.heap.size) s.heap H locs) (hl : lv_has ls 7 [(0, .ref b), (1, .ref x), (2, .ref mo), (3, .ref o), (4, .int i)]) (kk : ∀ (u : S) (v' : Nat → Int64) (H : Heap) (locs : List Loc) (ls : Array Slot), ok u → va_P D vwCl [w' u, rw1, [oCell cs o v']].flatten H → va_D (va_A [] s.heap.size) [w' u, rw1, [oCell cs o v']].flatten → va_S (va_A [] s.heap.size) s.heap H locs → lv_has ls 7 [(0, .ref b), (1, .ref x), (2, .ref mo), (3, .ref o), (4, .int i)] → W p l e room_1 s m av below meth c H locs (cells + mc1) (slots + ms1) Q (F0 m 2733 ls [])) : W p l e room_1 s m av below meth c H locs cells slots Q (F0 m 293 ls []) := by
  obtain ⟨hx, hb, hr, hlk, hml, hown, hts, hK0, hG, hE⟩ := id C0
  refine lv_aload_n hx hb dL_law__293 rfl (lv_at hl 1 rfl) ?_
  refine lv_aload_n hx hb dL_law__294 rfl (lv_at hl 0 rfl) ?_
  refine lv_iload hx hb dL_law__295 (lv_at hl 4 rfl) ?_
  refine lv_iconst (v := 1) hx hb dL_law__297 (by decide) ?_
  refine lv_iadd hx hb dL_law__298 ?_
  refine ow_scr C0 hX hbl hS h1 dL_law__299 ?_
  refine lv_aload_n hx hb dL_law__300 rfl (lv_at hl 3 rfl) ?_
  refine ow_lW (As := [.ref x, .int (xs (i + 1).toNatClampNeg), .ref o]) (rest := []) (r := (if K = 1 then 1 else 0 : Int32)) C0 hN hC (c_L_street l D cs H.size x o ((xs (i + 1).toNatClampNeg)) v w fs hw0 ok w' K r rmY mc1 ms1 hc hs hf hlo hK hM) (vx_cwSW 3 hts gLS_127 rfl rfl rfl (by decide +kernel) ⟨(Nat.le_of_ble_eq_true rfl), (Nat.le_of_ble_eq_true rfl)⟩) hP hD hS rfl hl.1 rfl (Nat.le_of_ble_eq_true rfl) hrm dL_law__301 (fun u H locs hok hP hD hS => ?_)
  replace hP := sg_Pp pm_o hP
  replace hD := sg_Dp pm_o hD
  refine lv_istore (lv' := [(5, .int (if K = 1 then 1 else 0 : Int32)), (0, .ref b), (1, .ref x), (2, .ref mo), (3, .ref o), (4, .int i)]) hx hb dL_law__304 hl (by decide) rfl (fun ls hl => ?_)
  refine lv_aload_n hx hb dL_law__306 rfl (lv_at hl 3 rfl) ?_
  refine lv_aload_n hx hb dL_law__307 rfl (lv_at hl 1 rfl) ?_
  refine lv_iload hx hb dL_law__308 (lv_at hl 5 rfl) ?_
  refine lv_iconst (v := 1) hx hb dL_law__310 (by decide) ?_
  refine lv_iadd hx hb dL_law__311 ?_
  refine ow_scr C0 hX hbl hS h1 dL_law__312 ?_
  refine ow_lR (As := [.int (xs (i + 1).toNatClampNeg)]) (rest := []) C0 (hR H.size) (cwV 1 hts gLV_132 rfl rfl rfl (by decide +kernel) ⟨(Nat.le_of_ble_eq_true rfl), (Nat.le_of_ble_eq_true rfl)⟩) 11 rfl hr0 hP hD hS rfl hl.1 rfl (Nat.le_of_ble_eq_true rfl) hrm dL_law__313 (fun H locs hP hD hS => ?_)
  refine lv_istore (lv' := [(6, .int b1), (5, .int (if K = 1 then 1 else 0 : Int32)), (0, .ref b), (1, .ref x), (2, .ref mo), (3, .ref o), (4, .int i)]) hx hb dL_law__316 hl (by decide) rfl (fun ls hl => ?_)
  refine lv_aload_n hx hb dL_law__318 rfl (lv_at hl 4 rfl) ?_
  refine ow_lR (As := []) (rest := []) C0 (hT H.size) (cwV 0 hts gLV_133 rfl rfl rfl (by decide +kernel) ⟨(Nat.le_of_ble_eq_true rfl), (Nat.le_of_ble_eq_true rfl)⟩) 11 rfl hr1 hP hD hS rfl hl.1 rfl (Nat.le_of_ble_eq_true rfl) hrm dL_law__319 (fun H locs hP hD hS => ?_)
  refine lv_iload hx hb dL_law__322 (lv_at hl 1 rfl) ?_
  refine lv_icmp_eq (tgt := 329) hx hb dL_law__324 (by decide) (fun hc => ?_) (fun hc => absurd hth hc)
  refine lv_iload hx hb dL_law__329 (lv_at hl 1 rfl) ?_
  refine lv_if_ne (tgt := 346) hx hb dL_law__331 (by decide) (fun hc => ?_) (fun hc => ?_)
  · refine lv_goto (tgt := 2733) hx hb dL_law__346 (by decide) ?_
    exact kk u _ H locs ls hok hP hD hS (lv_sub hl [2, 3, 4, 5, 6] rfl)
  · rcases hK with rfl | rfl
    · have hv0 := hv rfl
      subst hv0
      refine lv_aload_n hx hb dL_law__334 rfl (lv_at hl 5 rfl) ?_
      refine lv_iconst (v := 0) hx hb dL_law__335 (by decide) ?_
      refine va_lald hx hb hK0 hP _ 2 (out_at cs o _ _ _) rfl (vp_in_nI (n := 0) (by decide) (by decide)) dL_law__336 ?_
      have ev : (if (0 : Nat) = 0 then vp_updL v (0 : Int32).toNatClampNeg r.toInt64 else v) (0 : Int32).toNatClampNeg = r.toInt64 := by simp [vp_updL]
      rw [ev]
      refine lv_iload hx hb dL_law__337 (lv_at hl 0 rfl) ?_
      refine lv_i2l (v := r.toInt64) hx hb dL_law__339 rfl ?_
      refine W.lcmp hx hb dL_law__340 ?_
      rw [lg_eq]
      refine lv_if_eq (tgt := 346) hx hb dL_law__341 (by decide) (fun _ => ?_) (fun h => absurd rfl h)
      refine lv_goto (tgt := 2733) hx hb dL_law__346 (by decide) ?_
      exact kk u _ H locs ls hok hP hD hS (lv_sub hl [2, 3, 4, 5, 6] rfl)
    · exact absurd hc (by decide)
set_option maxHeartbeats 4000000 in
set_option maxRecDepth 100000 in
theorem lc_2 {p : Program} {l : Launch} {e : Env} {s : State} {m : MethodId} {av : Array Value} {below : List Frame} {meth : Method} {c : Code} {D : va_G} {cs : Nat → ClassId} {cells slots : Nat} {Q : State → Prop} (C0 : Cx p s m meth c av lw_tbl code 7 (some .boolean) RL D cs []) (hN : gN s) (hC : gC s) {b L : Nat} {xs : Nat → Int32} (hX : va_X b L xs s s.heap) (hbl : b < s.heap.size) {x mo o : Nat} (i : Int32) (h1 : vp_in (i + 1) L) {S : Type} (w rw rw1 : va_W) (v : Nat → Int64) (fs fs2 fs3 : List Value) (hw0 : w[0]? = some (x, .inr (10, fs))) (hr0 : rw[0]? = some (mo, .inr (11, fs2))) (hr1 : rw1[0]? = some (mo, .inr (11, fs3))) (ok : S → Prop) (w' : S → va_W) (K : Nat) (r b1 th : Int32) (rmY : Room) (mc1 ms1 : Nat) (hc : rmY.cells = mc1) (hs : rmY.slots = ms1) (hf : rmY.frames ≤ 95) (hlo : rmY.locals ≤ 2300) (hrm : cells + mc1 ≤ room_1.cells ∧ slots + ms1 ≤ room_1.slots) (hK : K = 0 ∨ K = 1) (hM : ∀ sz, XS l D cs yX10_law wsX10_law rmY [.ref x, .int (xs (i + 1).toNatClampNeg)] sz w ok w' K r mc1 ms1) (hT : ∀ sz, MI l D cs yX11_thrown wsX11_thrown rm_X11_thrown [.ref mo] sz rw1 rw1 th) (hth : th = (if K = 1 then 1 else 0 : Int32)) (hv : K = 0 → r = b1) (hR : ∀ sz, MI l D cs yX11_law wsX11_law rm_X11_law [.ref mo, .int (xs (i + 1).toNatClampNeg)] sz rw rw1 b1) (H : Heap) (locs : List Loc) (ls : Array Slot) (hP : va_P D vwCl [w, rw, [oCell cs o v]].flatten H) (hD : va_D (va_A [] s.heap.size) [w, rw, [oCell cs o v]].flatten) (hS : va_S (va_A [] s.heap.size) s.heap H locs) (hl : lv_has ls 7 [(0, .ref b), (1, .ref x), (2, .ref mo), (3, .ref o), (4, .int i)]) (kk : ∀ (u : S) (v' : Nat → Int64) (H : Heap) (locs : List Loc) (ls : Array Slot), ok u → va_P D vwCl [w' u, rw1, [oCell cs o v']].flatten H → va_D (va_A [] s.heap.size) [w' u, rw1, [oCell cs o v']].flatten → va_S (va_A [] s.heap.size) s.heap H locs → lv_has ls 7 [(0, .ref b), (1, .ref x), (2, .ref mo), (3, .ref o), (4, .int i)] → W p l e room_1 s m av below meth c H locs (cells + mc1) (slots + ms1) Q (F0 m 2733 ls [])) : W p l e room_1 s m av below meth c H locs cells slots Q (F0 m 349 ls []) := by
  obtain ⟨hx, hb, hr, hlk, hml, hown, hts, hK0, hG, hE⟩ := id C0
  refine lv_aload_n hx hb dL_law__349 rfl (lv_at hl 1 rfl) ?_
  refine lv_aload_n hx hb dL_law__350 rfl (lv_at hl 0 rfl) ?_
  refine lv_iload hx hb dL_law__351 (lv_at hl 4 rfl) ?_
  refine lv_iconst (v := 1) hx hb dL_law__353 (by decide) ?_
  refine lv_iadd hx hb dL_law__354 ?_
  refine ow_scr C0 hX hbl hS h1 dL_law__355 ?_
  refine lv_aload_n hx hb dL_law__356 rfl (lv_at hl 3 rfl) ?_
  refine ow_lW (As := [.ref x, .int (xs (i + 1).toNatClampNeg), .ref o]) (rest := []) (r := (if K = 1 then 1 else 0 : Int32)) C0 hN hC (c_L_law l D cs H.size x o ((xs (i + 1).toNatClampNeg)) v w fs hw0 ok w' K r rmY mc1 ms1 hc hs hf hlo hK hM) (vx_cwSW 3 hts gLS_137 rfl rfl rfl (by decide +kernel) ⟨(Nat.le_of_ble_eq_true rfl), (Nat.le_of_ble_eq_true rfl)⟩) hP hD hS rfl hl.1 rfl (Nat.le_of_ble_eq_true rfl) hrm dL_law__357 (fun u H locs hok hP hD hS => ?_)
  replace hP := sg_Pp pm_o hP
  replace hD := sg_Dp pm_o hD
  refine lv_istore (lv' := [(5, .int (if K = 1 then 1 else 0 : Int32)), (0, .ref b), (1, .ref x), (2, .ref mo), (3, .ref o), (4, .int i)]) hx hb dL_law__360 hl (by decide) rfl (fun ls hl => ?_)
  refine lv_aload_n hx hb dL_law__362 rfl (lv_at hl 3 rfl) ?_
  refine lv_aload_n hx hb dL_law__363 rfl (lv_at hl 1 rfl) ?_
  refine lv_iload hx hb dL_law__364 (lv_at hl 5 rfl) ?_
  refine lv_iconst (v := 1) hx hb dL_law__366 (by decide) ?_
  refine lv_iadd hx hb dL_law__367 ?_
  refine ow_scr C0 hX hbl hS h1 dL_law__368 ?_
  refine ow_lR (As := [.int (xs (i + 1).toNatClampNeg)]) (rest := []) C0 (hR H.size) (cwV 1 hts gLV_139 rfl rfl rfl (by decide +kernel) ⟨(Nat.le_of_ble_eq_true rfl), (Nat.le_of_ble_eq_true rfl)⟩) 11 rfl hr0 hP hD hS rfl hl.1 rfl (Nat.le_of_ble_eq_true rfl) hrm dL_law__369 (fun H locs hP hD hS => ?_)
  refine lv_istore (lv' := [(6, .int b1), (5, .int (if K = 1 then 1 else 0 : Int32)), (0, .ref b), (1, .ref x), (2, .ref mo), (3, .ref o), (4, .int i)]) hx hb dL_law__372 hl (by decide) rfl (fun ls hl => ?_)
  refine lv_aload_n hx hb dL_law__374 rfl (lv_at hl 4 rfl) ?_
  refine ow_lR (As := []) (rest := []) C0 (hT H.size) (cwV 0 hts gLV_133 rfl rfl rfl (by decide +kernel) ⟨(Nat.le_of_ble_eq_true rfl), (Nat.le_of_ble_eq_true rfl)⟩) 11 rfl hr1 hP hD hS rfl hl.1 rfl (Nat.le_of_ble_eq_true rfl) hrm dL_law__375 (fun H locs hP hD hS => ?_)
  refine lv_iload hx hb dL_law__378 (lv_at hl 1 rfl) ?_
  refine lv_icmp_eq (tgt := 385) hx hb dL_law__380 (by decide) (fun hc => ?_) (fun hc => absurd hth hc)
  refine lv_iload hx hb dL_law__385 (lv_at hl 1 rfl) ?_
  refine lv_if_ne (tgt := 402) hx hb dL_law__387 (by decide) (fun hc => ?_) (fun hc => ?_)
  · refine lv_goto (tgt := 2733) hx hb dL_law__402 (by decide) ?_
    exact kk u _ H locs ls hok hP hD hS (lv_sub hl [2, 3, 4, 5, 6] rfl)
  · rcases hK with rfl | rfl
    · have hv0 := hv rfl
      subst hv0
      refine lv_aload_n hx hb dL_law__390 rfl (lv_at hl 5 rfl) ?_
      refine lv_iconst (v := 0) hx hb dL_law__391 (by decide) ?_
      refine va_lald hx hb hK0 hP _ 2 (out_at cs o _ _ _) rfl (vp_in_nI (n := 0) (by decide) (by decide)) dL_law__392 ?_
      have ev : (if (0 : Nat) = 0 then vp_updL v (0 : Int32).toNatClampNeg r.toInt64 else v) (0 : Int32).toNatClampNeg = r.toInt64 := by simp [vp_updL]
      rw [ev]
      refine lv_iload hx hb dL_law__393 (lv_at hl 0 rfl) ?_
      refine lv_i2l (v := r.toInt64) hx hb dL_law__395 rfl ?_
      refine W.lcmp hx hb dL_law__396 ?_
      rw [lg_eq]
      refine lv_if_eq (tgt := 402) hx hb dL_law__397 (by decide) (fun _ => ?_) (fun h => absurd rfl h)
      refine lv_goto (tgt := 2733) hx hb dL_law__402 (by decide) ?_
      exact kk u _ H locs ls hok hP hD hS (lv_sub hl [2, 3, 4, 5, 6] rfl)
    · exact absurd hc (by decide)
set_option maxHeartbeats 4000000 in
set_option maxRecDepth 100000 in
theorem lc_3 {p : Program} {l : Launch} {e : Env} {s : State} {m : MethodId} {av : Array Value} {below : List Frame} {meth : Method} {c : Code} {D : va_G} {cs : Nat → ClassId} {cells slots : Nat} {Q : State → Prop} (C0 : Cx p s m meth c av lw_tbl code 7 (some .boolean) RL D cs []) (hN : gN s) (hC : gC s) {b L : Nat} {xs : Nat → Int32} (hX : va_X b L xs s s.heap) (hbl : b < s.heap.size) {x mo o : Nat} (i : Int32) (h1 : vp_in (i + 1) L) {S : Type} (w rw rw1 : va_W) (v : Nat → Int64) (fs fs2 fs3 : List Value) (hw0 : w[0]? = some (x, .inr (10, fs))) (hr0 : rw[0]? = some (mo, .inr (11, fs2))) (hr1 : rw1[0]? = some (mo, .inr (11, fs3))) (ok : S → Prop) (w' : S → va_W) (K : Nat) (r b1 th : Int32) (rmY : Room) (mc1 ms1 : Nat) (hc : rmY.cells = mc1) (hs : rmY.slots = ms1) (hf : rmY.frames ≤ 95) (hlo : rmY.locals ≤ 2300) (hrm : cells + mc1 ≤ room_1.cells ∧ slots + ms1 ≤ room_1.slots) (hK : K = 0 ∨ K = 1) (hM : ∀ sz, XS l D cs yX10_work wsX10_work rmY [.ref x, .int (xs (i + 1).toNatClampNeg)] sz w ok w' K r mc1 ms1) (hT : ∀ sz, MI l D cs yX11_thrown wsX11_thrown rm_X11_thrown [.ref mo] sz rw1 rw1 th) (hth : th = (if K = 1 then 1 else 0 : Int32)) (hv : K = 0 → r = b1) (hR : ∀ sz, MI l D cs yX11_work wsX11_work rm_X11_work [.ref mo, .int (xs (i + 1).toNatClampNeg)] sz rw rw1 b1) (H : Heap) (locs : List Loc) (ls : Array Slot) (hP : va_P D vwCl [w, rw, [oCell cs o v]].flatten H) (hD : va_D (va_A [] s.heap.size) [w, rw, [oCell cs o v]].flatten) (hS : va_S (va_A [] s.heap.size) s.heap H locs) (hl : lv_has ls 7 [(0, .ref b), (1, .ref x), (2, .ref mo), (3, .ref o), (4, .int i)]) (kk : ∀ (u : S) (v' : Nat → Int64) (H : Heap) (locs : List Loc) (ls : Array Slot), ok u → va_P D vwCl [w' u, rw1, [oCell cs o v']].flatten H → va_D (va_A [] s.heap.size) [w' u, rw1, [oCell cs o v']].flatten → va_S (va_A [] s.heap.size) s.heap H locs → lv_has ls 7 [(0, .ref b), (1, .ref x), (2, .ref mo), (3, .ref o), (4, .int i)] → W p l e room_1 s m av below meth c H locs (cells + mc1) (slots + ms1) Q (F0 m 2733 ls [])) : W p l e room_1 s m av below meth c H locs cells slots Q (F0 m 405 ls []) := by
  obtain ⟨hx, hb, hr, hlk, hml, hown, hts, hK0, hG, hE⟩ := id C0
  refine lv_aload_n hx hb dL_law__405 rfl (lv_at hl 1 rfl) ?_
  refine lv_aload_n hx hb dL_law__406 rfl (lv_at hl 0 rfl) ?_
  refine lv_iload hx hb dL_law__407 (lv_at hl 4 rfl) ?_
  refine lv_iconst (v := 1) hx hb dL_law__409 (by decide) ?_
  refine lv_iadd hx hb dL_law__410 ?_
  refine ow_scr C0 hX hbl hS h1 dL_law__411 ?_
  refine lv_aload_n hx hb dL_law__412 rfl (lv_at hl 3 rfl) ?_
  refine ow_lW (As := [.ref x, .int (xs (i + 1).toNatClampNeg), .ref o]) (rest := []) (r := (if K = 1 then 1 else 0 : Int32)) C0 hN hC (c_L_work l D cs H.size x o ((xs (i + 1).toNatClampNeg)) v w fs hw0 ok w' K r rmY mc1 ms1 hc hs hf hlo hK hM) (vx_cwSW 3 hts gLS_140 rfl rfl rfl (by decide +kernel) ⟨(Nat.le_of_ble_eq_true rfl), (Nat.le_of_ble_eq_true rfl)⟩) hP hD hS rfl hl.1 rfl (Nat.le_of_ble_eq_true rfl) hrm dL_law__413 (fun u H locs hok hP hD hS => ?_)
  replace hP := sg_Pp pm_o hP
  replace hD := sg_Dp pm_o hD
  refine lv_istore (lv' := [(5, .int (if K = 1 then 1 else 0 : Int32)), (0, .ref b), (1, .ref x), (2, .ref mo), (3, .ref o), (4, .int i)]) hx hb dL_law__416 hl (by decide) rfl (fun ls hl => ?_)
  refine lv_aload_n hx hb dL_law__418 rfl (lv_at hl 3 rfl) ?_
  refine lv_aload_n hx hb dL_law__419 rfl (lv_at hl 1 rfl) ?_
  refine lv_iload hx hb dL_law__420 (lv_at hl 5 rfl) ?_
  refine lv_iconst (v := 1) hx hb dL_law__422 (by decide) ?_
  refine lv_iadd hx hb dL_law__423 ?_
  refine ow_scr C0 hX hbl hS h1 dL_law__424 ?_
  refine ow_lR (As := [.int (xs (i + 1).toNatClampNeg)]) (rest := []) C0 (hR H.size) (cwV 1 hts gLV_142 rfl rfl rfl (by decide +kernel) ⟨(Nat.le_of_ble_eq_true rfl), (Nat.le_of_ble_eq_true rfl)⟩) 11 rfl hr0 hP hD hS rfl hl.1 rfl (Nat.le_of_ble_eq_true rfl) hrm dL_law__425 (fun H locs hP hD hS => ?_)
  refine lv_istore (lv' := [(6, .int b1), (5, .int (if K = 1 then 1 else 0 : Int32)), (0, .ref b), (1, .ref x), (2, .ref mo), (3, .ref o), (4, .int i)]) hx hb dL_law__428 hl (by decide) rfl (fun ls hl => ?_)
  refine lv_aload_n hx hb dL_law__430 rfl (lv_at hl 4 rfl) ?_
  refine ow_lR (As := []) (rest := []) C0 (hT H.size) (cwV 0 hts gLV_133 rfl rfl rfl (by decide +kernel) ⟨(Nat.le_of_ble_eq_true rfl), (Nat.le_of_ble_eq_true rfl)⟩) 11 rfl hr1 hP hD hS rfl hl.1 rfl (Nat.le_of_ble_eq_true rfl) hrm dL_law__431 (fun H locs hP hD hS => ?_)
  refine lv_iload hx hb dL_law__434 (lv_at hl 1 rfl) ?_
  refine lv_icmp_eq (tgt := 441) hx hb dL_law__436 (by decide) (fun hc => ?_) (fun hc => absurd hth hc)
  refine lv_iload hx hb dL_law__441 (lv_at hl 1 rfl) ?_
  refine lv_if_ne (tgt := 458) hx hb dL_law__443 (by decide) (fun hc => ?_) (fun hc => ?_)
  · refine lv_goto (tgt := 2733) hx hb dL_law__458 (by decide) ?_
    exact kk u _ H locs ls hok hP hD hS (lv_sub hl [2, 3, 4, 5, 6] rfl)
  · rcases hK with rfl | rfl
    · have hv0 := hv rfl
      subst hv0
      refine lv_aload_n hx hb dL_law__446 rfl (lv_at hl 5 rfl) ?_
      refine lv_iconst (v := 0) hx hb dL_law__447 (by decide) ?_
      refine va_lald hx hb hK0 hP _ 2 (out_at cs o _ _ _) rfl (vp_in_nI (n := 0) (by decide) (by decide)) dL_law__448 ?_
      have ev : (if (0 : Nat) = 0 then vp_updL v (0 : Int32).toNatClampNeg r.toInt64 else v) (0 : Int32).toNatClampNeg = r.toInt64 := by simp [vp_updL]
      rw [ev]
      refine lv_iload hx hb dL_law__449 (lv_at hl 0 rfl) ?_
      refine lv_i2l (v := r.toInt64) hx hb dL_law__451 rfl ?_
      refine W.lcmp hx hb dL_law__452 ?_
      rw [lg_eq]
      refine lv_if_eq (tgt := 458) hx hb dL_law__453 (by decide) (fun _ => ?_) (fun h => absurd rfl h)
      refine lv_goto (tgt := 2733) hx hb dL_law__458 (by decide) ?_
      exact kk u _ H locs ls hok hP hD hS (lv_sub hl [2, 3, 4, 5, 6] rfl)
    · exact absurd hc (by decide)
set_option maxHeartbeats 4000000 in
set_option maxRecDepth 100000 in
theorem lc_4 {p : Program} {l : Launch} {e : Env} {s : State} {m : MethodId} {av : Array Value} {below : List Frame} {meth : Method} {c : Code} {D : va_G} {cs : Nat → ClassId} {cells slots : Nat} {Q : State → Prop} (C0 : Cx p s m meth c av lw_tbl code 7 (some .boolean) RL D cs []) (hN : gN s) (hC : gC s) {b L : Nat} {xs : Nat → Int32} (hX : va_X b L xs s s.heap) (hbl : b < s.heap.size) {x mo o : Nat} (i : Int32) (h1 : vp_in (i + 1) L) {S : Type} (w rw rw1 : va_W) (v : Nat → Int64) (fs fs2 fs3 : List Value) (hw0 : w[0]? = some (x, .inr (10, fs))) (hr0 : rw[0]? = some (mo, .inr (11, fs2))) (hr1 : rw1[0]? = some (mo, .inr (11, fs3))) (ok : S → Prop) (w' : S → va_W) (K : Nat) (r b1 th : Int32) (rmY : Room) (mc1 ms1 : Nat) (hc : rmY.cells = mc1) (hs : rmY.slots = ms1) (hf : rmY.frames ≤ 95) (hlo : rmY.locals ≤ 2300) (hrm : cells + mc1 ≤ room_1.cells ∧ slots + ms1 ≤ room_1.slots) (hK : K = 0 ∨ K = 1) (hM : ∀ sz, XS l D cs yX10_book wsX10_book rmY [.ref x, .int (xs (i + 1).toNatClampNeg)] sz w ok w' K r mc1 ms1) (hT : ∀ sz, MI l D cs yX11_thrown wsX11_thrown rm_X11_thrown [.ref mo] sz rw1 rw1 th) (hth : th = (if K = 1 then 1 else 0 : Int32)) (hv : K = 0 → r = b1) (hR : ∀ sz, MI l D cs yX11_book wsX11_book rm_X11_book [.ref mo, .int (xs (i + 1).toNatClampNeg)] sz rw rw1 b1) (H : Heap) (locs : List Loc) (ls : Array Slot) (hP : va_P D vwCl [w, rw, [oCell cs o v]].flatten H) (hD : va_D (va_A [] s.heap.size) [w, rw, [oCell cs o v]].flatten) (hS : va_S (va_A [] s.heap.size) s.heap H locs) (hl : lv_has ls 7 [(0, .ref b), (1, .ref x), (2, .ref mo), (3, .ref o), (4, .int i)]) (kk : ∀ (u : S) (v' : Nat → Int64) (H : Heap) (locs : List Loc) (ls : Array Slot), ok u → va_P D vwCl [w' u, rw1, [oCell cs o v']].flatten H → va_D (va_A [] s.heap.size) [w' u, rw1, [oCell cs o v']].flatten → va_S (va_A [] s.heap.size) s.heap H locs → lv_has ls 7 [(0, .ref b), (1, .ref x), (2, .ref mo), (3, .ref o), (4, .int i)] → W p l e room_1 s m av below meth c H locs (cells + mc1) (slots + ms1) Q (F0 m 2733 ls [])) : W p l e room_1 s m av below meth c H locs cells slots Q (F0 m 461 ls []) := by
  obtain ⟨hx, hb, hr, hlk, hml, hown, hts, hK0, hG, hE⟩ := id C0
  refine lv_aload_n hx hb dL_law__461 rfl (lv_at hl 1 rfl) ?_
  refine lv_aload_n hx hb dL_law__462 rfl (lv_at hl 0 rfl) ?_
  refine lv_iload hx hb dL_law__463 (lv_at hl 4 rfl) ?_
  refine lv_iconst (v := 1) hx hb dL_law__465 (by decide) ?_
  refine lv_iadd hx hb dL_law__466 ?_
  refine ow_scr C0 hX hbl hS h1 dL_law__467 ?_
  refine lv_aload_n hx hb dL_law__468 rfl (lv_at hl 3 rfl) ?_
  refine ow_lW (As := [.ref x, .int (xs (i + 1).toNatClampNeg), .ref o]) (rest := []) (r := (if K = 1 then 1 else 0 : Int32)) C0 hN hC (c_L_book l D cs H.size x o ((xs (i + 1).toNatClampNeg)) v w fs hw0 ok w' K r rmY mc1 ms1 hc hs hf hlo hK hM) (vx_cwSW 3 hts gLS_143 rfl rfl rfl (by decide +kernel) ⟨(Nat.le_of_ble_eq_true rfl), (Nat.le_of_ble_eq_true rfl)⟩) hP hD hS rfl hl.1 rfl (Nat.le_of_ble_eq_true rfl) hrm dL_law__469 (fun u H locs hok hP hD hS => ?_)
  replace hP := sg_Pp pm_o hP
  replace hD := sg_Dp pm_o hD
  refine lv_istore (lv' := [(5, .int (if K = 1 then 1 else 0 : Int32)), (0, .ref b), (1, .ref x), (2, .ref mo), (3, .ref o), (4, .int i)]) hx hb dL_law__472 hl (by decide) rfl (fun ls hl => ?_)
  refine lv_aload_n hx hb dL_law__474 rfl (lv_at hl 3 rfl) ?_
  refine lv_aload_n hx hb dL_law__475 rfl (lv_at hl 1 rfl) ?_
  refine lv_iload hx hb dL_law__476 (lv_at hl 5 rfl) ?_
  refine lv_iconst (v := 1) hx hb dL_law__478 (by decide) ?_
  refine lv_iadd hx hb dL_law__479 ?_
  refine ow_scr C0 hX hbl hS h1 dL_law__480 ?_
  refine ow_lR (As := [.int (xs (i + 1).toNatClampNeg)]) (rest := []) C0 (hR H.size) (cwV 1 hts gLV_145 rfl rfl rfl (by decide +kernel) ⟨(Nat.le_of_ble_eq_true rfl), (Nat.le_of_ble_eq_true rfl)⟩) 11 rfl hr0 hP hD hS rfl hl.1 rfl (Nat.le_of_ble_eq_true rfl) hrm dL_law__481 (fun H locs hP hD hS => ?_)
  refine lv_istore (lv' := [(6, .int b1), (5, .int (if K = 1 then 1 else 0 : Int32)), (0, .ref b), (1, .ref x), (2, .ref mo), (3, .ref o), (4, .int i)]) hx hb dL_law__484 hl (by decide) rfl (fun ls hl => ?_)
  refine lv_aload_n hx hb dL_law__486 rfl (lv_at hl 4 rfl) ?_
  refine ow_lR (As := []) (rest := []) C0 (hT H.size) (cwV 0 hts gLV_133 rfl rfl rfl (by decide +kernel) ⟨(Nat.le_of_ble_eq_true rfl), (Nat.le_of_ble_eq_true rfl)⟩) 11 rfl hr1 hP hD hS rfl hl.1 rfl (Nat.le_of_ble_eq_true rfl) hrm dL_law__487 (fun H locs hP hD hS => ?_)
  refine lv_iload hx hb dL_law__490 (lv_at hl 1 rfl) ?_
  refine lv_icmp_eq (tgt := 497) hx hb dL_law__492 (by decide) (fun hc => ?_) (fun hc => absurd hth hc)
  refine lv_iload hx hb dL_law__497 (lv_at hl 1 rfl) ?_
  refine lv_if_ne (tgt := 514) hx hb dL_law__499 (by decide) (fun hc => ?_) (fun hc => ?_)
  · refine lv_goto (tgt := 2733) hx hb dL_law__514 (by decide) ?_
    exact kk u _ H locs ls hok hP hD hS (lv_sub hl [2, 3, 4, 5, 6] rfl)
  · rcases hK with rfl | rfl
    · have hv0 := hv rfl
      subst hv0
      refine lv_aload_n hx hb dL_law__502 rfl (lv_at hl 5 rfl) ?_
      refine lv_iconst (v := 0) hx hb dL_law__503 (by decide) ?_
      refine va_lald hx hb hK0 hP _ 2 (out_at cs o _ _ _) rfl (vp_in_nI (n := 0) (by decide) (by decide)) dL_law__504 ?_
      have ev : (if (0 : Nat) = 0 then vp_updL v (0 : Int32).toNatClampNeg r.toInt64 else v) (0 : Int32).toNatClampNeg = r.toInt64 := by simp [vp_updL]
      rw [ev]
      refine lv_iload hx hb dL_law__505 (lv_at hl 0 rfl) ?_
      refine lv_i2l (v := r.toInt64) hx hb dL_law__507 rfl ?_
      refine W.lcmp hx hb dL_law__508 ?_
      rw [lg_eq]
      refine lv_if_eq (tgt := 514) hx hb dL_law__509 (by decide) (fun _ => ?_) (fun h => absurd rfl h)
      refine lv_goto (tgt := 2733) hx hb dL_law__514 (by decide) ?_
      exact kk u _ H locs ls hok hP hD hS (lv_sub hl [2, 3, 4, 5, 6] rfl)
    · exact absurd hc (by decide)
set_option maxHeartbeats 4000000 in
set_option maxRecDepth 100000 in
theorem lc_5 {p : Program} {l : Launch} {e : Env} {s : State} {m : MethodId} {av : Array Value} {below : List Frame} {meth : Method} {c : Code} {D : va_G} {cs : Nat → ClassId} {cells slots : Nat} {Q : State → Prop} (C0 : Cx p s m meth c av lw_tbl code 7 (some .boolean) RL D cs []) (hN : gN s) (hC : gC s) {b L : Nat} {xs : Nat → Int32} (hX : va_X b L xs s s.heap) (hbl : b < s.heap.size) {x mo o : Nat} (i : Int32)  {S : Type} (w rw rw1 : va_W) (v : Nat → Int64) (fs fs2 fs3 : List Value) (hw0 : w[0]? = some (x, .inr (10, fs))) (hr0 : rw[0]? = some (mo, .inr (11, fs2))) (hr1 : rw1[0]? = some (mo, .inr (11, fs3))) (ok : S → Prop) (w' : S → va_W) (K : Nat) (r b1 th : Int32) (rmY : Room) (mc1 ms1 : Nat) (hc : rmY.cells = mc1) (hs : rmY.slots = ms1) (hf : rmY.frames ≤ 95) (hlo : rmY.locals ≤ 2300) (hrm : cells + mc1 ≤ room_1.cells ∧ slots + ms1 ≤ room_1.slots) (hM : ∀ sz, MJ l D cs yX10_fault wsX10_fault rmY [.ref x] sz w ok w' r mc1 ms1) (heq : r = b1) (hR : ∀ sz, MI l D cs yX11_fault wsX11_fault rm_X11_fault [.ref mo] sz rw rw1 b1) (H : Heap) (locs : List Loc) (ls : Array Slot) (hP : va_P D vwCl [w, rw, [oCell cs o v]].flatten H) (hD : va_D (va_A [] s.heap.size) [w, rw, [oCell cs o v]].flatten) (hS : va_S (va_A [] s.heap.size) s.heap H locs) (hl : lv_has ls 7 [(0, .ref b), (1, .ref x), (2, .ref mo), (3, .ref o), (4, .int i)]) (kk : ∀ (u : S) (v' : Nat → Int64) (H : Heap) (locs : List Loc) (ls : Array Slot), ok u → va_P D vwCl [w' u, rw1, [oCell cs o v']].flatten H → va_D (va_A [] s.heap.size) [w' u, rw1, [oCell cs o v']].flatten → va_S (va_A [] s.heap.size) s.heap H locs → lv_has ls 7 [(0, .ref b), (1, .ref x), (2, .ref mo), (3, .ref o), (4, .int i)] → W p l e room_1 s m av below meth c H locs (cells + mc1) (slots + ms1) Q (F0 m 2733 ls [])) : W p l e room_1 s m av below meth c H locs cells slots Q (F0 m 517 ls []) := by
  obtain ⟨hx, hb, hr, hlk, hml, hown, hts, hK0, hG, hE⟩ := id C0
  refine lv_aload_n hx hb dL_law__517 rfl (lv_at hl 1 rfl) ?_
  refine ow_lJ (As := []) (rest := []) C0 hN (hM H.size) (cwV 0 hts gLV_146 rfl hc hs (by decide +kernel) ⟨by show rmY.frames + 1 ≤ 2048; omega, by show 8 + (_ + 11) + rmY.locals ≤ 84000; omega⟩) 10 rfl hw0 hP hD hS rfl hl.1 rfl (Nat.le_of_ble_eq_true rfl) hrm dL_law__518 (fun u H locs hok hP hD hS => ?_)
  refine lv_aload_n hx hb dL_law__521 rfl (lv_at hl 2 rfl) ?_
  refine ow_lR (As := []) (rest := [.int r]) C0 (hR H.size) (cwV 0 hts gLV_149 rfl rfl rfl (by decide +kernel) ⟨(Nat.le_of_ble_eq_true rfl), (Nat.le_of_ble_eq_true rfl)⟩) 11 rfl hr0 hP hD hS rfl hl.1 rfl (Nat.le_of_ble_eq_true rfl) hrm dL_law__522 (fun H locs hP hD hS => ?_)
  refine lv_icmp_eq (tgt := 2733) hx hb dL_law__525 (by decide) (fun hc => ?_) (fun hc => absurd heq hc)
  exact kk u v H locs ls hok hP hD hS (lv_sub hl [0, 1, 2, 3, 4] rfl)
set_option maxHeartbeats 4000000 in
set_option maxRecDepth 100000 in
theorem lc_6 {p : Program} {l : Launch} {e : Env} {s : State} {m : MethodId} {av : Array Value} {below : List Frame} {meth : Method} {c : Code} {D : va_G} {cs : Nat → ClassId} {cells slots : Nat} {Q : State → Prop} (C0 : Cx p s m meth c av lw_tbl code 7 (some .boolean) RL D cs []) (hN : gN s) (hC : gC s) {b L : Nat} {xs : Nat → Int32} (hX : va_X b L xs s s.heap) (hbl : b < s.heap.size) {x mo o : Nat} (i : Int32)  {S : Type} (w rw rw1 : va_W) (v : Nat → Int64) (fs fs2 fs3 : List Value) (hw0 : w[0]? = some (x, .inr (10, fs))) (hr0 : rw[0]? = some (mo, .inr (11, fs2))) (hr1 : rw1[0]? = some (mo, .inr (11, fs3))) (ok : S → Prop) (w' : S → va_W) (K : Nat) (r b1 th : Int32) (rmY : Room) (mc1 ms1 : Nat) (hc : rmY.cells = mc1) (hs : rmY.slots = ms1) (hf : rmY.frames ≤ 95) (hlo : rmY.locals ≤ 2300) (hrm : cells + mc1 ≤ room_1.cells ∧ slots + ms1 ≤ room_1.slots) (hM : ∀ sz, MJ l D cs yX10_undo wsX10_undo rmY [.ref x] sz w ok w' r mc1 ms1) (heq : r = b1) (hR : ∀ sz, MI l D cs yX11_undo wsX11_undo rm_X11_undo [.ref mo] sz rw rw1 b1) (H : Heap) (locs : List Loc) (ls : Array Slot) (hP : va_P D vwCl [w, rw, [oCell cs o v]].flatten H) (hD : va_D (va_A [] s.heap.size) [w, rw, [oCell cs o v]].flatten) (hS : va_S (va_A [] s.heap.size) s.heap H locs) (hl : lv_has ls 7 [(0, .ref b), (1, .ref x), (2, .ref mo), (3, .ref o), (4, .int i)]) (kk : ∀ (u : S) (v' : Nat → Int64) (H : Heap) (locs : List Loc) (ls : Array Slot), ok u → va_P D vwCl [w' u, rw1, [oCell cs o v']].flatten H → va_D (va_A [] s.heap.size) [w' u, rw1, [oCell cs o v']].flatten → va_S (va_A [] s.heap.size) s.heap H locs → lv_has ls 7 [(0, .ref b), (1, .ref x), (2, .ref mo), (3, .ref o), (4, .int i)] → W p l e room_1 s m av below meth c H locs (cells + mc1) (slots + ms1) Q (F0 m 2733 ls [])) : W p l e room_1 s m av below meth c H locs cells slots Q (F0 m 530 ls []) := by
  obtain ⟨hx, hb, hr, hlk, hml, hown, hts, hK0, hG, hE⟩ := id C0
  refine lv_aload_n hx hb dL_law__530 rfl (lv_at hl 1 rfl) ?_
  refine ow_lJ (As := []) (rest := []) C0 hN (hM H.size) (cwV 0 hts gLV_150 rfl hc hs (by decide +kernel) ⟨by show rmY.frames + 1 ≤ 2048; omega, by show 8 + (_ + 11) + rmY.locals ≤ 84000; omega⟩) 10 rfl hw0 hP hD hS rfl hl.1 rfl (Nat.le_of_ble_eq_true rfl) hrm dL_law__531 (fun u H locs hok hP hD hS => ?_)
  refine lv_aload_n hx hb dL_law__534 rfl (lv_at hl 2 rfl) ?_
  refine ow_lR (As := []) (rest := [.int r]) C0 (hR H.size) (cwV 0 hts gLV_153 rfl rfl rfl (by decide +kernel) ⟨(Nat.le_of_ble_eq_true rfl), (Nat.le_of_ble_eq_true rfl)⟩) 11 rfl hr0 hP hD hS rfl hl.1 rfl (Nat.le_of_ble_eq_true rfl) hrm dL_law__535 (fun H locs hP hD hS => ?_)
  refine lv_icmp_eq (tgt := 2733) hx hb dL_law__538 (by decide) (fun hc => ?_) (fun hc => absurd heq hc)
  exact kk u v H locs ls hok hP hD hS (lv_sub hl [0, 1, 2, 3, 4] rfl)
set_option maxHeartbeats 4000000 in
set_option maxRecDepth 100000 in
theorem lc_7 {p : Program} {l : Launch} {e : Env} {s : State} {m : MethodId} {av : Array Value} {below : List Frame} {meth : Method} {c : Code} {D : va_G} {cs : Nat → ClassId} {cells slots : Nat} {Q : State → Prop} (C0 : Cx p s m meth c av lw_tbl code 7 (some .boolean) RL D cs []) (hN : gN s) (hC : gC s) {b L : Nat} {xs : Nat → Int32} (hX : va_X b L xs s s.heap) (hbl : b < s.heap.size) {x mo o : Nat} (i : Int32) (h1 : vp_in (i + 1) L) {S : Type} (w rw rw1 : va_W) (v : Nat → Int64) (fs fs2 fs3 : List Value) (hw0 : w[0]? = some (x, .inr (10, fs))) (hr0 : rw[0]? = some (mo, .inr (11, fs2))) (hr1 : rw1[0]? = some (mo, .inr (11, fs3))) (ok : S → Prop) (w' : S → va_W) (K : Nat) (r b1 th : Int32) (rmY : Room) (mc1 ms1 : Nat) (hc : rmY.cells = mc1) (hs : rmY.slots = ms1) (hf : rmY.frames ≤ 95) (hlo : rmY.locals ≤ 2300) (hrm : cells + mc1 ≤ room_1.cells ∧ slots + ms1 ≤ room_1.slots) (hK : K = 0 ∨ K = 1) (hM : ∀ sz, XS l D cs yX10_told wsX10_told rmY [.ref x, .int (xs (i + 1).toNatClampNeg)] sz w ok w' K r mc1 ms1) (hT : ∀ sz, MI l D cs yX11_thrown wsX11_thrown rm_X11_thrown [.ref mo] sz rw1 rw1 th) (hth : th = (if K = 1 then 1 else 0 : Int32)) (hv : K = 0 → r = b1) (hR : ∀ sz, MI l D cs yX11_told wsX11_told rm_X11_told [.ref mo, .int (xs (i + 1).toNatClampNeg)] sz rw rw1 b1) (H : Heap) (locs : List Loc) (ls : Array Slot) (hP : va_P D vwCl [w, rw, [oCell cs o v]].flatten H) (hD : va_D (va_A [] s.heap.size) [w, rw, [oCell cs o v]].flatten) (hS : va_S (va_A [] s.heap.size) s.heap H locs) (hl : lv_has ls 7 [(0, .ref b), (1, .ref x), (2, .ref mo), (3, .ref o), (4, .int i)]) (kk : ∀ (u : S) (v' : Nat → Int64) (H : Heap) (locs : List Loc) (ls : Array Slot), ok u → va_P D vwCl [w' u, rw1, [oCell cs o v']].flatten H → va_D (va_A [] s.heap.size) [w' u, rw1, [oCell cs o v']].flatten → va_S (va_A [] s.heap.size) s.heap H locs → lv_has ls 7 [(0, .ref b), (1, .ref x), (2, .ref mo), (3, .ref o), (4, .int i)] → W p l e room_1 s m av below meth c H locs (cells + mc1) (slots + ms1) Q (F0 m 2733 ls [])) : W p l e room_1 s m av below meth c H locs cells slots Q (F0 m 543 ls []) := by
  obtain ⟨hx, hb, hr, hlk, hml, hown, hts, hK0, hG, hE⟩ := id C0
  refine lv_aload_n hx hb dL_law__543 rfl (lv_at hl 1 rfl) ?_
  refine lv_aload_n hx hb dL_law__544 rfl (lv_at hl 0 rfl) ?_
  refine lv_iload hx hb dL_law__545 (lv_at hl 4 rfl) ?_
  refine lv_iconst (v := 1) hx hb dL_law__547 (by decide) ?_
  refine lv_iadd hx hb dL_law__548 ?_
  refine ow_scr C0 hX hbl hS h1 dL_law__549 ?_
  refine lv_aload_n hx hb dL_law__550 rfl (lv_at hl 3 rfl) ?_
  refine ow_lW (As := [.ref x, .int (xs (i + 1).toNatClampNeg), .ref o]) (rest := []) (r := (if K = 1 then 1 else 0 : Int32)) C0 hN hC (c_L_told l D cs H.size x o ((xs (i + 1).toNatClampNeg)) v w fs hw0 ok w' K r rmY mc1 ms1 hc hs hf hlo hK hM) (vx_cwSW 3 hts gLS_154 rfl rfl rfl (by decide +kernel) ⟨(Nat.le_of_ble_eq_true rfl), (Nat.le_of_ble_eq_true rfl)⟩) hP hD hS rfl hl.1 rfl (Nat.le_of_ble_eq_true rfl) hrm dL_law__551 (fun u H locs hok hP hD hS => ?_)
  replace hP := sg_Pp pm_o hP
  replace hD := sg_Dp pm_o hD
  refine lv_istore (lv' := [(5, .int (if K = 1 then 1 else 0 : Int32)), (0, .ref b), (1, .ref x), (2, .ref mo), (3, .ref o), (4, .int i)]) hx hb dL_law__554 hl (by decide) rfl (fun ls hl => ?_)
  refine lv_aload_n hx hb dL_law__556 rfl (lv_at hl 3 rfl) ?_
  refine lv_aload_n hx hb dL_law__557 rfl (lv_at hl 1 rfl) ?_
  refine lv_iload hx hb dL_law__558 (lv_at hl 5 rfl) ?_
  refine lv_iconst (v := 1) hx hb dL_law__560 (by decide) ?_
  refine lv_iadd hx hb dL_law__561 ?_
  refine ow_scr C0 hX hbl hS h1 dL_law__562 ?_
  refine ow_lR (As := [.int (xs (i + 1).toNatClampNeg)]) (rest := []) C0 (hR H.size) (cwV 1 hts gLV_156 rfl rfl rfl (by decide +kernel) ⟨(Nat.le_of_ble_eq_true rfl), (Nat.le_of_ble_eq_true rfl)⟩) 11 rfl hr0 hP hD hS rfl hl.1 rfl (Nat.le_of_ble_eq_true rfl) hrm dL_law__563 (fun H locs hP hD hS => ?_)
  refine lv_istore (lv' := [(6, .int b1), (5, .int (if K = 1 then 1 else 0 : Int32)), (0, .ref b), (1, .ref x), (2, .ref mo), (3, .ref o), (4, .int i)]) hx hb dL_law__566 hl (by decide) rfl (fun ls hl => ?_)
  refine lv_aload_n hx hb dL_law__568 rfl (lv_at hl 4 rfl) ?_
  refine ow_lR (As := []) (rest := []) C0 (hT H.size) (cwV 0 hts gLV_133 rfl rfl rfl (by decide +kernel) ⟨(Nat.le_of_ble_eq_true rfl), (Nat.le_of_ble_eq_true rfl)⟩) 11 rfl hr1 hP hD hS rfl hl.1 rfl (Nat.le_of_ble_eq_true rfl) hrm dL_law__569 (fun H locs hP hD hS => ?_)
  refine lv_iload hx hb dL_law__572 (lv_at hl 1 rfl) ?_
  refine lv_icmp_eq (tgt := 579) hx hb dL_law__574 (by decide) (fun hc => ?_) (fun hc => absurd hth hc)
  refine lv_iload hx hb dL_law__579 (lv_at hl 1 rfl) ?_
  refine lv_if_ne (tgt := 596) hx hb dL_law__581 (by decide) (fun hc => ?_) (fun hc => ?_)
  · refine lv_goto (tgt := 2733) hx hb dL_law__596 (by decide) ?_
    exact kk u _ H locs ls hok hP hD hS (lv_sub hl [2, 3, 4, 5, 6] rfl)
  · rcases hK with rfl | rfl
    · have hv0 := hv rfl
      subst hv0
      refine lv_aload_n hx hb dL_law__584 rfl (lv_at hl 5 rfl) ?_
      refine lv_iconst (v := 0) hx hb dL_law__585 (by decide) ?_
      refine va_lald hx hb hK0 hP _ 2 (out_at cs o _ _ _) rfl (vp_in_nI (n := 0) (by decide) (by decide)) dL_law__586 ?_
      have ev : (if (0 : Nat) = 0 then vp_updL v (0 : Int32).toNatClampNeg r.toInt64 else v) (0 : Int32).toNatClampNeg = r.toInt64 := by simp [vp_updL]
      rw [ev]
      refine lv_iload hx hb dL_law__587 (lv_at hl 0 rfl) ?_
      refine lv_i2l (v := r.toInt64) hx hb dL_law__589 rfl ?_
      refine W.lcmp hx hb dL_law__590 ?_
      rw [lg_eq]
      refine lv_if_eq (tgt := 596) hx hb dL_law__591 (by decide) (fun _ => ?_) (fun h => absurd rfl h)
      refine lv_goto (tgt := 2733) hx hb dL_law__596 (by decide) ?_
      exact kk u _ H locs ls hok hP hD hS (lv_sub hl [2, 3, 4, 5, 6] rfl)
    · exact absurd hc (by decide)
set_option maxHeartbeats 4000000 in
set_option maxRecDepth 100000 in
theorem lc_8 {p : Program} {l : Launch} {e : Env} {s : State} {m : MethodId} {av : Array Value} {below : List Frame} {meth : Method} {c : Code} {D : va_G} {cs : Nat → ClassId} {cells slots : Nat} {Q : State → Prop} (C0 : Cx p s m meth c av lw_tbl code 7 (some .boolean) RL D cs []) (hN : gN s) (hC : gC s) {b L : Nat} {xs : Nat → Int32} (hX : va_X b L xs s s.heap) (hbl : b < s.heap.size) {x mo o : Nat} (i : Int32) (h1 : vp_in (i + 1) L) (h2 : vp_in (i + 2) L) {S : Type} (w rw rw1 : va_W) (v : Nat → Int64) (fs fs2 fs3 : List Value) (hw0 : w[0]? = some (x, .inr (10, fs))) (hr0 : rw[0]? = some (mo, .inr (11, fs2))) (hr1 : rw1[0]? = some (mo, .inr (11, fs3))) (ok : S → Prop) (w' : S → va_W) (K : Nat) (r b1 th : Int32) (rmY : Room) (mc1 ms1 : Nat) (hc : rmY.cells = mc1) (hs : rmY.slots = ms1) (hf : rmY.frames ≤ 95) (hlo : rmY.locals ≤ 2300) (hrm : cells + mc1 ≤ room_1.cells ∧ slots + ms1 ≤ room_1.slots) (hK : K = 0 ∨ K = 2 ∨ K = 1) (hM : ∀ sz, XS l D cs yX10_pane wsX10_pane rmY [.ref x, .int (xs (i + 1).toNatClampNeg), .int (xs (i + 2).toNatClampNeg)] sz w ok w' K r mc1 ms1) (hT : ∀ sz, MI l D cs yX11_thrown wsX11_thrown rm_X11_thrown [.ref mo] sz rw1 rw1 th) (hth : th = (if K = 2 then 1 else if K = 1 then 2 else 0 : Int32)) (hv : K = 0 → r = b1) (hR : ∀ sz, MI l D cs yX11_pane wsX11_pane rm_X11_pane [.ref mo, .int (xs (i + 1).toNatClampNeg), .int (xs (i + 2).toNatClampNeg)] sz rw rw1 b1) (H : Heap) (locs : List Loc) (ls : Array Slot) (hP : va_P D vwCl [w, rw, [oCell cs o v]].flatten H) (hD : va_D (va_A [] s.heap.size) [w, rw, [oCell cs o v]].flatten) (hS : va_S (va_A [] s.heap.size) s.heap H locs) (hl : lv_has ls 7 [(0, .ref b), (1, .ref x), (2, .ref mo), (3, .ref o), (4, .int i)]) (kk : ∀ (u : S) (v' : Nat → Int64) (H : Heap) (locs : List Loc) (ls : Array Slot), ok u → va_P D vwCl [w' u, rw1, [oCell cs o v']].flatten H → va_D (va_A [] s.heap.size) [w' u, rw1, [oCell cs o v']].flatten → va_S (va_A [] s.heap.size) s.heap H locs → lv_has ls 7 [(0, .ref b), (1, .ref x), (2, .ref mo), (3, .ref o), (4, .int i)] → W p l e room_1 s m av below meth c H locs (cells + mc1) (slots + ms1) Q (F0 m 2733 ls [])) : W p l e room_1 s m av below meth c H locs cells slots Q (F0 m 599 ls []) := by
  obtain ⟨hx, hb, hr, hlk, hml, hown, hts, hK0, hG, hE⟩ := id C0
  refine lv_aload_n hx hb dL_law__599 rfl (lv_at hl 1 rfl) ?_
  refine lv_aload_n hx hb dL_law__600 rfl (lv_at hl 0 rfl) ?_
  refine lv_iload hx hb dL_law__601 (lv_at hl 4 rfl) ?_
  refine lv_iconst (v := 1) hx hb dL_law__603 (by decide) ?_
  refine lv_iadd hx hb dL_law__604 ?_
  refine ow_scr C0 hX hbl hS h1 dL_law__605 ?_
  refine lv_aload_n hx hb dL_law__606 rfl (lv_at hl 0 rfl) ?_
  refine lv_iload hx hb dL_law__607 (lv_at hl 4 rfl) ?_
  refine lv_iconst (v := 2) hx hb dL_law__609 (by decide) ?_
  refine lv_iadd hx hb dL_law__610 ?_
  refine ow_scr C0 hX hbl hS h2 dL_law__611 ?_
  refine lv_aload_n hx hb dL_law__612 rfl (lv_at hl 3 rfl) ?_
  refine ow_lW (As := [.ref x, .int (xs (i + 1).toNatClampNeg), .int (xs (i + 2).toNatClampNeg), .ref o]) (rest := []) (r := (if K = 2 then 1 else if K = 1 then 2 else 0 : Int32)) C0 hN hC (c_L_pane l D cs H.size x o ((xs (i + 1).toNatClampNeg)) ((xs (i + 2).toNatClampNeg)) v w fs hw0 ok w' K r rmY mc1 ms1 hc hs hf hlo hK hM) (vx_cwSW 4 hts gLS_157 rfl rfl rfl (by decide +kernel) ⟨(Nat.le_of_ble_eq_true rfl), (Nat.le_of_ble_eq_true rfl)⟩) hP hD hS rfl hl.1 rfl (Nat.le_of_ble_eq_true rfl) hrm dL_law__613 (fun u H locs hok hP hD hS => ?_)
  replace hP := sg_Pp pm_o hP
  replace hD := sg_Dp pm_o hD
  refine lv_istore (lv' := [(5, .int (if K = 2 then 1 else if K = 1 then 2 else 0 : Int32)), (0, .ref b), (1, .ref x), (2, .ref mo), (3, .ref o), (4, .int i)]) hx hb dL_law__616 hl (by decide) rfl (fun ls hl => ?_)
  refine lv_aload_n hx hb dL_law__618 rfl (lv_at hl 3 rfl) ?_
  refine lv_aload_n hx hb dL_law__619 rfl (lv_at hl 1 rfl) ?_
  refine lv_iload hx hb dL_law__620 (lv_at hl 5 rfl) ?_
  refine lv_iconst (v := 1) hx hb dL_law__622 (by decide) ?_
  refine lv_iadd hx hb dL_law__623 ?_
  refine ow_scr C0 hX hbl hS h1 dL_law__624 ?_
  refine lv_aload_n hx hb dL_law__625 rfl (lv_at hl 1 rfl) ?_
  refine lv_iload hx hb dL_law__626 (lv_at hl 5 rfl) ?_
  refine lv_iconst (v := 2) hx hb dL_law__628 (by decide) ?_
  refine lv_iadd hx hb dL_law__629 ?_
  refine ow_scr C0 hX hbl hS h2 dL_law__630 ?_
  refine ow_lR (As := [.int (xs (i + 1).toNatClampNeg), .int (xs (i + 2).toNatClampNeg)]) (rest := []) C0 (hR H.size) (cwV 2 hts gLV_160 rfl rfl rfl (by decide +kernel) ⟨(Nat.le_of_ble_eq_true rfl), (Nat.le_of_ble_eq_true rfl)⟩) 11 rfl hr0 hP hD hS rfl hl.1 rfl (Nat.le_of_ble_eq_true rfl) hrm dL_law__631 (fun H locs hP hD hS => ?_)
  refine lv_istore (lv' := [(6, .int b1), (5, .int (if K = 2 then 1 else if K = 1 then 2 else 0 : Int32)), (0, .ref b), (1, .ref x), (2, .ref mo), (3, .ref o), (4, .int i)]) hx hb dL_law__634 hl (by decide) rfl (fun ls hl => ?_)
  refine lv_aload_n hx hb dL_law__636 rfl (lv_at hl 4 rfl) ?_
  refine ow_lR (As := []) (rest := []) C0 (hT H.size) (cwV 0 hts gLV_133 rfl rfl rfl (by decide +kernel) ⟨(Nat.le_of_ble_eq_true rfl), (Nat.le_of_ble_eq_true rfl)⟩) 11 rfl hr1 hP hD hS rfl hl.1 rfl (Nat.le_of_ble_eq_true rfl) hrm dL_law__637 (fun H locs hP hD hS => ?_)
  refine lv_iload hx hb dL_law__640 (lv_at hl 1 rfl) ?_
  refine lv_icmp_eq (tgt := 647) hx hb dL_law__642 (by decide) (fun hc => ?_) (fun hc => absurd hth hc)
  refine lv_iload hx hb dL_law__647 (lv_at hl 1 rfl) ?_
  refine lv_if_ne (tgt := 664) hx hb dL_law__649 (by decide) (fun hc => ?_) (fun hc => ?_)
  · refine lv_goto (tgt := 2733) hx hb dL_law__664 (by decide) ?_
    exact kk u _ H locs ls hok hP hD hS (lv_sub hl [2, 3, 4, 5, 6] rfl)
  · rcases hK with rfl | rfl | rfl
    · have hv0 := hv rfl
      subst hv0
      refine lv_aload_n hx hb dL_law__652 rfl (lv_at hl 5 rfl) ?_
      refine lv_iconst (v := 0) hx hb dL_law__653 (by decide) ?_
      refine va_lald hx hb hK0 hP _ 2 (out_at cs o _ _ _) rfl (vp_in_nI (n := 0) (by decide) (by decide)) dL_law__654 ?_
      have ev : (if (0 : Nat) = 0 then vp_updL v (0 : Int32).toNatClampNeg r.toInt64 else v) (0 : Int32).toNatClampNeg = r.toInt64 := by simp [vp_updL]
      rw [ev]
      refine lv_iload hx hb dL_law__655 (lv_at hl 0 rfl) ?_
      refine lv_i2l (v := r.toInt64) hx hb dL_law__657 rfl ?_
      refine W.lcmp hx hb dL_law__658 ?_
      rw [lg_eq]
      refine lv_if_eq (tgt := 664) hx hb dL_law__659 (by decide) (fun _ => ?_) (fun h => absurd rfl h)
      refine lv_goto (tgt := 2733) hx hb dL_law__664 (by decide) ?_
      exact kk u _ H locs ls hok hP hD hS (lv_sub hl [2, 3, 4, 5, 6] rfl)
    · exact absurd hc (by decide)
    · exact absurd hc (by decide)
set_option maxHeartbeats 4000000 in
set_option maxRecDepth 100000 in
theorem lc_9 {p : Program} {l : Launch} {e : Env} {s : State} {m : MethodId} {av : Array Value} {below : List Frame} {meth : Method} {c : Code} {D : va_G} {cs : Nat → ClassId} {cells slots : Nat} {Q : State → Prop} (C0 : Cx p s m meth c av lw_tbl code 7 (some .boolean) RL D cs []) (hN : gN s) (hC : gC s) {b L : Nat} {xs : Nat → Int32} (hX : va_X b L xs s s.heap) (hbl : b < s.heap.size) {x mo o : Nat} (i : Int32) (h1 : vp_in (i + 1) L) (h2 : vp_in (i + 2) L) (h3 : vp_in (i + 3) L) {S : Type} (w rw rw1 : va_W) (v : Nat → Int64) (fs fs2 fs3 : List Value) (hw0 : w[0]? = some (x, .inr (10, fs))) (hr0 : rw[0]? = some (mo, .inr (11, fs2))) (hr1 : rw1[0]? = some (mo, .inr (11, fs3))) (ok : S → Prop) (w' : S → va_W) (K : Nat) (r b1 th : Int32) (rmY : Room) (mc1 ms1 : Nat) (hc : rmY.cells = mc1) (hs : rmY.slots = ms1) (hf : rmY.frames ≤ 95) (hlo : rmY.locals ≤ 2300) (hrm : cells + mc1 ≤ room_1.cells ∧ slots + ms1 ≤ room_1.slots) (hK : K = 0 ∨ K = 3 ∨ K = 2) (hM : ∀ sz, XS l D cs yX10_shows wsX10_shows rmY [.ref x, .int (xs (i + 1).toNatClampNeg), .int (xs (i + 2).toNatClampNeg), .int (xs (i + 3).toNatClampNeg)] sz w ok w' K r mc1 ms1) (hT : ∀ sz, MI l D cs yX11_thrown wsX11_thrown rm_X11_thrown [.ref mo] sz rw1 rw1 th) (hth : th = (if K = 3 then 1 else if K = 2 then 2 else 0 : Int32)) (hv : K = 0 → r = b1) (hR : ∀ sz, MI l D cs yX11_shows wsX11_shows rm_X11_shows [.ref mo, .int (xs (i + 1).toNatClampNeg), .int (xs (i + 2).toNatClampNeg), .int (xs (i + 3).toNatClampNeg)] sz rw rw1 b1) (H : Heap) (locs : List Loc) (ls : Array Slot) (hP : va_P D vwCl [w, rw, [oCell cs o v]].flatten H) (hD : va_D (va_A [] s.heap.size) [w, rw, [oCell cs o v]].flatten) (hS : va_S (va_A [] s.heap.size) s.heap H locs) (hl : lv_has ls 7 [(0, .ref b), (1, .ref x), (2, .ref mo), (3, .ref o), (4, .int i)]) (kk : ∀ (u : S) (v' : Nat → Int64) (H : Heap) (locs : List Loc) (ls : Array Slot), ok u → va_P D vwCl [w' u, rw1, [oCell cs o v']].flatten H → va_D (va_A [] s.heap.size) [w' u, rw1, [oCell cs o v']].flatten → va_S (va_A [] s.heap.size) s.heap H locs → lv_has ls 7 [(0, .ref b), (1, .ref x), (2, .ref mo), (3, .ref o), (4, .int i)] → W p l e room_1 s m av below meth c H locs (cells + mc1) (slots + ms1) Q (F0 m 2733 ls [])) : W p l e room_1 s m av below meth c H locs cells slots Q (F0 m 667 ls []) := by
  obtain ⟨hx, hb, hr, hlk, hml, hown, hts, hK0, hG, hE⟩ := id C0
  refine lv_aload_n hx hb dL_law__667 rfl (lv_at hl 1 rfl) ?_
  refine lv_aload_n hx hb dL_law__668 rfl (lv_at hl 0 rfl) ?_
  refine lv_iload hx hb dL_law__669 (lv_at hl 4 rfl) ?_
  refine lv_iconst (v := 1) hx hb dL_law__671 (by decide) ?_
  refine lv_iadd hx hb dL_law__672 ?_
  refine ow_scr C0 hX hbl hS h1 dL_law__673 ?_
  refine lv_aload_n hx hb dL_law__674 rfl (lv_at hl 0 rfl) ?_
  refine lv_iload hx hb dL_law__675 (lv_at hl 4 rfl) ?_
  refine lv_iconst (v := 2) hx hb dL_law__677 (by decide) ?_
  refine lv_iadd hx hb dL_law__678 ?_
  refine ow_scr C0 hX hbl hS h2 dL_law__679 ?_
  refine lv_aload_n hx hb dL_law__680 rfl (lv_at hl 0 rfl) ?_
  refine lv_iload hx hb dL_law__681 (lv_at hl 4 rfl) ?_
  refine lv_iconst (v := 3) hx hb dL_law__683 (by decide) ?_
  refine lv_iadd hx hb dL_law__684 ?_
  refine ow_scr C0 hX hbl hS h3 dL_law__685 ?_
  refine lv_aload_n hx hb dL_law__686 rfl (lv_at hl 3 rfl) ?_
  refine ow_lW (As := [.ref x, .int (xs (i + 1).toNatClampNeg), .int (xs (i + 2).toNatClampNeg), .int (xs (i + 3).toNatClampNeg), .ref o]) (rest := []) (r := (if K = 3 then 1 else if K = 2 then 2 else 0 : Int32)) C0 hN hC (c_L_shows l D cs H.size x o ((xs (i + 1).toNatClampNeg)) ((xs (i + 2).toNatClampNeg)) ((xs (i + 3).toNatClampNeg)) v w fs hw0 ok w' K r rmY mc1 ms1 hc hs hf hlo hK hM) (vx_cwSW 5 hts gLS_161 rfl rfl rfl (by decide +kernel) ⟨(Nat.le_of_ble_eq_true rfl), (Nat.le_of_ble_eq_true rfl)⟩) hP hD hS rfl hl.1 rfl (Nat.le_of_ble_eq_true rfl) hrm dL_law__687 (fun u H locs hok hP hD hS => ?_)
  replace hP := sg_Pp pm_o hP
  replace hD := sg_Dp pm_o hD
  refine lv_istore (lv' := [(5, .int (if K = 3 then 1 else if K = 2 then 2 else 0 : Int32)), (0, .ref b), (1, .ref x), (2, .ref mo), (3, .ref o), (4, .int i)]) hx hb dL_law__690 hl (by decide) rfl (fun ls hl => ?_)
  refine lv_aload_n hx hb dL_law__692 rfl (lv_at hl 3 rfl) ?_
  refine lv_aload_n hx hb dL_law__693 rfl (lv_at hl 1 rfl) ?_
  refine lv_iload hx hb dL_law__694 (lv_at hl 5 rfl) ?_
  refine lv_iconst (v := 1) hx hb dL_law__696 (by decide) ?_
  refine lv_iadd hx hb dL_law__697 ?_
  refine ow_scr C0 hX hbl hS h1 dL_law__698 ?_
  refine lv_aload_n hx hb dL_law__699 rfl (lv_at hl 1 rfl) ?_
  refine lv_iload hx hb dL_law__700 (lv_at hl 5 rfl) ?_
  refine lv_iconst (v := 2) hx hb dL_law__702 (by decide) ?_
  refine lv_iadd hx hb dL_law__703 ?_
  refine ow_scr C0 hX hbl hS h2 dL_law__704 ?_
  refine lv_aload_n hx hb dL_law__705 rfl (lv_at hl 1 rfl) ?_
  refine lv_iload hx hb dL_law__706 (lv_at hl 5 rfl) ?_
  refine lv_iconst (v := 3) hx hb dL_law__708 (by decide) ?_
  refine lv_iadd hx hb dL_law__709 ?_
  refine ow_scr C0 hX hbl hS h3 dL_law__710 ?_
  refine ow_lR (As := [.int (xs (i + 1).toNatClampNeg), .int (xs (i + 2).toNatClampNeg), .int (xs (i + 3).toNatClampNeg)]) (rest := []) C0 (hR H.size) (cwV 3 hts gLV_164 rfl rfl rfl (by decide +kernel) ⟨(Nat.le_of_ble_eq_true rfl), (Nat.le_of_ble_eq_true rfl)⟩) 11 rfl hr0 hP hD hS rfl hl.1 rfl (Nat.le_of_ble_eq_true rfl) hrm dL_law__711 (fun H locs hP hD hS => ?_)
  refine lv_istore (lv' := [(6, .int b1), (5, .int (if K = 3 then 1 else if K = 2 then 2 else 0 : Int32)), (0, .ref b), (1, .ref x), (2, .ref mo), (3, .ref o), (4, .int i)]) hx hb dL_law__714 hl (by decide) rfl (fun ls hl => ?_)
  refine lv_aload_n hx hb dL_law__716 rfl (lv_at hl 4 rfl) ?_
  refine ow_lR (As := []) (rest := []) C0 (hT H.size) (cwV 0 hts gLV_133 rfl rfl rfl (by decide +kernel) ⟨(Nat.le_of_ble_eq_true rfl), (Nat.le_of_ble_eq_true rfl)⟩) 11 rfl hr1 hP hD hS rfl hl.1 rfl (Nat.le_of_ble_eq_true rfl) hrm dL_law__717 (fun H locs hP hD hS => ?_)
  refine lv_iload hx hb dL_law__720 (lv_at hl 1 rfl) ?_
  refine lv_icmp_eq (tgt := 727) hx hb dL_law__722 (by decide) (fun hc => ?_) (fun hc => absurd hth hc)
  refine lv_iload hx hb dL_law__727 (lv_at hl 1 rfl) ?_
  refine lv_if_ne (tgt := 744) hx hb dL_law__729 (by decide) (fun hc => ?_) (fun hc => ?_)
  · refine lv_goto (tgt := 2733) hx hb dL_law__744 (by decide) ?_
    exact kk u _ H locs ls hok hP hD hS (lv_sub hl [2, 3, 4, 5, 6] rfl)
  · rcases hK with rfl | rfl | rfl
    · have hv0 := hv rfl
      subst hv0
      refine lv_aload_n hx hb dL_law__732 rfl (lv_at hl 5 rfl) ?_
      refine lv_iconst (v := 0) hx hb dL_law__733 (by decide) ?_
      refine va_lald hx hb hK0 hP _ 2 (out_at cs o _ _ _) rfl (vp_in_nI (n := 0) (by decide) (by decide)) dL_law__734 ?_
      have ev : (if (0 : Nat) = 0 then vp_updL v (0 : Int32).toNatClampNeg r.toInt64 else v) (0 : Int32).toNatClampNeg = r.toInt64 := by simp [vp_updL]
      rw [ev]
      refine lv_iload hx hb dL_law__735 (lv_at hl 0 rfl) ?_
      refine lv_i2l (v := r.toInt64) hx hb dL_law__737 rfl ?_
      refine W.lcmp hx hb dL_law__738 ?_
      rw [lg_eq]
      refine lv_if_eq (tgt := 744) hx hb dL_law__739 (by decide) (fun _ => ?_) (fun h => absurd rfl h)
      refine lv_goto (tgt := 2733) hx hb dL_law__744 (by decide) ?_
      exact kk u _ H locs ls hok hP hD hS (lv_sub hl [2, 3, 4, 5, 6] rfl)
    · exact absurd hc (by decide)
    · exact absurd hc (by decide)
set_option maxHeartbeats 4000000 in
set_option maxRecDepth 100000 in
theorem lc_10 {p : Program} {l : Launch} {e : Env} {s : State} {m : MethodId} {av : Array Value} {below : List Frame} {meth : Method} {c : Code} {D : va_G} {cs : Nat → ClassId} {cells slots : Nat} {Q : State → Prop} (C0 : Cx p s m meth c av lw_tbl code 7 (some .boolean) RL D cs []) (hN : gN s) (hC : gC s) {b L : Nat} {xs : Nat → Int32} (hX : va_X b L xs s s.heap) (hbl : b < s.heap.size) {x mo o : Nat} (i : Int32) (h1 : vp_in (i + 1) L) (h2 : vp_in (i + 2) L) (h3 : vp_in (i + 3) L) {S : Type} (w rw rw1 : va_W) (v : Nat → Int64) (fs fs2 fs3 : List Value) (hw0 : w[0]? = some (x, .inr (10, fs))) (hr0 : rw[0]? = some (mo, .inr (11, fs2))) (hr1 : rw1[0]? = some (mo, .inr (11, fs3))) (ok : S → Prop) (w' : S → va_W) (K : Nat) (r b1 th : Int32) (rmY : Room) (mc1 ms1 : Nat) (hc : rmY.cells = mc1) (hs : rmY.slots = ms1) (hf : rmY.frames ≤ 95) (hlo : rmY.locals ≤ 2300) (hrm : cells + mc1 ≤ room_1.cells ∧ slots + ms1 ≤ room_1.slots) (hK : K = 0 ∨ K = 3 ∨ K = 2) (hM : ∀ sz, XS l D cs yX10_deep wsX10_deep rmY [.ref x, .int (xs (i + 1).toNatClampNeg), .int (xs (i + 2).toNatClampNeg), .int (xs (i + 3).toNatClampNeg)] sz w ok w' K r mc1 ms1) (hT : ∀ sz, MI l D cs yX11_thrown wsX11_thrown rm_X11_thrown [.ref mo] sz rw1 rw1 th) (hth : th = (if K = 3 then 1 else if K = 2 then 2 else 0 : Int32)) (hv : K = 0 → r = b1) (hR : ∀ sz, MI l D cs yX11_deep wsX11_deep rm_X11_deep [.ref mo, .int (xs (i + 1).toNatClampNeg), .int (xs (i + 2).toNatClampNeg), .int (xs (i + 3).toNatClampNeg)] sz rw rw1 b1) (H : Heap) (locs : List Loc) (ls : Array Slot) (hP : va_P D vwCl [w, rw, [oCell cs o v]].flatten H) (hD : va_D (va_A [] s.heap.size) [w, rw, [oCell cs o v]].flatten) (hS : va_S (va_A [] s.heap.size) s.heap H locs) (hl : lv_has ls 7 [(0, .ref b), (1, .ref x), (2, .ref mo), (3, .ref o), (4, .int i)]) (kk : ∀ (u : S) (v' : Nat → Int64) (H : Heap) (locs : List Loc) (ls : Array Slot), ok u → va_P D vwCl [w' u, rw1, [oCell cs o v']].flatten H → va_D (va_A [] s.heap.size) [w' u, rw1, [oCell cs o v']].flatten → va_S (va_A [] s.heap.size) s.heap H locs → lv_has ls 7 [(0, .ref b), (1, .ref x), (2, .ref mo), (3, .ref o), (4, .int i)] → W p l e room_1 s m av below meth c H locs (cells + mc1) (slots + ms1) Q (F0 m 2733 ls [])) : W p l e room_1 s m av below meth c H locs cells slots Q (F0 m 747 ls []) := by
  obtain ⟨hx, hb, hr, hlk, hml, hown, hts, hK0, hG, hE⟩ := id C0
  refine lv_aload_n hx hb dL_law__747 rfl (lv_at hl 1 rfl) ?_
  refine lv_aload_n hx hb dL_law__748 rfl (lv_at hl 0 rfl) ?_
  refine lv_iload hx hb dL_law__749 (lv_at hl 4 rfl) ?_
  refine lv_iconst (v := 1) hx hb dL_law__751 (by decide) ?_
  refine lv_iadd hx hb dL_law__752 ?_
  refine ow_scr C0 hX hbl hS h1 dL_law__753 ?_
  refine lv_aload_n hx hb dL_law__754 rfl (lv_at hl 0 rfl) ?_
  refine lv_iload hx hb dL_law__755 (lv_at hl 4 rfl) ?_
  refine lv_iconst (v := 2) hx hb dL_law__757 (by decide) ?_
  refine lv_iadd hx hb dL_law__758 ?_
  refine ow_scr C0 hX hbl hS h2 dL_law__759 ?_
  refine lv_aload_n hx hb dL_law__760 rfl (lv_at hl 0 rfl) ?_
  refine lv_iload hx hb dL_law__761 (lv_at hl 4 rfl) ?_
  refine lv_iconst (v := 3) hx hb dL_law__763 (by decide) ?_
  refine lv_iadd hx hb dL_law__764 ?_
  refine ow_scr C0 hX hbl hS h3 dL_law__765 ?_
  refine lv_aload_n hx hb dL_law__766 rfl (lv_at hl 3 rfl) ?_
  refine ow_lW (As := [.ref x, .int (xs (i + 1).toNatClampNeg), .int (xs (i + 2).toNatClampNeg), .int (xs (i + 3).toNatClampNeg), .ref o]) (rest := []) (r := (if K = 3 then 1 else if K = 2 then 2 else 0 : Int32)) C0 hN hC (c_L_deep l D cs H.size x o ((xs (i + 1).toNatClampNeg)) ((xs (i + 2).toNatClampNeg)) ((xs (i + 3).toNatClampNeg)) v w fs hw0 ok w' K r rmY mc1 ms1 hc hs hf hlo hK hM) (vx_cwSW 5 hts gLS_165 rfl rfl rfl (by decide +kernel) ⟨(Nat.le_of_ble_eq_true rfl), (Nat.le_of_ble_eq_true rfl)⟩) hP hD hS rfl hl.1 rfl (Nat.le_of_ble_eq_true rfl) hrm dL_law__767 (fun u H locs hok hP hD hS => ?_)
  replace hP := sg_Pp pm_o hP
  replace hD := sg_Dp pm_o hD
  refine lv_istore (lv' := [(5, .int (if K = 3 then 1 else if K = 2 then 2 else 0 : Int32)), (0, .ref b), (1, .ref x), (2, .ref mo), (3, .ref o), (4, .int i)]) hx hb dL_law__770 hl (by decide) rfl (fun ls hl => ?_)
  refine lv_aload_n hx hb dL_law__772 rfl (lv_at hl 3 rfl) ?_
  refine lv_aload_n hx hb dL_law__773 rfl (lv_at hl 1 rfl) ?_
  refine lv_iload hx hb dL_law__774 (lv_at hl 5 rfl) ?_
  refine lv_iconst (v := 1) hx hb dL_law__776 (by decide) ?_
  refine lv_iadd hx hb dL_law__777 ?_
  refine ow_scr C0 hX hbl hS h1 dL_law__778 ?_
  refine lv_aload_n hx hb dL_law__779 rfl (lv_at hl 1 rfl) ?_
  refine lv_iload hx hb dL_law__780 (lv_at hl 5 rfl) ?_
  refine lv_iconst (v := 2) hx hb dL_law__782 (by decide) ?_
  refine lv_iadd hx hb dL_law__783 ?_
  refine ow_scr C0 hX hbl hS h2 dL_law__784 ?_
  refine lv_aload_n hx hb dL_law__785 rfl (lv_at hl 1 rfl) ?_
  refine lv_iload hx hb dL_law__786 (lv_at hl 5 rfl) ?_
  refine lv_iconst (v := 3) hx hb dL_law__788 (by decide) ?_
  refine lv_iadd hx hb dL_law__789 ?_
  refine ow_scr C0 hX hbl hS h3 dL_law__790 ?_
  refine ow_lR (As := [.int (xs (i + 1).toNatClampNeg), .int (xs (i + 2).toNatClampNeg), .int (xs (i + 3).toNatClampNeg)]) (rest := []) C0 (hR H.size) (cwV 3 hts gLV_167 rfl rfl rfl (by decide +kernel) ⟨(Nat.le_of_ble_eq_true rfl), (Nat.le_of_ble_eq_true rfl)⟩) 11 rfl hr0 hP hD hS rfl hl.1 rfl (Nat.le_of_ble_eq_true rfl) hrm dL_law__791 (fun H locs hP hD hS => ?_)
  refine lv_istore (lv' := [(6, .int b1), (5, .int (if K = 3 then 1 else if K = 2 then 2 else 0 : Int32)), (0, .ref b), (1, .ref x), (2, .ref mo), (3, .ref o), (4, .int i)]) hx hb dL_law__794 hl (by decide) rfl (fun ls hl => ?_)
  refine lv_aload_n hx hb dL_law__796 rfl (lv_at hl 4 rfl) ?_
  refine ow_lR (As := []) (rest := []) C0 (hT H.size) (cwV 0 hts gLV_133 rfl rfl rfl (by decide +kernel) ⟨(Nat.le_of_ble_eq_true rfl), (Nat.le_of_ble_eq_true rfl)⟩) 11 rfl hr1 hP hD hS rfl hl.1 rfl (Nat.le_of_ble_eq_true rfl) hrm dL_law__797 (fun H locs hP hD hS => ?_)
  refine lv_iload hx hb dL_law__800 (lv_at hl 1 rfl) ?_
  refine lv_icmp_eq (tgt := 807) hx hb dL_law__802 (by decide) (fun hc => ?_) (fun hc => absurd hth hc)
  refine lv_iload hx hb dL_law__807 (lv_at hl 1 rfl) ?_
  refine lv_if_ne (tgt := 824) hx hb dL_law__809 (by decide) (fun hc => ?_) (fun hc => ?_)
  · refine lv_goto (tgt := 2733) hx hb dL_law__824 (by decide) ?_
    exact kk u _ H locs ls hok hP hD hS (lv_sub hl [2, 3, 4, 5, 6] rfl)
  · rcases hK with rfl | rfl | rfl
    · have hv0 := hv rfl
      subst hv0
      refine lv_aload_n hx hb dL_law__812 rfl (lv_at hl 5 rfl) ?_
      refine lv_iconst (v := 0) hx hb dL_law__813 (by decide) ?_
      refine va_lald hx hb hK0 hP _ 2 (out_at cs o _ _ _) rfl (vp_in_nI (n := 0) (by decide) (by decide)) dL_law__814 ?_
      have ev : (if (0 : Nat) = 0 then vp_updL v (0 : Int32).toNatClampNeg r.toInt64 else v) (0 : Int32).toNatClampNeg = r.toInt64 := by simp [vp_updL]
      rw [ev]
      refine lv_iload hx hb dL_law__815 (lv_at hl 0 rfl) ?_
      refine lv_i2l (v := r.toInt64) hx hb dL_law__817 rfl ?_
      refine W.lcmp hx hb dL_law__818 ?_
      rw [lg_eq]
      refine lv_if_eq (tgt := 824) hx hb dL_law__819 (by decide) (fun _ => ?_) (fun h => absurd rfl h)
      refine lv_goto (tgt := 2733) hx hb dL_law__824 (by decide) ?_
      exact kk u _ H locs ls hok hP hD hS (lv_sub hl [2, 3, 4, 5, 6] rfl)
    · exact absurd hc (by decide)
    · exact absurd hc (by decide)
set_option maxHeartbeats 4000000 in
set_option maxRecDepth 100000 in
theorem lc_11 {p : Program} {l : Launch} {e : Env} {s : State} {m : MethodId} {av : Array Value} {below : List Frame} {meth : Method} {c : Code} {D : va_G} {cs : Nat → ClassId} {cells slots : Nat} {Q : State → Prop} (C0 : Cx p s m meth c av lw_tbl code 7 (some .boolean) RL D cs []) (hN : gN s) (hC : gC s) {b L : Nat} {xs : Nat → Int32} (hX : va_X b L xs s s.heap) (hbl : b < s.heap.size) {x mo o : Nat} (i : Int32) (h1 : vp_in (i + 1) L) (h2 : vp_in (i + 2) L) (h3 : vp_in (i + 3) L) (h4 : vp_in (i + 4) L) {S : Type} (w rw rw1 : va_W) (v : Nat → Int64) (fs fs2 fs3 : List Value) (hw0 : w[0]? = some (x, .inr (10, fs))) (hr0 : rw[0]? = some (mo, .inr (11, fs2))) (hr1 : rw1[0]? = some (mo, .inr (11, fs3))) (ok : S → Prop) (w' : S → va_W) (K : Nat) (r b1 th : Int32) (rmY : Room) (mc1 ms1 : Nat) (hc : rmY.cells = mc1) (hs : rmY.slots = ms1) (hf : rmY.frames ≤ 95) (hlo : rmY.locals ≤ 2300) (hrm : cells + mc1 ≤ room_1.cells ∧ slots + ms1 ≤ room_1.slots) (hK : K = 0 ∨ K = 3 ∨ K = 2) (hM : ∀ sz, XS l D cs yX10_film wsX10_film rmY [.ref x, .int (xs (i + 1).toNatClampNeg), .int (xs (i + 2).toNatClampNeg), .int (xs (i + 3).toNatClampNeg), .int (xs (i + 4).toNatClampNeg)] sz w ok w' K r mc1 ms1) (hT : ∀ sz, MI l D cs yX11_thrown wsX11_thrown rm_X11_thrown [.ref mo] sz rw1 rw1 th) (hth : th = (if K = 3 then 1 else if K = 2 then 2 else 0 : Int32)) (hv : K = 0 → r = b1) (hR : ∀ sz, MI l D cs yX11_film wsX11_film rm_X11_film [.ref mo, .int (xs (i + 1).toNatClampNeg), .int (xs (i + 2).toNatClampNeg), .int (xs (i + 3).toNatClampNeg), .int (xs (i + 4).toNatClampNeg)] sz rw rw1 b1) (H : Heap) (locs : List Loc) (ls : Array Slot) (hP : va_P D vwCl [w, rw, [oCell cs o v]].flatten H) (hD : va_D (va_A [] s.heap.size) [w, rw, [oCell cs o v]].flatten) (hS : va_S (va_A [] s.heap.size) s.heap H locs) (hl : lv_has ls 7 [(0, .ref b), (1, .ref x), (2, .ref mo), (3, .ref o), (4, .int i)]) (kk : ∀ (u : S) (v' : Nat → Int64) (H : Heap) (locs : List Loc) (ls : Array Slot), ok u → va_P D vwCl [w' u, rw1, [oCell cs o v']].flatten H → va_D (va_A [] s.heap.size) [w' u, rw1, [oCell cs o v']].flatten → va_S (va_A [] s.heap.size) s.heap H locs → lv_has ls 7 [(0, .ref b), (1, .ref x), (2, .ref mo), (3, .ref o), (4, .int i)] → W p l e room_1 s m av below meth c H locs (cells + mc1) (slots + ms1) Q (F0 m 2733 ls [])) : W p l e room_1 s m av below meth c H locs cells slots Q (F0 m 827 ls []) := by
  obtain ⟨hx, hb, hr, hlk, hml, hown, hts, hK0, hG, hE⟩ := id C0
  refine lv_aload_n hx hb dL_law__827 rfl (lv_at hl 1 rfl) ?_
  refine lv_aload_n hx hb dL_law__828 rfl (lv_at hl 0 rfl) ?_
  refine lv_iload hx hb dL_law__829 (lv_at hl 4 rfl) ?_
  refine lv_iconst (v := 1) hx hb dL_law__831 (by decide) ?_
  refine lv_iadd hx hb dL_law__832 ?_
  refine ow_scr C0 hX hbl hS h1 dL_law__833 ?_
  refine lv_aload_n hx hb dL_law__834 rfl (lv_at hl 0 rfl) ?_
  refine lv_iload hx hb dL_law__835 (lv_at hl 4 rfl) ?_
  refine lv_iconst (v := 2) hx hb dL_law__837 (by decide) ?_
  refine lv_iadd hx hb dL_law__838 ?_
  refine ow_scr C0 hX hbl hS h2 dL_law__839 ?_
  refine lv_aload_n hx hb dL_law__840 rfl (lv_at hl 0 rfl) ?_
  refine lv_iload hx hb dL_law__841 (lv_at hl 4 rfl) ?_
  refine lv_iconst (v := 3) hx hb dL_law__843 (by decide) ?_
  refine lv_iadd hx hb dL_law__844 ?_
  refine ow_scr C0 hX hbl hS h3 dL_law__845 ?_
  refine lv_aload_n hx hb dL_law__846 rfl (lv_at hl 0 rfl) ?_
  refine lv_iload hx hb dL_law__847 (lv_at hl 4 rfl) ?_
  refine lv_iconst (v := 4) hx hb dL_law__849 (by decide) ?_
  refine lv_iadd hx hb dL_law__850 ?_
  refine ow_scr C0 hX hbl hS h4 dL_law__851 ?_
  refine lv_aload_n hx hb dL_law__852 rfl (lv_at hl 3 rfl) ?_
  refine ow_lW (As := [.ref x, .int (xs (i + 1).toNatClampNeg), .int (xs (i + 2).toNatClampNeg), .int (xs (i + 3).toNatClampNeg), .int (xs (i + 4).toNatClampNeg), .ref o]) (rest := []) (r := (if K = 3 then 1 else if K = 2 then 2 else 0 : Int32)) C0 hN hC (c_L_film l D cs H.size x o ((xs (i + 1).toNatClampNeg)) ((xs (i + 2).toNatClampNeg)) ((xs (i + 3).toNatClampNeg)) ((xs (i + 4).toNatClampNeg)) v w fs hw0 ok w' K r rmY mc1 ms1 hc hs hf hlo hK hM) (vx_cwSW 6 hts gLS_168 rfl rfl rfl (by decide +kernel) ⟨(Nat.le_of_ble_eq_true rfl), (Nat.le_of_ble_eq_true rfl)⟩) hP hD hS rfl hl.1 rfl (Nat.le_of_ble_eq_true rfl) hrm dL_law__853 (fun u H locs hok hP hD hS => ?_)
  replace hP := sg_Pp pm_o hP
  replace hD := sg_Dp pm_o hD
  refine lv_istore (lv' := [(5, .int (if K = 3 then 1 else if K = 2 then 2 else 0 : Int32)), (0, .ref b), (1, .ref x), (2, .ref mo), (3, .ref o), (4, .int i)]) hx hb dL_law__856 hl (by decide) rfl (fun ls hl => ?_)
  refine lv_aload_n hx hb dL_law__858 rfl (lv_at hl 3 rfl) ?_
  refine lv_aload_n hx hb dL_law__859 rfl (lv_at hl 1 rfl) ?_
  refine lv_iload hx hb dL_law__860 (lv_at hl 5 rfl) ?_
  refine lv_iconst (v := 1) hx hb dL_law__862 (by decide) ?_
  refine lv_iadd hx hb dL_law__863 ?_
  refine ow_scr C0 hX hbl hS h1 dL_law__864 ?_
  refine lv_aload_n hx hb dL_law__865 rfl (lv_at hl 1 rfl) ?_
  refine lv_iload hx hb dL_law__866 (lv_at hl 5 rfl) ?_
  refine lv_iconst (v := 2) hx hb dL_law__868 (by decide) ?_
  refine lv_iadd hx hb dL_law__869 ?_
  refine ow_scr C0 hX hbl hS h2 dL_law__870 ?_
  refine lv_aload_n hx hb dL_law__871 rfl (lv_at hl 1 rfl) ?_
  refine lv_iload hx hb dL_law__872 (lv_at hl 5 rfl) ?_
  refine lv_iconst (v := 3) hx hb dL_law__874 (by decide) ?_
  refine lv_iadd hx hb dL_law__875 ?_
  refine ow_scr C0 hX hbl hS h3 dL_law__876 ?_
  refine lv_aload_n hx hb dL_law__877 rfl (lv_at hl 1 rfl) ?_
  refine lv_iload hx hb dL_law__878 (lv_at hl 5 rfl) ?_
  refine lv_iconst (v := 4) hx hb dL_law__880 (by decide) ?_
  refine lv_iadd hx hb dL_law__881 ?_
  refine ow_scr C0 hX hbl hS h4 dL_law__882 ?_
  refine ow_lR (As := [.int (xs (i + 1).toNatClampNeg), .int (xs (i + 2).toNatClampNeg), .int (xs (i + 3).toNatClampNeg), .int (xs (i + 4).toNatClampNeg)]) (rest := []) C0 (hR H.size) (cwV 4 hts gLV_171 rfl rfl rfl (by decide +kernel) ⟨(Nat.le_of_ble_eq_true rfl), (Nat.le_of_ble_eq_true rfl)⟩) 11 rfl hr0 hP hD hS rfl hl.1 rfl (Nat.le_of_ble_eq_true rfl) hrm dL_law__883 (fun H locs hP hD hS => ?_)
  refine lv_istore (lv' := [(6, .int b1), (5, .int (if K = 3 then 1 else if K = 2 then 2 else 0 : Int32)), (0, .ref b), (1, .ref x), (2, .ref mo), (3, .ref o), (4, .int i)]) hx hb dL_law__886 hl (by decide) rfl (fun ls hl => ?_)
  refine lv_aload_n hx hb dL_law__888 rfl (lv_at hl 4 rfl) ?_
  refine ow_lR (As := []) (rest := []) C0 (hT H.size) (cwV 0 hts gLV_133 rfl rfl rfl (by decide +kernel) ⟨(Nat.le_of_ble_eq_true rfl), (Nat.le_of_ble_eq_true rfl)⟩) 11 rfl hr1 hP hD hS rfl hl.1 rfl (Nat.le_of_ble_eq_true rfl) hrm dL_law__889 (fun H locs hP hD hS => ?_)
  refine lv_iload hx hb dL_law__892 (lv_at hl 1 rfl) ?_
  refine lv_icmp_eq (tgt := 899) hx hb dL_law__894 (by decide) (fun hc => ?_) (fun hc => absurd hth hc)
  refine lv_iload hx hb dL_law__899 (lv_at hl 1 rfl) ?_
  refine lv_if_ne (tgt := 916) hx hb dL_law__901 (by decide) (fun hc => ?_) (fun hc => ?_)
  · refine lv_goto (tgt := 2733) hx hb dL_law__916 (by decide) ?_
    exact kk u _ H locs ls hok hP hD hS (lv_sub hl [2, 3, 4, 5, 6] rfl)
  · rcases hK with rfl | rfl | rfl
    · have hv0 := hv rfl
      subst hv0
      refine lv_aload_n hx hb dL_law__904 rfl (lv_at hl 5 rfl) ?_
      refine lv_iconst (v := 0) hx hb dL_law__905 (by decide) ?_
      refine va_lald hx hb hK0 hP _ 2 (out_at cs o _ _ _) rfl (vp_in_nI (n := 0) (by decide) (by decide)) dL_law__906 ?_
      have ev : (if (0 : Nat) = 0 then vp_updL v (0 : Int32).toNatClampNeg r.toInt64 else v) (0 : Int32).toNatClampNeg = r.toInt64 := by simp [vp_updL]
      rw [ev]
      refine lv_iload hx hb dL_law__907 (lv_at hl 0 rfl) ?_
      refine lv_i2l (v := r.toInt64) hx hb dL_law__909 rfl ?_
      refine W.lcmp hx hb dL_law__910 ?_
      rw [lg_eq]
      refine lv_if_eq (tgt := 916) hx hb dL_law__911 (by decide) (fun _ => ?_) (fun h => absurd rfl h)
      refine lv_goto (tgt := 2733) hx hb dL_law__916 (by decide) ?_
      exact kk u _ H locs ls hok hP hD hS (lv_sub hl [2, 3, 4, 5, 6] rfl)
    · exact absurd hc (by decide)
    · exact absurd hc (by decide)
set_option maxHeartbeats 4000000 in
set_option maxRecDepth 100000 in
theorem lc_12 {p : Program} {l : Launch} {e : Env} {s : State} {m : MethodId} {av : Array Value} {below : List Frame} {meth : Method} {c : Code} {D : va_G} {cs : Nat → ClassId} {cells slots : Nat} {Q : State → Prop} (C0 : Cx p s m meth c av lw_tbl code 7 (some .boolean) RL D cs []) (hN : gN s) (hC : gC s) {b L : Nat} {xs : Nat → Int32} (hX : va_X b L xs s s.heap) (hbl : b < s.heap.size) {x mo o : Nat} (i : Int32) (h1 : vp_in (i + 1) L) (h2 : vp_in (i + 2) L) {S : Type} (w rw rw1 : va_W) (v : Nat → Int64) (fs fs2 fs3 : List Value) (hw0 : w[0]? = some (x, .inr (10, fs))) (hr0 : rw[0]? = some (mo, .inr (11, fs2))) (hr1 : rw1[0]? = some (mo, .inr (11, fs3))) (ok : S → Prop) (w' : S → va_W) (K : Nat) (r b1 th : Int32) (rmY : Room) (mc1 ms1 : Nat) (hc : rmY.cells = mc1) (hs : rmY.slots = ms1) (hf : rmY.frames ≤ 95) (hlo : rmY.locals ≤ 2300) (hrm : cells + mc1 ≤ room_1.cells ∧ slots + ms1 ≤ room_1.slots) (hK : K = 0 ∨ K = 1) (hM : ∀ sz, XS l D cs yX10_films wsX10_films rmY [.ref x, .int (xs (i + 1).toNatClampNeg), .int (xs (i + 2).toNatClampNeg)] sz w ok w' K r mc1 ms1) (hT : ∀ sz, MI l D cs yX11_thrown wsX11_thrown rm_X11_thrown [.ref mo] sz rw1 rw1 th) (hth : th = (if K = 1 then 1 else 0 : Int32)) (hv : K = 0 → r = b1) (hR : ∀ sz, MI l D cs yX11_films wsX11_films rm_X11_films [.ref mo, .int (xs (i + 1).toNatClampNeg), .int (xs (i + 2).toNatClampNeg)] sz rw rw1 b1) (H : Heap) (locs : List Loc) (ls : Array Slot) (hP : va_P D vwCl [w, rw, [oCell cs o v]].flatten H) (hD : va_D (va_A [] s.heap.size) [w, rw, [oCell cs o v]].flatten) (hS : va_S (va_A [] s.heap.size) s.heap H locs) (hl : lv_has ls 7 [(0, .ref b), (1, .ref x), (2, .ref mo), (3, .ref o), (4, .int i)]) (kk : ∀ (u : S) (v' : Nat → Int64) (H : Heap) (locs : List Loc) (ls : Array Slot), ok u → va_P D vwCl [w' u, rw1, [oCell cs o v']].flatten H → va_D (va_A [] s.heap.size) [w' u, rw1, [oCell cs o v']].flatten → va_S (va_A [] s.heap.size) s.heap H locs → lv_has ls 7 [(0, .ref b), (1, .ref x), (2, .ref mo), (3, .ref o), (4, .int i)] → W p l e room_1 s m av below meth c H locs (cells + mc1) (slots + ms1) Q (F0 m 2733 ls [])) : W p l e room_1 s m av below meth c H locs cells slots Q (F0 m 919 ls []) := by
  obtain ⟨hx, hb, hr, hlk, hml, hown, hts, hK0, hG, hE⟩ := id C0
  refine lv_aload_n hx hb dL_law__919 rfl (lv_at hl 1 rfl) ?_
  refine lv_aload_n hx hb dL_law__920 rfl (lv_at hl 0 rfl) ?_
  refine lv_iload hx hb dL_law__921 (lv_at hl 4 rfl) ?_
  refine lv_iconst (v := 1) hx hb dL_law__923 (by decide) ?_
  refine lv_iadd hx hb dL_law__924 ?_
  refine ow_scr C0 hX hbl hS h1 dL_law__925 ?_
  refine lv_aload_n hx hb dL_law__926 rfl (lv_at hl 0 rfl) ?_
  refine lv_iload hx hb dL_law__927 (lv_at hl 4 rfl) ?_
  refine lv_iconst (v := 2) hx hb dL_law__929 (by decide) ?_
  refine lv_iadd hx hb dL_law__930 ?_
  refine ow_scr C0 hX hbl hS h2 dL_law__931 ?_
  refine lv_aload_n hx hb dL_law__932 rfl (lv_at hl 3 rfl) ?_
  refine ow_lW (As := [.ref x, .int (xs (i + 1).toNatClampNeg), .int (xs (i + 2).toNatClampNeg), .ref o]) (rest := []) (r := (if K = 1 then 1 else 0 : Int32)) C0 hN hC (c_L_films l D cs H.size x o ((xs (i + 1).toNatClampNeg)) ((xs (i + 2).toNatClampNeg)) v w fs hw0 ok w' K r rmY mc1 ms1 hc hs hf hlo hK hM) (vx_cwSW 4 hts gLS_172 rfl rfl rfl (by decide +kernel) ⟨(Nat.le_of_ble_eq_true rfl), (Nat.le_of_ble_eq_true rfl)⟩) hP hD hS rfl hl.1 rfl (Nat.le_of_ble_eq_true rfl) hrm dL_law__933 (fun u H locs hok hP hD hS => ?_)
  replace hP := sg_Pp pm_o hP
  replace hD := sg_Dp pm_o hD
  refine lv_istore (lv' := [(5, .int (if K = 1 then 1 else 0 : Int32)), (0, .ref b), (1, .ref x), (2, .ref mo), (3, .ref o), (4, .int i)]) hx hb dL_law__936 hl (by decide) rfl (fun ls hl => ?_)
  refine lv_aload_n hx hb dL_law__938 rfl (lv_at hl 3 rfl) ?_
  refine lv_aload_n hx hb dL_law__939 rfl (lv_at hl 1 rfl) ?_
  refine lv_iload hx hb dL_law__940 (lv_at hl 5 rfl) ?_
  refine lv_iconst (v := 1) hx hb dL_law__942 (by decide) ?_
  refine lv_iadd hx hb dL_law__943 ?_
  refine ow_scr C0 hX hbl hS h1 dL_law__944 ?_
  refine lv_aload_n hx hb dL_law__945 rfl (lv_at hl 1 rfl) ?_
  refine lv_iload hx hb dL_law__946 (lv_at hl 5 rfl) ?_
  refine lv_iconst (v := 2) hx hb dL_law__948 (by decide) ?_
  refine lv_iadd hx hb dL_law__949 ?_
  refine ow_scr C0 hX hbl hS h2 dL_law__950 ?_
  refine ow_lR (As := [.int (xs (i + 1).toNatClampNeg), .int (xs (i + 2).toNatClampNeg)]) (rest := []) C0 (hR H.size) (cwV 2 hts gLV_174 rfl rfl rfl (by decide +kernel) ⟨(Nat.le_of_ble_eq_true rfl), (Nat.le_of_ble_eq_true rfl)⟩) 11 rfl hr0 hP hD hS rfl hl.1 rfl (Nat.le_of_ble_eq_true rfl) hrm dL_law__951 (fun H locs hP hD hS => ?_)
  refine lv_istore (lv' := [(6, .int b1), (5, .int (if K = 1 then 1 else 0 : Int32)), (0, .ref b), (1, .ref x), (2, .ref mo), (3, .ref o), (4, .int i)]) hx hb dL_law__954 hl (by decide) rfl (fun ls hl => ?_)
  refine lv_aload_n hx hb dL_law__956 rfl (lv_at hl 4 rfl) ?_
  refine ow_lR (As := []) (rest := []) C0 (hT H.size) (cwV 0 hts gLV_133 rfl rfl rfl (by decide +kernel) ⟨(Nat.le_of_ble_eq_true rfl), (Nat.le_of_ble_eq_true rfl)⟩) 11 rfl hr1 hP hD hS rfl hl.1 rfl (Nat.le_of_ble_eq_true rfl) hrm dL_law__957 (fun H locs hP hD hS => ?_)
  refine lv_iload hx hb dL_law__960 (lv_at hl 1 rfl) ?_
  refine lv_icmp_eq (tgt := 967) hx hb dL_law__962 (by decide) (fun hc => ?_) (fun hc => absurd hth hc)
  refine lv_iload hx hb dL_law__967 (lv_at hl 1 rfl) ?_
  refine lv_if_ne (tgt := 984) hx hb dL_law__969 (by decide) (fun hc => ?_) (fun hc => ?_)
  · refine lv_goto (tgt := 2733) hx hb dL_law__984 (by decide) ?_
    exact kk u _ H locs ls hok hP hD hS (lv_sub hl [2, 3, 4, 5, 6] rfl)
  · rcases hK with rfl | rfl
    · have hv0 := hv rfl
      subst hv0
      refine lv_aload_n hx hb dL_law__972 rfl (lv_at hl 5 rfl) ?_
      refine lv_iconst (v := 0) hx hb dL_law__973 (by decide) ?_
      refine va_lald hx hb hK0 hP _ 2 (out_at cs o _ _ _) rfl (vp_in_nI (n := 0) (by decide) (by decide)) dL_law__974 ?_
      have ev : (if (0 : Nat) = 0 then vp_updL v (0 : Int32).toNatClampNeg r.toInt64 else v) (0 : Int32).toNatClampNeg = r.toInt64 := by simp [vp_updL]
      rw [ev]
      refine lv_iload hx hb dL_law__975 (lv_at hl 0 rfl) ?_
      refine lv_i2l (v := r.toInt64) hx hb dL_law__977 rfl ?_
      refine W.lcmp hx hb dL_law__978 ?_
      rw [lg_eq]
      refine lv_if_eq (tgt := 984) hx hb dL_law__979 (by decide) (fun _ => ?_) (fun h => absurd rfl h)
      refine lv_goto (tgt := 2733) hx hb dL_law__984 (by decide) ?_
      exact kk u _ H locs ls hok hP hD hS (lv_sub hl [2, 3, 4, 5, 6] rfl)
    · exact absurd hc (by decide)
set_option maxHeartbeats 4000000 in
set_option maxRecDepth 100000 in
theorem lc_13 {p : Program} {l : Launch} {e : Env} {s : State} {m : MethodId} {av : Array Value} {below : List Frame} {meth : Method} {c : Code} {D : va_G} {cs : Nat → ClassId} {cells slots : Nat} {Q : State → Prop} (C0 : Cx p s m meth c av lw_tbl code 7 (some .boolean) RL D cs []) (hN : gN s) (hC : gC s) {b L : Nat} {xs : Nat → Int32} (hX : va_X b L xs s s.heap) (hbl : b < s.heap.size) {x mo o : Nat} (i : Int32) (h1 : vp_in (i + 1) L) (h2 : vp_in (i + 2) L) {S : Type} (w rw rw1 : va_W) (v : Nat → Int64) (fs fs2 fs3 : List Value) (hw0 : w[0]? = some (x, .inr (10, fs))) (hr0 : rw[0]? = some (mo, .inr (11, fs2))) (hr1 : rw1[0]? = some (mo, .inr (11, fs3))) (ok : S → Prop) (w' : S → va_W) (K : Nat) (r b1 th : Int32) (rmY : Room) (mc1 ms1 : Nat) (hc : rmY.cells = mc1) (hs : rmY.slots = ms1) (hf : rmY.frames ≤ 95) (hlo : rmY.locals ≤ 2300) (hrm : cells + mc1 ≤ room_1.cells ∧ slots + ms1 ≤ room_1.slots) (hK : K = 0 ∨ K = 2 ∨ K = 1) (hM : ∀ sz, XS l D cs yX10_have wsX10_have rmY [.ref x, .int (xs (i + 1).toNatClampNeg), .int (xs (i + 2).toNatClampNeg)] sz w ok w' K r mc1 ms1) (hT : ∀ sz, MI l D cs yX11_thrown wsX11_thrown rm_X11_thrown [.ref mo] sz rw1 rw1 th) (hth : th = (if K = 2 then 1 else if K = 1 then 2 else 0 : Int32)) (hv : K = 0 → r = b1) (hR : ∀ sz, MI l D cs yX11_have wsX11_have rm_X11_have [.ref mo, .int (xs (i + 1).toNatClampNeg), .int (xs (i + 2).toNatClampNeg)] sz rw rw1 b1) (H : Heap) (locs : List Loc) (ls : Array Slot) (hP : va_P D vwCl [w, rw, [oCell cs o v]].flatten H) (hD : va_D (va_A [] s.heap.size) [w, rw, [oCell cs o v]].flatten) (hS : va_S (va_A [] s.heap.size) s.heap H locs) (hl : lv_has ls 7 [(0, .ref b), (1, .ref x), (2, .ref mo), (3, .ref o), (4, .int i)]) (kk : ∀ (u : S) (v' : Nat → Int64) (H : Heap) (locs : List Loc) (ls : Array Slot), ok u → va_P D vwCl [w' u, rw1, [oCell cs o v']].flatten H → va_D (va_A [] s.heap.size) [w' u, rw1, [oCell cs o v']].flatten → va_S (va_A [] s.heap.size) s.heap H locs → lv_has ls 7 [(0, .ref b), (1, .ref x), (2, .ref mo), (3, .ref o), (4, .int i)] → W p l e room_1 s m av below meth c H locs (cells + mc1) (slots + ms1) Q (F0 m 2733 ls [])) : W p l e room_1 s m av below meth c H locs cells slots Q (F0 m 987 ls []) := by
  obtain ⟨hx, hb, hr, hlk, hml, hown, hts, hK0, hG, hE⟩ := id C0
  refine lv_aload_n hx hb dL_law__987 rfl (lv_at hl 1 rfl) ?_
  refine lv_aload_n hx hb dL_law__988 rfl (lv_at hl 0 rfl) ?_
  refine lv_iload hx hb dL_law__989 (lv_at hl 4 rfl) ?_
  refine lv_iconst (v := 1) hx hb dL_law__991 (by decide) ?_
  refine lv_iadd hx hb dL_law__992 ?_
  refine ow_scr C0 hX hbl hS h1 dL_law__993 ?_
  refine lv_aload_n hx hb dL_law__994 rfl (lv_at hl 0 rfl) ?_
  refine lv_iload hx hb dL_law__995 (lv_at hl 4 rfl) ?_
  refine lv_iconst (v := 2) hx hb dL_law__997 (by decide) ?_
  refine lv_iadd hx hb dL_law__998 ?_
  refine ow_scr C0 hX hbl hS h2 dL_law__999 ?_
  refine lv_aload_n hx hb dL_law__1000 rfl (lv_at hl 3 rfl) ?_
  refine ow_lW (As := [.ref x, .int (xs (i + 1).toNatClampNeg), .int (xs (i + 2).toNatClampNeg), .ref o]) (rest := []) (r := (if K = 2 then 1 else if K = 1 then 2 else 0 : Int32)) C0 hN hC (c_L_have l D cs H.size x o ((xs (i + 1).toNatClampNeg)) ((xs (i + 2).toNatClampNeg)) v w fs hw0 ok w' K r rmY mc1 ms1 hc hs hf hlo hK hM) (vx_cwSW 4 hts gLS_175 rfl rfl rfl (by decide +kernel) ⟨(Nat.le_of_ble_eq_true rfl), (Nat.le_of_ble_eq_true rfl)⟩) hP hD hS rfl hl.1 rfl (Nat.le_of_ble_eq_true rfl) hrm dL_law__1001 (fun u H locs hok hP hD hS => ?_)
  replace hP := sg_Pp pm_o hP
  replace hD := sg_Dp pm_o hD
  refine lv_istore (lv' := [(5, .int (if K = 2 then 1 else if K = 1 then 2 else 0 : Int32)), (0, .ref b), (1, .ref x), (2, .ref mo), (3, .ref o), (4, .int i)]) hx hb dL_law__1004 hl (by decide) rfl (fun ls hl => ?_)
  refine lv_aload_n hx hb dL_law__1006 rfl (lv_at hl 3 rfl) ?_
  refine lv_aload_n hx hb dL_law__1007 rfl (lv_at hl 1 rfl) ?_
  refine lv_iload hx hb dL_law__1008 (lv_at hl 5 rfl) ?_
  refine lv_iconst (v := 1) hx hb dL_law__1010 (by decide) ?_
  refine lv_iadd hx hb dL_law__1011 ?_
  refine ow_scr C0 hX hbl hS h1 dL_law__1012 ?_
  refine lv_aload_n hx hb dL_law__1013 rfl (lv_at hl 1 rfl) ?_
  refine lv_iload hx hb dL_law__1014 (lv_at hl 5 rfl) ?_
  refine lv_iconst (v := 2) hx hb dL_law__1016 (by decide) ?_
  refine lv_iadd hx hb dL_law__1017 ?_
  refine ow_scr C0 hX hbl hS h2 dL_law__1018 ?_
  refine ow_lR (As := [.int (xs (i + 1).toNatClampNeg), .int (xs (i + 2).toNatClampNeg)]) (rest := []) C0 (hR H.size) (cwV 2 hts gLV_177 rfl rfl rfl (by decide +kernel) ⟨(Nat.le_of_ble_eq_true rfl), (Nat.le_of_ble_eq_true rfl)⟩) 11 rfl hr0 hP hD hS rfl hl.1 rfl (Nat.le_of_ble_eq_true rfl) hrm dL_law__1019 (fun H locs hP hD hS => ?_)
  refine lv_istore (lv' := [(6, .int b1), (5, .int (if K = 2 then 1 else if K = 1 then 2 else 0 : Int32)), (0, .ref b), (1, .ref x), (2, .ref mo), (3, .ref o), (4, .int i)]) hx hb dL_law__1022 hl (by decide) rfl (fun ls hl => ?_)
  refine lv_aload_n hx hb dL_law__1024 rfl (lv_at hl 4 rfl) ?_
  refine ow_lR (As := []) (rest := []) C0 (hT H.size) (cwV 0 hts gLV_133 rfl rfl rfl (by decide +kernel) ⟨(Nat.le_of_ble_eq_true rfl), (Nat.le_of_ble_eq_true rfl)⟩) 11 rfl hr1 hP hD hS rfl hl.1 rfl (Nat.le_of_ble_eq_true rfl) hrm dL_law__1025 (fun H locs hP hD hS => ?_)
  refine lv_iload hx hb dL_law__1028 (lv_at hl 1 rfl) ?_
  refine lv_icmp_eq (tgt := 1035) hx hb dL_law__1030 (by decide) (fun hc => ?_) (fun hc => absurd hth hc)
  refine lv_iload hx hb dL_law__1035 (lv_at hl 1 rfl) ?_
  refine lv_if_ne (tgt := 1052) hx hb dL_law__1037 (by decide) (fun hc => ?_) (fun hc => ?_)
  · refine lv_goto (tgt := 2733) hx hb dL_law__1052 (by decide) ?_
    exact kk u _ H locs ls hok hP hD hS (lv_sub hl [2, 3, 4, 5, 6] rfl)
  · rcases hK with rfl | rfl | rfl
    · have hv0 := hv rfl
      subst hv0
      refine lv_aload_n hx hb dL_law__1040 rfl (lv_at hl 5 rfl) ?_
      refine lv_iconst (v := 0) hx hb dL_law__1041 (by decide) ?_
      refine va_lald hx hb hK0 hP _ 2 (out_at cs o _ _ _) rfl (vp_in_nI (n := 0) (by decide) (by decide)) dL_law__1042 ?_
      have ev : (if (0 : Nat) = 0 then vp_updL v (0 : Int32).toNatClampNeg r.toInt64 else v) (0 : Int32).toNatClampNeg = r.toInt64 := by simp [vp_updL]
      rw [ev]
      refine lv_iload hx hb dL_law__1043 (lv_at hl 0 rfl) ?_
      refine lv_i2l (v := r.toInt64) hx hb dL_law__1045 rfl ?_
      refine W.lcmp hx hb dL_law__1046 ?_
      rw [lg_eq]
      refine lv_if_eq (tgt := 1052) hx hb dL_law__1047 (by decide) (fun _ => ?_) (fun h => absurd rfl h)
      refine lv_goto (tgt := 2733) hx hb dL_law__1052 (by decide) ?_
      exact kk u _ H locs ls hok hP hD hS (lv_sub hl [2, 3, 4, 5, 6] rfl)
    · exact absurd hc (by decide)
    · exact absurd hc (by decide)
set_option maxHeartbeats 4000000 in
set_option maxRecDepth 100000 in
theorem lc_14 {p : Program} {l : Launch} {e : Env} {s : State} {m : MethodId} {av : Array Value} {below : List Frame} {meth : Method} {c : Code} {D : va_G} {cs : Nat → ClassId} {cells slots : Nat} {Q : State → Prop} (C0 : Cx p s m meth c av lw_tbl code 7 (some .boolean) RL D cs []) (hN : gN s) (hC : gC s) {b L : Nat} {xs : Nat → Int32} (hX : va_X b L xs s s.heap) (hbl : b < s.heap.size) {x mo o : Nat} (i : Int32) (h1 : vp_in (i + 1) L) (h2 : vp_in (i + 2) L) {S : Type} (w rw rw1 : va_W) (v : Nat → Int64) (fs fs2 fs3 : List Value) (hw0 : w[0]? = some (x, .inr (10, fs))) (hr0 : rw[0]? = some (mo, .inr (11, fs2))) (hr1 : rw1[0]? = some (mo, .inr (11, fs3))) (ok : S → Prop) (w' : S → va_W) (K : Nat) (r b1 th : Int32) (rmY : Room) (mc1 ms1 : Nat) (hc : rmY.cells = mc1) (hs : rmY.slots = ms1) (hf : rmY.frames ≤ 95) (hlo : rmY.locals ≤ 2300) (hrm : cells + mc1 ≤ room_1.cells ∧ slots + ms1 ≤ room_1.slots) (hK : K = 0 ∨ K = 2 ∨ K = 1) (hM : ∀ sz, XS l D cs yX10_showing wsX10_showing rmY [.ref x, .int (xs (i + 1).toNatClampNeg), .int (xs (i + 2).toNatClampNeg)] sz w ok w' K r mc1 ms1) (hT : ∀ sz, MI l D cs yX11_thrown wsX11_thrown rm_X11_thrown [.ref mo] sz rw1 rw1 th) (hth : th = (if K = 2 then 1 else if K = 1 then 2 else 0 : Int32)) (hv : K = 0 → r = b1) (hR : ∀ sz, MI l D cs yX11_showing wsX11_showing rm_X11_showing [.ref mo, .int (xs (i + 1).toNatClampNeg), .int (xs (i + 2).toNatClampNeg)] sz rw rw1 b1) (H : Heap) (locs : List Loc) (ls : Array Slot) (hP : va_P D vwCl [w, rw, [oCell cs o v]].flatten H) (hD : va_D (va_A [] s.heap.size) [w, rw, [oCell cs o v]].flatten) (hS : va_S (va_A [] s.heap.size) s.heap H locs) (hl : lv_has ls 7 [(0, .ref b), (1, .ref x), (2, .ref mo), (3, .ref o), (4, .int i)]) (kk : ∀ (u : S) (v' : Nat → Int64) (H : Heap) (locs : List Loc) (ls : Array Slot), ok u → va_P D vwCl [w' u, rw1, [oCell cs o v']].flatten H → va_D (va_A [] s.heap.size) [w' u, rw1, [oCell cs o v']].flatten → va_S (va_A [] s.heap.size) s.heap H locs → lv_has ls 7 [(0, .ref b), (1, .ref x), (2, .ref mo), (3, .ref o), (4, .int i)] → W p l e room_1 s m av below meth c H locs (cells + mc1) (slots + ms1) Q (F0 m 2733 ls [])) : W p l e room_1 s m av below meth c H locs cells slots Q (F0 m 1055 ls []) := by
  obtain ⟨hx, hb, hr, hlk, hml, hown, hts, hK0, hG, hE⟩ := id C0
  refine lv_aload_n hx hb dL_law__1055 rfl (lv_at hl 1 rfl) ?_
  refine lv_aload_n hx hb dL_law__1056 rfl (lv_at hl 0 rfl) ?_
  refine lv_iload hx hb dL_law__1057 (lv_at hl 4 rfl) ?_
  refine lv_iconst (v := 1) hx hb dL_law__1059 (by decide) ?_
  refine lv_iadd hx hb dL_law__1060 ?_
  refine ow_scr C0 hX hbl hS h1 dL_law__1061 ?_
  refine lv_aload_n hx hb dL_law__1062 rfl (lv_at hl 0 rfl) ?_
  refine lv_iload hx hb dL_law__1063 (lv_at hl 4 rfl) ?_
  refine lv_iconst (v := 2) hx hb dL_law__1065 (by decide) ?_
  refine lv_iadd hx hb dL_law__1066 ?_
  refine ow_scr C0 hX hbl hS h2 dL_law__1067 ?_
  refine lv_aload_n hx hb dL_law__1068 rfl (lv_at hl 3 rfl) ?_
  refine ow_lW (As := [.ref x, .int (xs (i + 1).toNatClampNeg), .int (xs (i + 2).toNatClampNeg), .ref o]) (rest := []) (r := (if K = 2 then 1 else if K = 1 then 2 else 0 : Int32)) C0 hN hC (c_L_showing l D cs H.size x o ((xs (i + 1).toNatClampNeg)) ((xs (i + 2).toNatClampNeg)) v w fs hw0 ok w' K r rmY mc1 ms1 hc hs hf hlo hK hM) (vx_cwSW 4 hts gLS_178 rfl rfl rfl (by decide +kernel) ⟨(Nat.le_of_ble_eq_true rfl), (Nat.le_of_ble_eq_true rfl)⟩) hP hD hS rfl hl.1 rfl (Nat.le_of_ble_eq_true rfl) hrm dL_law__1069 (fun u H locs hok hP hD hS => ?_)
  replace hP := sg_Pp pm_o hP
  replace hD := sg_Dp pm_o hD
  refine lv_istore (lv' := [(5, .int (if K = 2 then 1 else if K = 1 then 2 else 0 : Int32)), (0, .ref b), (1, .ref x), (2, .ref mo), (3, .ref o), (4, .int i)]) hx hb dL_law__1072 hl (by decide) rfl (fun ls hl => ?_)
  refine lv_aload_n hx hb dL_law__1074 rfl (lv_at hl 3 rfl) ?_
  refine lv_aload_n hx hb dL_law__1075 rfl (lv_at hl 1 rfl) ?_
  refine lv_iload hx hb dL_law__1076 (lv_at hl 5 rfl) ?_
  refine lv_iconst (v := 1) hx hb dL_law__1078 (by decide) ?_
  refine lv_iadd hx hb dL_law__1079 ?_
  refine ow_scr C0 hX hbl hS h1 dL_law__1080 ?_
  refine lv_aload_n hx hb dL_law__1081 rfl (lv_at hl 1 rfl) ?_
  refine lv_iload hx hb dL_law__1082 (lv_at hl 5 rfl) ?_
  refine lv_iconst (v := 2) hx hb dL_law__1084 (by decide) ?_
  refine lv_iadd hx hb dL_law__1085 ?_
  refine ow_scr C0 hX hbl hS h2 dL_law__1086 ?_
  refine ow_lR (As := [.int (xs (i + 1).toNatClampNeg), .int (xs (i + 2).toNatClampNeg)]) (rest := []) C0 (hR H.size) (cwV 2 hts gLV_180 rfl rfl rfl (by decide +kernel) ⟨(Nat.le_of_ble_eq_true rfl), (Nat.le_of_ble_eq_true rfl)⟩) 11 rfl hr0 hP hD hS rfl hl.1 rfl (Nat.le_of_ble_eq_true rfl) hrm dL_law__1087 (fun H locs hP hD hS => ?_)
  refine lv_istore (lv' := [(6, .int b1), (5, .int (if K = 2 then 1 else if K = 1 then 2 else 0 : Int32)), (0, .ref b), (1, .ref x), (2, .ref mo), (3, .ref o), (4, .int i)]) hx hb dL_law__1090 hl (by decide) rfl (fun ls hl => ?_)
  refine lv_aload_n hx hb dL_law__1092 rfl (lv_at hl 4 rfl) ?_
  refine ow_lR (As := []) (rest := []) C0 (hT H.size) (cwV 0 hts gLV_133 rfl rfl rfl (by decide +kernel) ⟨(Nat.le_of_ble_eq_true rfl), (Nat.le_of_ble_eq_true rfl)⟩) 11 rfl hr1 hP hD hS rfl hl.1 rfl (Nat.le_of_ble_eq_true rfl) hrm dL_law__1093 (fun H locs hP hD hS => ?_)
  refine lv_iload hx hb dL_law__1096 (lv_at hl 1 rfl) ?_
  refine lv_icmp_eq (tgt := 1103) hx hb dL_law__1098 (by decide) (fun hc => ?_) (fun hc => absurd hth hc)
  refine lv_iload hx hb dL_law__1103 (lv_at hl 1 rfl) ?_
  refine lv_if_ne (tgt := 1120) hx hb dL_law__1105 (by decide) (fun hc => ?_) (fun hc => ?_)
  · refine lv_goto (tgt := 2733) hx hb dL_law__1120 (by decide) ?_
    exact kk u _ H locs ls hok hP hD hS (lv_sub hl [2, 3, 4, 5, 6] rfl)
  · rcases hK with rfl | rfl | rfl
    · have hv0 := hv rfl
      subst hv0
      refine lv_aload_n hx hb dL_law__1108 rfl (lv_at hl 5 rfl) ?_
      refine lv_iconst (v := 0) hx hb dL_law__1109 (by decide) ?_
      refine va_lald hx hb hK0 hP _ 2 (out_at cs o _ _ _) rfl (vp_in_nI (n := 0) (by decide) (by decide)) dL_law__1110 ?_
      have ev : (if (0 : Nat) = 0 then vp_updL v (0 : Int32).toNatClampNeg r.toInt64 else v) (0 : Int32).toNatClampNeg = r.toInt64 := by simp [vp_updL]
      rw [ev]
      refine lv_iload hx hb dL_law__1111 (lv_at hl 0 rfl) ?_
      refine lv_i2l (v := r.toInt64) hx hb dL_law__1113 rfl ?_
      refine W.lcmp hx hb dL_law__1114 ?_
      rw [lg_eq]
      refine lv_if_eq (tgt := 1120) hx hb dL_law__1115 (by decide) (fun _ => ?_) (fun h => absurd rfl h)
      refine lv_goto (tgt := 2733) hx hb dL_law__1120 (by decide) ?_
      exact kk u _ H locs ls hok hP hD hS (lv_sub hl [2, 3, 4, 5, 6] rfl)
    · exact absurd hc (by decide)
    · exact absurd hc (by decide)
set_option maxHeartbeats 4000000 in
set_option maxRecDepth 100000 in
theorem lc_15 {p : Program} {l : Launch} {e : Env} {s : State} {m : MethodId} {av : Array Value} {below : List Frame} {meth : Method} {c : Code} {D : va_G} {cs : Nat → ClassId} {cells slots : Nat} {Q : State → Prop} (C0 : Cx p s m meth c av lw_tbl code 7 (some .boolean) RL D cs []) (hN : gN s) (hC : gC s) {b L : Nat} {xs : Nat → Int32} (hX : va_X b L xs s s.heap) (hbl : b < s.heap.size) {x mo o : Nat} (i : Int32) (h1 : vp_in (i + 1) L) (h2 : vp_in (i + 2) L) (h3 : vp_in (i + 3) L) {S : Type} (w rw rw1 : va_W) (v : Nat → Int64) (fs fs2 fs3 : List Value) (hw0 : w[0]? = some (x, .inr (10, fs))) (hr0 : rw[0]? = some (mo, .inr (11, fs2))) (hr1 : rw1[0]? = some (mo, .inr (11, fs3))) (ok : S → Prop) (w' : S → va_W) (K : Nat) (r b1 th : Int32) (rmY : Room) (mc1 ms1 : Nat) (hc : rmY.cells = mc1) (hs : rmY.slots = ms1) (hf : rmY.frames ≤ 95) (hlo : rmY.locals ≤ 2300) (hrm : cells + mc1 ≤ room_1.cells ∧ slots + ms1 ≤ room_1.slots) (hK : K = 0 ∨ K = 3 ∨ K = 2) (hM : ∀ sz, XS l D cs yX10_settles wsX10_settles rmY [.ref x, .int (xs (i + 1).toNatClampNeg), .int (xs (i + 2).toNatClampNeg), .int (xs (i + 3).toNatClampNeg)] sz w ok w' K r mc1 ms1) (hT : ∀ sz, MI l D cs yX11_thrown wsX11_thrown rm_X11_thrown [.ref mo] sz rw1 rw1 th) (hth : th = (if K = 3 then 1 else if K = 2 then 2 else 0 : Int32)) (hv : K = 0 → r = b1) (hR : ∀ sz, MI l D cs yX11_settles wsX11_settles rm_X11_settles [.ref mo, .int (xs (i + 1).toNatClampNeg), .int (xs (i + 2).toNatClampNeg), .int (xs (i + 3).toNatClampNeg)] sz rw rw1 b1) (H : Heap) (locs : List Loc) (ls : Array Slot) (hP : va_P D vwCl [w, rw, [oCell cs o v]].flatten H) (hD : va_D (va_A [] s.heap.size) [w, rw, [oCell cs o v]].flatten) (hS : va_S (va_A [] s.heap.size) s.heap H locs) (hl : lv_has ls 7 [(0, .ref b), (1, .ref x), (2, .ref mo), (3, .ref o), (4, .int i)]) (kk : ∀ (u : S) (v' : Nat → Int64) (H : Heap) (locs : List Loc) (ls : Array Slot), ok u → va_P D vwCl [w' u, rw1, [oCell cs o v']].flatten H → va_D (va_A [] s.heap.size) [w' u, rw1, [oCell cs o v']].flatten → va_S (va_A [] s.heap.size) s.heap H locs → lv_has ls 7 [(0, .ref b), (1, .ref x), (2, .ref mo), (3, .ref o), (4, .int i)] → W p l e room_1 s m av below meth c H locs (cells + mc1) (slots + ms1) Q (F0 m 2733 ls [])) : W p l e room_1 s m av below meth c H locs cells slots Q (F0 m 1123 ls []) := by
  obtain ⟨hx, hb, hr, hlk, hml, hown, hts, hK0, hG, hE⟩ := id C0
  refine lv_aload_n hx hb dL_law__1123 rfl (lv_at hl 1 rfl) ?_
  refine lv_aload_n hx hb dL_law__1124 rfl (lv_at hl 0 rfl) ?_
  refine lv_iload hx hb dL_law__1125 (lv_at hl 4 rfl) ?_
  refine lv_iconst (v := 1) hx hb dL_law__1127 (by decide) ?_
  refine lv_iadd hx hb dL_law__1128 ?_
  refine ow_scr C0 hX hbl hS h1 dL_law__1129 ?_
  refine lv_aload_n hx hb dL_law__1130 rfl (lv_at hl 0 rfl) ?_
  refine lv_iload hx hb dL_law__1131 (lv_at hl 4 rfl) ?_
  refine lv_iconst (v := 2) hx hb dL_law__1133 (by decide) ?_
  refine lv_iadd hx hb dL_law__1134 ?_
  refine ow_scr C0 hX hbl hS h2 dL_law__1135 ?_
  refine lv_aload_n hx hb dL_law__1136 rfl (lv_at hl 0 rfl) ?_
  refine lv_iload hx hb dL_law__1137 (lv_at hl 4 rfl) ?_
  refine lv_iconst (v := 3) hx hb dL_law__1139 (by decide) ?_
  refine lv_iadd hx hb dL_law__1140 ?_
  refine ow_scr C0 hX hbl hS h3 dL_law__1141 ?_
  refine lv_aload_n hx hb dL_law__1142 rfl (lv_at hl 3 rfl) ?_
  refine ow_lW (As := [.ref x, .int (xs (i + 1).toNatClampNeg), .int (xs (i + 2).toNatClampNeg), .int (xs (i + 3).toNatClampNeg), .ref o]) (rest := []) (r := (if K = 3 then 1 else if K = 2 then 2 else 0 : Int32)) C0 hN hC (c_L_settles l D cs H.size x o ((xs (i + 1).toNatClampNeg)) ((xs (i + 2).toNatClampNeg)) ((xs (i + 3).toNatClampNeg)) v w fs hw0 ok w' K r rmY mc1 ms1 hc hs hf hlo hK hM) (vx_cwSW 5 hts gLS_181 rfl rfl rfl (by decide +kernel) ⟨(Nat.le_of_ble_eq_true rfl), (Nat.le_of_ble_eq_true rfl)⟩) hP hD hS rfl hl.1 rfl (Nat.le_of_ble_eq_true rfl) hrm dL_law__1143 (fun u H locs hok hP hD hS => ?_)
  replace hP := sg_Pp pm_o hP
  replace hD := sg_Dp pm_o hD
  refine lv_istore (lv' := [(5, .int (if K = 3 then 1 else if K = 2 then 2 else 0 : Int32)), (0, .ref b), (1, .ref x), (2, .ref mo), (3, .ref o), (4, .int i)]) hx hb dL_law__1146 hl (by decide) rfl (fun ls hl => ?_)
  refine lv_aload_n hx hb dL_law__1148 rfl (lv_at hl 3 rfl) ?_
  refine lv_aload_n hx hb dL_law__1149 rfl (lv_at hl 1 rfl) ?_
  refine lv_iload hx hb dL_law__1150 (lv_at hl 5 rfl) ?_
  refine lv_iconst (v := 1) hx hb dL_law__1152 (by decide) ?_
  refine lv_iadd hx hb dL_law__1153 ?_
  refine ow_scr C0 hX hbl hS h1 dL_law__1154 ?_
  refine lv_aload_n hx hb dL_law__1155 rfl (lv_at hl 1 rfl) ?_
  refine lv_iload hx hb dL_law__1156 (lv_at hl 5 rfl) ?_
  refine lv_iconst (v := 2) hx hb dL_law__1158 (by decide) ?_
  refine lv_iadd hx hb dL_law__1159 ?_
  refine ow_scr C0 hX hbl hS h2 dL_law__1160 ?_
  refine lv_aload_n hx hb dL_law__1161 rfl (lv_at hl 1 rfl) ?_
  refine lv_iload hx hb dL_law__1162 (lv_at hl 5 rfl) ?_
  refine lv_iconst (v := 3) hx hb dL_law__1164 (by decide) ?_
  refine lv_iadd hx hb dL_law__1165 ?_
  refine ow_scr C0 hX hbl hS h3 dL_law__1166 ?_
  refine ow_lR (As := [.int (xs (i + 1).toNatClampNeg), .int (xs (i + 2).toNatClampNeg), .int (xs (i + 3).toNatClampNeg)]) (rest := []) C0 (hR H.size) (cwV 3 hts gLV_183 rfl rfl rfl (by decide +kernel) ⟨(Nat.le_of_ble_eq_true rfl), (Nat.le_of_ble_eq_true rfl)⟩) 11 rfl hr0 hP hD hS rfl hl.1 rfl (Nat.le_of_ble_eq_true rfl) hrm dL_law__1167 (fun H locs hP hD hS => ?_)
  refine lv_istore (lv' := [(6, .int b1), (5, .int (if K = 3 then 1 else if K = 2 then 2 else 0 : Int32)), (0, .ref b), (1, .ref x), (2, .ref mo), (3, .ref o), (4, .int i)]) hx hb dL_law__1170 hl (by decide) rfl (fun ls hl => ?_)
  refine lv_aload_n hx hb dL_law__1172 rfl (lv_at hl 4 rfl) ?_
  refine ow_lR (As := []) (rest := []) C0 (hT H.size) (cwV 0 hts gLV_133 rfl rfl rfl (by decide +kernel) ⟨(Nat.le_of_ble_eq_true rfl), (Nat.le_of_ble_eq_true rfl)⟩) 11 rfl hr1 hP hD hS rfl hl.1 rfl (Nat.le_of_ble_eq_true rfl) hrm dL_law__1173 (fun H locs hP hD hS => ?_)
  refine lv_iload hx hb dL_law__1176 (lv_at hl 1 rfl) ?_
  refine lv_icmp_eq (tgt := 1183) hx hb dL_law__1178 (by decide) (fun hc => ?_) (fun hc => absurd hth hc)
  refine lv_iload hx hb dL_law__1183 (lv_at hl 1 rfl) ?_
  refine lv_if_ne (tgt := 1207) hx hb dL_law__1185 (by decide) (fun hc => ?_) (fun hc => ?_)
  · refine lv_goto (tgt := 2733) hx hb dL_law__1207 (by decide) ?_
    exact kk u _ H locs ls hok hP hD hS (lv_sub hl [2, 3, 4, 5, 6] rfl)
  · rcases hK with rfl | rfl | rfl
    · have hv0 := hv rfl
      subst hv0
      refine lv_aload_n hx hb dL_law__1188 rfl (lv_at hl 5 rfl) ?_
      refine lv_iconst (v := 0) hx hb dL_law__1189 (by decide) ?_
      refine va_lald hx hb hK0 hP _ 2 (out_at cs o _ _ _) rfl (vp_in_nI (n := 0) (by decide) (by decide)) dL_law__1190 ?_
      have ev : (if (0 : Nat) = 0 then vp_updL v (0 : Int32).toNatClampNeg (if r = 0 then (0 : Int64) else 1) else v) (0 : Int32).toNatClampNeg = (if r = 0 then (0 : Int64) else 1) := by simp [vp_updL]
      rw [ev]
      refine lv_iload hx hb dL_law__1191 (lv_at hl 0 rfl) ?_
      refine lv_if_eq (tgt := 1200) hx hb dL_law__1193 (by decide) (fun hz => ?_) (fun hz => ?_)
      · rw [if_pos hz]
        refine lv_lconst (v := 0) hx hb dL_law__1200 rfl ?_
        refine W.lcmp hx hb dL_law__1201 ?_
        rw [lg_eq]
        refine lv_if_eq (tgt := 1207) hx hb dL_law__1202 (by decide) (fun _ => ?_) (fun h => absurd rfl h)
        refine lv_goto (tgt := 2733) hx hb dL_law__1207 (by decide) ?_
        exact kk u _ H locs ls hok hP hD hS (lv_sub hl [2, 3, 4, 5, 6] rfl)
      · rw [if_neg hz]
        refine lv_lconst (v := 1) hx hb dL_law__1196 rfl ?_
        refine lv_goto (tgt := 1201) hx hb dL_law__1197 (by decide) ?_
        refine W.lcmp hx hb dL_law__1201 ?_
        rw [lg_eq]
        refine lv_if_eq (tgt := 1207) hx hb dL_law__1202 (by decide) (fun _ => ?_) (fun h => absurd rfl h)
        refine lv_goto (tgt := 2733) hx hb dL_law__1207 (by decide) ?_
        exact kk u _ H locs ls hok hP hD hS (lv_sub hl [2, 3, 4, 5, 6] rfl)
    · exact absurd hc (by decide)
    · exact absurd hc (by decide)
set_option maxHeartbeats 4000000 in
set_option maxRecDepth 100000 in
theorem lc_16 {p : Program} {l : Launch} {e : Env} {s : State} {m : MethodId} {av : Array Value} {below : List Frame} {meth : Method} {c : Code} {D : va_G} {cs : Nat → ClassId} {cells slots : Nat} {Q : State → Prop} (C0 : Cx p s m meth c av lw_tbl code 7 (some .boolean) RL D cs []) (hN : gN s) (hC : gC s) {b L : Nat} {xs : Nat → Int32} (hX : va_X b L xs s s.heap) (hbl : b < s.heap.size) {x mo o : Nat} (i : Int32) (h1 : vp_in (i + 1) L) (h2 : vp_in (i + 2) L) {S : Type} (w rw rw1 : va_W) (v : Nat → Int64) (fs fs2 fs3 : List Value) (hw0 : w[0]? = some (x, .inr (10, fs))) (hr0 : rw[0]? = some (mo, .inr (11, fs2))) (hr1 : rw1[0]? = some (mo, .inr (11, fs3))) (ok : S → Prop) (w' : S → va_W) (K : Nat) (r b1 th : Int32) (rmY : Room) (mc1 ms1 : Nat) (hc : rmY.cells = mc1) (hs : rmY.slots = ms1) (hf : rmY.frames ≤ 95) (hlo : rmY.locals ≤ 2300) (hrm : cells + mc1 ≤ room_1.cells ∧ slots + ms1 ≤ room_1.slots) (hK : K = 0 ∨ K = 2 ∨ K = 1) (hM : ∀ sz, XS l D cs yX10_order wsX10_order rmY [.ref x, .int (xs (i + 1).toNatClampNeg), .int (xs (i + 2).toNatClampNeg)] sz w ok w' K r mc1 ms1) (hT : ∀ sz, MI l D cs yX11_thrown wsX11_thrown rm_X11_thrown [.ref mo] sz rw1 rw1 th) (hth : th = (if K = 2 then 1 else if K = 1 then 2 else 0 : Int32)) (hv : K = 0 → r = b1) (hR : ∀ sz, MI l D cs yX11_order wsX11_order rm_X11_order [.ref mo, .int (xs (i + 1).toNatClampNeg), .int (xs (i + 2).toNatClampNeg)] sz rw rw1 b1) (H : Heap) (locs : List Loc) (ls : Array Slot) (hP : va_P D vwCl [w, rw, [oCell cs o v]].flatten H) (hD : va_D (va_A [] s.heap.size) [w, rw, [oCell cs o v]].flatten) (hS : va_S (va_A [] s.heap.size) s.heap H locs) (hl : lv_has ls 7 [(0, .ref b), (1, .ref x), (2, .ref mo), (3, .ref o), (4, .int i)]) (kk : ∀ (u : S) (v' : Nat → Int64) (H : Heap) (locs : List Loc) (ls : Array Slot), ok u → va_P D vwCl [w' u, rw1, [oCell cs o v']].flatten H → va_D (va_A [] s.heap.size) [w' u, rw1, [oCell cs o v']].flatten → va_S (va_A [] s.heap.size) s.heap H locs → lv_has ls 7 [(0, .ref b), (1, .ref x), (2, .ref mo), (3, .ref o), (4, .int i)] → W p l e room_1 s m av below meth c H locs (cells + mc1) (slots + ms1) Q (F0 m 2733 ls [])) : W p l e room_1 s m av below meth c H locs cells slots Q (F0 m 1210 ls []) := by
  obtain ⟨hx, hb, hr, hlk, hml, hown, hts, hK0, hG, hE⟩ := id C0
  refine lv_aload_n hx hb dL_law__1210 rfl (lv_at hl 1 rfl) ?_
  refine lv_aload_n hx hb dL_law__1211 rfl (lv_at hl 0 rfl) ?_
  refine lv_iload hx hb dL_law__1212 (lv_at hl 4 rfl) ?_
  refine lv_iconst (v := 1) hx hb dL_law__1214 (by decide) ?_
  refine lv_iadd hx hb dL_law__1215 ?_
  refine ow_scr C0 hX hbl hS h1 dL_law__1216 ?_
  refine lv_aload_n hx hb dL_law__1217 rfl (lv_at hl 0 rfl) ?_
  refine lv_iload hx hb dL_law__1218 (lv_at hl 4 rfl) ?_
  refine lv_iconst (v := 2) hx hb dL_law__1220 (by decide) ?_
  refine lv_iadd hx hb dL_law__1221 ?_
  refine ow_scr C0 hX hbl hS h2 dL_law__1222 ?_
  refine lv_aload_n hx hb dL_law__1223 rfl (lv_at hl 3 rfl) ?_
  refine ow_lW (As := [.ref x, .int (xs (i + 1).toNatClampNeg), .int (xs (i + 2).toNatClampNeg), .ref o]) (rest := []) (r := (if K = 2 then 1 else if K = 1 then 2 else 0 : Int32)) C0 hN hC (c_L_order l D cs H.size x o ((xs (i + 1).toNatClampNeg)) ((xs (i + 2).toNatClampNeg)) v w fs hw0 ok w' K r rmY mc1 ms1 hc hs hf hlo hK hM) (vx_cwSW 4 hts gLS_184 rfl rfl rfl (by decide +kernel) ⟨(Nat.le_of_ble_eq_true rfl), (Nat.le_of_ble_eq_true rfl)⟩) hP hD hS rfl hl.1 rfl (Nat.le_of_ble_eq_true rfl) hrm dL_law__1224 (fun u H locs hok hP hD hS => ?_)
  replace hP := sg_Pp pm_o hP
  replace hD := sg_Dp pm_o hD
  refine lv_istore (lv' := [(5, .int (if K = 2 then 1 else if K = 1 then 2 else 0 : Int32)), (0, .ref b), (1, .ref x), (2, .ref mo), (3, .ref o), (4, .int i)]) hx hb dL_law__1227 hl (by decide) rfl (fun ls hl => ?_)
  refine lv_aload_n hx hb dL_law__1229 rfl (lv_at hl 3 rfl) ?_
  refine lv_aload_n hx hb dL_law__1230 rfl (lv_at hl 1 rfl) ?_
  refine lv_iload hx hb dL_law__1231 (lv_at hl 5 rfl) ?_
  refine lv_iconst (v := 1) hx hb dL_law__1233 (by decide) ?_
  refine lv_iadd hx hb dL_law__1234 ?_
  refine ow_scr C0 hX hbl hS h1 dL_law__1235 ?_
  refine lv_aload_n hx hb dL_law__1236 rfl (lv_at hl 1 rfl) ?_
  refine lv_iload hx hb dL_law__1237 (lv_at hl 5 rfl) ?_
  refine lv_iconst (v := 2) hx hb dL_law__1239 (by decide) ?_
  refine lv_iadd hx hb dL_law__1240 ?_
  refine ow_scr C0 hX hbl hS h2 dL_law__1241 ?_
  refine ow_lR (As := [.int (xs (i + 1).toNatClampNeg), .int (xs (i + 2).toNatClampNeg)]) (rest := []) C0 (hR H.size) (cwV 2 hts gLV_186 rfl rfl rfl (by decide +kernel) ⟨(Nat.le_of_ble_eq_true rfl), (Nat.le_of_ble_eq_true rfl)⟩) 11 rfl hr0 hP hD hS rfl hl.1 rfl (Nat.le_of_ble_eq_true rfl) hrm dL_law__1242 (fun H locs hP hD hS => ?_)
  refine lv_istore (lv' := [(6, .int b1), (5, .int (if K = 2 then 1 else if K = 1 then 2 else 0 : Int32)), (0, .ref b), (1, .ref x), (2, .ref mo), (3, .ref o), (4, .int i)]) hx hb dL_law__1245 hl (by decide) rfl (fun ls hl => ?_)
  refine lv_aload_n hx hb dL_law__1247 rfl (lv_at hl 4 rfl) ?_
  refine ow_lR (As := []) (rest := []) C0 (hT H.size) (cwV 0 hts gLV_133 rfl rfl rfl (by decide +kernel) ⟨(Nat.le_of_ble_eq_true rfl), (Nat.le_of_ble_eq_true rfl)⟩) 11 rfl hr1 hP hD hS rfl hl.1 rfl (Nat.le_of_ble_eq_true rfl) hrm dL_law__1248 (fun H locs hP hD hS => ?_)
  refine lv_iload hx hb dL_law__1251 (lv_at hl 1 rfl) ?_
  refine lv_icmp_eq (tgt := 1258) hx hb dL_law__1253 (by decide) (fun hc => ?_) (fun hc => absurd hth hc)
  refine lv_iload hx hb dL_law__1258 (lv_at hl 1 rfl) ?_
  refine lv_if_ne (tgt := 1275) hx hb dL_law__1260 (by decide) (fun hc => ?_) (fun hc => ?_)
  · refine lv_goto (tgt := 2733) hx hb dL_law__1275 (by decide) ?_
    exact kk u _ H locs ls hok hP hD hS (lv_sub hl [2, 3, 4, 5, 6] rfl)
  · rcases hK with rfl | rfl | rfl
    · have hv0 := hv rfl
      subst hv0
      refine lv_aload_n hx hb dL_law__1263 rfl (lv_at hl 5 rfl) ?_
      refine lv_iconst (v := 0) hx hb dL_law__1264 (by decide) ?_
      refine va_lald hx hb hK0 hP _ 2 (out_at cs o _ _ _) rfl (vp_in_nI (n := 0) (by decide) (by decide)) dL_law__1265 ?_
      have ev : (if (0 : Nat) = 0 then vp_updL v (0 : Int32).toNatClampNeg r.toInt64 else v) (0 : Int32).toNatClampNeg = r.toInt64 := by simp [vp_updL]
      rw [ev]
      refine lv_iload hx hb dL_law__1266 (lv_at hl 0 rfl) ?_
      refine lv_i2l (v := r.toInt64) hx hb dL_law__1268 rfl ?_
      refine W.lcmp hx hb dL_law__1269 ?_
      rw [lg_eq]
      refine lv_if_eq (tgt := 1275) hx hb dL_law__1270 (by decide) (fun _ => ?_) (fun h => absurd rfl h)
      refine lv_goto (tgt := 2733) hx hb dL_law__1275 (by decide) ?_
      exact kk u _ H locs ls hok hP hD hS (lv_sub hl [2, 3, 4, 5, 6] rfl)
    · exact absurd hc (by decide)
    · exact absurd hc (by decide)
set_option maxHeartbeats 4000000 in
set_option maxRecDepth 100000 in
theorem lc_17 {p : Program} {l : Launch} {e : Env} {s : State} {m : MethodId} {av : Array Value} {below : List Frame} {meth : Method} {c : Code} {D : va_G} {cs : Nat → ClassId} {cells slots : Nat} {Q : State → Prop} (C0 : Cx p s m meth c av lw_tbl code 7 (some .boolean) RL D cs []) (hN : gN s) (hC : gC s) {b L : Nat} {xs : Nat → Int32} (hX : va_X b L xs s s.heap) (hbl : b < s.heap.size) {x mo o : Nat} (i : Int32) (h1 : vp_in (i + 1) L) {S : Type} (w rw rw1 : va_W) (v : Nat → Int64) (fs fs2 fs3 : List Value) (hw0 : w[0]? = some (x, .inr (10, fs))) (hr0 : rw[0]? = some (mo, .inr (11, fs2))) (hr1 : rw1[0]? = some (mo, .inr (11, fs3))) (ok : S → Prop) (w' : S → va_W) (K : Nat) (r b1 th : Int32) (rmY : Room) (mc1 ms1 : Nat) (hc : rmY.cells = mc1) (hs : rmY.slots = ms1) (hf : rmY.frames ≤ 95) (hlo : rmY.locals ≤ 2300) (hrm : cells + mc1 ≤ room_1.cells ∧ slots + ms1 ≤ room_1.slots) (hK : K = 0 ∨ K = 2) (hM : ∀ sz, XS l D cs yX10_needs wsX10_needs rmY [.ref x, .int (xs (i + 1).toNatClampNeg)] sz w ok w' K r mc1 ms1) (hT : ∀ sz, MI l D cs yX11_thrown wsX11_thrown rm_X11_thrown [.ref mo] sz rw1 rw1 th) (hth : th = (if K = 2 then 1 else 0 : Int32)) (hv : K = 0 → r = b1) (hR : ∀ sz, MI l D cs yX11_needs wsX11_needs rm_X11_needs [.ref mo, .int (xs (i + 1).toNatClampNeg)] sz rw rw1 b1) (H : Heap) (locs : List Loc) (ls : Array Slot) (hP : va_P D vwCl [w, rw, [oCell cs o v]].flatten H) (hD : va_D (va_A [] s.heap.size) [w, rw, [oCell cs o v]].flatten) (hS : va_S (va_A [] s.heap.size) s.heap H locs) (hl : lv_has ls 7 [(0, .ref b), (1, .ref x), (2, .ref mo), (3, .ref o), (4, .int i)]) (kk : ∀ (u : S) (v' : Nat → Int64) (H : Heap) (locs : List Loc) (ls : Array Slot), ok u → va_P D vwCl [w' u, rw1, [oCell cs o v']].flatten H → va_D (va_A [] s.heap.size) [w' u, rw1, [oCell cs o v']].flatten → va_S (va_A [] s.heap.size) s.heap H locs → lv_has ls 7 [(0, .ref b), (1, .ref x), (2, .ref mo), (3, .ref o), (4, .int i)] → W p l e room_1 s m av below meth c H locs (cells + mc1) (slots + ms1) Q (F0 m 2733 ls [])) : W p l e room_1 s m av below meth c H locs cells slots Q (F0 m 1278 ls []) := by
  obtain ⟨hx, hb, hr, hlk, hml, hown, hts, hK0, hG, hE⟩ := id C0
  refine lv_aload_n hx hb dL_law__1278 rfl (lv_at hl 1 rfl) ?_
  refine lv_aload_n hx hb dL_law__1279 rfl (lv_at hl 0 rfl) ?_
  refine lv_iload hx hb dL_law__1280 (lv_at hl 4 rfl) ?_
  refine lv_iconst (v := 1) hx hb dL_law__1282 (by decide) ?_
  refine lv_iadd hx hb dL_law__1283 ?_
  refine ow_scr C0 hX hbl hS h1 dL_law__1284 ?_
  refine lv_aload_n hx hb dL_law__1285 rfl (lv_at hl 3 rfl) ?_
  refine ow_lW (As := [.ref x, .int (xs (i + 1).toNatClampNeg), .ref o]) (rest := []) (r := (if K = 2 then 1 else 0 : Int32)) C0 hN hC (c_L_needs l D cs H.size x o ((xs (i + 1).toNatClampNeg)) v w fs hw0 ok w' K r rmY mc1 ms1 hc hs hf hlo hK hM) (vx_cwSW 3 hts gLS_187 rfl rfl rfl (by decide +kernel) ⟨(Nat.le_of_ble_eq_true rfl), (Nat.le_of_ble_eq_true rfl)⟩) hP hD hS rfl hl.1 rfl (Nat.le_of_ble_eq_true rfl) hrm dL_law__1286 (fun u H locs hok hP hD hS => ?_)
  replace hP := sg_Pp pm_o hP
  replace hD := sg_Dp pm_o hD
  refine lv_istore (lv' := [(5, .int (if K = 2 then 1 else 0 : Int32)), (0, .ref b), (1, .ref x), (2, .ref mo), (3, .ref o), (4, .int i)]) hx hb dL_law__1289 hl (by decide) rfl (fun ls hl => ?_)
  refine lv_aload_n hx hb dL_law__1291 rfl (lv_at hl 3 rfl) ?_
  refine lv_aload_n hx hb dL_law__1292 rfl (lv_at hl 1 rfl) ?_
  refine lv_iload hx hb dL_law__1293 (lv_at hl 5 rfl) ?_
  refine lv_iconst (v := 1) hx hb dL_law__1295 (by decide) ?_
  refine lv_iadd hx hb dL_law__1296 ?_
  refine ow_scr C0 hX hbl hS h1 dL_law__1297 ?_
  refine ow_lR (As := [.int (xs (i + 1).toNatClampNeg)]) (rest := []) C0 (hR H.size) (cwV 1 hts gLV_189 rfl rfl rfl (by decide +kernel) ⟨(Nat.le_of_ble_eq_true rfl), (Nat.le_of_ble_eq_true rfl)⟩) 11 rfl hr0 hP hD hS rfl hl.1 rfl (Nat.le_of_ble_eq_true rfl) hrm dL_law__1298 (fun H locs hP hD hS => ?_)
  refine lv_istore (lv' := [(6, .int b1), (5, .int (if K = 2 then 1 else 0 : Int32)), (0, .ref b), (1, .ref x), (2, .ref mo), (3, .ref o), (4, .int i)]) hx hb dL_law__1301 hl (by decide) rfl (fun ls hl => ?_)
  refine lv_aload_n hx hb dL_law__1303 rfl (lv_at hl 4 rfl) ?_
  refine ow_lR (As := []) (rest := []) C0 (hT H.size) (cwV 0 hts gLV_133 rfl rfl rfl (by decide +kernel) ⟨(Nat.le_of_ble_eq_true rfl), (Nat.le_of_ble_eq_true rfl)⟩) 11 rfl hr1 hP hD hS rfl hl.1 rfl (Nat.le_of_ble_eq_true rfl) hrm dL_law__1304 (fun H locs hP hD hS => ?_)
  refine lv_iload hx hb dL_law__1307 (lv_at hl 1 rfl) ?_
  refine lv_icmp_eq (tgt := 1314) hx hb dL_law__1309 (by decide) (fun hc => ?_) (fun hc => absurd hth hc)
  refine lv_iload hx hb dL_law__1314 (lv_at hl 1 rfl) ?_
  refine lv_if_ne (tgt := 1331) hx hb dL_law__1316 (by decide) (fun hc => ?_) (fun hc => ?_)
  · refine lv_goto (tgt := 2733) hx hb dL_law__1331 (by decide) ?_
    exact kk u _ H locs ls hok hP hD hS (lv_sub hl [2, 3, 4, 5, 6] rfl)
  · rcases hK with rfl | rfl
    · have hv0 := hv rfl
      subst hv0
      refine lv_aload_n hx hb dL_law__1319 rfl (lv_at hl 5 rfl) ?_
      refine lv_iconst (v := 0) hx hb dL_law__1320 (by decide) ?_
      refine va_lald hx hb hK0 hP _ 2 (out_at cs o _ _ _) rfl (vp_in_nI (n := 0) (by decide) (by decide)) dL_law__1321 ?_
      have ev : (if (0 : Nat) = 0 then vp_updL v (0 : Int32).toNatClampNeg r.toInt64 else v) (0 : Int32).toNatClampNeg = r.toInt64 := by simp [vp_updL]
      rw [ev]
      refine lv_iload hx hb dL_law__1322 (lv_at hl 0 rfl) ?_
      refine lv_i2l (v := r.toInt64) hx hb dL_law__1324 rfl ?_
      refine W.lcmp hx hb dL_law__1325 ?_
      rw [lg_eq]
      refine lv_if_eq (tgt := 1331) hx hb dL_law__1326 (by decide) (fun _ => ?_) (fun h => absurd rfl h)
      refine lv_goto (tgt := 2733) hx hb dL_law__1331 (by decide) ?_
      exact kk u _ H locs ls hok hP hD hS (lv_sub hl [2, 3, 4, 5, 6] rfl)
    · exact absurd hc (by decide)
set_option maxHeartbeats 4000000 in
set_option maxRecDepth 100000 in
theorem lc_18 {p : Program} {l : Launch} {e : Env} {s : State} {m : MethodId} {av : Array Value} {below : List Frame} {meth : Method} {c : Code} {D : va_G} {cs : Nat → ClassId} {cells slots : Nat} {Q : State → Prop} (C0 : Cx p s m meth c av lw_tbl code 7 (some .boolean) RL D cs []) (hN : gN s) (hC : gC s) {b L : Nat} {xs : Nat → Int32} (hX : va_X b L xs s s.heap) (hbl : b < s.heap.size) {x mo o : Nat} (i : Int32)  {S : Type} (w rw rw1 : va_W) (v : Nat → Int64) (fs fs2 fs3 : List Value) (hw0 : w[0]? = some (x, .inr (10, fs))) (hr0 : rw[0]? = some (mo, .inr (11, fs2))) (hr1 : rw1[0]? = some (mo, .inr (11, fs3))) (ok : S → Prop) (w' : S → va_W) (K : Nat) (r b1 th : Int32) (rmY : Room) (mc1 ms1 : Nat) (hc : rmY.cells = mc1) (hs : rmY.slots = ms1) (hf : rmY.frames ≤ 95) (hlo : rmY.locals ≤ 2300) (hrm : cells + mc1 ≤ room_1.cells ∧ slots + ms1 ≤ room_1.slots) (hM : ∀ sz, MJ l D cs yX10_lost wsX10_lost rmY [.ref x] sz w ok w' r mc1 ms1) (heq : r = b1) (hR : ∀ sz, MI l D cs yX11_lost wsX11_lost rm_X11_lost [.ref mo] sz rw rw1 b1) (H : Heap) (locs : List Loc) (ls : Array Slot) (hP : va_P D vwCl [w, rw, [oCell cs o v]].flatten H) (hD : va_D (va_A [] s.heap.size) [w, rw, [oCell cs o v]].flatten) (hS : va_S (va_A [] s.heap.size) s.heap H locs) (hl : lv_has ls 7 [(0, .ref b), (1, .ref x), (2, .ref mo), (3, .ref o), (4, .int i)]) (kk : ∀ (u : S) (v' : Nat → Int64) (H : Heap) (locs : List Loc) (ls : Array Slot), ok u → va_P D vwCl [w' u, rw1, [oCell cs o v']].flatten H → va_D (va_A [] s.heap.size) [w' u, rw1, [oCell cs o v']].flatten → va_S (va_A [] s.heap.size) s.heap H locs → lv_has ls 7 [(0, .ref b), (1, .ref x), (2, .ref mo), (3, .ref o), (4, .int i)] → W p l e room_1 s m av below meth c H locs (cells + mc1) (slots + ms1) Q (F0 m 2733 ls [])) : W p l e room_1 s m av below meth c H locs cells slots Q (F0 m 1334 ls []) := by
  obtain ⟨hx, hb, hr, hlk, hml, hown, hts, hK0, hG, hE⟩ := id C0
  refine lv_aload_n hx hb dL_law__1334 rfl (lv_at hl 1 rfl) ?_
  refine ow_lJ (As := []) (rest := []) C0 hN (hM H.size) (cwV 0 hts gLV_190 rfl hc hs (by decide +kernel) ⟨by show rmY.frames + 1 ≤ 2048; omega, by show 8 + (_ + 11) + rmY.locals ≤ 84000; omega⟩) 10 rfl hw0 hP hD hS rfl hl.1 rfl (Nat.le_of_ble_eq_true rfl) hrm dL_law__1335 (fun u H locs hok hP hD hS => ?_)
  refine lv_aload_n hx hb dL_law__1338 rfl (lv_at hl 2 rfl) ?_
  refine ow_lR (As := []) (rest := [.int r]) C0 (hR H.size) (cwV 0 hts gLV_193 rfl rfl rfl (by decide +kernel) ⟨(Nat.le_of_ble_eq_true rfl), (Nat.le_of_ble_eq_true rfl)⟩) 11 rfl hr0 hP hD hS rfl hl.1 rfl (Nat.le_of_ble_eq_true rfl) hrm dL_law__1339 (fun H locs hP hD hS => ?_)
  refine lv_icmp_eq (tgt := 2733) hx hb dL_law__1342 (by decide) (fun hc => ?_) (fun hc => absurd heq hc)
  exact kk u v H locs ls hok hP hD hS (lv_sub hl [0, 1, 2, 3, 4] rfl)
set_option maxHeartbeats 4000000 in
set_option maxRecDepth 100000 in
theorem lc_19 {p : Program} {l : Launch} {e : Env} {s : State} {m : MethodId} {av : Array Value} {below : List Frame} {meth : Method} {c : Code} {D : va_G} {cs : Nat → ClassId} {cells slots : Nat} {Q : State → Prop} (C0 : Cx p s m meth c av lw_tbl code 7 (some .boolean) RL D cs []) (hN : gN s) (hC : gC s) {b L : Nat} {xs : Nat → Int32} (hX : va_X b L xs s s.heap) (hbl : b < s.heap.size) {x mo o : Nat} (i : Int32) (h1 : vp_in (i + 1) L) (h2 : vp_in (i + 2) L) (h3 : vp_in (i + 3) L) {S : Type} (w rw rw1 : va_W) (v : Nat → Int64) (fs fs2 fs3 : List Value) (hw0 : w[0]? = some (x, .inr (10, fs))) (hr0 : rw[0]? = some (mo, .inr (11, fs2))) (hr1 : rw1[0]? = some (mo, .inr (11, fs3))) (ok : S → Prop) (w' : S → va_W) (K : Nat) (r b1 th : Int32) (rmY : Room) (mc1 ms1 : Nat) (hc : rmY.cells = mc1) (hs : rmY.slots = ms1) (hf : rmY.frames ≤ 95) (hlo : rmY.locals ≤ 2300) (hrm : cells + mc1 ≤ room_1.cells ∧ slots + ms1 ≤ room_1.slots) (hK : K = 0 ∨ K = 2 ∨ K = 1) (hM : ∀ sz, XS l D cs yX10_cost wsX10_cost rmY [.ref x, .int (xs (i + 1).toNatClampNeg), .int (xs (i + 2).toNatClampNeg), .int (xs (i + 3).toNatClampNeg)] sz w ok w' K r mc1 ms1) (hT : ∀ sz, MI l D cs yX11_thrown wsX11_thrown rm_X11_thrown [.ref mo] sz rw1 rw1 th) (hth : th = (if K = 2 then 1 else if K = 1 then 2 else 0 : Int32)) (hv : K = 0 → r = b1) (hR : ∀ sz, MI l D cs yX11_cost wsX11_cost rm_X11_cost [.ref mo, .int (xs (i + 1).toNatClampNeg), .int (xs (i + 2).toNatClampNeg), .int (xs (i + 3).toNatClampNeg)] sz rw rw1 b1) (H : Heap) (locs : List Loc) (ls : Array Slot) (hP : va_P D vwCl [w, rw, [oCell cs o v]].flatten H) (hD : va_D (va_A [] s.heap.size) [w, rw, [oCell cs o v]].flatten) (hS : va_S (va_A [] s.heap.size) s.heap H locs) (hl : lv_has ls 7 [(0, .ref b), (1, .ref x), (2, .ref mo), (3, .ref o), (4, .int i)]) (kk : ∀ (u : S) (v' : Nat → Int64) (H : Heap) (locs : List Loc) (ls : Array Slot), ok u → va_P D vwCl [w' u, rw1, [oCell cs o v']].flatten H → va_D (va_A [] s.heap.size) [w' u, rw1, [oCell cs o v']].flatten → va_S (va_A [] s.heap.size) s.heap H locs → lv_has ls 7 [(0, .ref b), (1, .ref x), (2, .ref mo), (3, .ref o), (4, .int i)] → W p l e room_1 s m av below meth c H locs (cells + mc1) (slots + ms1) Q (F0 m 2733 ls [])) : W p l e room_1 s m av below meth c H locs cells slots Q (F0 m 1347 ls []) := by
  obtain ⟨hx, hb, hr, hlk, hml, hown, hts, hK0, hG, hE⟩ := id C0
  refine lv_aload_n hx hb dL_law__1347 rfl (lv_at hl 1 rfl) ?_
  refine lv_aload_n hx hb dL_law__1348 rfl (lv_at hl 0 rfl) ?_
  refine lv_iload hx hb dL_law__1349 (lv_at hl 4 rfl) ?_
  refine lv_iconst (v := 1) hx hb dL_law__1351 (by decide) ?_
  refine lv_iadd hx hb dL_law__1352 ?_
  refine ow_scr C0 hX hbl hS h1 dL_law__1353 ?_
  refine lv_aload_n hx hb dL_law__1354 rfl (lv_at hl 0 rfl) ?_
  refine lv_iload hx hb dL_law__1355 (lv_at hl 4 rfl) ?_
  refine lv_iconst (v := 2) hx hb dL_law__1357 (by decide) ?_
  refine lv_iadd hx hb dL_law__1358 ?_
  refine ow_scr C0 hX hbl hS h2 dL_law__1359 ?_
  refine lv_aload_n hx hb dL_law__1360 rfl (lv_at hl 0 rfl) ?_
  refine lv_iload hx hb dL_law__1361 (lv_at hl 4 rfl) ?_
  refine lv_iconst (v := 3) hx hb dL_law__1363 (by decide) ?_
  refine lv_iadd hx hb dL_law__1364 ?_
  refine ow_scr C0 hX hbl hS h3 dL_law__1365 ?_
  refine lv_aload_n hx hb dL_law__1366 rfl (lv_at hl 3 rfl) ?_
  refine ow_lW (As := [.ref x, .int (xs (i + 1).toNatClampNeg), .int (xs (i + 2).toNatClampNeg), .int (xs (i + 3).toNatClampNeg), .ref o]) (rest := []) (r := (if K = 2 then 1 else if K = 1 then 2 else 0 : Int32)) C0 hN hC (c_L_cost l D cs H.size x o ((xs (i + 1).toNatClampNeg)) ((xs (i + 2).toNatClampNeg)) ((xs (i + 3).toNatClampNeg)) v w fs hw0 ok w' K r rmY mc1 ms1 hc hs hf hlo hK hM) (vx_cwSW 5 hts gLS_194 rfl rfl rfl (by decide +kernel) ⟨(Nat.le_of_ble_eq_true rfl), (Nat.le_of_ble_eq_true rfl)⟩) hP hD hS rfl hl.1 rfl (Nat.le_of_ble_eq_true rfl) hrm dL_law__1367 (fun u H locs hok hP hD hS => ?_)
  replace hP := sg_Pp pm_o hP
  replace hD := sg_Dp pm_o hD
  refine lv_istore (lv' := [(5, .int (if K = 2 then 1 else if K = 1 then 2 else 0 : Int32)), (0, .ref b), (1, .ref x), (2, .ref mo), (3, .ref o), (4, .int i)]) hx hb dL_law__1370 hl (by decide) rfl (fun ls hl => ?_)
  refine lv_aload_n hx hb dL_law__1372 rfl (lv_at hl 3 rfl) ?_
  refine lv_aload_n hx hb dL_law__1373 rfl (lv_at hl 1 rfl) ?_
  refine lv_iload hx hb dL_law__1374 (lv_at hl 5 rfl) ?_
  refine lv_iconst (v := 1) hx hb dL_law__1376 (by decide) ?_
  refine lv_iadd hx hb dL_law__1377 ?_
  refine ow_scr C0 hX hbl hS h1 dL_law__1378 ?_
  refine lv_aload_n hx hb dL_law__1379 rfl (lv_at hl 1 rfl) ?_
  refine lv_iload hx hb dL_law__1380 (lv_at hl 5 rfl) ?_
  refine lv_iconst (v := 2) hx hb dL_law__1382 (by decide) ?_
  refine lv_iadd hx hb dL_law__1383 ?_
  refine ow_scr C0 hX hbl hS h2 dL_law__1384 ?_
  refine lv_aload_n hx hb dL_law__1385 rfl (lv_at hl 1 rfl) ?_
  refine lv_iload hx hb dL_law__1386 (lv_at hl 5 rfl) ?_
  refine lv_iconst (v := 3) hx hb dL_law__1388 (by decide) ?_
  refine lv_iadd hx hb dL_law__1389 ?_
  refine ow_scr C0 hX hbl hS h3 dL_law__1390 ?_
  refine ow_lR (As := [.int (xs (i + 1).toNatClampNeg), .int (xs (i + 2).toNatClampNeg), .int (xs (i + 3).toNatClampNeg)]) (rest := []) C0 (hR H.size) (cwV 3 hts gLV_196 rfl rfl rfl (by decide +kernel) ⟨(Nat.le_of_ble_eq_true rfl), (Nat.le_of_ble_eq_true rfl)⟩) 11 rfl hr0 hP hD hS rfl hl.1 rfl (Nat.le_of_ble_eq_true rfl) hrm dL_law__1391 (fun H locs hP hD hS => ?_)
  refine lv_istore (lv' := [(6, .int b1), (5, .int (if K = 2 then 1 else if K = 1 then 2 else 0 : Int32)), (0, .ref b), (1, .ref x), (2, .ref mo), (3, .ref o), (4, .int i)]) hx hb dL_law__1394 hl (by decide) rfl (fun ls hl => ?_)
  refine lv_aload_n hx hb dL_law__1396 rfl (lv_at hl 4 rfl) ?_
  refine ow_lR (As := []) (rest := []) C0 (hT H.size) (cwV 0 hts gLV_133 rfl rfl rfl (by decide +kernel) ⟨(Nat.le_of_ble_eq_true rfl), (Nat.le_of_ble_eq_true rfl)⟩) 11 rfl hr1 hP hD hS rfl hl.1 rfl (Nat.le_of_ble_eq_true rfl) hrm dL_law__1397 (fun H locs hP hD hS => ?_)
  refine lv_iload hx hb dL_law__1400 (lv_at hl 1 rfl) ?_
  refine lv_icmp_eq (tgt := 1407) hx hb dL_law__1402 (by decide) (fun hc => ?_) (fun hc => absurd hth hc)
  refine lv_iload hx hb dL_law__1407 (lv_at hl 1 rfl) ?_
  refine lv_if_ne (tgt := 1424) hx hb dL_law__1409 (by decide) (fun hc => ?_) (fun hc => ?_)
  · refine lv_goto (tgt := 2733) hx hb dL_law__1424 (by decide) ?_
    exact kk u _ H locs ls hok hP hD hS (lv_sub hl [2, 3, 4, 5, 6] rfl)
  · rcases hK with rfl | rfl | rfl
    · have hv0 := hv rfl
      subst hv0
      refine lv_aload_n hx hb dL_law__1412 rfl (lv_at hl 5 rfl) ?_
      refine lv_iconst (v := 0) hx hb dL_law__1413 (by decide) ?_
      refine va_lald hx hb hK0 hP _ 2 (out_at cs o _ _ _) rfl (vp_in_nI (n := 0) (by decide) (by decide)) dL_law__1414 ?_
      have ev : (if (0 : Nat) = 0 then vp_updL v (0 : Int32).toNatClampNeg r.toInt64 else v) (0 : Int32).toNatClampNeg = r.toInt64 := by simp [vp_updL]
      rw [ev]
      refine lv_iload hx hb dL_law__1415 (lv_at hl 0 rfl) ?_
      refine lv_i2l (v := r.toInt64) hx hb dL_law__1417 rfl ?_
      refine W.lcmp hx hb dL_law__1418 ?_
      rw [lg_eq]
      refine lv_if_eq (tgt := 1424) hx hb dL_law__1419 (by decide) (fun _ => ?_) (fun h => absurd rfl h)
      refine lv_goto (tgt := 2733) hx hb dL_law__1424 (by decide) ?_
      exact kk u _ H locs ls hok hP hD hS (lv_sub hl [2, 3, 4, 5, 6] rfl)
    · exact absurd hc (by decide)
    · exact absurd hc (by decide)
set_option maxHeartbeats 4000000 in
set_option maxRecDepth 100000 in
theorem lc_20 {p : Program} {l : Launch} {e : Env} {s : State} {m : MethodId} {av : Array Value} {below : List Frame} {meth : Method} {c : Code} {D : va_G} {cs : Nat → ClassId} {cells slots : Nat} {Q : State → Prop} (C0 : Cx p s m meth c av lw_tbl code 7 (some .boolean) RL D cs []) (hN : gN s) (hC : gC s) {b L : Nat} {xs : Nat → Int32} (hX : va_X b L xs s s.heap) (hbl : b < s.heap.size) {x mo o : Nat} (i : Int32) (h1 : vp_in (i + 1) L) (h2 : vp_in (i + 2) L) (h3 : vp_in (i + 3) L) {S : Type} (w rw rw1 : va_W) (v : Nat → Int64) (fs fs2 fs3 : List Value) (hw0 : w[0]? = some (x, .inr (10, fs))) (hr0 : rw[0]? = some (mo, .inr (11, fs2))) (hr1 : rw1[0]? = some (mo, .inr (11, fs3))) (ok : S → Prop) (w' : S → va_W) (K : Nat) (r b1 th : Int32) (rmY : Room) (mc1 ms1 : Nat) (hc : rmY.cells = mc1) (hs : rmY.slots = ms1) (hf : rmY.frames ≤ 95) (hlo : rmY.locals ≤ 2300) (hrm : cells + mc1 ≤ room_1.cells ∧ slots + ms1 ≤ room_1.slots) (hK : K = 0 ∨ K = 2 ∨ K = 1) (hM : ∀ sz, XS l D cs yX10_view wsX10_view rmY [.ref x, .int (xs (i + 1).toNatClampNeg), .int (xs (i + 2).toNatClampNeg), .int (xs (i + 3).toNatClampNeg)] sz w ok w' K r mc1 ms1) (hT : ∀ sz, MI l D cs yX11_thrown wsX11_thrown rm_X11_thrown [.ref mo] sz rw1 rw1 th) (hth : th = (if K = 2 then 1 else if K = 1 then 2 else 0 : Int32)) (hv : K = 0 → r = b1) (hR : ∀ sz, MI l D cs yX11_view wsX11_view rm_X11_view [.ref mo, .int (xs (i + 1).toNatClampNeg), .int (xs (i + 2).toNatClampNeg), .int (xs (i + 3).toNatClampNeg)] sz rw rw1 b1) (H : Heap) (locs : List Loc) (ls : Array Slot) (hP : va_P D vwCl [w, rw, [oCell cs o v]].flatten H) (hD : va_D (va_A [] s.heap.size) [w, rw, [oCell cs o v]].flatten) (hS : va_S (va_A [] s.heap.size) s.heap H locs) (hl : lv_has ls 7 [(0, .ref b), (1, .ref x), (2, .ref mo), (3, .ref o), (4, .int i)]) (kk : ∀ (u : S) (v' : Nat → Int64) (H : Heap) (locs : List Loc) (ls : Array Slot), ok u → va_P D vwCl [w' u, rw1, [oCell cs o v']].flatten H → va_D (va_A [] s.heap.size) [w' u, rw1, [oCell cs o v']].flatten → va_S (va_A [] s.heap.size) s.heap H locs → lv_has ls 7 [(0, .ref b), (1, .ref x), (2, .ref mo), (3, .ref o), (4, .int i)] → W p l e room_1 s m av below meth c H locs (cells + mc1) (slots + ms1) Q (F0 m 2733 ls [])) : W p l e room_1 s m av below meth c H locs cells slots Q (F0 m 1427 ls []) := by
  obtain ⟨hx, hb, hr, hlk, hml, hown, hts, hK0, hG, hE⟩ := id C0
  refine lv_aload_n hx hb dL_law__1427 rfl (lv_at hl 1 rfl) ?_
  refine lv_aload_n hx hb dL_law__1428 rfl (lv_at hl 0 rfl) ?_
  refine lv_iload hx hb dL_law__1429 (lv_at hl 4 rfl) ?_
  refine lv_iconst (v := 1) hx hb dL_law__1431 (by decide) ?_
  refine lv_iadd hx hb dL_law__1432 ?_
  refine ow_scr C0 hX hbl hS h1 dL_law__1433 ?_
  refine lv_aload_n hx hb dL_law__1434 rfl (lv_at hl 0 rfl) ?_
  refine lv_iload hx hb dL_law__1435 (lv_at hl 4 rfl) ?_
  refine lv_iconst (v := 2) hx hb dL_law__1437 (by decide) ?_
  refine lv_iadd hx hb dL_law__1438 ?_
  refine ow_scr C0 hX hbl hS h2 dL_law__1439 ?_
  refine lv_aload_n hx hb dL_law__1440 rfl (lv_at hl 0 rfl) ?_
  refine lv_iload hx hb dL_law__1441 (lv_at hl 4 rfl) ?_
  refine lv_iconst (v := 3) hx hb dL_law__1443 (by decide) ?_
  refine lv_iadd hx hb dL_law__1444 ?_
  refine ow_scr C0 hX hbl hS h3 dL_law__1445 ?_
  refine lv_aload_n hx hb dL_law__1446 rfl (lv_at hl 3 rfl) ?_
  refine ow_lW (As := [.ref x, .int (xs (i + 1).toNatClampNeg), .int (xs (i + 2).toNatClampNeg), .int (xs (i + 3).toNatClampNeg), .ref o]) (rest := []) (r := (if K = 2 then 1 else if K = 1 then 2 else 0 : Int32)) C0 hN hC (c_L_view l D cs H.size x o ((xs (i + 1).toNatClampNeg)) ((xs (i + 2).toNatClampNeg)) ((xs (i + 3).toNatClampNeg)) v w fs hw0 ok w' K r rmY mc1 ms1 hc hs hf hlo hK hM) (vx_cwSW 5 hts gLS_197 rfl rfl rfl (by decide +kernel) ⟨(Nat.le_of_ble_eq_true rfl), (Nat.le_of_ble_eq_true rfl)⟩) hP hD hS rfl hl.1 rfl (Nat.le_of_ble_eq_true rfl) hrm dL_law__1447 (fun u H locs hok hP hD hS => ?_)
  replace hP := sg_Pp pm_o hP
  replace hD := sg_Dp pm_o hD
  refine lv_istore (lv' := [(5, .int (if K = 2 then 1 else if K = 1 then 2 else 0 : Int32)), (0, .ref b), (1, .ref x), (2, .ref mo), (3, .ref o), (4, .int i)]) hx hb dL_law__1450 hl (by decide) rfl (fun ls hl => ?_)
  refine lv_aload_n hx hb dL_law__1452 rfl (lv_at hl 3 rfl) ?_
  refine lv_aload_n hx hb dL_law__1453 rfl (lv_at hl 1 rfl) ?_
  refine lv_iload hx hb dL_law__1454 (lv_at hl 5 rfl) ?_
  refine lv_iconst (v := 1) hx hb dL_law__1456 (by decide) ?_
  refine lv_iadd hx hb dL_law__1457 ?_
  refine ow_scr C0 hX hbl hS h1 dL_law__1458 ?_
  refine lv_aload_n hx hb dL_law__1459 rfl (lv_at hl 1 rfl) ?_
  refine lv_iload hx hb dL_law__1460 (lv_at hl 5 rfl) ?_
  refine lv_iconst (v := 2) hx hb dL_law__1462 (by decide) ?_
  refine lv_iadd hx hb dL_law__1463 ?_
  refine ow_scr C0 hX hbl hS h2 dL_law__1464 ?_
  refine lv_aload_n hx hb dL_law__1465 rfl (lv_at hl 1 rfl) ?_
  refine lv_iload hx hb dL_law__1466 (lv_at hl 5 rfl) ?_
  refine lv_iconst (v := 3) hx hb dL_law__1468 (by decide) ?_
  refine lv_iadd hx hb dL_law__1469 ?_
  refine ow_scr C0 hX hbl hS h3 dL_law__1470 ?_
  refine ow_lR (As := [.int (xs (i + 1).toNatClampNeg), .int (xs (i + 2).toNatClampNeg), .int (xs (i + 3).toNatClampNeg)]) (rest := []) C0 (hR H.size) (cwV 3 hts gLV_199 rfl rfl rfl (by decide +kernel) ⟨(Nat.le_of_ble_eq_true rfl), (Nat.le_of_ble_eq_true rfl)⟩) 11 rfl hr0 hP hD hS rfl hl.1 rfl (Nat.le_of_ble_eq_true rfl) hrm dL_law__1471 (fun H locs hP hD hS => ?_)
  refine lv_istore (lv' := [(6, .int b1), (5, .int (if K = 2 then 1 else if K = 1 then 2 else 0 : Int32)), (0, .ref b), (1, .ref x), (2, .ref mo), (3, .ref o), (4, .int i)]) hx hb dL_law__1474 hl (by decide) rfl (fun ls hl => ?_)
  refine lv_aload_n hx hb dL_law__1476 rfl (lv_at hl 4 rfl) ?_
  refine ow_lR (As := []) (rest := []) C0 (hT H.size) (cwV 0 hts gLV_133 rfl rfl rfl (by decide +kernel) ⟨(Nat.le_of_ble_eq_true rfl), (Nat.le_of_ble_eq_true rfl)⟩) 11 rfl hr1 hP hD hS rfl hl.1 rfl (Nat.le_of_ble_eq_true rfl) hrm dL_law__1477 (fun H locs hP hD hS => ?_)
  refine lv_iload hx hb dL_law__1480 (lv_at hl 1 rfl) ?_
  refine lv_icmp_eq (tgt := 1487) hx hb dL_law__1482 (by decide) (fun hc => ?_) (fun hc => absurd hth hc)
  refine lv_iload hx hb dL_law__1487 (lv_at hl 1 rfl) ?_
  refine lv_if_ne (tgt := 1504) hx hb dL_law__1489 (by decide) (fun hc => ?_) (fun hc => ?_)
  · refine lv_goto (tgt := 2733) hx hb dL_law__1504 (by decide) ?_
    exact kk u _ H locs ls hok hP hD hS (lv_sub hl [2, 3, 4, 5, 6] rfl)
  · rcases hK with rfl | rfl | rfl
    · have hv0 := hv rfl
      subst hv0
      refine lv_aload_n hx hb dL_law__1492 rfl (lv_at hl 5 rfl) ?_
      refine lv_iconst (v := 0) hx hb dL_law__1493 (by decide) ?_
      refine va_lald hx hb hK0 hP _ 2 (out_at cs o _ _ _) rfl (vp_in_nI (n := 0) (by decide) (by decide)) dL_law__1494 ?_
      have ev : (if (0 : Nat) = 0 then vp_updL v (0 : Int32).toNatClampNeg r.toInt64 else v) (0 : Int32).toNatClampNeg = r.toInt64 := by simp [vp_updL]
      rw [ev]
      refine lv_iload hx hb dL_law__1495 (lv_at hl 0 rfl) ?_
      refine lv_i2l (v := r.toInt64) hx hb dL_law__1497 rfl ?_
      refine W.lcmp hx hb dL_law__1498 ?_
      rw [lg_eq]
      refine lv_if_eq (tgt := 1504) hx hb dL_law__1499 (by decide) (fun _ => ?_) (fun h => absurd rfl h)
      refine lv_goto (tgt := 2733) hx hb dL_law__1504 (by decide) ?_
      exact kk u _ H locs ls hok hP hD hS (lv_sub hl [2, 3, 4, 5, 6] rfl)
    · exact absurd hc (by decide)
    · exact absurd hc (by decide)

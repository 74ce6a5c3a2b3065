set_option maxHeartbeats 4000000 in
set_option maxRecDepth 100000 in
theorem lc_21 {p : Program} {l : Launch} {e : Env} {s : State} {m : MethodId} {av : Array Value} {below : List Frame} {meth : Method} {c : Code} {D : va_G} {cs : Nat → ClassId} {cells slots : Nat} {Q : State → Prop} (C0 : Cx p s m meth c av lw_tbl code 7 (some .boolean) RL D cs []) (hN : gN s) (hC : gC s) {b L : Nat} {xs : Nat → Int32} (hX : va_X b L xs s s.heap) (hbl : b < s.heap.size) {x mo o : Nat} (i : Int32) (h1 : vp_in (i + 1) L) {S : Type} (w rw rw1 : va_W) (v : Nat → Int64) (fs fs2 fs3 : List Value) (hw0 : w[0]? = some (x, .inr (10, fs))) (hr0 : rw[0]? = some (mo, .inr (11, fs2))) (hr1 : rw1[0]? = some (mo, .inr (11, fs3))) (ok : S → Prop) (w' : S → va_W) (K : Nat) (r b1 th : Int32) (rmY : Room) (mc1 ms1 : Nat) (hc : rmY.cells = mc1) (hs : rmY.slots = ms1) (hf : rmY.frames ≤ 95) (hlo : rmY.locals ≤ 2300) (hrm : cells + mc1 ≤ room_1.cells ∧ slots + ms1 ≤ room_1.slots) (hK : K = 0 ∨ K = 2) (hM : ∀ sz, XS l D cs yX10_seams wsX10_seams rmY [.ref x, .int (xs (i + 1).toNatClampNeg)] sz w ok w' K r mc1 ms1) (hT : ∀ sz, MI l D cs yX11_thrown wsX11_thrown rm_X11_thrown [.ref mo] sz rw1 rw1 th) (hth : th = (if K = 2 then 1 else 0 : Int32)) (hv : K = 0 → r = b1) (hR : ∀ sz, MI l D cs yX11_seams wsX11_seams rm_X11_seams [.ref mo, .int (xs (i + 1).toNatClampNeg)] sz rw rw1 b1) (H : Heap) (locs : List Loc) (ls : Array Slot) (hP : va_P D vwCl [w, rw, [oCell cs o v]].flatten H) (hD : va_D (va_A [] s.heap.size) [w, rw, [oCell cs o v]].flatten) (hS : va_S (va_A [] s.heap.size) s.heap H locs) (hl : lv_has ls 7 [(0, .ref b), (1, .ref x), (2, .ref mo), (3, .ref o), (4, .int i)]) (kk : ∀ (u : S) (v' : Nat → Int64) (H : Heap) (locs : List Loc) (ls : Array Slot), ok u → va_P D vwCl [w' u, rw1, [oCell cs o v']].flatten H → va_D (va_A [] s.heap.size) [w' u, rw1, [oCell cs o v']].flatten → va_S (va_A [] s.heap.size) s.heap H locs → lv_has ls 7 [(0, .ref b), (1, .ref x), (2, .ref mo), (3, .ref o), (4, .int i)] → W p l e room_1 s m av below meth c H locs (cells + mc1) (slots + ms1) Q (F0 m 2733 ls [])) : W p l e room_1 s m av below meth c H locs cells slots Q (F0 m 1507 ls []) := by
  obtain ⟨hx, hb, hr, hlk, hml, hown, hts, hK0, hG, hE⟩ := id C0
  refine lv_aload_n hx hb dL_law__1507 rfl (lv_at hl 1 rfl) ?_
  refine lv_aload_n hx hb dL_law__1508 rfl (lv_at hl 0 rfl) ?_
  refine lv_iload hx hb dL_law__1509 (lv_at hl 4 rfl) ?_
  refine lv_iconst (v := 1) hx hb dL_law__1511 (by decide) ?_
  refine lv_iadd hx hb dL_law__1512 ?_
  refine ow_scr C0 hX hbl hS h1 dL_law__1513 ?_
  refine lv_aload_n hx hb dL_law__1514 rfl (lv_at hl 3 rfl) ?_
  refine ow_lW (As := [.ref x, .int (xs (i + 1).toNatClampNeg), .ref o]) (rest := []) (r := (if K = 2 then 1 else 0 : Int32)) C0 hN hC (c_L_seams l D cs H.size x o ((xs (i + 1).toNatClampNeg)) v w fs hw0 ok w' K r rmY mc1 ms1 hc hs hf hlo hK hM) (vx_cwSW 3 hts gLS_200 rfl rfl rfl (by decide +kernel) ⟨(Nat.le_of_ble_eq_true rfl), (Nat.le_of_ble_eq_true rfl)⟩) hP hD hS rfl hl.1 rfl (Nat.le_of_ble_eq_true rfl) hrm dL_law__1515 (fun u H locs hok hP hD hS => ?_)
  replace hP := sg_Pp pm_o hP
  replace hD := sg_Dp pm_o hD
  refine lv_istore (lv' := [(5, .int (if K = 2 then 1 else 0 : Int32)), (0, .ref b), (1, .ref x), (2, .ref mo), (3, .ref o), (4, .int i)]) hx hb dL_law__1518 hl (by decide) rfl (fun ls hl => ?_)
  refine lv_aload_n hx hb dL_law__1520 rfl (lv_at hl 3 rfl) ?_
  refine lv_aload_n hx hb dL_law__1521 rfl (lv_at hl 1 rfl) ?_
  refine lv_iload hx hb dL_law__1522 (lv_at hl 5 rfl) ?_
  refine lv_iconst (v := 1) hx hb dL_law__1524 (by decide) ?_
  refine lv_iadd hx hb dL_law__1525 ?_
  refine ow_scr C0 hX hbl hS h1 dL_law__1526 ?_
  refine ow_lR (As := [.int (xs (i + 1).toNatClampNeg)]) (rest := []) C0 (hR H.size) (cwV 1 hts gLV_202 rfl rfl rfl (by decide +kernel) ⟨(Nat.le_of_ble_eq_true rfl), (Nat.le_of_ble_eq_true rfl)⟩) 11 rfl hr0 hP hD hS rfl hl.1 rfl (Nat.le_of_ble_eq_true rfl) hrm dL_law__1527 (fun H locs hP hD hS => ?_)
  refine lv_istore (lv' := [(6, .int b1), (5, .int (if K = 2 then 1 else 0 : Int32)), (0, .ref b), (1, .ref x), (2, .ref mo), (3, .ref o), (4, .int i)]) hx hb dL_law__1530 hl (by decide) rfl (fun ls hl => ?_)
  refine lv_aload_n hx hb dL_law__1532 rfl (lv_at hl 4 rfl) ?_
  refine ow_lR (As := []) (rest := []) C0 (hT H.size) (cwV 0 hts gLV_133 rfl rfl rfl (by decide +kernel) ⟨(Nat.le_of_ble_eq_true rfl), (Nat.le_of_ble_eq_true rfl)⟩) 11 rfl hr1 hP hD hS rfl hl.1 rfl (Nat.le_of_ble_eq_true rfl) hrm dL_law__1533 (fun H locs hP hD hS => ?_)
  refine lv_iload hx hb dL_law__1536 (lv_at hl 1 rfl) ?_
  refine lv_icmp_eq (tgt := 1543) hx hb dL_law__1538 (by decide) (fun hc => ?_) (fun hc => absurd hth hc)
  refine lv_iload hx hb dL_law__1543 (lv_at hl 1 rfl) ?_
  refine lv_if_ne (tgt := 1560) hx hb dL_law__1545 (by decide) (fun hc => ?_) (fun hc => ?_)
  · refine lv_goto (tgt := 2733) hx hb dL_law__1560 (by decide) ?_
    exact kk u _ H locs ls hok hP hD hS (lv_sub hl [2, 3, 4, 5, 6] rfl)
  · rcases hK with rfl | rfl
    · have hv0 := hv rfl
      subst hv0
      refine lv_aload_n hx hb dL_law__1548 rfl (lv_at hl 5 rfl) ?_
      refine lv_iconst (v := 0) hx hb dL_law__1549 (by decide) ?_
      refine va_lald hx hb hK0 hP _ 2 (out_at cs o _ _ _) rfl (vp_in_nI (n := 0) (by decide) (by decide)) dL_law__1550 ?_
      have ev : (if (0 : Nat) = 0 then vp_updL v (0 : Int32).toNatClampNeg r.toInt64 else v) (0 : Int32).toNatClampNeg = r.toInt64 := by simp [vp_updL]
      rw [ev]
      refine lv_iload hx hb dL_law__1551 (lv_at hl 0 rfl) ?_
      refine lv_i2l (v := r.toInt64) hx hb dL_law__1553 rfl ?_
      refine W.lcmp hx hb dL_law__1554 ?_
      rw [lg_eq]
      refine lv_if_eq (tgt := 1560) hx hb dL_law__1555 (by decide) (fun _ => ?_) (fun h => absurd rfl h)
      refine lv_goto (tgt := 2733) hx hb dL_law__1560 (by decide) ?_
      exact kk u _ H locs ls hok hP hD hS (lv_sub hl [2, 3, 4, 5, 6] rfl)
    · exact absurd hc (by decide)
set_option maxHeartbeats 4000000 in
set_option maxRecDepth 100000 in
theorem lc_22 {p : Program} {l : Launch} {e : Env} {s : State} {m : MethodId} {av : Array Value} {below : List Frame} {meth : Method} {c : Code} {D : va_G} {cs : Nat → ClassId} {cells slots : Nat} {Q : State → Prop} (C0 : Cx p s m meth c av lw_tbl code 7 (some .boolean) RL D cs []) (hN : gN s) (hC : gC s) {b L : Nat} {xs : Nat → Int32} (hX : va_X b L xs s s.heap) (hbl : b < s.heap.size) {x mo o : Nat} (i : Int32) (h1 : vp_in (i + 1) L) {S : Type} (w rw rw1 : va_W) (v : Nat → Int64) (fs fs2 fs3 : List Value) (hw0 : w[0]? = some (x, .inr (10, fs))) (hr0 : rw[0]? = some (mo, .inr (11, fs2))) (hr1 : rw1[0]? = some (mo, .inr (11, fs3))) (ok : S → Prop) (w' : S → va_W) (K : Nat) (r b1 th : Int32) (rmY : Room) (mc1 ms1 : Nat) (hc : rmY.cells = mc1) (hs : rmY.slots = ms1) (hf : rmY.frames ≤ 95) (hlo : rmY.locals ≤ 2300) (hrm : cells + mc1 ≤ room_1.cells ∧ slots + ms1 ≤ room_1.slots) (hK : K = 0 ∨ K = 2) (hM : ∀ sz, XS l D cs yX10_sights wsX10_sights rmY [.ref x, .int (xs (i + 1).toNatClampNeg)] sz w ok w' K r mc1 ms1) (hT : ∀ sz, MI l D cs yX11_thrown wsX11_thrown rm_X11_thrown [.ref mo] sz rw1 rw1 th) (hth : th = (if K = 2 then 1 else 0 : Int32)) (hv : K = 0 → r = b1) (hR : ∀ sz, MI l D cs yX11_sights wsX11_sights rm_X11_sights [.ref mo, .int (xs (i + 1).toNatClampNeg)] sz rw rw1 b1) (H : Heap) (locs : List Loc) (ls : Array Slot) (hP : va_P D vwCl [w, rw, [oCell cs o v]].flatten H) (hD : va_D (va_A [] s.heap.size) [w, rw, [oCell cs o v]].flatten) (hS : va_S (va_A [] s.heap.size) s.heap H locs) (hl : lv_has ls 7 [(0, .ref b), (1, .ref x), (2, .ref mo), (3, .ref o), (4, .int i)]) (kk : ∀ (u : S) (v' : Nat → Int64) (H : Heap) (locs : List Loc) (ls : Array Slot), ok u → va_P D vwCl [w' u, rw1, [oCell cs o v']].flatten H → va_D (va_A [] s.heap.size) [w' u, rw1, [oCell cs o v']].flatten → va_S (va_A [] s.heap.size) s.heap H locs → lv_has ls 7 [(0, .ref b), (1, .ref x), (2, .ref mo), (3, .ref o), (4, .int i)] → W p l e room_1 s m av below meth c H locs (cells + mc1) (slots + ms1) Q (F0 m 2733 ls [])) : W p l e room_1 s m av below meth c H locs cells slots Q (F0 m 1563 ls []) := by
  obtain ⟨hx, hb, hr, hlk, hml, hown, hts, hK0, hG, hE⟩ := id C0
  refine lv_aload_n hx hb dL_law__1563 rfl (lv_at hl 1 rfl) ?_
  refine lv_aload_n hx hb dL_law__1564 rfl (lv_at hl 0 rfl) ?_
  refine lv_iload hx hb dL_law__1565 (lv_at hl 4 rfl) ?_
  refine lv_iconst (v := 1) hx hb dL_law__1567 (by decide) ?_
  refine lv_iadd hx hb dL_law__1568 ?_
  refine ow_scr C0 hX hbl hS h1 dL_law__1569 ?_
  refine lv_aload_n hx hb dL_law__1570 rfl (lv_at hl 3 rfl) ?_
  refine ow_lW (As := [.ref x, .int (xs (i + 1).toNatClampNeg), .ref o]) (rest := []) (r := (if K = 2 then 1 else 0 : Int32)) C0 hN hC (c_L_sights l D cs H.size x o ((xs (i + 1).toNatClampNeg)) v w fs hw0 ok w' K r rmY mc1 ms1 hc hs hf hlo hK hM) (vx_cwSW 3 hts gLS_203 rfl rfl rfl (by decide +kernel) ⟨(Nat.le_of_ble_eq_true rfl), (Nat.le_of_ble_eq_true rfl)⟩) hP hD hS rfl hl.1 rfl (Nat.le_of_ble_eq_true rfl) hrm dL_law__1571 (fun u H locs hok hP hD hS => ?_)
  replace hP := sg_Pp pm_o hP
  replace hD := sg_Dp pm_o hD
  refine lv_istore (lv' := [(5, .int (if K = 2 then 1 else 0 : Int32)), (0, .ref b), (1, .ref x), (2, .ref mo), (3, .ref o), (4, .int i)]) hx hb dL_law__1574 hl (by decide) rfl (fun ls hl => ?_)
  refine lv_aload_n hx hb dL_law__1576 rfl (lv_at hl 3 rfl) ?_
  refine lv_aload_n hx hb dL_law__1577 rfl (lv_at hl 1 rfl) ?_
  refine lv_iload hx hb dL_law__1578 (lv_at hl 5 rfl) ?_
  refine lv_iconst (v := 1) hx hb dL_law__1580 (by decide) ?_
  refine lv_iadd hx hb dL_law__1581 ?_
  refine ow_scr C0 hX hbl hS h1 dL_law__1582 ?_
  refine ow_lR (As := [.int (xs (i + 1).toNatClampNeg)]) (rest := []) C0 (hR H.size) (cwV 1 hts gLV_205 rfl rfl rfl (by decide +kernel) ⟨(Nat.le_of_ble_eq_true rfl), (Nat.le_of_ble_eq_true rfl)⟩) 11 rfl hr0 hP hD hS rfl hl.1 rfl (Nat.le_of_ble_eq_true rfl) hrm dL_law__1583 (fun H locs hP hD hS => ?_)
  refine lv_istore (lv' := [(6, .int b1), (5, .int (if K = 2 then 1 else 0 : Int32)), (0, .ref b), (1, .ref x), (2, .ref mo), (3, .ref o), (4, .int i)]) hx hb dL_law__1586 hl (by decide) rfl (fun ls hl => ?_)
  refine lv_aload_n hx hb dL_law__1588 rfl (lv_at hl 4 rfl) ?_
  refine ow_lR (As := []) (rest := []) C0 (hT H.size) (cwV 0 hts gLV_133 rfl rfl rfl (by decide +kernel) ⟨(Nat.le_of_ble_eq_true rfl), (Nat.le_of_ble_eq_true rfl)⟩) 11 rfl hr1 hP hD hS rfl hl.1 rfl (Nat.le_of_ble_eq_true rfl) hrm dL_law__1589 (fun H locs hP hD hS => ?_)
  refine lv_iload hx hb dL_law__1592 (lv_at hl 1 rfl) ?_
  refine lv_icmp_eq (tgt := 1599) hx hb dL_law__1594 (by decide) (fun hc => ?_) (fun hc => absurd hth hc)
  refine lv_iload hx hb dL_law__1599 (lv_at hl 1 rfl) ?_
  refine lv_if_ne (tgt := 1616) hx hb dL_law__1601 (by decide) (fun hc => ?_) (fun hc => ?_)
  · refine lv_goto (tgt := 2733) hx hb dL_law__1616 (by decide) ?_
    exact kk u _ H locs ls hok hP hD hS (lv_sub hl [2, 3, 4, 5, 6] rfl)
  · rcases hK with rfl | rfl
    · have hv0 := hv rfl
      subst hv0
      refine lv_aload_n hx hb dL_law__1604 rfl (lv_at hl 5 rfl) ?_
      refine lv_iconst (v := 0) hx hb dL_law__1605 (by decide) ?_
      refine va_lald hx hb hK0 hP _ 2 (out_at cs o _ _ _) rfl (vp_in_nI (n := 0) (by decide) (by decide)) dL_law__1606 ?_
      have ev : (if (0 : Nat) = 0 then vp_updL v (0 : Int32).toNatClampNeg r.toInt64 else v) (0 : Int32).toNatClampNeg = r.toInt64 := by simp [vp_updL]
      rw [ev]
      refine lv_iload hx hb dL_law__1607 (lv_at hl 0 rfl) ?_
      refine lv_i2l (v := r.toInt64) hx hb dL_law__1609 rfl ?_
      refine W.lcmp hx hb dL_law__1610 ?_
      rw [lg_eq]
      refine lv_if_eq (tgt := 1616) hx hb dL_law__1611 (by decide) (fun _ => ?_) (fun h => absurd rfl h)
      refine lv_goto (tgt := 2733) hx hb dL_law__1616 (by decide) ?_
      exact kk u _ H locs ls hok hP hD hS (lv_sub hl [2, 3, 4, 5, 6] rfl)
    · exact absurd hc (by decide)
set_option maxHeartbeats 4000000 in
set_option maxRecDepth 100000 in
theorem lc_23 {p : Program} {l : Launch} {e : Env} {s : State} {m : MethodId} {av : Array Value} {below : List Frame} {meth : Method} {c : Code} {D : va_G} {cs : Nat → ClassId} {cells slots : Nat} {Q : State → Prop} (C0 : Cx p s m meth c av lw_tbl code 7 (some .boolean) RL D cs []) (hN : gN s) (hC : gC s) {b L : Nat} {xs : Nat → Int32} (hX : va_X b L xs s s.heap) (hbl : b < s.heap.size) {x mo o : Nat} (i : Int32) (h1 : vp_in (i + 1) L) (h2 : vp_in (i + 2) L) {S : Type} (w rw rw1 : va_W) (v : Nat → Int64) (fs fs2 fs3 : List Value) (hw0 : w[0]? = some (x, .inr (10, fs))) (hr0 : rw[0]? = some (mo, .inr (11, fs2))) (hr1 : rw1[0]? = some (mo, .inr (11, fs3))) (ok : S → Prop) (w' : S → va_W) (K : Nat) (r b1 th : Int32) (rmY : Room) (mc1 ms1 : Nat) (hc : rmY.cells = mc1) (hs : rmY.slots = ms1) (hf : rmY.frames ≤ 95) (hlo : rmY.locals ≤ 2300) (hrm : cells + mc1 ≤ room_1.cells ∧ slots + ms1 ≤ room_1.slots) (hK : K = 0 ∨ K = 2) (hM : ∀ sz, XS l D cs yX10_alike wsX10_alike rmY [.ref x, .int (xs (i + 1).toNatClampNeg), .int (xs (i + 2).toNatClampNeg)] sz w ok w' K r mc1 ms1) (hT : ∀ sz, MI l D cs yX11_thrown wsX11_thrown rm_X11_thrown [.ref mo] sz rw1 rw1 th) (hth : th = (if K = 2 then 1 else 0 : Int32)) (hv : K = 0 → r = b1) (hR : ∀ sz, MI l D cs yX11_alike wsX11_alike rm_X11_alike [.ref mo, .int (xs (i + 1).toNatClampNeg), .int (xs (i + 2).toNatClampNeg)] sz rw rw1 b1) (H : Heap) (locs : List Loc) (ls : Array Slot) (hP : va_P D vwCl [w, rw, [oCell cs o v]].flatten H) (hD : va_D (va_A [] s.heap.size) [w, rw, [oCell cs o v]].flatten) (hS : va_S (va_A [] s.heap.size) s.heap H locs) (hl : lv_has ls 7 [(0, .ref b), (1, .ref x), (2, .ref mo), (3, .ref o), (4, .int i)]) (kk : ∀ (u : S) (v' : Nat → Int64) (H : Heap) (locs : List Loc) (ls : Array Slot), ok u → va_P D vwCl [w' u, rw1, [oCell cs o v']].flatten H → va_D (va_A [] s.heap.size) [w' u, rw1, [oCell cs o v']].flatten → va_S (va_A [] s.heap.size) s.heap H locs → lv_has ls 7 [(0, .ref b), (1, .ref x), (2, .ref mo), (3, .ref o), (4, .int i)] → W p l e room_1 s m av below meth c H locs (cells + mc1) (slots + ms1) Q (F0 m 2733 ls [])) : W p l e room_1 s m av below meth c H locs cells slots Q (F0 m 1619 ls []) := by
  obtain ⟨hx, hb, hr, hlk, hml, hown, hts, hK0, hG, hE⟩ := id C0
  refine lv_aload_n hx hb dL_law__1619 rfl (lv_at hl 1 rfl) ?_
  refine lv_aload_n hx hb dL_law__1620 rfl (lv_at hl 0 rfl) ?_
  refine lv_iload hx hb dL_law__1621 (lv_at hl 4 rfl) ?_
  refine lv_iconst (v := 1) hx hb dL_law__1623 (by decide) ?_
  refine lv_iadd hx hb dL_law__1624 ?_
  refine ow_scr C0 hX hbl hS h1 dL_law__1625 ?_
  refine lv_aload_n hx hb dL_law__1626 rfl (lv_at hl 0 rfl) ?_
  refine lv_iload hx hb dL_law__1627 (lv_at hl 4 rfl) ?_
  refine lv_iconst (v := 2) hx hb dL_law__1629 (by decide) ?_
  refine lv_iadd hx hb dL_law__1630 ?_
  refine ow_scr C0 hX hbl hS h2 dL_law__1631 ?_
  refine lv_aload_n hx hb dL_law__1632 rfl (lv_at hl 3 rfl) ?_
  refine ow_lW (As := [.ref x, .int (xs (i + 1).toNatClampNeg), .int (xs (i + 2).toNatClampNeg), .ref o]) (rest := []) (r := (if K = 2 then 1 else 0 : Int32)) C0 hN hC (c_L_alike l D cs H.size x o ((xs (i + 1).toNatClampNeg)) ((xs (i + 2).toNatClampNeg)) v w fs hw0 ok w' K r rmY mc1 ms1 hc hs hf hlo hK hM) (vx_cwSW 4 hts gLS_206 rfl rfl rfl (by decide +kernel) ⟨(Nat.le_of_ble_eq_true rfl), (Nat.le_of_ble_eq_true rfl)⟩) hP hD hS rfl hl.1 rfl (Nat.le_of_ble_eq_true rfl) hrm dL_law__1633 (fun u H locs hok hP hD hS => ?_)
  replace hP := sg_Pp pm_o hP
  replace hD := sg_Dp pm_o hD
  refine lv_istore (lv' := [(5, .int (if K = 2 then 1 else 0 : Int32)), (0, .ref b), (1, .ref x), (2, .ref mo), (3, .ref o), (4, .int i)]) hx hb dL_law__1636 hl (by decide) rfl (fun ls hl => ?_)
  refine lv_aload_n hx hb dL_law__1638 rfl (lv_at hl 3 rfl) ?_
  refine lv_aload_n hx hb dL_law__1639 rfl (lv_at hl 1 rfl) ?_
  refine lv_iload hx hb dL_law__1640 (lv_at hl 5 rfl) ?_
  refine lv_iconst (v := 1) hx hb dL_law__1642 (by decide) ?_
  refine lv_iadd hx hb dL_law__1643 ?_
  refine ow_scr C0 hX hbl hS h1 dL_law__1644 ?_
  refine lv_aload_n hx hb dL_law__1645 rfl (lv_at hl 1 rfl) ?_
  refine lv_iload hx hb dL_law__1646 (lv_at hl 5 rfl) ?_
  refine lv_iconst (v := 2) hx hb dL_law__1648 (by decide) ?_
  refine lv_iadd hx hb dL_law__1649 ?_
  refine ow_scr C0 hX hbl hS h2 dL_law__1650 ?_
  refine ow_lR (As := [.int (xs (i + 1).toNatClampNeg), .int (xs (i + 2).toNatClampNeg)]) (rest := []) C0 (hR H.size) (cwV 2 hts gLV_208 rfl rfl rfl (by decide +kernel) ⟨(Nat.le_of_ble_eq_true rfl), (Nat.le_of_ble_eq_true rfl)⟩) 11 rfl hr0 hP hD hS rfl hl.1 rfl (Nat.le_of_ble_eq_true rfl) hrm dL_law__1651 (fun H locs hP hD hS => ?_)
  refine lv_istore (lv' := [(6, .int b1), (5, .int (if K = 2 then 1 else 0 : Int32)), (0, .ref b), (1, .ref x), (2, .ref mo), (3, .ref o), (4, .int i)]) hx hb dL_law__1654 hl (by decide) rfl (fun ls hl => ?_)
  refine lv_aload_n hx hb dL_law__1656 rfl (lv_at hl 4 rfl) ?_
  refine ow_lR (As := []) (rest := []) C0 (hT H.size) (cwV 0 hts gLV_133 rfl rfl rfl (by decide +kernel) ⟨(Nat.le_of_ble_eq_true rfl), (Nat.le_of_ble_eq_true rfl)⟩) 11 rfl hr1 hP hD hS rfl hl.1 rfl (Nat.le_of_ble_eq_true rfl) hrm dL_law__1657 (fun H locs hP hD hS => ?_)
  refine lv_iload hx hb dL_law__1660 (lv_at hl 1 rfl) ?_
  refine lv_icmp_eq (tgt := 1667) hx hb dL_law__1662 (by decide) (fun hc => ?_) (fun hc => absurd hth hc)
  refine lv_iload hx hb dL_law__1667 (lv_at hl 1 rfl) ?_
  refine lv_if_ne (tgt := 1684) hx hb dL_law__1669 (by decide) (fun hc => ?_) (fun hc => ?_)
  · refine lv_goto (tgt := 2733) hx hb dL_law__1684 (by decide) ?_
    exact kk u _ H locs ls hok hP hD hS (lv_sub hl [2, 3, 4, 5, 6] rfl)
  · rcases hK with rfl | rfl
    · have hv0 := hv rfl
      subst hv0
      refine lv_aload_n hx hb dL_law__1672 rfl (lv_at hl 5 rfl) ?_
      refine lv_iconst (v := 0) hx hb dL_law__1673 (by decide) ?_
      refine va_lald hx hb hK0 hP _ 2 (out_at cs o _ _ _) rfl (vp_in_nI (n := 0) (by decide) (by decide)) dL_law__1674 ?_
      have ev : (if (0 : Nat) = 0 then vp_updL v (0 : Int32).toNatClampNeg r.toInt64 else v) (0 : Int32).toNatClampNeg = r.toInt64 := by simp [vp_updL]
      rw [ev]
      refine lv_iload hx hb dL_law__1675 (lv_at hl 0 rfl) ?_
      refine lv_i2l (v := r.toInt64) hx hb dL_law__1677 rfl ?_
      refine W.lcmp hx hb dL_law__1678 ?_
      rw [lg_eq]
      refine lv_if_eq (tgt := 1684) hx hb dL_law__1679 (by decide) (fun _ => ?_) (fun h => absurd rfl h)
      refine lv_goto (tgt := 2733) hx hb dL_law__1684 (by decide) ?_
      exact kk u _ H locs ls hok hP hD hS (lv_sub hl [2, 3, 4, 5, 6] rfl)
    · exact absurd hc (by decide)
set_option maxHeartbeats 4000000 in
set_option maxRecDepth 100000 in
theorem lc_24 {p : Program} {l : Launch} {e : Env} {s : State} {m : MethodId} {av : Array Value} {below : List Frame} {meth : Method} {c : Code} {D : va_G} {cs : Nat → ClassId} {cells slots : Nat} {Q : State → Prop} (C0 : Cx p s m meth c av lw_tbl code 7 (some .boolean) RL D cs []) (hN : gN s) (hC : gC s) {b L : Nat} {xs : Nat → Int32} (hX : va_X b L xs s s.heap) (hbl : b < s.heap.size) {x mo o : Nat} (i : Int32) (h1 : vp_in (i + 1) L) (h2 : vp_in (i + 2) L) {S : Type} (w rw rw1 : va_W) (v : Nat → Int64) (fs fs2 fs3 : List Value) (hw0 : w[0]? = some (x, .inr (10, fs))) (hr0 : rw[0]? = some (mo, .inr (11, fs2))) (hr1 : rw1[0]? = some (mo, .inr (11, fs3))) (ok : S → Prop) (w' : S → va_W) (K : Nat) (r b1 th : Int32) (rmY : Room) (mc1 ms1 : Nat) (hc : rmY.cells = mc1) (hs : rmY.slots = ms1) (hf : rmY.frames ≤ 95) (hlo : rmY.locals ≤ 2300) (hrm : cells + mc1 ≤ room_1.cells ∧ slots + ms1 ≤ room_1.slots) (hK : K = 0 ∨ K = 2 ∨ K = 1) (hM : ∀ sz, XS l D cs yX10_oldest wsX10_oldest rmY [.ref x, .int (xs (i + 1).toNatClampNeg), .int (xs (i + 2).toNatClampNeg)] sz w ok w' K r mc1 ms1) (hT : ∀ sz, MI l D cs yX11_thrown wsX11_thrown rm_X11_thrown [.ref mo] sz rw1 rw1 th) (hth : th = (if K = 2 then 1 else if K = 1 then 2 else 0 : Int32)) (hv : K = 0 → r = b1) (hR : ∀ sz, MI l D cs yX11_oldest wsX11_oldest rm_X11_oldest [.ref mo, .int (xs (i + 1).toNatClampNeg), .int (xs (i + 2).toNatClampNeg)] sz rw rw1 b1) (H : Heap) (locs : List Loc) (ls : Array Slot) (hP : va_P D vwCl [w, rw, [oCell cs o v]].flatten H) (hD : va_D (va_A [] s.heap.size) [w, rw, [oCell cs o v]].flatten) (hS : va_S (va_A [] s.heap.size) s.heap H locs) (hl : lv_has ls 7 [(0, .ref b), (1, .ref x), (2, .ref mo), (3, .ref o), (4, .int i)]) (kk : ∀ (u : S) (v' : Nat → Int64) (H : Heap) (locs : List Loc) (ls : Array Slot), ok u → va_P D vwCl [w' u, rw1, [oCell cs o v']].flatten H → va_D (va_A [] s.heap.size) [w' u, rw1, [oCell cs o v']].flatten → va_S (va_A [] s.heap.size) s.heap H locs → lv_has ls 7 [(0, .ref b), (1, .ref x), (2, .ref mo), (3, .ref o), (4, .int i)] → W p l e room_1 s m av below meth c H locs (cells + mc1) (slots + ms1) Q (F0 m 2733 ls [])) : W p l e room_1 s m av below meth c H locs cells slots Q (F0 m 1687 ls []) := by
  obtain ⟨hx, hb, hr, hlk, hml, hown, hts, hK0, hG, hE⟩ := id C0
  refine lv_aload_n hx hb dL_law__1687 rfl (lv_at hl 1 rfl) ?_
  refine lv_aload_n hx hb dL_law__1688 rfl (lv_at hl 0 rfl) ?_
  refine lv_iload hx hb dL_law__1689 (lv_at hl 4 rfl) ?_
  refine lv_iconst (v := 1) hx hb dL_law__1691 (by decide) ?_
  refine lv_iadd hx hb dL_law__1692 ?_
  refine ow_scr C0 hX hbl hS h1 dL_law__1693 ?_
  refine lv_aload_n hx hb dL_law__1694 rfl (lv_at hl 0 rfl) ?_
  refine lv_iload hx hb dL_law__1695 (lv_at hl 4 rfl) ?_
  refine lv_iconst (v := 2) hx hb dL_law__1697 (by decide) ?_
  refine lv_iadd hx hb dL_law__1698 ?_
  refine ow_scr C0 hX hbl hS h2 dL_law__1699 ?_
  refine lv_aload_n hx hb dL_law__1700 rfl (lv_at hl 3 rfl) ?_
  refine ow_lW (As := [.ref x, .int (xs (i + 1).toNatClampNeg), .int (xs (i + 2).toNatClampNeg), .ref o]) (rest := []) (r := (if K = 2 then 1 else if K = 1 then 2 else 0 : Int32)) C0 hN hC (c_L_oldest l D cs H.size x o ((xs (i + 1).toNatClampNeg)) ((xs (i + 2).toNatClampNeg)) v w fs hw0 ok w' K r rmY mc1 ms1 hc hs hf hlo hK hM) (vx_cwSW 4 hts gLS_209 rfl rfl rfl (by decide +kernel) ⟨(Nat.le_of_ble_eq_true rfl), (Nat.le_of_ble_eq_true rfl)⟩) hP hD hS rfl hl.1 rfl (Nat.le_of_ble_eq_true rfl) hrm dL_law__1701 (fun u H locs hok hP hD hS => ?_)
  replace hP := sg_Pp pm_o hP
  replace hD := sg_Dp pm_o hD
  refine lv_istore (lv' := [(5, .int (if K = 2 then 1 else if K = 1 then 2 else 0 : Int32)), (0, .ref b), (1, .ref x), (2, .ref mo), (3, .ref o), (4, .int i)]) hx hb dL_law__1704 hl (by decide) rfl (fun ls hl => ?_)
  refine lv_aload_n hx hb dL_law__1706 rfl (lv_at hl 3 rfl) ?_
  refine lv_aload_n hx hb dL_law__1707 rfl (lv_at hl 1 rfl) ?_
  refine lv_iload hx hb dL_law__1708 (lv_at hl 5 rfl) ?_
  refine lv_iconst (v := 1) hx hb dL_law__1710 (by decide) ?_
  refine lv_iadd hx hb dL_law__1711 ?_
  refine ow_scr C0 hX hbl hS h1 dL_law__1712 ?_
  refine lv_aload_n hx hb dL_law__1713 rfl (lv_at hl 1 rfl) ?_
  refine lv_iload hx hb dL_law__1714 (lv_at hl 5 rfl) ?_
  refine lv_iconst (v := 2) hx hb dL_law__1716 (by decide) ?_
  refine lv_iadd hx hb dL_law__1717 ?_
  refine ow_scr C0 hX hbl hS h2 dL_law__1718 ?_
  refine ow_lR (As := [.int (xs (i + 1).toNatClampNeg), .int (xs (i + 2).toNatClampNeg)]) (rest := []) C0 (hR H.size) (cwV 2 hts gLV_211 rfl rfl rfl (by decide +kernel) ⟨(Nat.le_of_ble_eq_true rfl), (Nat.le_of_ble_eq_true rfl)⟩) 11 rfl hr0 hP hD hS rfl hl.1 rfl (Nat.le_of_ble_eq_true rfl) hrm dL_law__1719 (fun H locs hP hD hS => ?_)
  refine lv_istore (lv' := [(6, .int b1), (5, .int (if K = 2 then 1 else if K = 1 then 2 else 0 : Int32)), (0, .ref b), (1, .ref x), (2, .ref mo), (3, .ref o), (4, .int i)]) hx hb dL_law__1722 hl (by decide) rfl (fun ls hl => ?_)
  refine lv_aload_n hx hb dL_law__1724 rfl (lv_at hl 4 rfl) ?_
  refine ow_lR (As := []) (rest := []) C0 (hT H.size) (cwV 0 hts gLV_133 rfl rfl rfl (by decide +kernel) ⟨(Nat.le_of_ble_eq_true rfl), (Nat.le_of_ble_eq_true rfl)⟩) 11 rfl hr1 hP hD hS rfl hl.1 rfl (Nat.le_of_ble_eq_true rfl) hrm dL_law__1725 (fun H locs hP hD hS => ?_)
  refine lv_iload hx hb dL_law__1728 (lv_at hl 1 rfl) ?_
  refine lv_icmp_eq (tgt := 1735) hx hb dL_law__1730 (by decide) (fun hc => ?_) (fun hc => absurd hth hc)
  refine lv_iload hx hb dL_law__1735 (lv_at hl 1 rfl) ?_
  refine lv_if_ne (tgt := 1752) hx hb dL_law__1737 (by decide) (fun hc => ?_) (fun hc => ?_)
  · refine lv_goto (tgt := 2733) hx hb dL_law__1752 (by decide) ?_
    exact kk u _ H locs ls hok hP hD hS (lv_sub hl [2, 3, 4, 5, 6] rfl)
  · rcases hK with rfl | rfl | rfl
    · have hv0 := hv rfl
      subst hv0
      refine lv_aload_n hx hb dL_law__1740 rfl (lv_at hl 5 rfl) ?_
      refine lv_iconst (v := 0) hx hb dL_law__1741 (by decide) ?_
      refine va_lald hx hb hK0 hP _ 2 (out_at cs o _ _ _) rfl (vp_in_nI (n := 0) (by decide) (by decide)) dL_law__1742 ?_
      have ev : (if (0 : Nat) = 0 then vp_updL v (0 : Int32).toNatClampNeg r.toInt64 else v) (0 : Int32).toNatClampNeg = r.toInt64 := by simp [vp_updL]
      rw [ev]
      refine lv_iload hx hb dL_law__1743 (lv_at hl 0 rfl) ?_
      refine lv_i2l (v := r.toInt64) hx hb dL_law__1745 rfl ?_
      refine W.lcmp hx hb dL_law__1746 ?_
      rw [lg_eq]
      refine lv_if_eq (tgt := 1752) hx hb dL_law__1747 (by decide) (fun _ => ?_) (fun h => absurd rfl h)
      refine lv_goto (tgt := 2733) hx hb dL_law__1752 (by decide) ?_
      exact kk u _ H locs ls hok hP hD hS (lv_sub hl [2, 3, 4, 5, 6] rfl)
    · exact absurd hc (by decide)
    · exact absurd hc (by decide)
set_option maxHeartbeats 4000000 in
set_option maxRecDepth 100000 in
theorem lc_25 {p : Program} {l : Launch} {e : Env} {s : State} {m : MethodId} {av : Array Value} {below : List Frame} {meth : Method} {c : Code} {D : va_G} {cs : Nat → ClassId} {cells slots : Nat} {Q : State → Prop} (C0 : Cx p s m meth c av lw_tbl code 7 (some .boolean) RL D cs []) (hN : gN s) (hC : gC s) {b L : Nat} {xs : Nat → Int32} (hX : va_X b L xs s s.heap) (hbl : b < s.heap.size) {x mo o : Nat} (i : Int32)  {S : Type} (w rw rw1 : va_W) (v : Nat → Int64) (fs fs2 fs3 : List Value) (hw0 : w[0]? = some (x, .inr (10, fs))) (hr0 : rw[0]? = some (mo, .inr (11, fs2))) (hr1 : rw1[0]? = some (mo, .inr (11, fs3))) (ok : S → Prop) (w' : S → va_W) (K : Nat) (r b1 th : Int32) (rmY : Room) (mc1 ms1 : Nat) (hc : rmY.cells = mc1) (hs : rmY.slots = ms1) (hf : rmY.frames ≤ 95) (hlo : rmY.locals ≤ 2300) (hrm : cells + mc1 ≤ room_1.cells ∧ slots + ms1 ≤ room_1.slots) (hM : ∀ sz, MJ l D cs yX10_thick wsX10_thick rmY [.ref x] sz w ok w' r mc1 ms1) (heq : r = b1) (hR : ∀ sz, MI l D cs yX11_thick wsX11_thick rm_X11_thick [.ref mo] sz rw rw1 b1) (H : Heap) (locs : List Loc) (ls : Array Slot) (hP : va_P D vwCl [w, rw, [oCell cs o v]].flatten H) (hD : va_D (va_A [] s.heap.size) [w, rw, [oCell cs o v]].flatten) (hS : va_S (va_A [] s.heap.size) s.heap H locs) (hl : lv_has ls 7 [(0, .ref b), (1, .ref x), (2, .ref mo), (3, .ref o), (4, .int i)]) (kk : ∀ (u : S) (v' : Nat → Int64) (H : Heap) (locs : List Loc) (ls : Array Slot), ok u → va_P D vwCl [w' u, rw1, [oCell cs o v']].flatten H → va_D (va_A [] s.heap.size) [w' u, rw1, [oCell cs o v']].flatten → va_S (va_A [] s.heap.size) s.heap H locs → lv_has ls 7 [(0, .ref b), (1, .ref x), (2, .ref mo), (3, .ref o), (4, .int i)] → W p l e room_1 s m av below meth c H locs (cells + mc1) (slots + ms1) Q (F0 m 2733 ls [])) : W p l e room_1 s m av below meth c H locs cells slots Q (F0 m 1755 ls []) := by
  obtain ⟨hx, hb, hr, hlk, hml, hown, hts, hK0, hG, hE⟩ := id C0
  refine lv_aload_n hx hb dL_law__1755 rfl (lv_at hl 1 rfl) ?_
  refine ow_lJ (As := []) (rest := []) C0 hN (hM H.size) (cwV 0 hts gLV_212 rfl hc hs (by decide +kernel) ⟨by show rmY.frames + 1 ≤ 2048; omega, by show 8 + (_ + 11) + rmY.locals ≤ 84000; omega⟩) 10 rfl hw0 hP hD hS rfl hl.1 rfl (Nat.le_of_ble_eq_true rfl) hrm dL_law__1756 (fun u H locs hok hP hD hS => ?_)
  refine lv_aload_n hx hb dL_law__1759 rfl (lv_at hl 2 rfl) ?_
  refine ow_lR (As := []) (rest := [.int r]) C0 (hR H.size) (cwV 0 hts gLV_215 rfl rfl rfl (by decide +kernel) ⟨(Nat.le_of_ble_eq_true rfl), (Nat.le_of_ble_eq_true rfl)⟩) 11 rfl hr0 hP hD hS rfl hl.1 rfl (Nat.le_of_ble_eq_true rfl) hrm dL_law__1760 (fun H locs hP hD hS => ?_)
  refine lv_icmp_eq (tgt := 2733) hx hb dL_law__1763 (by decide) (fun hc => ?_) (fun hc => absurd heq hc)
  exact kk u v H locs ls hok hP hD hS (lv_sub hl [0, 1, 2, 3, 4] rfl)
set_option maxHeartbeats 4000000 in
set_option maxRecDepth 100000 in
theorem lc_26 {p : Program} {l : Launch} {e : Env} {s : State} {m : MethodId} {av : Array Value} {below : List Frame} {meth : Method} {c : Code} {D : va_G} {cs : Nat → ClassId} {cells slots : Nat} {Q : State → Prop} (C0 : Cx p s m meth c av lw_tbl code 7 (some .boolean) RL D cs []) (hN : gN s) (hC : gC s) {b L : Nat} {xs : Nat → Int32} (hX : va_X b L xs s s.heap) (hbl : b < s.heap.size) {x mo o : Nat} (i : Int32) (h1 : vp_in (i + 1) L) (h2 : vp_in (i + 2) L) {S : Type} (w rw rw1 : va_W) (v : Nat → Int64) (fs fs2 fs3 : List Value) (hw0 : w[0]? = some (x, .inr (10, fs))) (hr0 : rw[0]? = some (mo, .inr (11, fs2))) (hr1 : rw1[0]? = some (mo, .inr (11, fs3))) (ok : S → Prop) (w' : S → va_W) (K : Nat) (r b1 th : Int32) (rmY : Room) (mc1 ms1 : Nat) (hc : rmY.cells = mc1) (hs : rmY.slots = ms1) (hf : rmY.frames ≤ 95) (hlo : rmY.locals ≤ 2300) (hrm : cells + mc1 ≤ room_1.cells ∧ slots + ms1 ≤ room_1.slots) (hK : K = 0 ∨ K = 2 ∨ K = 1) (hM : ∀ sz, XS l D cs yX10_patch wsX10_patch rmY [.ref x, .int (xs (i + 1).toNatClampNeg), .int (xs (i + 2).toNatClampNeg)] sz w ok w' K r mc1 ms1) (hT : ∀ sz, MI l D cs yX11_thrown wsX11_thrown rm_X11_thrown [.ref mo] sz rw1 rw1 th) (hth : th = (if K = 2 then 1 else if K = 1 then 2 else 0 : Int32)) (hv : K = 0 → r = b1) (hR : ∀ sz, MI l D cs yX11_patch wsX11_patch rm_X11_patch [.ref mo, .int (xs (i + 1).toNatClampNeg), .int (xs (i + 2).toNatClampNeg)] sz rw rw1 b1) (H : Heap) (locs : List Loc) (ls : Array Slot) (hP : va_P D vwCl [w, rw, [oCell cs o v]].flatten H) (hD : va_D (va_A [] s.heap.size) [w, rw, [oCell cs o v]].flatten) (hS : va_S (va_A [] s.heap.size) s.heap H locs) (hl : lv_has ls 7 [(0, .ref b), (1, .ref x), (2, .ref mo), (3, .ref o), (4, .int i)]) (kk : ∀ (u : S) (v' : Nat → Int64) (H : Heap) (locs : List Loc) (ls : Array Slot), ok u → va_P D vwCl [w' u, rw1, [oCell cs o v']].flatten H → va_D (va_A [] s.heap.size) [w' u, rw1, [oCell cs o v']].flatten → va_S (va_A [] s.heap.size) s.heap H locs → lv_has ls 7 [(0, .ref b), (1, .ref x), (2, .ref mo), (3, .ref o), (4, .int i)] → W p l e room_1 s m av below meth c H locs (cells + mc1) (slots + ms1) Q (F0 m 2733 ls [])) : W p l e room_1 s m av below meth c H locs cells slots Q (F0 m 1768 ls []) := by
  obtain ⟨hx, hb, hr, hlk, hml, hown, hts, hK0, hG, hE⟩ := id C0
  refine lv_aload_n hx hb dL_law__1768 rfl (lv_at hl 1 rfl) ?_
  refine lv_aload_n hx hb dL_law__1769 rfl (lv_at hl 0 rfl) ?_
  refine lv_iload hx hb dL_law__1770 (lv_at hl 4 rfl) ?_
  refine lv_iconst (v := 1) hx hb dL_law__1772 (by decide) ?_
  refine lv_iadd hx hb dL_law__1773 ?_
  refine ow_scr C0 hX hbl hS h1 dL_law__1774 ?_
  refine lv_aload_n hx hb dL_law__1775 rfl (lv_at hl 0 rfl) ?_
  refine lv_iload hx hb dL_law__1776 (lv_at hl 4 rfl) ?_
  refine lv_iconst (v := 2) hx hb dL_law__1778 (by decide) ?_
  refine lv_iadd hx hb dL_law__1779 ?_
  refine ow_scr C0 hX hbl hS h2 dL_law__1780 ?_
  refine lv_aload_n hx hb dL_law__1781 rfl (lv_at hl 3 rfl) ?_
  refine ow_lW (As := [.ref x, .int (xs (i + 1).toNatClampNeg), .int (xs (i + 2).toNatClampNeg), .ref o]) (rest := []) (r := (if K = 2 then 1 else if K = 1 then 2 else 0 : Int32)) C0 hN hC (c_L_patch l D cs H.size x o ((xs (i + 1).toNatClampNeg)) ((xs (i + 2).toNatClampNeg)) v w fs hw0 ok w' K r rmY mc1 ms1 hc hs hf hlo hK hM) (vx_cwSW 4 hts gLS_216 rfl rfl rfl (by decide +kernel) ⟨(Nat.le_of_ble_eq_true rfl), (Nat.le_of_ble_eq_true rfl)⟩) hP hD hS rfl hl.1 rfl (Nat.le_of_ble_eq_true rfl) hrm dL_law__1782 (fun u H locs hok hP hD hS => ?_)
  replace hP := sg_Pp pm_o hP
  replace hD := sg_Dp pm_o hD
  refine lv_istore (lv' := [(5, .int (if K = 2 then 1 else if K = 1 then 2 else 0 : Int32)), (0, .ref b), (1, .ref x), (2, .ref mo), (3, .ref o), (4, .int i)]) hx hb dL_law__1785 hl (by decide) rfl (fun ls hl => ?_)
  refine lv_aload_n hx hb dL_law__1787 rfl (lv_at hl 3 rfl) ?_
  refine lv_aload_n hx hb dL_law__1788 rfl (lv_at hl 1 rfl) ?_
  refine lv_iload hx hb dL_law__1789 (lv_at hl 5 rfl) ?_
  refine lv_iconst (v := 1) hx hb dL_law__1791 (by decide) ?_
  refine lv_iadd hx hb dL_law__1792 ?_
  refine ow_scr C0 hX hbl hS h1 dL_law__1793 ?_
  refine lv_aload_n hx hb dL_law__1794 rfl (lv_at hl 1 rfl) ?_
  refine lv_iload hx hb dL_law__1795 (lv_at hl 5 rfl) ?_
  refine lv_iconst (v := 2) hx hb dL_law__1797 (by decide) ?_
  refine lv_iadd hx hb dL_law__1798 ?_
  refine ow_scr C0 hX hbl hS h2 dL_law__1799 ?_
  refine ow_lR (As := [.int (xs (i + 1).toNatClampNeg), .int (xs (i + 2).toNatClampNeg)]) (rest := []) C0 (hR H.size) (cwV 2 hts gLV_218 rfl rfl rfl (by decide +kernel) ⟨(Nat.le_of_ble_eq_true rfl), (Nat.le_of_ble_eq_true rfl)⟩) 11 rfl hr0 hP hD hS rfl hl.1 rfl (Nat.le_of_ble_eq_true rfl) hrm dL_law__1800 (fun H locs hP hD hS => ?_)
  refine lv_istore (lv' := [(6, .int b1), (5, .int (if K = 2 then 1 else if K = 1 then 2 else 0 : Int32)), (0, .ref b), (1, .ref x), (2, .ref mo), (3, .ref o), (4, .int i)]) hx hb dL_law__1803 hl (by decide) rfl (fun ls hl => ?_)
  refine lv_aload_n hx hb dL_law__1805 rfl (lv_at hl 4 rfl) ?_
  refine ow_lR (As := []) (rest := []) C0 (hT H.size) (cwV 0 hts gLV_133 rfl rfl rfl (by decide +kernel) ⟨(Nat.le_of_ble_eq_true rfl), (Nat.le_of_ble_eq_true rfl)⟩) 11 rfl hr1 hP hD hS rfl hl.1 rfl (Nat.le_of_ble_eq_true rfl) hrm dL_law__1806 (fun H locs hP hD hS => ?_)
  refine lv_iload hx hb dL_law__1809 (lv_at hl 1 rfl) ?_
  refine lv_icmp_eq (tgt := 1816) hx hb dL_law__1811 (by decide) (fun hc => ?_) (fun hc => absurd hth hc)
  refine lv_iload hx hb dL_law__1816 (lv_at hl 1 rfl) ?_
  refine lv_if_ne (tgt := 1833) hx hb dL_law__1818 (by decide) (fun hc => ?_) (fun hc => ?_)
  · refine lv_goto (tgt := 2733) hx hb dL_law__1833 (by decide) ?_
    exact kk u _ H locs ls hok hP hD hS (lv_sub hl [2, 3, 4, 5, 6] rfl)
  · rcases hK with rfl | rfl | rfl
    · have hv0 := hv rfl
      subst hv0
      refine lv_aload_n hx hb dL_law__1821 rfl (lv_at hl 5 rfl) ?_
      refine lv_iconst (v := 0) hx hb dL_law__1822 (by decide) ?_
      refine va_lald hx hb hK0 hP _ 2 (out_at cs o _ _ _) rfl (vp_in_nI (n := 0) (by decide) (by decide)) dL_law__1823 ?_
      have ev : (if (0 : Nat) = 0 then vp_updL v (0 : Int32).toNatClampNeg r.toInt64 else v) (0 : Int32).toNatClampNeg = r.toInt64 := by simp [vp_updL]
      rw [ev]
      refine lv_iload hx hb dL_law__1824 (lv_at hl 0 rfl) ?_
      refine lv_i2l (v := r.toInt64) hx hb dL_law__1826 rfl ?_
      refine W.lcmp hx hb dL_law__1827 ?_
      rw [lg_eq]
      refine lv_if_eq (tgt := 1833) hx hb dL_law__1828 (by decide) (fun _ => ?_) (fun h => absurd rfl h)
      refine lv_goto (tgt := 2733) hx hb dL_law__1833 (by decide) ?_
      exact kk u _ H locs ls hok hP hD hS (lv_sub hl [2, 3, 4, 5, 6] rfl)
    · exact absurd hc (by decide)
    · exact absurd hc (by decide)
set_option maxHeartbeats 4000000 in
set_option maxRecDepth 100000 in
theorem lc_27 {p : Program} {l : Launch} {e : Env} {s : State} {m : MethodId} {av : Array Value} {below : List Frame} {meth : Method} {c : Code} {D : va_G} {cs : Nat → ClassId} {cells slots : Nat} {Q : State → Prop} (C0 : Cx p s m meth c av lw_tbl code 7 (some .boolean) RL D cs []) (hN : gN s) (hC : gC s) {b L : Nat} {xs : Nat → Int32} (hX : va_X b L xs s s.heap) (hbl : b < s.heap.size) {x mo o : Nat} (i : Int32) (h1 : vp_in (i + 1) L) {S : Type} (w rw rw1 : va_W) (v : Nat → Int64) (fs fs2 fs3 : List Value) (hw0 : w[0]? = some (x, .inr (10, fs))) (hr0 : rw[0]? = some (mo, .inr (11, fs2))) (hr1 : rw1[0]? = some (mo, .inr (11, fs3))) (ok : S → Prop) (w' : S → va_W) (K : Nat) (r b1 th : Int32) (rmY : Room) (mc1 ms1 : Nat) (hc : rmY.cells = mc1) (hs : rmY.slots = ms1) (hf : rmY.frames ≤ 95) (hlo : rmY.locals ≤ 2300) (hrm : cells + mc1 ≤ room_1.cells ∧ slots + ms1 ≤ room_1.slots) (hK : K = 0 ∨ K = 2) (hM : ∀ sz, XS l D cs yX10_tells wsX10_tells rmY [.ref x, .int (xs (i + 1).toNatClampNeg)] sz w ok w' K r mc1 ms1) (hT : ∀ sz, MI l D cs yX11_thrown wsX11_thrown rm_X11_thrown [.ref mo] sz rw1 rw1 th) (hth : th = (if K = 2 then 1 else 0 : Int32)) (hv : K = 0 → r = b1) (hR : ∀ sz, MI l D cs yX11_tells wsX11_tells rm_X11_tells [.ref mo, .int (xs (i + 1).toNatClampNeg)] sz rw rw1 b1) (H : Heap) (locs : List Loc) (ls : Array Slot) (hP : va_P D vwCl [w, rw, [oCell cs o v]].flatten H) (hD : va_D (va_A [] s.heap.size) [w, rw, [oCell cs o v]].flatten) (hS : va_S (va_A [] s.heap.size) s.heap H locs) (hl : lv_has ls 7 [(0, .ref b), (1, .ref x), (2, .ref mo), (3, .ref o), (4, .int i)]) (kk : ∀ (u : S) (v' : Nat → Int64) (H : Heap) (locs : List Loc) (ls : Array Slot), ok u → va_P D vwCl [w' u, rw1, [oCell cs o v']].flatten H → va_D (va_A [] s.heap.size) [w' u, rw1, [oCell cs o v']].flatten → va_S (va_A [] s.heap.size) s.heap H locs → lv_has ls 7 [(0, .ref b), (1, .ref x), (2, .ref mo), (3, .ref o), (4, .int i)] → W p l e room_1 s m av below meth c H locs (cells + mc1) (slots + ms1) Q (F0 m 2733 ls [])) : W p l e room_1 s m av below meth c H locs cells slots Q (F0 m 1836 ls []) := by
  obtain ⟨hx, hb, hr, hlk, hml, hown, hts, hK0, hG, hE⟩ := id C0
  refine lv_aload_n hx hb dL_law__1836 rfl (lv_at hl 1 rfl) ?_
  refine lv_aload_n hx hb dL_law__1837 rfl (lv_at hl 0 rfl) ?_
  refine lv_iload hx hb dL_law__1838 (lv_at hl 4 rfl) ?_
  refine lv_iconst (v := 1) hx hb dL_law__1840 (by decide) ?_
  refine lv_iadd hx hb dL_law__1841 ?_
  refine ow_scr C0 hX hbl hS h1 dL_law__1842 ?_
  refine lv_aload_n hx hb dL_law__1843 rfl (lv_at hl 3 rfl) ?_
  refine ow_lW (As := [.ref x, .int (xs (i + 1).toNatClampNeg), .ref o]) (rest := []) (r := (if K = 2 then 1 else 0 : Int32)) C0 hN hC (c_L_tells l D cs H.size x o ((xs (i + 1).toNatClampNeg)) v w fs hw0 ok w' K r rmY mc1 ms1 hc hs hf hlo hK hM) (vx_cwSW 3 hts gLS_219 rfl rfl rfl (by decide +kernel) ⟨(Nat.le_of_ble_eq_true rfl), (Nat.le_of_ble_eq_true rfl)⟩) hP hD hS rfl hl.1 rfl (Nat.le_of_ble_eq_true rfl) hrm dL_law__1844 (fun u H locs hok hP hD hS => ?_)
  replace hP := sg_Pp pm_o hP
  replace hD := sg_Dp pm_o hD
  refine lv_istore (lv' := [(5, .int (if K = 2 then 1 else 0 : Int32)), (0, .ref b), (1, .ref x), (2, .ref mo), (3, .ref o), (4, .int i)]) hx hb dL_law__1847 hl (by decide) rfl (fun ls hl => ?_)
  refine lv_aload_n hx hb dL_law__1849 rfl (lv_at hl 3 rfl) ?_
  refine lv_aload_n hx hb dL_law__1850 rfl (lv_at hl 1 rfl) ?_
  refine lv_iload hx hb dL_law__1851 (lv_at hl 5 rfl) ?_
  refine lv_iconst (v := 1) hx hb dL_law__1853 (by decide) ?_
  refine lv_iadd hx hb dL_law__1854 ?_
  refine ow_scr C0 hX hbl hS h1 dL_law__1855 ?_
  refine ow_lR (As := [.int (xs (i + 1).toNatClampNeg)]) (rest := []) C0 (hR H.size) (cwV 1 hts gLV_221 rfl rfl rfl (by decide +kernel) ⟨(Nat.le_of_ble_eq_true rfl), (Nat.le_of_ble_eq_true rfl)⟩) 11 rfl hr0 hP hD hS rfl hl.1 rfl (Nat.le_of_ble_eq_true rfl) hrm dL_law__1856 (fun H locs hP hD hS => ?_)
  refine lv_istore (lv' := [(6, .int b1), (5, .int (if K = 2 then 1 else 0 : Int32)), (0, .ref b), (1, .ref x), (2, .ref mo), (3, .ref o), (4, .int i)]) hx hb dL_law__1859 hl (by decide) rfl (fun ls hl => ?_)
  refine lv_aload_n hx hb dL_law__1861 rfl (lv_at hl 4 rfl) ?_
  refine ow_lR (As := []) (rest := []) C0 (hT H.size) (cwV 0 hts gLV_133 rfl rfl rfl (by decide +kernel) ⟨(Nat.le_of_ble_eq_true rfl), (Nat.le_of_ble_eq_true rfl)⟩) 11 rfl hr1 hP hD hS rfl hl.1 rfl (Nat.le_of_ble_eq_true rfl) hrm dL_law__1862 (fun H locs hP hD hS => ?_)
  refine lv_iload hx hb dL_law__1865 (lv_at hl 1 rfl) ?_
  refine lv_icmp_eq (tgt := 1872) hx hb dL_law__1867 (by decide) (fun hc => ?_) (fun hc => absurd hth hc)
  refine lv_iload hx hb dL_law__1872 (lv_at hl 1 rfl) ?_
  refine lv_if_ne (tgt := 1889) hx hb dL_law__1874 (by decide) (fun hc => ?_) (fun hc => ?_)
  · refine lv_goto (tgt := 2733) hx hb dL_law__1889 (by decide) ?_
    exact kk u _ H locs ls hok hP hD hS (lv_sub hl [2, 3, 4, 5, 6] rfl)
  · rcases hK with rfl | rfl
    · have hv0 := hv rfl
      subst hv0
      refine lv_aload_n hx hb dL_law__1877 rfl (lv_at hl 5 rfl) ?_
      refine lv_iconst (v := 0) hx hb dL_law__1878 (by decide) ?_
      refine va_lald hx hb hK0 hP _ 2 (out_at cs o _ _ _) rfl (vp_in_nI (n := 0) (by decide) (by decide)) dL_law__1879 ?_
      have ev : (if (0 : Nat) = 0 then vp_updL v (0 : Int32).toNatClampNeg r.toInt64 else v) (0 : Int32).toNatClampNeg = r.toInt64 := by simp [vp_updL]
      rw [ev]
      refine lv_iload hx hb dL_law__1880 (lv_at hl 0 rfl) ?_
      refine lv_i2l (v := r.toInt64) hx hb dL_law__1882 rfl ?_
      refine W.lcmp hx hb dL_law__1883 ?_
      rw [lg_eq]
      refine lv_if_eq (tgt := 1889) hx hb dL_law__1884 (by decide) (fun _ => ?_) (fun h => absurd rfl h)
      refine lv_goto (tgt := 2733) hx hb dL_law__1889 (by decide) ?_
      exact kk u _ H locs ls hok hP hD hS (lv_sub hl [2, 3, 4, 5, 6] rfl)
    · exact absurd hc (by decide)
set_option maxHeartbeats 4000000 in
set_option maxRecDepth 100000 in
theorem lc_28 {p : Program} {l : Launch} {e : Env} {s : State} {m : MethodId} {av : Array Value} {below : List Frame} {meth : Method} {c : Code} {D : va_G} {cs : Nat → ClassId} {cells slots : Nat} {Q : State → Prop} (C0 : Cx p s m meth c av lw_tbl code 7 (some .boolean) RL D cs []) (hN : gN s) (hC : gC s) {b L : Nat} {xs : Nat → Int32} (hX : va_X b L xs s s.heap) (hbl : b < s.heap.size) {x mo o : Nat} (i : Int32) (h1 : vp_in (i + 1) L) (h2 : vp_in (i + 2) L) {S : Type} (w rw rw1 : va_W) (v : Nat → Int64) (fs fs2 fs3 : List Value) (hw0 : w[0]? = some (x, .inr (10, fs))) (hr0 : rw[0]? = some (mo, .inr (11, fs2))) (hr1 : rw1[0]? = some (mo, .inr (11, fs3))) (ok : S → Prop) (w' : S → va_W) (K : Nat) (r b1 th : Int32) (rmY : Room) (mc1 ms1 : Nat) (hc : rmY.cells = mc1) (hs : rmY.slots = ms1) (hf : rmY.frames ≤ 95) (hlo : rmY.locals ≤ 2300) (hrm : cells + mc1 ≤ room_1.cells ∧ slots + ms1 ≤ room_1.slots) (hK : K = 0 ∨ K = 2 ∨ K = 1) (hM : ∀ sz, XS l D cs yX10_look wsX10_look rmY [.ref x, .int (xs (i + 1).toNatClampNeg), .int (xs (i + 2).toNatClampNeg)] sz w ok w' K r mc1 ms1) (hT : ∀ sz, MI l D cs yX11_thrown wsX11_thrown rm_X11_thrown [.ref mo] sz rw1 rw1 th) (hth : th = (if K = 2 then 1 else if K = 1 then 2 else 0 : Int32)) (hv : K = 0 → r = b1) (hR : ∀ sz, MI l D cs yX11_look wsX11_look rm_X11_look [.ref mo, .int (xs (i + 1).toNatClampNeg), .int (xs (i + 2).toNatClampNeg)] sz rw rw1 b1) (H : Heap) (locs : List Loc) (ls : Array Slot) (hP : va_P D vwCl [w, rw, [oCell cs o v]].flatten H) (hD : va_D (va_A [] s.heap.size) [w, rw, [oCell cs o v]].flatten) (hS : va_S (va_A [] s.heap.size) s.heap H locs) (hl : lv_has ls 7 [(0, .ref b), (1, .ref x), (2, .ref mo), (3, .ref o), (4, .int i)]) (kk : ∀ (u : S) (v' : Nat → Int64) (H : Heap) (locs : List Loc) (ls : Array Slot), ok u → va_P D vwCl [w' u, rw1, [oCell cs o v']].flatten H → va_D (va_A [] s.heap.size) [w' u, rw1, [oCell cs o v']].flatten → va_S (va_A [] s.heap.size) s.heap H locs → lv_has ls 7 [(0, .ref b), (1, .ref x), (2, .ref mo), (3, .ref o), (4, .int i)] → W p l e room_1 s m av below meth c H locs (cells + mc1) (slots + ms1) Q (F0 m 2733 ls [])) : W p l e room_1 s m av below meth c H locs cells slots Q (F0 m 1892 ls []) := by
  obtain ⟨hx, hb, hr, hlk, hml, hown, hts, hK0, hG, hE⟩ := id C0
  refine lv_aload_n hx hb dL_law__1892 rfl (lv_at hl 1 rfl) ?_
  refine lv_aload_n hx hb dL_law__1893 rfl (lv_at hl 0 rfl) ?_
  refine lv_iload hx hb dL_law__1894 (lv_at hl 4 rfl) ?_
  refine lv_iconst (v := 1) hx hb dL_law__1896 (by decide) ?_
  refine lv_iadd hx hb dL_law__1897 ?_
  refine ow_scr C0 hX hbl hS h1 dL_law__1898 ?_
  refine lv_aload_n hx hb dL_law__1899 rfl (lv_at hl 0 rfl) ?_
  refine lv_iload hx hb dL_law__1900 (lv_at hl 4 rfl) ?_
  refine lv_iconst (v := 2) hx hb dL_law__1902 (by decide) ?_
  refine lv_iadd hx hb dL_law__1903 ?_
  refine ow_scr C0 hX hbl hS h2 dL_law__1904 ?_
  refine lv_aload_n hx hb dL_law__1905 rfl (lv_at hl 3 rfl) ?_
  refine ow_lW (As := [.ref x, .int (xs (i + 1).toNatClampNeg), .int (xs (i + 2).toNatClampNeg), .ref o]) (rest := []) (r := (if K = 2 then 1 else if K = 1 then 2 else 0 : Int32)) C0 hN hC (c_L_look l D cs H.size x o ((xs (i + 1).toNatClampNeg)) ((xs (i + 2).toNatClampNeg)) v w fs hw0 ok w' K r rmY mc1 ms1 hc hs hf hlo hK hM) (vx_cwSW 4 hts gLS_222 rfl rfl rfl (by decide +kernel) ⟨(Nat.le_of_ble_eq_true rfl), (Nat.le_of_ble_eq_true rfl)⟩) hP hD hS rfl hl.1 rfl (Nat.le_of_ble_eq_true rfl) hrm dL_law__1906 (fun u H locs hok hP hD hS => ?_)
  replace hP := sg_Pp pm_o hP
  replace hD := sg_Dp pm_o hD
  refine lv_istore (lv' := [(5, .int (if K = 2 then 1 else if K = 1 then 2 else 0 : Int32)), (0, .ref b), (1, .ref x), (2, .ref mo), (3, .ref o), (4, .int i)]) hx hb dL_law__1909 hl (by decide) rfl (fun ls hl => ?_)
  refine lv_aload_n hx hb dL_law__1911 rfl (lv_at hl 3 rfl) ?_
  refine lv_aload_n hx hb dL_law__1912 rfl (lv_at hl 1 rfl) ?_
  refine lv_iload hx hb dL_law__1913 (lv_at hl 5 rfl) ?_
  refine lv_iconst (v := 1) hx hb dL_law__1915 (by decide) ?_
  refine lv_iadd hx hb dL_law__1916 ?_
  refine ow_scr C0 hX hbl hS h1 dL_law__1917 ?_
  refine lv_aload_n hx hb dL_law__1918 rfl (lv_at hl 1 rfl) ?_
  refine lv_iload hx hb dL_law__1919 (lv_at hl 5 rfl) ?_
  refine lv_iconst (v := 2) hx hb dL_law__1921 (by decide) ?_
  refine lv_iadd hx hb dL_law__1922 ?_
  refine ow_scr C0 hX hbl hS h2 dL_law__1923 ?_
  refine ow_lR (As := [.int (xs (i + 1).toNatClampNeg), .int (xs (i + 2).toNatClampNeg)]) (rest := []) C0 (hR H.size) (cwV 2 hts gLV_224 rfl rfl rfl (by decide +kernel) ⟨(Nat.le_of_ble_eq_true rfl), (Nat.le_of_ble_eq_true rfl)⟩) 11 rfl hr0 hP hD hS rfl hl.1 rfl (Nat.le_of_ble_eq_true rfl) hrm dL_law__1924 (fun H locs hP hD hS => ?_)
  refine lv_istore (lv' := [(6, .int b1), (5, .int (if K = 2 then 1 else if K = 1 then 2 else 0 : Int32)), (0, .ref b), (1, .ref x), (2, .ref mo), (3, .ref o), (4, .int i)]) hx hb dL_law__1927 hl (by decide) rfl (fun ls hl => ?_)
  refine lv_aload_n hx hb dL_law__1929 rfl (lv_at hl 4 rfl) ?_
  refine ow_lR (As := []) (rest := []) C0 (hT H.size) (cwV 0 hts gLV_133 rfl rfl rfl (by decide +kernel) ⟨(Nat.le_of_ble_eq_true rfl), (Nat.le_of_ble_eq_true rfl)⟩) 11 rfl hr1 hP hD hS rfl hl.1 rfl (Nat.le_of_ble_eq_true rfl) hrm dL_law__1930 (fun H locs hP hD hS => ?_)
  refine lv_iload hx hb dL_law__1933 (lv_at hl 1 rfl) ?_
  refine lv_icmp_eq (tgt := 1940) hx hb dL_law__1935 (by decide) (fun hc => ?_) (fun hc => absurd hth hc)
  refine lv_iload hx hb dL_law__1940 (lv_at hl 1 rfl) ?_
  refine lv_if_ne (tgt := 1957) hx hb dL_law__1942 (by decide) (fun hc => ?_) (fun hc => ?_)
  · refine lv_goto (tgt := 2733) hx hb dL_law__1957 (by decide) ?_
    exact kk u _ H locs ls hok hP hD hS (lv_sub hl [2, 3, 4, 5, 6] rfl)
  · rcases hK with rfl | rfl | rfl
    · have hv0 := hv rfl
      subst hv0
      refine lv_aload_n hx hb dL_law__1945 rfl (lv_at hl 5 rfl) ?_
      refine lv_iconst (v := 0) hx hb dL_law__1946 (by decide) ?_
      refine va_lald hx hb hK0 hP _ 2 (out_at cs o _ _ _) rfl (vp_in_nI (n := 0) (by decide) (by decide)) dL_law__1947 ?_
      have ev : (if (0 : Nat) = 0 then vp_updL v (0 : Int32).toNatClampNeg r.toInt64 else v) (0 : Int32).toNatClampNeg = r.toInt64 := by simp [vp_updL]
      rw [ev]
      refine lv_iload hx hb dL_law__1948 (lv_at hl 0 rfl) ?_
      refine lv_i2l (v := r.toInt64) hx hb dL_law__1950 rfl ?_
      refine W.lcmp hx hb dL_law__1951 ?_
      rw [lg_eq]
      refine lv_if_eq (tgt := 1957) hx hb dL_law__1952 (by decide) (fun _ => ?_) (fun h => absurd rfl h)
      refine lv_goto (tgt := 2733) hx hb dL_law__1957 (by decide) ?_
      exact kk u _ H locs ls hok hP hD hS (lv_sub hl [2, 3, 4, 5, 6] rfl)
    · exact absurd hc (by decide)
    · exact absurd hc (by decide)
set_option maxHeartbeats 4000000 in
set_option maxRecDepth 100000 in
theorem lc_29 {p : Program} {l : Launch} {e : Env} {s : State} {m : MethodId} {av : Array Value} {below : List Frame} {meth : Method} {c : Code} {D : va_G} {cs : Nat → ClassId} {cells slots : Nat} {Q : State → Prop} (C0 : Cx p s m meth c av lw_tbl code 7 (some .boolean) RL D cs []) (hN : gN s) (hC : gC s) {b L : Nat} {xs : Nat → Int32} (hX : va_X b L xs s s.heap) (hbl : b < s.heap.size) {x mo o : Nat} (i : Int32) (h1 : vp_in (i + 1) L) (h2 : vp_in (i + 2) L) (h3 : vp_in (i + 3) L) (h4 : vp_in (i + 4) L) {S : Type} (w rw rw1 : va_W) (v : Nat → Int64) (fs fs2 fs3 : List Value) (hw0 : w[0]? = some (x, .inr (10, fs))) (hr0 : rw[0]? = some (mo, .inr (11, fs2))) (hr1 : rw1[0]? = some (mo, .inr (11, fs3))) (ok : S → Prop) (w' : S → va_W) (K : Nat) (r b1 th : Int32) (rmY : Room) (mc1 ms1 : Nat) (hc : rmY.cells = mc1) (hs : rmY.slots = ms1) (hf : rmY.frames ≤ 95) (hlo : rmY.locals ≤ 2300) (hrm : cells + mc1 ≤ room_1.cells ∧ slots + ms1 ≤ room_1.slots) (hK : K = 0 ∨ K = 2 ∨ K = 1) (hM : ∀ sz, XS l D cs yX10_cover wsX10_cover rmY [.ref x, .int (xs (i + 1).toNatClampNeg), .int (xs (i + 2).toNatClampNeg), .int (xs (i + 3).toNatClampNeg), .int (xs (i + 4).toNatClampNeg)] sz w ok w' K r mc1 ms1) (hT : ∀ sz, MI l D cs yX11_thrown wsX11_thrown rm_X11_thrown [.ref mo] sz rw1 rw1 th) (hth : th = (if K = 2 then 1 else if K = 1 then 2 else 0 : Int32)) (hv : K = 0 → r = b1) (hR : ∀ sz, MI l D cs yX11_cover wsX11_cover rm_X11_cover [.ref mo, .int (xs (i + 1).toNatClampNeg), .int (xs (i + 2).toNatClampNeg), .int (xs (i + 3).toNatClampNeg), .int (xs (i + 4).toNatClampNeg)] sz rw rw1 b1) (H : Heap) (locs : List Loc) (ls : Array Slot) (hP : va_P D vwCl [w, rw, [oCell cs o v]].flatten H) (hD : va_D (va_A [] s.heap.size) [w, rw, [oCell cs o v]].flatten) (hS : va_S (va_A [] s.heap.size) s.heap H locs) (hl : lv_has ls 7 [(0, .ref b), (1, .ref x), (2, .ref mo), (3, .ref o), (4, .int i)]) (kk : ∀ (u : S) (v' : Nat → Int64) (H : Heap) (locs : List Loc) (ls : Array Slot), ok u → va_P D vwCl [w' u, rw1, [oCell cs o v']].flatten H → va_D (va_A [] s.heap.size) [w' u, rw1, [oCell cs o v']].flatten → va_S (va_A [] s.heap.size) s.heap H locs → lv_has ls 7 [(0, .ref b), (1, .ref x), (2, .ref mo), (3, .ref o), (4, .int i)] → W p l e room_1 s m av below meth c H locs (cells + mc1) (slots + ms1) Q (F0 m 2733 ls [])) : W p l e room_1 s m av below meth c H locs cells slots Q (F0 m 1960 ls []) := by
  obtain ⟨hx, hb, hr, hlk, hml, hown, hts, hK0, hG, hE⟩ := id C0
  refine lv_aload_n hx hb dL_law__1960 rfl (lv_at hl 1 rfl) ?_
  refine lv_aload_n hx hb dL_law__1961 rfl (lv_at hl 0 rfl) ?_
  refine lv_iload hx hb dL_law__1962 (lv_at hl 4 rfl) ?_
  refine lv_iconst (v := 1) hx hb dL_law__1964 (by decide) ?_
  refine lv_iadd hx hb dL_law__1965 ?_
  refine ow_scr C0 hX hbl hS h1 dL_law__1966 ?_
  refine lv_aload_n hx hb dL_law__1967 rfl (lv_at hl 0 rfl) ?_
  refine lv_iload hx hb dL_law__1968 (lv_at hl 4 rfl) ?_
  refine lv_iconst (v := 2) hx hb dL_law__1970 (by decide) ?_
  refine lv_iadd hx hb dL_law__1971 ?_
  refine ow_scr C0 hX hbl hS h2 dL_law__1972 ?_
  refine lv_aload_n hx hb dL_law__1973 rfl (lv_at hl 0 rfl) ?_
  refine lv_iload hx hb dL_law__1974 (lv_at hl 4 rfl) ?_
  refine lv_iconst (v := 3) hx hb dL_law__1976 (by decide) ?_
  refine lv_iadd hx hb dL_law__1977 ?_
  refine ow_scr C0 hX hbl hS h3 dL_law__1978 ?_
  refine lv_aload_n hx hb dL_law__1979 rfl (lv_at hl 0 rfl) ?_
  refine lv_iload hx hb dL_law__1980 (lv_at hl 4 rfl) ?_
  refine lv_iconst (v := 4) hx hb dL_law__1982 (by decide) ?_
  refine lv_iadd hx hb dL_law__1983 ?_
  refine ow_scr C0 hX hbl hS h4 dL_law__1984 ?_
  refine lv_aload_n hx hb dL_law__1985 rfl (lv_at hl 3 rfl) ?_
  refine ow_lW (As := [.ref x, .int (xs (i + 1).toNatClampNeg), .int (xs (i + 2).toNatClampNeg), .int (xs (i + 3).toNatClampNeg), .int (xs (i + 4).toNatClampNeg), .ref o]) (rest := []) (r := (if K = 2 then 1 else if K = 1 then 2 else 0 : Int32)) C0 hN hC (c_L_cover l D cs H.size x o ((xs (i + 1).toNatClampNeg)) ((xs (i + 2).toNatClampNeg)) ((xs (i + 3).toNatClampNeg)) ((xs (i + 4).toNatClampNeg)) v w fs hw0 ok w' K r rmY mc1 ms1 hc hs hf hlo hK hM) (vx_cwSW 6 hts gLS_225 rfl rfl rfl (by decide +kernel) ⟨(Nat.le_of_ble_eq_true rfl), (Nat.le_of_ble_eq_true rfl)⟩) hP hD hS rfl hl.1 rfl (Nat.le_of_ble_eq_true rfl) hrm dL_law__1986 (fun u H locs hok hP hD hS => ?_)
  replace hP := sg_Pp pm_o hP
  replace hD := sg_Dp pm_o hD
  refine lv_istore (lv' := [(5, .int (if K = 2 then 1 else if K = 1 then 2 else 0 : Int32)), (0, .ref b), (1, .ref x), (2, .ref mo), (3, .ref o), (4, .int i)]) hx hb dL_law__1989 hl (by decide) rfl (fun ls hl => ?_)
  refine lv_aload_n hx hb dL_law__1991 rfl (lv_at hl 3 rfl) ?_
  refine lv_aload_n hx hb dL_law__1992 rfl (lv_at hl 1 rfl) ?_
  refine lv_iload hx hb dL_law__1993 (lv_at hl 5 rfl) ?_
  refine lv_iconst (v := 1) hx hb dL_law__1995 (by decide) ?_
  refine lv_iadd hx hb dL_law__1996 ?_
  refine ow_scr C0 hX hbl hS h1 dL_law__1997 ?_
  refine lv_aload_n hx hb dL_law__1998 rfl (lv_at hl 1 rfl) ?_
  refine lv_iload hx hb dL_law__1999 (lv_at hl 5 rfl) ?_
  refine lv_iconst (v := 2) hx hb dL_law__2001 (by decide) ?_
  refine lv_iadd hx hb dL_law__2002 ?_
  refine ow_scr C0 hX hbl hS h2 dL_law__2003 ?_
  refine lv_aload_n hx hb dL_law__2004 rfl (lv_at hl 1 rfl) ?_
  refine lv_iload hx hb dL_law__2005 (lv_at hl 5 rfl) ?_
  refine lv_iconst (v := 3) hx hb dL_law__2007 (by decide) ?_
  refine lv_iadd hx hb dL_law__2008 ?_
  refine ow_scr C0 hX hbl hS h3 dL_law__2009 ?_
  refine lv_aload_n hx hb dL_law__2010 rfl (lv_at hl 1 rfl) ?_
  refine lv_iload hx hb dL_law__2011 (lv_at hl 5 rfl) ?_
  refine lv_iconst (v := 4) hx hb dL_law__2013 (by decide) ?_
  refine lv_iadd hx hb dL_law__2014 ?_
  refine ow_scr C0 hX hbl hS h4 dL_law__2015 ?_
  refine ow_lR (As := [.int (xs (i + 1).toNatClampNeg), .int (xs (i + 2).toNatClampNeg), .int (xs (i + 3).toNatClampNeg), .int (xs (i + 4).toNatClampNeg)]) (rest := []) C0 (hR H.size) (cwV 4 hts gLV_227 rfl rfl rfl (by decide +kernel) ⟨(Nat.le_of_ble_eq_true rfl), (Nat.le_of_ble_eq_true rfl)⟩) 11 rfl hr0 hP hD hS rfl hl.1 rfl (Nat.le_of_ble_eq_true rfl) hrm dL_law__2016 (fun H locs hP hD hS => ?_)
  refine lv_istore (lv' := [(6, .int b1), (5, .int (if K = 2 then 1 else if K = 1 then 2 else 0 : Int32)), (0, .ref b), (1, .ref x), (2, .ref mo), (3, .ref o), (4, .int i)]) hx hb dL_law__2019 hl (by decide) rfl (fun ls hl => ?_)
  refine lv_aload_n hx hb dL_law__2021 rfl (lv_at hl 4 rfl) ?_
  refine ow_lR (As := []) (rest := []) C0 (hT H.size) (cwV 0 hts gLV_133 rfl rfl rfl (by decide +kernel) ⟨(Nat.le_of_ble_eq_true rfl), (Nat.le_of_ble_eq_true rfl)⟩) 11 rfl hr1 hP hD hS rfl hl.1 rfl (Nat.le_of_ble_eq_true rfl) hrm dL_law__2022 (fun H locs hP hD hS => ?_)
  refine lv_iload hx hb dL_law__2025 (lv_at hl 1 rfl) ?_
  refine lv_icmp_eq (tgt := 2032) hx hb dL_law__2027 (by decide) (fun hc => ?_) (fun hc => absurd hth hc)
  refine lv_iload hx hb dL_law__2032 (lv_at hl 1 rfl) ?_
  refine lv_if_ne (tgt := 2049) hx hb dL_law__2034 (by decide) (fun hc => ?_) (fun hc => ?_)
  · refine lv_goto (tgt := 2733) hx hb dL_law__2049 (by decide) ?_
    exact kk u _ H locs ls hok hP hD hS (lv_sub hl [2, 3, 4, 5, 6] rfl)
  · rcases hK with rfl | rfl | rfl
    · have hv0 := hv rfl
      subst hv0
      refine lv_aload_n hx hb dL_law__2037 rfl (lv_at hl 5 rfl) ?_
      refine lv_iconst (v := 0) hx hb dL_law__2038 (by decide) ?_
      refine va_lald hx hb hK0 hP _ 2 (out_at cs o _ _ _) rfl (vp_in_nI (n := 0) (by decide) (by decide)) dL_law__2039 ?_
      have ev : (if (0 : Nat) = 0 then vp_updL v (0 : Int32).toNatClampNeg r.toInt64 else v) (0 : Int32).toNatClampNeg = r.toInt64 := by simp [vp_updL]
      rw [ev]
      refine lv_iload hx hb dL_law__2040 (lv_at hl 0 rfl) ?_
      refine lv_i2l (v := r.toInt64) hx hb dL_law__2042 rfl ?_
      refine W.lcmp hx hb dL_law__2043 ?_
      rw [lg_eq]
      refine lv_if_eq (tgt := 2049) hx hb dL_law__2044 (by decide) (fun _ => ?_) (fun h => absurd rfl h)
      refine lv_goto (tgt := 2733) hx hb dL_law__2049 (by decide) ?_
      exact kk u _ H locs ls hok hP hD hS (lv_sub hl [2, 3, 4, 5, 6] rfl)
    · exact absurd hc (by decide)
    · exact absurd hc (by decide)
set_option maxHeartbeats 4000000 in
set_option maxRecDepth 100000 in
theorem lc_30 {p : Program} {l : Launch} {e : Env} {s : State} {m : MethodId} {av : Array Value} {below : List Frame} {meth : Method} {c : Code} {D : va_G} {cs : Nat → ClassId} {cells slots : Nat} {Q : State → Prop} (C0 : Cx p s m meth c av lw_tbl code 7 (some .boolean) RL D cs []) (hN : gN s) (hC : gC s) {b L : Nat} {xs : Nat → Int32} (hX : va_X b L xs s s.heap) (hbl : b < s.heap.size) {x mo o : Nat} (i : Int32) (h1 : vp_in (i + 1) L) (h2 : vp_in (i + 2) L) (h3 : vp_in (i + 3) L) {S : Type} (w rw rw1 : va_W) (v : Nat → Int64) (fs fs2 fs3 : List Value) (hw0 : w[0]? = some (x, .inr (10, fs))) (hr0 : rw[0]? = some (mo, .inr (11, fs2))) (hr1 : rw1[0]? = some (mo, .inr (11, fs3))) (ok : S → Prop) (w' : S → va_W) (K : Nat) (r b1 th : Int32) (rmY : Room) (mc1 ms1 : Nat) (hc : rmY.cells = mc1) (hs : rmY.slots = ms1) (hf : rmY.frames ≤ 95) (hlo : rmY.locals ≤ 2300) (hrm : cells + mc1 ≤ room_1.cells ∧ slots + ms1 ≤ room_1.slots) (hK : K = 0 ∨ K = 2 ∨ K = 1) (hM : ∀ sz, XS l D cs yX10_game wsX10_game rmY [.ref x, .int (xs (i + 1).toNatClampNeg), .int (xs (i + 2).toNatClampNeg), .int (xs (i + 3).toNatClampNeg)] sz w ok w' K r mc1 ms1) (hT : ∀ sz, MI l D cs yX11_thrown wsX11_thrown rm_X11_thrown [.ref mo] sz rw1 rw1 th) (hth : th = (if K = 2 then 1 else if K = 1 then 2 else 0 : Int32)) (hv : K = 0 → r = b1) (hR : ∀ sz, MI l D cs yX11_game wsX11_game rm_X11_game [.ref mo, .int (xs (i + 1).toNatClampNeg), .int (xs (i + 2).toNatClampNeg), .int (xs (i + 3).toNatClampNeg)] sz rw rw1 b1) (H : Heap) (locs : List Loc) (ls : Array Slot) (hP : va_P D vwCl [w, rw, [oCell cs o v]].flatten H) (hD : va_D (va_A [] s.heap.size) [w, rw, [oCell cs o v]].flatten) (hS : va_S (va_A [] s.heap.size) s.heap H locs) (hl : lv_has ls 7 [(0, .ref b), (1, .ref x), (2, .ref mo), (3, .ref o), (4, .int i)]) (kk : ∀ (u : S) (v' : Nat → Int64) (H : Heap) (locs : List Loc) (ls : Array Slot), ok u → va_P D vwCl [w' u, rw1, [oCell cs o v']].flatten H → va_D (va_A [] s.heap.size) [w' u, rw1, [oCell cs o v']].flatten → va_S (va_A [] s.heap.size) s.heap H locs → lv_has ls 7 [(0, .ref b), (1, .ref x), (2, .ref mo), (3, .ref o), (4, .int i)] → W p l e room_1 s m av below meth c H locs (cells + mc1) (slots + ms1) Q (F0 m 2733 ls [])) : W p l e room_1 s m av below meth c H locs cells slots Q (F0 m 2052 ls []) := by
  obtain ⟨hx, hb, hr, hlk, hml, hown, hts, hK0, hG, hE⟩ := id C0
  refine lv_aload_n hx hb dL_law__2052 rfl (lv_at hl 1 rfl) ?_
  refine lv_aload_n hx hb dL_law__2053 rfl (lv_at hl 0 rfl) ?_
  refine lv_iload hx hb dL_law__2054 (lv_at hl 4 rfl) ?_
  refine lv_iconst (v := 1) hx hb dL_law__2056 (by decide) ?_
  refine lv_iadd hx hb dL_law__2057 ?_
  refine ow_scr C0 hX hbl hS h1 dL_law__2058 ?_
  refine lv_aload_n hx hb dL_law__2059 rfl (lv_at hl 0 rfl) ?_
  refine lv_iload hx hb dL_law__2060 (lv_at hl 4 rfl) ?_
  refine lv_iconst (v := 2) hx hb dL_law__2062 (by decide) ?_
  refine lv_iadd hx hb dL_law__2063 ?_
  refine ow_scr C0 hX hbl hS h2 dL_law__2064 ?_
  refine lv_aload_n hx hb dL_law__2065 rfl (lv_at hl 0 rfl) ?_
  refine lv_iload hx hb dL_law__2066 (lv_at hl 4 rfl) ?_
  refine lv_iconst (v := 3) hx hb dL_law__2068 (by decide) ?_
  refine lv_iadd hx hb dL_law__2069 ?_
  refine ow_scr C0 hX hbl hS h3 dL_law__2070 ?_
  refine lv_aload_n hx hb dL_law__2071 rfl (lv_at hl 3 rfl) ?_
  refine ow_lW (As := [.ref x, .int (xs (i + 1).toNatClampNeg), .int (xs (i + 2).toNatClampNeg), .int (xs (i + 3).toNatClampNeg), .ref o]) (rest := []) (r := (if K = 2 then 1 else if K = 1 then 2 else 0 : Int32)) C0 hN hC (c_L_game l D cs H.size x o ((xs (i + 1).toNatClampNeg)) ((xs (i + 2).toNatClampNeg)) ((xs (i + 3).toNatClampNeg)) v w fs hw0 ok w' K r rmY mc1 ms1 hc hs hf hlo hK hM) (vx_cwSW 5 hts gLS_228 rfl rfl rfl (by decide +kernel) ⟨(Nat.le_of_ble_eq_true rfl), (Nat.le_of_ble_eq_true rfl)⟩) hP hD hS rfl hl.1 rfl (Nat.le_of_ble_eq_true rfl) hrm dL_law__2072 (fun u H locs hok hP hD hS => ?_)
  replace hP := sg_Pp pm_o hP
  replace hD := sg_Dp pm_o hD
  refine lv_istore (lv' := [(5, .int (if K = 2 then 1 else if K = 1 then 2 else 0 : Int32)), (0, .ref b), (1, .ref x), (2, .ref mo), (3, .ref o), (4, .int i)]) hx hb dL_law__2075 hl (by decide) rfl (fun ls hl => ?_)
  refine lv_aload_n hx hb dL_law__2077 rfl (lv_at hl 3 rfl) ?_
  refine lv_aload_n hx hb dL_law__2078 rfl (lv_at hl 1 rfl) ?_
  refine lv_iload hx hb dL_law__2079 (lv_at hl 5 rfl) ?_
  refine lv_iconst (v := 1) hx hb dL_law__2081 (by decide) ?_
  refine lv_iadd hx hb dL_law__2082 ?_
  refine ow_scr C0 hX hbl hS h1 dL_law__2083 ?_
  refine lv_aload_n hx hb dL_law__2084 rfl (lv_at hl 1 rfl) ?_
  refine lv_iload hx hb dL_law__2085 (lv_at hl 5 rfl) ?_
  refine lv_iconst (v := 2) hx hb dL_law__2087 (by decide) ?_
  refine lv_iadd hx hb dL_law__2088 ?_
  refine ow_scr C0 hX hbl hS h2 dL_law__2089 ?_
  refine lv_aload_n hx hb dL_law__2090 rfl (lv_at hl 1 rfl) ?_
  refine lv_iload hx hb dL_law__2091 (lv_at hl 5 rfl) ?_
  refine lv_iconst (v := 3) hx hb dL_law__2093 (by decide) ?_
  refine lv_iadd hx hb dL_law__2094 ?_
  refine ow_scr C0 hX hbl hS h3 dL_law__2095 ?_
  refine ow_lR (As := [.int (xs (i + 1).toNatClampNeg), .int (xs (i + 2).toNatClampNeg), .int (xs (i + 3).toNatClampNeg)]) (rest := []) C0 (hR H.size) (cwV 3 hts gLV_230 rfl rfl rfl (by decide +kernel) ⟨(Nat.le_of_ble_eq_true rfl), (Nat.le_of_ble_eq_true rfl)⟩) 11 rfl hr0 hP hD hS rfl hl.1 rfl (Nat.le_of_ble_eq_true rfl) hrm dL_law__2096 (fun H locs hP hD hS => ?_)
  refine lv_istore (lv' := [(6, .int b1), (5, .int (if K = 2 then 1 else if K = 1 then 2 else 0 : Int32)), (0, .ref b), (1, .ref x), (2, .ref mo), (3, .ref o), (4, .int i)]) hx hb dL_law__2099 hl (by decide) rfl (fun ls hl => ?_)
  refine lv_aload_n hx hb dL_law__2101 rfl (lv_at hl 4 rfl) ?_
  refine ow_lR (As := []) (rest := []) C0 (hT H.size) (cwV 0 hts gLV_133 rfl rfl rfl (by decide +kernel) ⟨(Nat.le_of_ble_eq_true rfl), (Nat.le_of_ble_eq_true rfl)⟩) 11 rfl hr1 hP hD hS rfl hl.1 rfl (Nat.le_of_ble_eq_true rfl) hrm dL_law__2102 (fun H locs hP hD hS => ?_)
  refine lv_iload hx hb dL_law__2105 (lv_at hl 1 rfl) ?_
  refine lv_icmp_eq (tgt := 2112) hx hb dL_law__2107 (by decide) (fun hc => ?_) (fun hc => absurd hth hc)
  refine lv_iload hx hb dL_law__2112 (lv_at hl 1 rfl) ?_
  refine lv_if_ne (tgt := 2129) hx hb dL_law__2114 (by decide) (fun hc => ?_) (fun hc => ?_)
  · refine lv_goto (tgt := 2733) hx hb dL_law__2129 (by decide) ?_
    exact kk u _ H locs ls hok hP hD hS (lv_sub hl [2, 3, 4, 5, 6] rfl)
  · rcases hK with rfl | rfl | rfl
    · have hv0 := hv rfl
      subst hv0
      refine lv_aload_n hx hb dL_law__2117 rfl (lv_at hl 5 rfl) ?_
      refine lv_iconst (v := 0) hx hb dL_law__2118 (by decide) ?_
      refine va_lald hx hb hK0 hP _ 2 (out_at cs o _ _ _) rfl (vp_in_nI (n := 0) (by decide) (by decide)) dL_law__2119 ?_
      have ev : (if (0 : Nat) = 0 then vp_updL v (0 : Int32).toNatClampNeg r.toInt64 else v) (0 : Int32).toNatClampNeg = r.toInt64 := by simp [vp_updL]
      rw [ev]
      refine lv_iload hx hb dL_law__2120 (lv_at hl 0 rfl) ?_
      refine lv_i2l (v := r.toInt64) hx hb dL_law__2122 rfl ?_
      refine W.lcmp hx hb dL_law__2123 ?_
      rw [lg_eq]
      refine lv_if_eq (tgt := 2129) hx hb dL_law__2124 (by decide) (fun _ => ?_) (fun h => absurd rfl h)
      refine lv_goto (tgt := 2733) hx hb dL_law__2129 (by decide) ?_
      exact kk u _ H locs ls hok hP hD hS (lv_sub hl [2, 3, 4, 5, 6] rfl)
    · exact absurd hc (by decide)
    · exact absurd hc (by decide)
set_option maxHeartbeats 4000000 in
set_option maxRecDepth 100000 in
theorem lc_31 {p : Program} {l : Launch} {e : Env} {s : State} {m : MethodId} {av : Array Value} {below : List Frame} {meth : Method} {c : Code} {D : va_G} {cs : Nat → ClassId} {cells slots : Nat} {Q : State → Prop} (C0 : Cx p s m meth c av lw_tbl code 7 (some .boolean) RL D cs []) (hN : gN s) (hC : gC s) {b L : Nat} {xs : Nat → Int32} (hX : va_X b L xs s s.heap) (hbl : b < s.heap.size) {x mo o : Nat} (i : Int32) (h1 : vp_in (i + 1) L) (h2 : vp_in (i + 2) L) {S : Type} (w rw rw1 : va_W) (v : Nat → Int64) (fs fs2 fs3 : List Value) (hw0 : w[0]? = some (x, .inr (10, fs))) (hr0 : rw[0]? = some (mo, .inr (11, fs2))) (hr1 : rw1[0]? = some (mo, .inr (11, fs3))) (ok : S → Prop) (w' : S → va_W) (K : Nat) (r b1 th : Int32) (rmY : Room) (mc1 ms1 : Nat) (hc : rmY.cells = mc1) (hs : rmY.slots = ms1) (hf : rmY.frames ≤ 95) (hlo : rmY.locals ≤ 2300) (hrm : cells + mc1 ≤ room_1.cells ∧ slots + ms1 ≤ room_1.slots) (hK : K = 0 ∨ K = 1) (hM : ∀ sz, XS l D cs yX10_round wsX10_round rmY [.ref x, .int (xs (i + 1).toNatClampNeg), .int (xs (i + 2).toNatClampNeg)] sz w ok w' K r mc1 ms1) (hT : ∀ sz, MI l D cs yX11_thrown wsX11_thrown rm_X11_thrown [.ref mo] sz rw1 rw1 th) (hth : th = (if K = 1 then 1 else 0 : Int32)) (hv : K = 0 → r = b1) (hR : ∀ sz, MI l D cs yX11_round wsX11_round rm_X11_round [.ref mo, .int (xs (i + 1).toNatClampNeg), .int (xs (i + 2).toNatClampNeg)] sz rw rw1 b1) (H : Heap) (locs : List Loc) (ls : Array Slot) (hP : va_P D vwCl [w, rw, [oCell cs o v]].flatten H) (hD : va_D (va_A [] s.heap.size) [w, rw, [oCell cs o v]].flatten) (hS : va_S (va_A [] s.heap.size) s.heap H locs) (hl : lv_has ls 7 [(0, .ref b), (1, .ref x), (2, .ref mo), (3, .ref o), (4, .int i)]) (kk : ∀ (u : S) (v' : Nat → Int64) (H : Heap) (locs : List Loc) (ls : Array Slot), ok u → va_P D vwCl [w' u, rw1, [oCell cs o v']].flatten H → va_D (va_A [] s.heap.size) [w' u, rw1, [oCell cs o v']].flatten → va_S (va_A [] s.heap.size) s.heap H locs → lv_has ls 7 [(0, .ref b), (1, .ref x), (2, .ref mo), (3, .ref o), (4, .int i)] → W p l e room_1 s m av below meth c H locs (cells + mc1) (slots + ms1) Q (F0 m 2733 ls [])) : W p l e room_1 s m av below meth c H locs cells slots Q (F0 m 2132 ls []) := by
  obtain ⟨hx, hb, hr, hlk, hml, hown, hts, hK0, hG, hE⟩ := id C0
  refine lv_aload_n hx hb dL_law__2132 rfl (lv_at hl 1 rfl) ?_
  refine lv_aload_n hx hb dL_law__2133 rfl (lv_at hl 0 rfl) ?_
  refine lv_iload hx hb dL_law__2134 (lv_at hl 4 rfl) ?_
  refine lv_iconst (v := 1) hx hb dL_law__2136 (by decide) ?_
  refine lv_iadd hx hb dL_law__2137 ?_
  refine ow_scr C0 hX hbl hS h1 dL_law__2138 ?_
  refine lv_aload_n hx hb dL_law__2139 rfl (lv_at hl 0 rfl) ?_
  refine lv_iload hx hb dL_law__2140 (lv_at hl 4 rfl) ?_
  refine lv_iconst (v := 2) hx hb dL_law__2142 (by decide) ?_
  refine lv_iadd hx hb dL_law__2143 ?_
  refine ow_scr C0 hX hbl hS h2 dL_law__2144 ?_
  refine lv_aload_n hx hb dL_law__2145 rfl (lv_at hl 3 rfl) ?_
  refine ow_lW (As := [.ref x, .int (xs (i + 1).toNatClampNeg), .int (xs (i + 2).toNatClampNeg), .ref o]) (rest := []) (r := (if K = 1 then 1 else 0 : Int32)) C0 hN hC (c_L_round l D cs H.size x o ((xs (i + 1).toNatClampNeg)) ((xs (i + 2).toNatClampNeg)) v w fs hw0 ok w' K r rmY mc1 ms1 hc hs hf hlo hK hM) (vx_cwSW 4 hts gLS_231 rfl rfl rfl (by decide +kernel) ⟨(Nat.le_of_ble_eq_true rfl), (Nat.le_of_ble_eq_true rfl)⟩) hP hD hS rfl hl.1 rfl (Nat.le_of_ble_eq_true rfl) hrm dL_law__2146 (fun u H locs hok hP hD hS => ?_)
  replace hP := sg_Pp pm_o hP
  replace hD := sg_Dp pm_o hD
  refine lv_istore (lv' := [(5, .int (if K = 1 then 1 else 0 : Int32)), (0, .ref b), (1, .ref x), (2, .ref mo), (3, .ref o), (4, .int i)]) hx hb dL_law__2149 hl (by decide) rfl (fun ls hl => ?_)
  refine lv_aload_n hx hb dL_law__2151 rfl (lv_at hl 3 rfl) ?_
  refine lv_aload_n hx hb dL_law__2152 rfl (lv_at hl 1 rfl) ?_
  refine lv_iload hx hb dL_law__2153 (lv_at hl 5 rfl) ?_
  refine lv_iconst (v := 1) hx hb dL_law__2155 (by decide) ?_
  refine lv_iadd hx hb dL_law__2156 ?_
  refine ow_scr C0 hX hbl hS h1 dL_law__2157 ?_
  refine lv_aload_n hx hb dL_law__2158 rfl (lv_at hl 1 rfl) ?_
  refine lv_iload hx hb dL_law__2159 (lv_at hl 5 rfl) ?_
  refine lv_iconst (v := 2) hx hb dL_law__2161 (by decide) ?_
  refine lv_iadd hx hb dL_law__2162 ?_
  refine ow_scr C0 hX hbl hS h2 dL_law__2163 ?_
  refine ow_lR (As := [.int (xs (i + 1).toNatClampNeg), .int (xs (i + 2).toNatClampNeg)]) (rest := []) C0 (hR H.size) (cwV 2 hts gLV_233 rfl rfl rfl (by decide +kernel) ⟨(Nat.le_of_ble_eq_true rfl), (Nat.le_of_ble_eq_true rfl)⟩) 11 rfl hr0 hP hD hS rfl hl.1 rfl (Nat.le_of_ble_eq_true rfl) hrm dL_law__2164 (fun H locs hP hD hS => ?_)
  refine lv_istore (lv' := [(6, .int b1), (5, .int (if K = 1 then 1 else 0 : Int32)), (0, .ref b), (1, .ref x), (2, .ref mo), (3, .ref o), (4, .int i)]) hx hb dL_law__2167 hl (by decide) rfl (fun ls hl => ?_)
  refine lv_aload_n hx hb dL_law__2169 rfl (lv_at hl 4 rfl) ?_
  refine ow_lR (As := []) (rest := []) C0 (hT H.size) (cwV 0 hts gLV_133 rfl rfl rfl (by decide +kernel) ⟨(Nat.le_of_ble_eq_true rfl), (Nat.le_of_ble_eq_true rfl)⟩) 11 rfl hr1 hP hD hS rfl hl.1 rfl (Nat.le_of_ble_eq_true rfl) hrm dL_law__2170 (fun H locs hP hD hS => ?_)
  refine lv_iload hx hb dL_law__2173 (lv_at hl 1 rfl) ?_
  refine lv_icmp_eq (tgt := 2180) hx hb dL_law__2175 (by decide) (fun hc => ?_) (fun hc => absurd hth hc)
  refine lv_iload hx hb dL_law__2180 (lv_at hl 1 rfl) ?_
  refine lv_if_ne (tgt := 2197) hx hb dL_law__2182 (by decide) (fun hc => ?_) (fun hc => ?_)
  · refine lv_goto (tgt := 2733) hx hb dL_law__2197 (by decide) ?_
    exact kk u _ H locs ls hok hP hD hS (lv_sub hl [2, 3, 4, 5, 6] rfl)
  · rcases hK with rfl | rfl
    · have hv0 := hv rfl
      subst hv0
      refine lv_aload_n hx hb dL_law__2185 rfl (lv_at hl 5 rfl) ?_
      refine lv_iconst (v := 0) hx hb dL_law__2186 (by decide) ?_
      refine va_lald hx hb hK0 hP _ 2 (out_at cs o _ _ _) rfl (vp_in_nI (n := 0) (by decide) (by decide)) dL_law__2187 ?_
      have ev : (if (0 : Nat) = 0 then vp_updL v (0 : Int32).toNatClampNeg r.toInt64 else v) (0 : Int32).toNatClampNeg = r.toInt64 := by simp [vp_updL]
      rw [ev]
      refine lv_iload hx hb dL_law__2188 (lv_at hl 0 rfl) ?_
      refine lv_i2l (v := r.toInt64) hx hb dL_law__2190 rfl ?_
      refine W.lcmp hx hb dL_law__2191 ?_
      rw [lg_eq]
      refine lv_if_eq (tgt := 2197) hx hb dL_law__2192 (by decide) (fun _ => ?_) (fun h => absurd rfl h)
      refine lv_goto (tgt := 2733) hx hb dL_law__2197 (by decide) ?_
      exact kk u _ H locs ls hok hP hD hS (lv_sub hl [2, 3, 4, 5, 6] rfl)
    · exact absurd hc (by decide)
set_option maxHeartbeats 4000000 in
set_option maxRecDepth 100000 in
theorem lc_32 {p : Program} {l : Launch} {e : Env} {s : State} {m : MethodId} {av : Array Value} {below : List Frame} {meth : Method} {c : Code} {D : va_G} {cs : Nat → ClassId} {cells slots : Nat} {Q : State → Prop} (C0 : Cx p s m meth c av lw_tbl code 7 (some .boolean) RL D cs []) (hN : gN s) (hC : gC s) {b L : Nat} {xs : Nat → Int32} (hX : va_X b L xs s s.heap) (hbl : b < s.heap.size) {x mo o : Nat} (i : Int32) (h1 : vp_in (i + 1) L) (h2 : vp_in (i + 2) L) {S : Type} (w rw rw1 : va_W) (v : Nat → Int64) (fs fs2 fs3 : List Value) (hw0 : w[0]? = some (x, .inr (10, fs))) (hr0 : rw[0]? = some (mo, .inr (11, fs2))) (hr1 : rw1[0]? = some (mo, .inr (11, fs3))) (ok : S → Prop) (w' : S → va_W) (K : Nat) (r b1 th : Int32) (rmY : Room) (mc1 ms1 : Nat) (hc : rmY.cells = mc1) (hs : rmY.slots = ms1) (hf : rmY.frames ≤ 95) (hlo : rmY.locals ≤ 2300) (hrm : cells + mc1 ≤ room_1.cells ∧ slots + ms1 ≤ room_1.slots) (hK : K = 0 ∨ K = 1) (hM : ∀ sz, XS l D cs yX10_by wsX10_by rmY [.ref x, .int (xs (i + 1).toNatClampNeg), .int (xs (i + 2).toNatClampNeg)] sz w ok w' K r mc1 ms1) (hT : ∀ sz, MI l D cs yX11_thrown wsX11_thrown rm_X11_thrown [.ref mo] sz rw1 rw1 th) (hth : th = (if K = 1 then 1 else 0 : Int32)) (hv : K = 0 → r = b1) (hR : ∀ sz, MI l D cs yX11_by wsX11_by rm_X11_by [.ref mo, .int (xs (i + 1).toNatClampNeg), .int (xs (i + 2).toNatClampNeg)] sz rw rw1 b1) (H : Heap) (locs : List Loc) (ls : Array Slot) (hP : va_P D vwCl [w, rw, [oCell cs o v]].flatten H) (hD : va_D (va_A [] s.heap.size) [w, rw, [oCell cs o v]].flatten) (hS : va_S (va_A [] s.heap.size) s.heap H locs) (hl : lv_has ls 7 [(0, .ref b), (1, .ref x), (2, .ref mo), (3, .ref o), (4, .int i)]) (kk : ∀ (u : S) (v' : Nat → Int64) (H : Heap) (locs : List Loc) (ls : Array Slot), ok u → va_P D vwCl [w' u, rw1, [oCell cs o v']].flatten H → va_D (va_A [] s.heap.size) [w' u, rw1, [oCell cs o v']].flatten → va_S (va_A [] s.heap.size) s.heap H locs → lv_has ls 7 [(0, .ref b), (1, .ref x), (2, .ref mo), (3, .ref o), (4, .int i)] → W p l e room_1 s m av below meth c H locs (cells + mc1) (slots + ms1) Q (F0 m 2733 ls [])) : W p l e room_1 s m av below meth c H locs cells slots Q (F0 m 2200 ls []) := by
  obtain ⟨hx, hb, hr, hlk, hml, hown, hts, hK0, hG, hE⟩ := id C0
  refine lv_aload_n hx hb dL_law__2200 rfl (lv_at hl 1 rfl) ?_
  refine lv_aload_n hx hb dL_law__2201 rfl (lv_at hl 0 rfl) ?_
  refine lv_iload hx hb dL_law__2202 (lv_at hl 4 rfl) ?_
  refine lv_iconst (v := 1) hx hb dL_law__2204 (by decide) ?_
  refine lv_iadd hx hb dL_law__2205 ?_
  refine ow_scr C0 hX hbl hS h1 dL_law__2206 ?_
  refine lv_aload_n hx hb dL_law__2207 rfl (lv_at hl 0 rfl) ?_
  refine lv_iload hx hb dL_law__2208 (lv_at hl 4 rfl) ?_
  refine lv_iconst (v := 2) hx hb dL_law__2210 (by decide) ?_
  refine lv_iadd hx hb dL_law__2211 ?_
  refine ow_scr C0 hX hbl hS h2 dL_law__2212 ?_
  refine lv_aload_n hx hb dL_law__2213 rfl (lv_at hl 3 rfl) ?_
  refine ow_lW (As := [.ref x, .int (xs (i + 1).toNatClampNeg), .int (xs (i + 2).toNatClampNeg), .ref o]) (rest := []) (r := (if K = 1 then 1 else 0 : Int32)) C0 hN hC (c_L_by l D cs H.size x o ((xs (i + 1).toNatClampNeg)) ((xs (i + 2).toNatClampNeg)) v w fs hw0 ok w' K r rmY mc1 ms1 hc hs hf hlo hK hM) (vx_cwSW 4 hts gLS_234 rfl rfl rfl (by decide +kernel) ⟨(Nat.le_of_ble_eq_true rfl), (Nat.le_of_ble_eq_true rfl)⟩) hP hD hS rfl hl.1 rfl (Nat.le_of_ble_eq_true rfl) hrm dL_law__2214 (fun u H locs hok hP hD hS => ?_)
  replace hP := sg_Pp pm_o hP
  replace hD := sg_Dp pm_o hD
  refine lv_istore (lv' := [(5, .int (if K = 1 then 1 else 0 : Int32)), (0, .ref b), (1, .ref x), (2, .ref mo), (3, .ref o), (4, .int i)]) hx hb dL_law__2217 hl (by decide) rfl (fun ls hl => ?_)
  refine lv_aload_n hx hb dL_law__2219 rfl (lv_at hl 3 rfl) ?_
  refine lv_aload_n hx hb dL_law__2220 rfl (lv_at hl 1 rfl) ?_
  refine lv_iload hx hb dL_law__2221 (lv_at hl 5 rfl) ?_
  refine lv_iconst (v := 1) hx hb dL_law__2223 (by decide) ?_
  refine lv_iadd hx hb dL_law__2224 ?_
  refine ow_scr C0 hX hbl hS h1 dL_law__2225 ?_
  refine lv_aload_n hx hb dL_law__2226 rfl (lv_at hl 1 rfl) ?_
  refine lv_iload hx hb dL_law__2227 (lv_at hl 5 rfl) ?_
  refine lv_iconst (v := 2) hx hb dL_law__2229 (by decide) ?_
  refine lv_iadd hx hb dL_law__2230 ?_
  refine ow_scr C0 hX hbl hS h2 dL_law__2231 ?_
  refine ow_lR (As := [.int (xs (i + 1).toNatClampNeg), .int (xs (i + 2).toNatClampNeg)]) (rest := []) C0 (hR H.size) (cwV 2 hts gLV_236 rfl rfl rfl (by decide +kernel) ⟨(Nat.le_of_ble_eq_true rfl), (Nat.le_of_ble_eq_true rfl)⟩) 11 rfl hr0 hP hD hS rfl hl.1 rfl (Nat.le_of_ble_eq_true rfl) hrm dL_law__2232 (fun H locs hP hD hS => ?_)
  refine lv_istore (lv' := [(6, .int b1), (5, .int (if K = 1 then 1 else 0 : Int32)), (0, .ref b), (1, .ref x), (2, .ref mo), (3, .ref o), (4, .int i)]) hx hb dL_law__2235 hl (by decide) rfl (fun ls hl => ?_)
  refine lv_aload_n hx hb dL_law__2237 rfl (lv_at hl 4 rfl) ?_
  refine ow_lR (As := []) (rest := []) C0 (hT H.size) (cwV 0 hts gLV_133 rfl rfl rfl (by decide +kernel) ⟨(Nat.le_of_ble_eq_true rfl), (Nat.le_of_ble_eq_true rfl)⟩) 11 rfl hr1 hP hD hS rfl hl.1 rfl (Nat.le_of_ble_eq_true rfl) hrm dL_law__2238 (fun H locs hP hD hS => ?_)
  refine lv_iload hx hb dL_law__2241 (lv_at hl 1 rfl) ?_
  refine lv_icmp_eq (tgt := 2248) hx hb dL_law__2243 (by decide) (fun hc => ?_) (fun hc => absurd hth hc)
  refine lv_iload hx hb dL_law__2248 (lv_at hl 1 rfl) ?_
  refine lv_if_ne (tgt := 2272) hx hb dL_law__2250 (by decide) (fun hc => ?_) (fun hc => ?_)
  · refine lv_goto (tgt := 2733) hx hb dL_law__2272 (by decide) ?_
    exact kk u _ H locs ls hok hP hD hS (lv_sub hl [2, 3, 4, 5, 6] rfl)
  · rcases hK with rfl | rfl
    · have hv0 := hv rfl
      subst hv0
      refine lv_aload_n hx hb dL_law__2253 rfl (lv_at hl 5 rfl) ?_
      refine lv_iconst (v := 0) hx hb dL_law__2254 (by decide) ?_
      refine va_lald hx hb hK0 hP _ 2 (out_at cs o _ _ _) rfl (vp_in_nI (n := 0) (by decide) (by decide)) dL_law__2255 ?_
      have ev : (if (0 : Nat) = 0 then vp_updL v (0 : Int32).toNatClampNeg (if r = 0 then (0 : Int64) else 1) else v) (0 : Int32).toNatClampNeg = (if r = 0 then (0 : Int64) else 1) := by simp [vp_updL]
      rw [ev]
      refine lv_iload hx hb dL_law__2256 (lv_at hl 0 rfl) ?_
      refine lv_if_eq (tgt := 2265) hx hb dL_law__2258 (by decide) (fun hz => ?_) (fun hz => ?_)
      · rw [if_pos hz]
        refine lv_lconst (v := 0) hx hb dL_law__2265 rfl ?_
        refine W.lcmp hx hb dL_law__2266 ?_
        rw [lg_eq]
        refine lv_if_eq (tgt := 2272) hx hb dL_law__2267 (by decide) (fun _ => ?_) (fun h => absurd rfl h)
        refine lv_goto (tgt := 2733) hx hb dL_law__2272 (by decide) ?_
        exact kk u _ H locs ls hok hP hD hS (lv_sub hl [2, 3, 4, 5, 6] rfl)
      · rw [if_neg hz]
        refine lv_lconst (v := 1) hx hb dL_law__2261 rfl ?_
        refine lv_goto (tgt := 2266) hx hb dL_law__2262 (by decide) ?_
        refine W.lcmp hx hb dL_law__2266 ?_
        rw [lg_eq]
        refine lv_if_eq (tgt := 2272) hx hb dL_law__2267 (by decide) (fun _ => ?_) (fun h => absurd rfl h)
        refine lv_goto (tgt := 2733) hx hb dL_law__2272 (by decide) ?_
        exact kk u _ H locs ls hok hP hD hS (lv_sub hl [2, 3, 4, 5, 6] rfl)
    · exact absurd hc (by decide)
set_option maxHeartbeats 4000000 in
set_option maxRecDepth 100000 in
theorem lc_33 {p : Program} {l : Launch} {e : Env} {s : State} {m : MethodId} {av : Array Value} {below : List Frame} {meth : Method} {c : Code} {D : va_G} {cs : Nat → ClassId} {cells slots : Nat} {Q : State → Prop} (C0 : Cx p s m meth c av lw_tbl code 7 (some .boolean) RL D cs []) (hN : gN s) (hC : gC s) {b L : Nat} {xs : Nat → Int32} (hX : va_X b L xs s s.heap) (hbl : b < s.heap.size) {x mo o : Nat} (i : Int32) (h1 : vp_in (i + 1) L) (h2 : vp_in (i + 2) L) (h3 : vp_in (i + 3) L) (h4 : vp_in (i + 4) L) {S : Type} (w rw rw1 : va_W) (v : Nat → Int64) (fs fs2 fs3 : List Value) (hw0 : w[0]? = some (x, .inr (10, fs))) (hr0 : rw[0]? = some (mo, .inr (11, fs2))) (hr1 : rw1[0]? = some (mo, .inr (11, fs3))) (ok : S → Prop) (w' : S → va_W) (K : Nat) (r b1 th : Int32) (rmY : Room) (mc1 ms1 : Nat) (hc : rmY.cells = mc1) (hs : rmY.slots = ms1) (hf : rmY.frames ≤ 95) (hlo : rmY.locals ≤ 2300) (hrm : cells + mc1 ≤ room_1.cells ∧ slots + ms1 ≤ room_1.slots) (hK : K = 0 ∨ K = 3 ∨ K = 2 ∨ K = 1) (hM : ∀ sz, XS l D cs yX10_share wsX10_share rmY [.ref x, .int (xs (i + 1).toNatClampNeg), .int (xs (i + 2).toNatClampNeg), .int (xs (i + 3).toNatClampNeg), .int (xs (i + 4).toNatClampNeg)] sz w ok w' K r mc1 ms1) (hT : ∀ sz, MI l D cs yX11_thrown wsX11_thrown rm_X11_thrown [.ref mo] sz rw1 rw1 th) (hth : th = (if K = 3 then 1 else if K = 2 then 2 else if K = 1 then 3 else 0 : Int32)) (hv : K = 0 → r = b1) (hR : ∀ sz, MI l D cs yX11_share wsX11_share rm_X11_share [.ref mo, .int (xs (i + 1).toNatClampNeg), .int (xs (i + 2).toNatClampNeg), .int (xs (i + 3).toNatClampNeg), .int (xs (i + 4).toNatClampNeg)] sz rw rw1 b1) (H : Heap) (locs : List Loc) (ls : Array Slot) (hP : va_P D vwCl [w, rw, [oCell cs o v]].flatten H) (hD : va_D (va_A [] s.heap.size) [w, rw, [oCell cs o v]].flatten) (hS : va_S (va_A [] s.heap.size) s.heap H locs) (hl : lv_has ls 7 [(0, .ref b), (1, .ref x), (2, .ref mo), (3, .ref o), (4, .int i)]) (kk : ∀ (u : S) (v' : Nat → Int64) (H : Heap) (locs : List Loc) (ls : Array Slot), ok u → va_P D vwCl [w' u, rw1, [oCell cs o v']].flatten H → va_D (va_A [] s.heap.size) [w' u, rw1, [oCell cs o v']].flatten → va_S (va_A [] s.heap.size) s.heap H locs → lv_has ls 7 [(0, .ref b), (1, .ref x), (2, .ref mo), (3, .ref o), (4, .int i)] → W p l e room_1 s m av below meth c H locs (cells + mc1) (slots + ms1) Q (F0 m 2733 ls [])) : W p l e room_1 s m av below meth c H locs cells slots Q (F0 m 2275 ls []) := by
  obtain ⟨hx, hb, hr, hlk, hml, hown, hts, hK0, hG, hE⟩ := id C0
  refine lv_aload_n hx hb dL_law__2275 rfl (lv_at hl 1 rfl) ?_
  refine lv_aload_n hx hb dL_law__2276 rfl (lv_at hl 0 rfl) ?_
  refine lv_iload hx hb dL_law__2277 (lv_at hl 4 rfl) ?_
  refine lv_iconst (v := 1) hx hb dL_law__2279 (by decide) ?_
  refine lv_iadd hx hb dL_law__2280 ?_
  refine ow_scr C0 hX hbl hS h1 dL_law__2281 ?_
  refine lv_aload_n hx hb dL_law__2282 rfl (lv_at hl 0 rfl) ?_
  refine lv_iload hx hb dL_law__2283 (lv_at hl 4 rfl) ?_
  refine lv_iconst (v := 2) hx hb dL_law__2285 (by decide) ?_
  refine lv_iadd hx hb dL_law__2286 ?_
  refine ow_scr C0 hX hbl hS h2 dL_law__2287 ?_
  refine lv_aload_n hx hb dL_law__2288 rfl (lv_at hl 0 rfl) ?_
  refine lv_iload hx hb dL_law__2289 (lv_at hl 4 rfl) ?_
  refine lv_iconst (v := 3) hx hb dL_law__2291 (by decide) ?_
  refine lv_iadd hx hb dL_law__2292 ?_
  refine ow_scr C0 hX hbl hS h3 dL_law__2293 ?_
  refine lv_aload_n hx hb dL_law__2294 rfl (lv_at hl 0 rfl) ?_
  refine lv_iload hx hb dL_law__2295 (lv_at hl 4 rfl) ?_
  refine lv_iconst (v := 4) hx hb dL_law__2297 (by decide) ?_
  refine lv_iadd hx hb dL_law__2298 ?_
  refine ow_scr C0 hX hbl hS h4 dL_law__2299 ?_
  refine lv_aload_n hx hb dL_law__2300 rfl (lv_at hl 3 rfl) ?_
  refine ow_lW (As := [.ref x, .int (xs (i + 1).toNatClampNeg), .int (xs (i + 2).toNatClampNeg), .int (xs (i + 3).toNatClampNeg), .int (xs (i + 4).toNatClampNeg), .ref o]) (rest := []) (r := (if K = 3 then 1 else if K = 2 then 2 else if K = 1 then 3 else 0 : Int32)) C0 hN hC (c_L_share l D cs H.size x o ((xs (i + 1).toNatClampNeg)) ((xs (i + 2).toNatClampNeg)) ((xs (i + 3).toNatClampNeg)) ((xs (i + 4).toNatClampNeg)) v w fs hw0 ok w' K r rmY mc1 ms1 hc hs hf hlo hK hM) (vx_cwSW 6 hts gLS_237 rfl rfl rfl (by decide +kernel) ⟨(Nat.le_of_ble_eq_true rfl), (Nat.le_of_ble_eq_true rfl)⟩) hP hD hS rfl hl.1 rfl (Nat.le_of_ble_eq_true rfl) hrm dL_law__2301 (fun u H locs hok hP hD hS => ?_)
  replace hP := sg_Pp pm_o hP
  replace hD := sg_Dp pm_o hD
  refine lv_istore (lv' := [(5, .int (if K = 3 then 1 else if K = 2 then 2 else if K = 1 then 3 else 0 : Int32)), (0, .ref b), (1, .ref x), (2, .ref mo), (3, .ref o), (4, .int i)]) hx hb dL_law__2304 hl (by decide) rfl (fun ls hl => ?_)
  refine lv_aload_n hx hb dL_law__2306 rfl (lv_at hl 3 rfl) ?_
  refine lv_aload_n hx hb dL_law__2307 rfl (lv_at hl 1 rfl) ?_
  refine lv_iload hx hb dL_law__2308 (lv_at hl 5 rfl) ?_
  refine lv_iconst (v := 1) hx hb dL_law__2310 (by decide) ?_
  refine lv_iadd hx hb dL_law__2311 ?_
  refine ow_scr C0 hX hbl hS h1 dL_law__2312 ?_
  refine lv_aload_n hx hb dL_law__2313 rfl (lv_at hl 1 rfl) ?_
  refine lv_iload hx hb dL_law__2314 (lv_at hl 5 rfl) ?_
  refine lv_iconst (v := 2) hx hb dL_law__2316 (by decide) ?_
  refine lv_iadd hx hb dL_law__2317 ?_
  refine ow_scr C0 hX hbl hS h2 dL_law__2318 ?_
  refine lv_aload_n hx hb dL_law__2319 rfl (lv_at hl 1 rfl) ?_
  refine lv_iload hx hb dL_law__2320 (lv_at hl 5 rfl) ?_
  refine lv_iconst (v := 3) hx hb dL_law__2322 (by decide) ?_
  refine lv_iadd hx hb dL_law__2323 ?_
  refine ow_scr C0 hX hbl hS h3 dL_law__2324 ?_
  refine lv_aload_n hx hb dL_law__2325 rfl (lv_at hl 1 rfl) ?_
  refine lv_iload hx hb dL_law__2326 (lv_at hl 5 rfl) ?_
  refine lv_iconst (v := 4) hx hb dL_law__2328 (by decide) ?_
  refine lv_iadd hx hb dL_law__2329 ?_
  refine ow_scr C0 hX hbl hS h4 dL_law__2330 ?_
  refine ow_lR (As := [.int (xs (i + 1).toNatClampNeg), .int (xs (i + 2).toNatClampNeg), .int (xs (i + 3).toNatClampNeg), .int (xs (i + 4).toNatClampNeg)]) (rest := []) C0 (hR H.size) (cwV 4 hts gLV_239 rfl rfl rfl (by decide +kernel) ⟨(Nat.le_of_ble_eq_true rfl), (Nat.le_of_ble_eq_true rfl)⟩) 11 rfl hr0 hP hD hS rfl hl.1 rfl (Nat.le_of_ble_eq_true rfl) hrm dL_law__2331 (fun H locs hP hD hS => ?_)
  refine lv_istore (lv' := [(6, .int b1), (5, .int (if K = 3 then 1 else if K = 2 then 2 else if K = 1 then 3 else 0 : Int32)), (0, .ref b), (1, .ref x), (2, .ref mo), (3, .ref o), (4, .int i)]) hx hb dL_law__2334 hl (by decide) rfl (fun ls hl => ?_)
  refine lv_aload_n hx hb dL_law__2336 rfl (lv_at hl 4 rfl) ?_
  refine ow_lR (As := []) (rest := []) C0 (hT H.size) (cwV 0 hts gLV_133 rfl rfl rfl (by decide +kernel) ⟨(Nat.le_of_ble_eq_true rfl), (Nat.le_of_ble_eq_true rfl)⟩) 11 rfl hr1 hP hD hS rfl hl.1 rfl (Nat.le_of_ble_eq_true rfl) hrm dL_law__2337 (fun H locs hP hD hS => ?_)
  refine lv_iload hx hb dL_law__2340 (lv_at hl 1 rfl) ?_
  refine lv_icmp_eq (tgt := 2347) hx hb dL_law__2342 (by decide) (fun hc => ?_) (fun hc => absurd hth hc)
  refine lv_iload hx hb dL_law__2347 (lv_at hl 1 rfl) ?_
  refine lv_if_ne (tgt := 2364) hx hb dL_law__2349 (by decide) (fun hc => ?_) (fun hc => ?_)
  · refine lv_goto (tgt := 2733) hx hb dL_law__2364 (by decide) ?_
    exact kk u _ H locs ls hok hP hD hS (lv_sub hl [2, 3, 4, 5, 6] rfl)
  · rcases hK with rfl | rfl | rfl | rfl
    · have hv0 := hv rfl
      subst hv0
      refine lv_aload_n hx hb dL_law__2352 rfl (lv_at hl 5 rfl) ?_
      refine lv_iconst (v := 0) hx hb dL_law__2353 (by decide) ?_
      refine va_lald hx hb hK0 hP _ 2 (out_at cs o _ _ _) rfl (vp_in_nI (n := 0) (by decide) (by decide)) dL_law__2354 ?_
      have ev : (if (0 : Nat) = 0 then vp_updL v (0 : Int32).toNatClampNeg r.toInt64 else v) (0 : Int32).toNatClampNeg = r.toInt64 := by simp [vp_updL]
      rw [ev]
      refine lv_iload hx hb dL_law__2355 (lv_at hl 0 rfl) ?_
      refine lv_i2l (v := r.toInt64) hx hb dL_law__2357 rfl ?_
      refine W.lcmp hx hb dL_law__2358 ?_
      rw [lg_eq]
      refine lv_if_eq (tgt := 2364) hx hb dL_law__2359 (by decide) (fun _ => ?_) (fun h => absurd rfl h)
      refine lv_goto (tgt := 2733) hx hb dL_law__2364 (by decide) ?_
      exact kk u _ H locs ls hok hP hD hS (lv_sub hl [2, 3, 4, 5, 6] rfl)
    · exact absurd hc (by decide)
    · exact absurd hc (by decide)
    · exact absurd hc (by decide)
set_option maxHeartbeats 4000000 in
set_option maxRecDepth 100000 in
theorem lc_34 {p : Program} {l : Launch} {e : Env} {s : State} {m : MethodId} {av : Array Value} {below : List Frame} {meth : Method} {c : Code} {D : va_G} {cs : Nat → ClassId} {cells slots : Nat} {Q : State → Prop} (C0 : Cx p s m meth c av lw_tbl code 7 (some .boolean) RL D cs []) (hN : gN s) (hC : gC s) {b L : Nat} {xs : Nat → Int32} (hX : va_X b L xs s s.heap) (hbl : b < s.heap.size) {x mo o : Nat} (i : Int32) (h1 : vp_in (i + 1) L) (h2 : vp_in (i + 2) L) (h3 : vp_in (i + 3) L) {S : Type} (w rw rw1 : va_W) (v : Nat → Int64) (fs fs2 fs3 : List Value) (hw0 : w[0]? = some (x, .inr (10, fs))) (hr0 : rw[0]? = some (mo, .inr (11, fs2))) (hr1 : rw1[0]? = some (mo, .inr (11, fs3))) (ok : S → Prop) (w' : S → va_W) (K : Nat) (r b1 th : Int32) (rmY : Room) (mc1 ms1 : Nat) (hc : rmY.cells = mc1) (hs : rmY.slots = ms1) (hf : rmY.frames ≤ 95) (hlo : rmY.locals ≤ 2300) (hrm : cells + mc1 ≤ room_1.cells ∧ slots + ms1 ≤ room_1.slots) (hK : K = 0 ∨ K = 2 ∨ K = 1) (hM : ∀ sz, XS l D cs yX10_ahead wsX10_ahead rmY [.ref x, .int (xs (i + 1).toNatClampNeg), .int (xs (i + 2).toNatClampNeg), .int (xs (i + 3).toNatClampNeg)] sz w ok w' K r mc1 ms1) (hT : ∀ sz, MI l D cs yX11_thrown wsX11_thrown rm_X11_thrown [.ref mo] sz rw1 rw1 th) (hth : th = (if K = 2 then 1 else if K = 1 then 2 else 0 : Int32)) (hv : K = 0 → r = b1) (hR : ∀ sz, MI l D cs yX11_ahead wsX11_ahead rm_X11_ahead [.ref mo, .int (xs (i + 1).toNatClampNeg), .int (xs (i + 2).toNatClampNeg), .int (xs (i + 3).toNatClampNeg)] sz rw rw1 b1) (H : Heap) (locs : List Loc) (ls : Array Slot) (hP : va_P D vwCl [w, rw, [oCell cs o v]].flatten H) (hD : va_D (va_A [] s.heap.size) [w, rw, [oCell cs o v]].flatten) (hS : va_S (va_A [] s.heap.size) s.heap H locs) (hl : lv_has ls 7 [(0, .ref b), (1, .ref x), (2, .ref mo), (3, .ref o), (4, .int i)]) (kk : ∀ (u : S) (v' : Nat → Int64) (H : Heap) (locs : List Loc) (ls : Array Slot), ok u → va_P D vwCl [w' u, rw1, [oCell cs o v']].flatten H → va_D (va_A [] s.heap.size) [w' u, rw1, [oCell cs o v']].flatten → va_S (va_A [] s.heap.size) s.heap H locs → lv_has ls 7 [(0, .ref b), (1, .ref x), (2, .ref mo), (3, .ref o), (4, .int i)] → W p l e room_1 s m av below meth c H locs (cells + mc1) (slots + ms1) Q (F0 m 2733 ls [])) : W p l e room_1 s m av below meth c H locs cells slots Q (F0 m 2367 ls []) := by
  obtain ⟨hx, hb, hr, hlk, hml, hown, hts, hK0, hG, hE⟩ := id C0
  refine lv_aload_n hx hb dL_law__2367 rfl (lv_at hl 1 rfl) ?_
  refine lv_aload_n hx hb dL_law__2368 rfl (lv_at hl 0 rfl) ?_
  refine lv_iload hx hb dL_law__2369 (lv_at hl 4 rfl) ?_
  refine lv_iconst (v := 1) hx hb dL_law__2371 (by decide) ?_
  refine lv_iadd hx hb dL_law__2372 ?_
  refine ow_scr C0 hX hbl hS h1 dL_law__2373 ?_
  refine lv_aload_n hx hb dL_law__2374 rfl (lv_at hl 0 rfl) ?_
  refine lv_iload hx hb dL_law__2375 (lv_at hl 4 rfl) ?_
  refine lv_iconst (v := 2) hx hb dL_law__2377 (by decide) ?_
  refine lv_iadd hx hb dL_law__2378 ?_
  refine ow_scr C0 hX hbl hS h2 dL_law__2379 ?_
  refine lv_aload_n hx hb dL_law__2380 rfl (lv_at hl 0 rfl) ?_
  refine lv_iload hx hb dL_law__2381 (lv_at hl 4 rfl) ?_
  refine lv_iconst (v := 3) hx hb dL_law__2383 (by decide) ?_
  refine lv_iadd hx hb dL_law__2384 ?_
  refine ow_scr C0 hX hbl hS h3 dL_law__2385 ?_
  refine lv_aload_n hx hb dL_law__2386 rfl (lv_at hl 3 rfl) ?_
  refine ow_lW (As := [.ref x, .int (xs (i + 1).toNatClampNeg), .int (xs (i + 2).toNatClampNeg), .int (xs (i + 3).toNatClampNeg), .ref o]) (rest := []) (r := (if K = 2 then 1 else if K = 1 then 2 else 0 : Int32)) C0 hN hC (c_L_ahead l D cs H.size x o ((xs (i + 1).toNatClampNeg)) ((xs (i + 2).toNatClampNeg)) ((xs (i + 3).toNatClampNeg)) v w fs hw0 ok w' K r rmY mc1 ms1 hc hs hf hlo hK hM) (vx_cwSW 5 hts gLS_240 rfl rfl rfl (by decide +kernel) ⟨(Nat.le_of_ble_eq_true rfl), (Nat.le_of_ble_eq_true rfl)⟩) hP hD hS rfl hl.1 rfl (Nat.le_of_ble_eq_true rfl) hrm dL_law__2387 (fun u H locs hok hP hD hS => ?_)
  replace hP := sg_Pp pm_o hP
  replace hD := sg_Dp pm_o hD
  refine lv_istore (lv' := [(5, .int (if K = 2 then 1 else if K = 1 then 2 else 0 : Int32)), (0, .ref b), (1, .ref x), (2, .ref mo), (3, .ref o), (4, .int i)]) hx hb dL_law__2390 hl (by decide) rfl (fun ls hl => ?_)
  refine lv_aload_n hx hb dL_law__2392 rfl (lv_at hl 3 rfl) ?_
  refine lv_aload_n hx hb dL_law__2393 rfl (lv_at hl 1 rfl) ?_
  refine lv_iload hx hb dL_law__2394 (lv_at hl 5 rfl) ?_
  refine lv_iconst (v := 1) hx hb dL_law__2396 (by decide) ?_
  refine lv_iadd hx hb dL_law__2397 ?_
  refine ow_scr C0 hX hbl hS h1 dL_law__2398 ?_
  refine lv_aload_n hx hb dL_law__2399 rfl (lv_at hl 1 rfl) ?_
  refine lv_iload hx hb dL_law__2400 (lv_at hl 5 rfl) ?_
  refine lv_iconst (v := 2) hx hb dL_law__2402 (by decide) ?_
  refine lv_iadd hx hb dL_law__2403 ?_
  refine ow_scr C0 hX hbl hS h2 dL_law__2404 ?_
  refine lv_aload_n hx hb dL_law__2405 rfl (lv_at hl 1 rfl) ?_
  refine lv_iload hx hb dL_law__2406 (lv_at hl 5 rfl) ?_
  refine lv_iconst (v := 3) hx hb dL_law__2408 (by decide) ?_
  refine lv_iadd hx hb dL_law__2409 ?_
  refine ow_scr C0 hX hbl hS h3 dL_law__2410 ?_
  refine ow_lR (As := [.int (xs (i + 1).toNatClampNeg), .int (xs (i + 2).toNatClampNeg), .int (xs (i + 3).toNatClampNeg)]) (rest := []) C0 (hR H.size) (cwV 3 hts gLV_242 rfl rfl rfl (by decide +kernel) ⟨(Nat.le_of_ble_eq_true rfl), (Nat.le_of_ble_eq_true rfl)⟩) 11 rfl hr0 hP hD hS rfl hl.1 rfl (Nat.le_of_ble_eq_true rfl) hrm dL_law__2411 (fun H locs hP hD hS => ?_)
  refine lv_istore (lv' := [(6, .int b1), (5, .int (if K = 2 then 1 else if K = 1 then 2 else 0 : Int32)), (0, .ref b), (1, .ref x), (2, .ref mo), (3, .ref o), (4, .int i)]) hx hb dL_law__2414 hl (by decide) rfl (fun ls hl => ?_)
  refine lv_aload_n hx hb dL_law__2416 rfl (lv_at hl 4 rfl) ?_
  refine ow_lR (As := []) (rest := []) C0 (hT H.size) (cwV 0 hts gLV_133 rfl rfl rfl (by decide +kernel) ⟨(Nat.le_of_ble_eq_true rfl), (Nat.le_of_ble_eq_true rfl)⟩) 11 rfl hr1 hP hD hS rfl hl.1 rfl (Nat.le_of_ble_eq_true rfl) hrm dL_law__2417 (fun H locs hP hD hS => ?_)
  refine lv_iload hx hb dL_law__2420 (lv_at hl 1 rfl) ?_
  refine lv_icmp_eq (tgt := 2427) hx hb dL_law__2422 (by decide) (fun hc => ?_) (fun hc => absurd hth hc)
  refine lv_iload hx hb dL_law__2427 (lv_at hl 1 rfl) ?_
  refine lv_if_ne (tgt := 2444) hx hb dL_law__2429 (by decide) (fun hc => ?_) (fun hc => ?_)
  · refine lv_goto (tgt := 2733) hx hb dL_law__2444 (by decide) ?_
    exact kk u _ H locs ls hok hP hD hS (lv_sub hl [2, 3, 4, 5, 6] rfl)
  · rcases hK with rfl | rfl | rfl
    · have hv0 := hv rfl
      subst hv0
      refine lv_aload_n hx hb dL_law__2432 rfl (lv_at hl 5 rfl) ?_
      refine lv_iconst (v := 0) hx hb dL_law__2433 (by decide) ?_
      refine va_lald hx hb hK0 hP _ 2 (out_at cs o _ _ _) rfl (vp_in_nI (n := 0) (by decide) (by decide)) dL_law__2434 ?_
      have ev : (if (0 : Nat) = 0 then vp_updL v (0 : Int32).toNatClampNeg r.toInt64 else v) (0 : Int32).toNatClampNeg = r.toInt64 := by simp [vp_updL]
      rw [ev]
      refine lv_iload hx hb dL_law__2435 (lv_at hl 0 rfl) ?_
      refine lv_i2l (v := r.toInt64) hx hb dL_law__2437 rfl ?_
      refine W.lcmp hx hb dL_law__2438 ?_
      rw [lg_eq]
      refine lv_if_eq (tgt := 2444) hx hb dL_law__2439 (by decide) (fun _ => ?_) (fun h => absurd rfl h)
      refine lv_goto (tgt := 2733) hx hb dL_law__2444 (by decide) ?_
      exact kk u _ H locs ls hok hP hD hS (lv_sub hl [2, 3, 4, 5, 6] rfl)
    · exact absurd hc (by decide)
    · exact absurd hc (by decide)
set_option maxHeartbeats 4000000 in
set_option maxRecDepth 100000 in
theorem lc_35 {p : Program} {l : Launch} {e : Env} {s : State} {m : MethodId} {av : Array Value} {below : List Frame} {meth : Method} {c : Code} {D : va_G} {cs : Nat → ClassId} {cells slots : Nat} {Q : State → Prop} (C0 : Cx p s m meth c av lw_tbl code 7 (some .boolean) RL D cs []) (hN : gN s) (hC : gC s) {b L : Nat} {xs : Nat → Int32} (hX : va_X b L xs s s.heap) (hbl : b < s.heap.size) {x mo o : Nat} (i : Int32) (h1 : vp_in (i + 1) L) (h2 : vp_in (i + 2) L) (h3 : vp_in (i + 3) L) (h4 : vp_in (i + 4) L) {S : Type} (w rw rw1 : va_W) (v : Nat → Int64) (fs fs2 fs3 : List Value) (hw0 : w[0]? = some (x, .inr (10, fs))) (hr0 : rw[0]? = some (mo, .inr (11, fs2))) (hr1 : rw1[0]? = some (mo, .inr (11, fs3))) (ok : S → Prop) (w' : S → va_W) (K : Nat) (r b1 th : Int32) (rmY : Room) (mc1 ms1 : Nat) (hc : rmY.cells = mc1) (hs : rmY.slots = ms1) (hf : rmY.frames ≤ 95) (hlo : rmY.locals ≤ 2300) (hrm : cells + mc1 ≤ room_1.cells ∧ slots + ms1 ≤ room_1.slots) (hK : K = 0 ∨ K = 1) (hM : ∀ sz, XS l D cs yX10_decade wsX10_decade rmY [.ref x, .int (xs (i + 1).toNatClampNeg), .int (xs (i + 2).toNatClampNeg), .int (xs (i + 3).toNatClampNeg), .int (xs (i + 4).toNatClampNeg)] sz w ok w' K r mc1 ms1) (hT : ∀ sz, MI l D cs yX11_thrown wsX11_thrown rm_X11_thrown [.ref mo] sz rw1 rw1 th) (hth : th = (if K = 1 then 1 else 0 : Int32)) (hv : K = 0 → r = b1) (hR : ∀ sz, MI l D cs yX11_decade wsX11_decade rm_X11_decade [.ref mo, .int (xs (i + 1).toNatClampNeg), .int (xs (i + 2).toNatClampNeg), .int (xs (i + 3).toNatClampNeg), .int (xs (i + 4).toNatClampNeg)] sz rw rw1 b1) (H : Heap) (locs : List Loc) (ls : Array Slot) (hP : va_P D vwCl [w, rw, [oCell cs o v]].flatten H) (hD : va_D (va_A [] s.heap.size) [w, rw, [oCell cs o v]].flatten) (hS : va_S (va_A [] s.heap.size) s.heap H locs) (hl : lv_has ls 7 [(0, .ref b), (1, .ref x), (2, .ref mo), (3, .ref o), (4, .int i)]) (kk : ∀ (u : S) (v' : Nat → Int64) (H : Heap) (locs : List Loc) (ls : Array Slot), ok u → va_P D vwCl [w' u, rw1, [oCell cs o v']].flatten H → va_D (va_A [] s.heap.size) [w' u, rw1, [oCell cs o v']].flatten → va_S (va_A [] s.heap.size) s.heap H locs → lv_has ls 7 [(0, .ref b), (1, .ref x), (2, .ref mo), (3, .ref o), (4, .int i)] → W p l e room_1 s m av below meth c H locs (cells + mc1) (slots + ms1) Q (F0 m 2733 ls [])) : W p l e room_1 s m av below meth c H locs cells slots Q (F0 m 2447 ls []) := by
  obtain ⟨hx, hb, hr, hlk, hml, hown, hts, hK0, hG, hE⟩ := id C0
  refine lv_aload_n hx hb dL_law__2447 rfl (lv_at hl 1 rfl) ?_
  refine lv_aload_n hx hb dL_law__2448 rfl (lv_at hl 0 rfl) ?_
  refine lv_iload hx hb dL_law__2449 (lv_at hl 4 rfl) ?_
  refine lv_iconst (v := 1) hx hb dL_law__2451 (by decide) ?_
  refine lv_iadd hx hb dL_law__2452 ?_
  refine ow_scr C0 hX hbl hS h1 dL_law__2453 ?_
  refine lv_aload_n hx hb dL_law__2454 rfl (lv_at hl 0 rfl) ?_
  refine lv_iload hx hb dL_law__2455 (lv_at hl 4 rfl) ?_
  refine lv_iconst (v := 2) hx hb dL_law__2457 (by decide) ?_
  refine lv_iadd hx hb dL_law__2458 ?_
  refine ow_scr C0 hX hbl hS h2 dL_law__2459 ?_
  refine lv_aload_n hx hb dL_law__2460 rfl (lv_at hl 0 rfl) ?_
  refine lv_iload hx hb dL_law__2461 (lv_at hl 4 rfl) ?_
  refine lv_iconst (v := 3) hx hb dL_law__2463 (by decide) ?_
  refine lv_iadd hx hb dL_law__2464 ?_
  refine ow_scr C0 hX hbl hS h3 dL_law__2465 ?_
  refine lv_aload_n hx hb dL_law__2466 rfl (lv_at hl 0 rfl) ?_
  refine lv_iload hx hb dL_law__2467 (lv_at hl 4 rfl) ?_
  refine lv_iconst (v := 4) hx hb dL_law__2469 (by decide) ?_
  refine lv_iadd hx hb dL_law__2470 ?_
  refine ow_scr C0 hX hbl hS h4 dL_law__2471 ?_
  refine lv_aload_n hx hb dL_law__2472 rfl (lv_at hl 3 rfl) ?_
  refine ow_lW (As := [.ref x, .int (xs (i + 1).toNatClampNeg), .int (xs (i + 2).toNatClampNeg), .int (xs (i + 3).toNatClampNeg), .int (xs (i + 4).toNatClampNeg), .ref o]) (rest := []) (r := (if K = 1 then 1 else 0 : Int32)) C0 hN hC (c_L_decade l D cs H.size x o ((xs (i + 1).toNatClampNeg)) ((xs (i + 2).toNatClampNeg)) ((xs (i + 3).toNatClampNeg)) ((xs (i + 4).toNatClampNeg)) v w fs hw0 ok w' K r rmY mc1 ms1 hc hs hf hlo hK hM) (vx_cwSW 6 hts gLS_243 rfl rfl rfl (by decide +kernel) ⟨(Nat.le_of_ble_eq_true rfl), (Nat.le_of_ble_eq_true rfl)⟩) hP hD hS rfl hl.1 rfl (Nat.le_of_ble_eq_true rfl) hrm dL_law__2473 (fun u H locs hok hP hD hS => ?_)
  replace hP := sg_Pp pm_o hP
  replace hD := sg_Dp pm_o hD
  refine lv_istore (lv' := [(5, .int (if K = 1 then 1 else 0 : Int32)), (0, .ref b), (1, .ref x), (2, .ref mo), (3, .ref o), (4, .int i)]) hx hb dL_law__2476 hl (by decide) rfl (fun ls hl => ?_)
  refine lv_aload_n hx hb dL_law__2478 rfl (lv_at hl 3 rfl) ?_
  refine lv_aload_n hx hb dL_law__2479 rfl (lv_at hl 1 rfl) ?_
  refine lv_iload hx hb dL_law__2480 (lv_at hl 5 rfl) ?_
  refine lv_iconst (v := 1) hx hb dL_law__2482 (by decide) ?_
  refine lv_iadd hx hb dL_law__2483 ?_
  refine ow_scr C0 hX hbl hS h1 dL_law__2484 ?_
  refine lv_aload_n hx hb dL_law__2485 rfl (lv_at hl 1 rfl) ?_
  refine lv_iload hx hb dL_law__2486 (lv_at hl 5 rfl) ?_
  refine lv_iconst (v := 2) hx hb dL_law__2488 (by decide) ?_
  refine lv_iadd hx hb dL_law__2489 ?_
  refine ow_scr C0 hX hbl hS h2 dL_law__2490 ?_
  refine lv_aload_n hx hb dL_law__2491 rfl (lv_at hl 1 rfl) ?_
  refine lv_iload hx hb dL_law__2492 (lv_at hl 5 rfl) ?_
  refine lv_iconst (v := 3) hx hb dL_law__2494 (by decide) ?_
  refine lv_iadd hx hb dL_law__2495 ?_
  refine ow_scr C0 hX hbl hS h3 dL_law__2496 ?_
  refine lv_aload_n hx hb dL_law__2497 rfl (lv_at hl 1 rfl) ?_
  refine lv_iload hx hb dL_law__2498 (lv_at hl 5 rfl) ?_
  refine lv_iconst (v := 4) hx hb dL_law__2500 (by decide) ?_
  refine lv_iadd hx hb dL_law__2501 ?_
  refine ow_scr C0 hX hbl hS h4 dL_law__2502 ?_
  refine ow_lR (As := [.int (xs (i + 1).toNatClampNeg), .int (xs (i + 2).toNatClampNeg), .int (xs (i + 3).toNatClampNeg), .int (xs (i + 4).toNatClampNeg)]) (rest := []) C0 (hR H.size) (cwV 4 hts gLV_245 rfl rfl rfl (by decide +kernel) ⟨(Nat.le_of_ble_eq_true rfl), (Nat.le_of_ble_eq_true rfl)⟩) 11 rfl hr0 hP hD hS rfl hl.1 rfl (Nat.le_of_ble_eq_true rfl) hrm dL_law__2503 (fun H locs hP hD hS => ?_)
  refine lv_istore (lv' := [(6, .int b1), (5, .int (if K = 1 then 1 else 0 : Int32)), (0, .ref b), (1, .ref x), (2, .ref mo), (3, .ref o), (4, .int i)]) hx hb dL_law__2506 hl (by decide) rfl (fun ls hl => ?_)
  refine lv_aload_n hx hb dL_law__2508 rfl (lv_at hl 4 rfl) ?_
  refine ow_lR (As := []) (rest := []) C0 (hT H.size) (cwV 0 hts gLV_133 rfl rfl rfl (by decide +kernel) ⟨(Nat.le_of_ble_eq_true rfl), (Nat.le_of_ble_eq_true rfl)⟩) 11 rfl hr1 hP hD hS rfl hl.1 rfl (Nat.le_of_ble_eq_true rfl) hrm dL_law__2509 (fun H locs hP hD hS => ?_)
  refine lv_iload hx hb dL_law__2512 (lv_at hl 1 rfl) ?_
  refine lv_icmp_eq (tgt := 2519) hx hb dL_law__2514 (by decide) (fun hc => ?_) (fun hc => absurd hth hc)
  refine lv_iload hx hb dL_law__2519 (lv_at hl 1 rfl) ?_
  refine lv_if_ne (tgt := 2536) hx hb dL_law__2521 (by decide) (fun hc => ?_) (fun hc => ?_)
  · refine lv_goto (tgt := 2733) hx hb dL_law__2536 (by decide) ?_
    exact kk u _ H locs ls hok hP hD hS (lv_sub hl [2, 3, 4, 5, 6] rfl)
  · rcases hK with rfl | rfl
    · have hv0 := hv rfl
      subst hv0
      refine lv_aload_n hx hb dL_law__2524 rfl (lv_at hl 5 rfl) ?_
      refine lv_iconst (v := 0) hx hb dL_law__2525 (by decide) ?_
      refine va_lald hx hb hK0 hP _ 2 (out_at cs o _ _ _) rfl (vp_in_nI (n := 0) (by decide) (by decide)) dL_law__2526 ?_
      have ev : (if (0 : Nat) = 0 then vp_updL v (0 : Int32).toNatClampNeg r.toInt64 else v) (0 : Int32).toNatClampNeg = r.toInt64 := by simp [vp_updL]
      rw [ev]
      refine lv_iload hx hb dL_law__2527 (lv_at hl 0 rfl) ?_
      refine lv_i2l (v := r.toInt64) hx hb dL_law__2529 rfl ?_
      refine W.lcmp hx hb dL_law__2530 ?_
      rw [lg_eq]
      refine lv_if_eq (tgt := 2536) hx hb dL_law__2531 (by decide) (fun _ => ?_) (fun h => absurd rfl h)
      refine lv_goto (tgt := 2733) hx hb dL_law__2536 (by decide) ?_
      exact kk u _ H locs ls hok hP hD hS (lv_sub hl [2, 3, 4, 5, 6] rfl)
    · exact absurd hc (by decide)
set_option maxHeartbeats 4000000 in
set_option maxRecDepth 100000 in
theorem lc_36 {p : Program} {l : Launch} {e : Env} {s : State} {m : MethodId} {av : Array Value} {below : List Frame} {meth : Method} {c : Code} {D : va_G} {cs : Nat → ClassId} {cells slots : Nat} {Q : State → Prop} (C0 : Cx p s m meth c av lw_tbl code 7 (some .boolean) RL D cs []) (hN : gN s) (hC : gC s) {b L : Nat} {xs : Nat → Int32} (hX : va_X b L xs s s.heap) (hbl : b < s.heap.size) {x mo o : Nat} (i : Int32) (h1 : vp_in (i + 1) L) (h2 : vp_in (i + 2) L) (h3 : vp_in (i + 3) L) (h4 : vp_in (i + 4) L) (h5 : vp_in (i + 5) L) (h6 : vp_in (i + 6) L) {S : Type} (w rw rw1 : va_W) (v : Nat → Int64) (fs fs2 fs3 : List Value) (hw0 : w[0]? = some (x, .inr (10, fs))) (hr0 : rw[0]? = some (mo, .inr (11, fs2))) (hr1 : rw1[0]? = some (mo, .inr (11, fs3))) (ok : S → Prop) (w' : S → va_W) (K : Nat) (r b1 th : Int32) (rmY : Room) (mc1 ms1 : Nat) (hc : rmY.cells = mc1) (hs : rmY.slots = ms1) (hf : rmY.frames ≤ 95) (hlo : rmY.locals ≤ 2300) (hrm : cells + mc1 ≤ room_1.cells ∧ slots + ms1 ≤ room_1.slots) (hK : K = 0 ∨ K = 1) (hM : ∀ sz, XS l D cs yX10_span wsX10_span rmY [.ref x, .int (xs (i + 1).toNatClampNeg), .int (xs (i + 2).toNatClampNeg), .int (xs (i + 3).toNatClampNeg), .int (xs (i + 4).toNatClampNeg), .int (xs (i + 5).toNatClampNeg), .int (xs (i + 6).toNatClampNeg)] sz w ok w' K r mc1 ms1) (hT : ∀ sz, MI l D cs yX11_thrown wsX11_thrown rm_X11_thrown [.ref mo] sz rw1 rw1 th) (hth : th = (if K = 1 then 1 else 0 : Int32)) (hv : K = 0 → r = b1) (hR : ∀ sz, MI l D cs yX11_span wsX11_span rm_X11_span [.ref mo, .int (xs (i + 1).toNatClampNeg), .int (xs (i + 2).toNatClampNeg), .int (xs (i + 3).toNatClampNeg), .int (xs (i + 4).toNatClampNeg), .int (xs (i + 5).toNatClampNeg), .int (xs (i + 6).toNatClampNeg)] sz rw rw1 b1) (H : Heap) (locs : List Loc) (ls : Array Slot) (hP : va_P D vwCl [w, rw, [oCell cs o v]].flatten H) (hD : va_D (va_A [] s.heap.size) [w, rw, [oCell cs o v]].flatten) (hS : va_S (va_A [] s.heap.size) s.heap H locs) (hl : lv_has ls 7 [(0, .ref b), (1, .ref x), (2, .ref mo), (3, .ref o), (4, .int i)]) (kk : ∀ (u : S) (v' : Nat → Int64) (H : Heap) (locs : List Loc) (ls : Array Slot), ok u → va_P D vwCl [w' u, rw1, [oCell cs o v']].flatten H → va_D (va_A [] s.heap.size) [w' u, rw1, [oCell cs o v']].flatten → va_S (va_A [] s.heap.size) s.heap H locs → lv_has ls 7 [(0, .ref b), (1, .ref x), (2, .ref mo), (3, .ref o), (4, .int i)] → W p l e room_1 s m av below meth c H locs (cells + mc1) (slots + ms1) Q (F0 m 2733 ls [])) : W p l e room_1 s m av below meth c H locs cells slots Q (F0 m 2539 ls []) := by
  obtain ⟨hx, hb, hr, hlk, hml, hown, hts, hK0, hG, hE⟩ := id C0
  refine lv_aload_n hx hb dL_law__2539 rfl (lv_at hl 1 rfl) ?_
  refine lv_aload_n hx hb dL_law__2540 rfl (lv_at hl 0 rfl) ?_
  refine lv_iload hx hb dL_law__2541 (lv_at hl 4 rfl) ?_
  refine lv_iconst (v := 1) hx hb dL_law__2543 (by decide) ?_
  refine lv_iadd hx hb dL_law__2544 ?_
  refine ow_scr C0 hX hbl hS h1 dL_law__2545 ?_
  refine lv_aload_n hx hb dL_law__2546 rfl (lv_at hl 0 rfl) ?_
  refine lv_iload hx hb dL_law__2547 (lv_at hl 4 rfl) ?_
  refine lv_iconst (v := 2) hx hb dL_law__2549 (by decide) ?_
  refine lv_iadd hx hb dL_law__2550 ?_
  refine ow_scr C0 hX hbl hS h2 dL_law__2551 ?_
  refine lv_aload_n hx hb dL_law__2552 rfl (lv_at hl 0 rfl) ?_
  refine lv_iload hx hb dL_law__2553 (lv_at hl 4 rfl) ?_
  refine lv_iconst (v := 3) hx hb dL_law__2555 (by decide) ?_
  refine lv_iadd hx hb dL_law__2556 ?_
  refine ow_scr C0 hX hbl hS h3 dL_law__2557 ?_
  refine lv_aload_n hx hb dL_law__2558 rfl (lv_at hl 0 rfl) ?_
  refine lv_iload hx hb dL_law__2559 (lv_at hl 4 rfl) ?_
  refine lv_iconst (v := 4) hx hb dL_law__2561 (by decide) ?_
  refine lv_iadd hx hb dL_law__2562 ?_
  refine ow_scr C0 hX hbl hS h4 dL_law__2563 ?_
  refine lv_aload_n hx hb dL_law__2564 rfl (lv_at hl 0 rfl) ?_
  refine lv_iload hx hb dL_law__2565 (lv_at hl 4 rfl) ?_
  refine lv_iconst (v := 5) hx hb dL_law__2567 (by decide) ?_
  refine lv_iadd hx hb dL_law__2568 ?_
  refine ow_scr C0 hX hbl hS h5 dL_law__2569 ?_
  refine lv_aload_n hx hb dL_law__2570 rfl (lv_at hl 0 rfl) ?_
  refine lv_iload hx hb dL_law__2571 (lv_at hl 4 rfl) ?_
  refine lv_bipush (v := 6) hx hb dL_law__2573 (by decide) ?_
  refine lv_iadd hx hb dL_law__2575 ?_
  refine ow_scr C0 hX hbl hS h6 dL_law__2576 ?_
  refine lv_aload_n hx hb dL_law__2577 rfl (lv_at hl 3 rfl) ?_
  refine ow_lW (As := [.ref x, .int (xs (i + 1).toNatClampNeg), .int (xs (i + 2).toNatClampNeg), .int (xs (i + 3).toNatClampNeg), .int (xs (i + 4).toNatClampNeg), .int (xs (i + 5).toNatClampNeg), .int (xs (i + 6).toNatClampNeg), .ref o]) (rest := []) (r := (if K = 1 then 1 else 0 : Int32)) C0 hN hC (c_L_span l D cs H.size x o ((xs (i + 1).toNatClampNeg)) ((xs (i + 2).toNatClampNeg)) ((xs (i + 3).toNatClampNeg)) ((xs (i + 4).toNatClampNeg)) ((xs (i + 5).toNatClampNeg)) ((xs (i + 6).toNatClampNeg)) v w fs hw0 ok w' K r rmY mc1 ms1 hc hs hf hlo hK hM) (vx_cwSW 8 hts gLS_246 rfl rfl rfl (by decide +kernel) ⟨(Nat.le_of_ble_eq_true rfl), (Nat.le_of_ble_eq_true rfl)⟩) hP hD hS rfl hl.1 rfl (Nat.le_of_ble_eq_true rfl) hrm dL_law__2578 (fun u H locs hok hP hD hS => ?_)
  replace hP := sg_Pp pm_o hP
  replace hD := sg_Dp pm_o hD
  refine lv_istore (lv' := [(5, .int (if K = 1 then 1 else 0 : Int32)), (0, .ref b), (1, .ref x), (2, .ref mo), (3, .ref o), (4, .int i)]) hx hb dL_law__2581 hl (by decide) rfl (fun ls hl => ?_)
  refine lv_aload_n hx hb dL_law__2583 rfl (lv_at hl 3 rfl) ?_
  refine lv_aload_n hx hb dL_law__2584 rfl (lv_at hl 1 rfl) ?_
  refine lv_iload hx hb dL_law__2585 (lv_at hl 5 rfl) ?_
  refine lv_iconst (v := 1) hx hb dL_law__2587 (by decide) ?_
  refine lv_iadd hx hb dL_law__2588 ?_
  refine ow_scr C0 hX hbl hS h1 dL_law__2589 ?_
  refine lv_aload_n hx hb dL_law__2590 rfl (lv_at hl 1 rfl) ?_
  refine lv_iload hx hb dL_law__2591 (lv_at hl 5 rfl) ?_
  refine lv_iconst (v := 2) hx hb dL_law__2593 (by decide) ?_
  refine lv_iadd hx hb dL_law__2594 ?_
  refine ow_scr C0 hX hbl hS h2 dL_law__2595 ?_
  refine lv_aload_n hx hb dL_law__2596 rfl (lv_at hl 1 rfl) ?_
  refine lv_iload hx hb dL_law__2597 (lv_at hl 5 rfl) ?_
  refine lv_iconst (v := 3) hx hb dL_law__2599 (by decide) ?_
  refine lv_iadd hx hb dL_law__2600 ?_
  refine ow_scr C0 hX hbl hS h3 dL_law__2601 ?_
  refine lv_aload_n hx hb dL_law__2602 rfl (lv_at hl 1 rfl) ?_
  refine lv_iload hx hb dL_law__2603 (lv_at hl 5 rfl) ?_
  refine lv_iconst (v := 4) hx hb dL_law__2605 (by decide) ?_
  refine lv_iadd hx hb dL_law__2606 ?_
  refine ow_scr C0 hX hbl hS h4 dL_law__2607 ?_
  refine lv_aload_n hx hb dL_law__2608 rfl (lv_at hl 1 rfl) ?_
  refine lv_iload hx hb dL_law__2609 (lv_at hl 5 rfl) ?_
  refine lv_iconst (v := 5) hx hb dL_law__2611 (by decide) ?_
  refine lv_iadd hx hb dL_law__2612 ?_
  refine ow_scr C0 hX hbl hS h5 dL_law__2613 ?_
  refine lv_aload_n hx hb dL_law__2614 rfl (lv_at hl 1 rfl) ?_
  refine lv_iload hx hb dL_law__2615 (lv_at hl 5 rfl) ?_
  refine lv_bipush (v := 6) hx hb dL_law__2617 (by decide) ?_
  refine lv_iadd hx hb dL_law__2619 ?_
  refine ow_scr C0 hX hbl hS h6 dL_law__2620 ?_
  refine ow_lR (As := [.int (xs (i + 1).toNatClampNeg), .int (xs (i + 2).toNatClampNeg), .int (xs (i + 3).toNatClampNeg), .int (xs (i + 4).toNatClampNeg), .int (xs (i + 5).toNatClampNeg), .int (xs (i + 6).toNatClampNeg)]) (rest := []) C0 (hR H.size) (cwV 6 hts gLV_249 rfl rfl rfl (by decide +kernel) ⟨(Nat.le_of_ble_eq_true rfl), (Nat.le_of_ble_eq_true rfl)⟩) 11 rfl hr0 hP hD hS rfl hl.1 rfl (Nat.le_of_ble_eq_true rfl) hrm dL_law__2621 (fun H locs hP hD hS => ?_)
  refine lv_istore (lv' := [(6, .int b1), (5, .int (if K = 1 then 1 else 0 : Int32)), (0, .ref b), (1, .ref x), (2, .ref mo), (3, .ref o), (4, .int i)]) hx hb dL_law__2624 hl (by decide) rfl (fun ls hl => ?_)
  refine lv_aload_n hx hb dL_law__2626 rfl (lv_at hl 4 rfl) ?_
  refine ow_lR (As := []) (rest := []) C0 (hT H.size) (cwV 0 hts gLV_133 rfl rfl rfl (by decide +kernel) ⟨(Nat.le_of_ble_eq_true rfl), (Nat.le_of_ble_eq_true rfl)⟩) 11 rfl hr1 hP hD hS rfl hl.1 rfl (Nat.le_of_ble_eq_true rfl) hrm dL_law__2627 (fun H locs hP hD hS => ?_)
  refine lv_iload hx hb dL_law__2630 (lv_at hl 1 rfl) ?_
  refine lv_icmp_eq (tgt := 2637) hx hb dL_law__2632 (by decide) (fun hc => ?_) (fun hc => absurd hth hc)
  refine lv_iload hx hb dL_law__2637 (lv_at hl 1 rfl) ?_
  refine lv_if_ne (tgt := 2654) hx hb dL_law__2639 (by decide) (fun hc => ?_) (fun hc => ?_)
  · refine lv_goto (tgt := 2733) hx hb dL_law__2654 (by decide) ?_
    exact kk u _ H locs ls hok hP hD hS (lv_sub hl [2, 3, 4, 5, 6] rfl)
  · rcases hK with rfl | rfl
    · have hv0 := hv rfl
      subst hv0
      refine lv_aload_n hx hb dL_law__2642 rfl (lv_at hl 5 rfl) ?_
      refine lv_iconst (v := 0) hx hb dL_law__2643 (by decide) ?_
      refine va_lald hx hb hK0 hP _ 2 (out_at cs o _ _ _) rfl (vp_in_nI (n := 0) (by decide) (by decide)) dL_law__2644 ?_
      have ev : (if (0 : Nat) = 0 then vp_updL v (0 : Int32).toNatClampNeg r.toInt64 else v) (0 : Int32).toNatClampNeg = r.toInt64 := by simp [vp_updL]
      rw [ev]
      refine lv_iload hx hb dL_law__2645 (lv_at hl 0 rfl) ?_
      refine lv_i2l (v := r.toInt64) hx hb dL_law__2647 rfl ?_
      refine W.lcmp hx hb dL_law__2648 ?_
      rw [lg_eq]
      refine lv_if_eq (tgt := 2654) hx hb dL_law__2649 (by decide) (fun _ => ?_) (fun h => absurd rfl h)
      refine lv_goto (tgt := 2733) hx hb dL_law__2654 (by decide) ?_
      exact kk u _ H locs ls hok hP hD hS (lv_sub hl [2, 3, 4, 5, 6] rfl)
    · exact absurd hc (by decide)
set_option maxHeartbeats 4000000 in
set_option maxRecDepth 100000 in
theorem lc_37 {p : Program} {l : Launch} {e : Env} {s : State} {m : MethodId} {av : Array Value} {below : List Frame} {meth : Method} {c : Code} {D : va_G} {cs : Nat → ClassId} {cells slots : Nat} {Q : State → Prop} (C0 : Cx p s m meth c av lw_tbl code 7 (some .boolean) RL D cs []) (hN : gN s) (hC : gC s) {b L : Nat} {xs : Nat → Int32} (hX : va_X b L xs s s.heap) (hbl : b < s.heap.size) {x mo o : Nat} (i : Int32)  {S : Type} (w rw rw1 : va_W) (v : Nat → Int64) (fs fs2 fs3 : List Value) (hw0 : w[0]? = some (x, .inr (10, fs))) (hr0 : rw[0]? = some (mo, .inr (11, fs2))) (hr1 : rw1[0]? = some (mo, .inr (11, fs3))) (ok : S → Prop) (w' : S → va_W) (K : Nat) (r b1 th : Int32) (rmY : Room) (mc1 ms1 : Nat) (hc : rmY.cells = mc1) (hs : rmY.slots = ms1) (hf : rmY.frames ≤ 95) (hlo : rmY.locals ≤ 2300) (hrm : cells + mc1 ≤ room_1.cells ∧ slots + ms1 ≤ room_1.slots) (hM : ∀ sz, MJ l D cs yX10_image wsX10_image rmY [.ref x] sz w ok w' r mc1 ms1) (heq : r = b1) (hR : ∀ sz, MI l D cs yX11_image wsX11_image rm_X11_image [.ref mo] sz rw rw1 b1) (H : Heap) (locs : List Loc) (ls : Array Slot) (hP : va_P D vwCl [w, rw, [oCell cs o v]].flatten H) (hD : va_D (va_A [] s.heap.size) [w, rw, [oCell cs o v]].flatten) (hS : va_S (va_A [] s.heap.size) s.heap H locs) (hl : lv_has ls 7 [(0, .ref b), (1, .ref x), (2, .ref mo), (3, .ref o), (4, .int i)]) (kk : ∀ (u : S) (v' : Nat → Int64) (H : Heap) (locs : List Loc) (ls : Array Slot), ok u → va_P D vwCl [w' u, rw1, [oCell cs o v']].flatten H → va_D (va_A [] s.heap.size) [w' u, rw1, [oCell cs o v']].flatten → va_S (va_A [] s.heap.size) s.heap H locs → lv_has ls 7 [(0, .ref b), (1, .ref x), (2, .ref mo), (3, .ref o), (4, .int i)] → W p l e room_1 s m av below meth c H locs (cells + mc1) (slots + ms1) Q (F0 m 2733 ls [])) : W p l e room_1 s m av below meth c H locs cells slots Q (F0 m 2657 ls []) := by
  obtain ⟨hx, hb, hr, hlk, hml, hown, hts, hK0, hG, hE⟩ := id C0
  refine lv_aload_n hx hb dL_law__2657 rfl (lv_at hl 1 rfl) ?_
  refine ow_lJ (As := []) (rest := []) C0 hN (hM H.size) (cwV 0 hts gLV_250 rfl hc hs (by decide +kernel) ⟨by show rmY.frames + 1 ≤ 2048; omega, by show 8 + (_ + 11) + rmY.locals ≤ 84000; omega⟩) 10 rfl hw0 hP hD hS rfl hl.1 rfl (Nat.le_of_ble_eq_true rfl) hrm dL_law__2658 (fun u H locs hok hP hD hS => ?_)
  refine lv_aload_n hx hb dL_law__2661 rfl (lv_at hl 2 rfl) ?_
  refine ow_lR (As := []) (rest := [.int r]) C0 (hR H.size) (cwV 0 hts gLV_253 rfl rfl rfl (by decide +kernel) ⟨(Nat.le_of_ble_eq_true rfl), (Nat.le_of_ble_eq_true rfl)⟩) 11 rfl hr0 hP hD hS rfl hl.1 rfl (Nat.le_of_ble_eq_true rfl) hrm dL_law__2662 (fun H locs hP hD hS => ?_)
  refine lv_icmp_eq (tgt := 2733) hx hb dL_law__2665 (by decide) (fun hc => ?_) (fun hc => absurd heq hc)
  exact kk u v H locs ls hok hP hD hS (lv_sub hl [0, 1, 2, 3, 4] rfl)
set_option maxHeartbeats 4000000 in
set_option maxRecDepth 100000 in
theorem lc_38 {p : Program} {l : Launch} {e : Env} {s : State} {m : MethodId} {av : Array Value} {below : List Frame} {meth : Method} {c : Code} {D : va_G} {cs : Nat → ClassId} {cells slots : Nat} {Q : State → Prop} (C0 : Cx p s m meth c av lw_tbl code 7 (some .boolean) RL D cs []) (hN : gN s) (hC : gC s) {b L : Nat} {xs : Nat → Int32} (hX : va_X b L xs s s.heap) (hbl : b < s.heap.size) {x mo o : Nat} (i : Int32)  {S : Type} (w rw rw1 : va_W) (v : Nat → Int64) (fs fs2 fs3 : List Value) (hw0 : w[0]? = some (x, .inr (10, fs))) (hr0 : rw[0]? = some (mo, .inr (11, fs2))) (hr1 : rw1[0]? = some (mo, .inr (11, fs3))) (ok : S → Prop) (w' : S → va_W) (K : Nat) (r b1 th : Int32) (rmY : Room) (mc1 ms1 : Nat) (hc : rmY.cells = mc1) (hs : rmY.slots = ms1) (hf : rmY.frames ≤ 95) (hlo : rmY.locals ≤ 2300) (hrm : cells + mc1 ≤ room_1.cells ∧ slots + ms1 ≤ room_1.slots) (hM : ∀ sz, MJ l D cs yX10_restore wsX10_restore rmY [.ref x] sz w ok w' r mc1 ms1) (heq : r = b1) (hR : ∀ sz, MI l D cs yX11_restore wsX11_restore rm_X11_restore [.ref mo] sz rw rw1 b1) (H : Heap) (locs : List Loc) (ls : Array Slot) (hP : va_P D vwCl [w, rw, [oCell cs o v]].flatten H) (hD : va_D (va_A [] s.heap.size) [w, rw, [oCell cs o v]].flatten) (hS : va_S (va_A [] s.heap.size) s.heap H locs) (hl : lv_has ls 7 [(0, .ref b), (1, .ref x), (2, .ref mo), (3, .ref o), (4, .int i)]) (kk : ∀ (u : S) (v' : Nat → Int64) (H : Heap) (locs : List Loc) (ls : Array Slot), ok u → va_P D vwCl [w' u, rw1, [oCell cs o v']].flatten H → va_D (va_A [] s.heap.size) [w' u, rw1, [oCell cs o v']].flatten → va_S (va_A [] s.heap.size) s.heap H locs → lv_has ls 7 [(0, .ref b), (1, .ref x), (2, .ref mo), (3, .ref o), (4, .int i)] → W p l e room_1 s m av below meth c H locs (cells + mc1) (slots + ms1) Q (F0 m 2733 ls [])) : W p l e room_1 s m av below meth c H locs cells slots Q (F0 m 2670 ls []) := by
  obtain ⟨hx, hb, hr, hlk, hml, hown, hts, hK0, hG, hE⟩ := id C0
  refine lv_aload_n hx hb dL_law__2670 rfl (lv_at hl 1 rfl) ?_
  refine ow_lJ (As := []) (rest := []) C0 hN (hM H.size) (cwV 0 hts gLV_254 rfl hc hs (by decide +kernel) ⟨by show rmY.frames + 1 ≤ 2048; omega, by show 8 + (_ + 11) + rmY.locals ≤ 84000; omega⟩) 10 rfl hw0 hP hD hS rfl hl.1 rfl (Nat.le_of_ble_eq_true rfl) hrm dL_law__2671 (fun u H locs hok hP hD hS => ?_)
  refine lv_aload_n hx hb dL_law__2674 rfl (lv_at hl 2 rfl) ?_
  refine ow_lR (As := []) (rest := [.int r]) C0 (hR H.size) (cwV 0 hts gLV_257 rfl rfl rfl (by decide +kernel) ⟨(Nat.le_of_ble_eq_true rfl), (Nat.le_of_ble_eq_true rfl)⟩) 11 rfl hr0 hP hD hS rfl hl.1 rfl (Nat.le_of_ble_eq_true rfl) hrm dL_law__2675 (fun H locs hP hD hS => ?_)
  refine lv_icmp_eq (tgt := 2733) hx hb dL_law__2678 (by decide) (fun hc => ?_) (fun hc => absurd heq hc)
  exact kk u v H locs ls hok hP hD hS (lv_sub hl [0, 1, 2, 3, 4] rfl)
set_option maxHeartbeats 4000000 in
set_option maxRecDepth 100000 in
theorem lc_39 {p : Program} {l : Launch} {e : Env} {s : State} {m : MethodId} {av : Array Value} {below : List Frame} {meth : Method} {c : Code} {D : va_G} {cs : Nat → ClassId} {cells slots : Nat} {Q : State → Prop} (C0 : Cx p s m meth c av lw_tbl code 7 (some .boolean) RL D cs []) (hN : gN s) (hC : gC s) {b L : Nat} {xs : Nat → Int32} (hX : va_X b L xs s s.heap) (hbl : b < s.heap.size) {x mo o : Nat} (i : Int32) (h1 : vp_in (i + 1) L) {S : Type} (w rw rw1 : va_W) (v : Nat → Int64) (fs fs2 fs3 : List Value) (hw0 : w[0]? = some (x, .inr (10, fs))) (hr0 : rw[0]? = some (mo, .inr (11, fs2))) (hr1 : rw1[0]? = some (mo, .inr (11, fs3))) (ok : S → Prop) (w' : S → va_W) (K : Nat) (r b1 th : Int32) (rmY : Room) (mc1 ms1 : Nat) (hc : rmY.cells = mc1) (hs : rmY.slots = ms1) (hf : rmY.frames ≤ 95) (hlo : rmY.locals ≤ 2300) (hrm : cells + mc1 ≤ room_1.cells ∧ slots + ms1 ≤ room_1.slots) (hM : ∀ sz, MJ l D cs yX10_status wsX10_status rmY [.ref x, .int (xs (i + 1).toNatClampNeg)] sz w ok w' r mc1 ms1) (heq : r = b1) (hR : ∀ sz, MI l D cs yX11_status wsX11_status rm_X11_status [.ref mo, .int (xs (i + 1).toNatClampNeg)] sz rw rw1 b1) (H : Heap) (locs : List Loc) (ls : Array Slot) (hP : va_P D vwCl [w, rw, [oCell cs o v]].flatten H) (hD : va_D (va_A [] s.heap.size) [w, rw, [oCell cs o v]].flatten) (hS : va_S (va_A [] s.heap.size) s.heap H locs) (hl : lv_has ls 7 [(0, .ref b), (1, .ref x), (2, .ref mo), (3, .ref o), (4, .int i)]) (kk : ∀ (u : S) (v' : Nat → Int64) (H : Heap) (locs : List Loc) (ls : Array Slot), ok u → va_P D vwCl [w' u, rw1, [oCell cs o v']].flatten H → va_D (va_A [] s.heap.size) [w' u, rw1, [oCell cs o v']].flatten → va_S (va_A [] s.heap.size) s.heap H locs → lv_has ls 7 [(0, .ref b), (1, .ref x), (2, .ref mo), (3, .ref o), (4, .int i)] → W p l e room_1 s m av below meth c H locs (cells + mc1) (slots + ms1) Q (F0 m 2733 ls [])) : W p l e room_1 s m av below meth c H locs cells slots Q (F0 m 2683 ls []) := by
  obtain ⟨hx, hb, hr, hlk, hml, hown, hts, hK0, hG, hE⟩ := id C0
  refine lv_aload_n hx hb dL_law__2683 rfl (lv_at hl 1 rfl) ?_
  refine lv_aload_n hx hb dL_law__2684 rfl (lv_at hl 0 rfl) ?_
  refine lv_iload hx hb dL_law__2685 (lv_at hl 4 rfl) ?_
  refine lv_iconst (v := 1) hx hb dL_law__2687 (by decide) ?_
  refine lv_iadd hx hb dL_law__2688 ?_
  refine ow_scr C0 hX hbl hS h1 dL_law__2689 ?_
  refine ow_lJ (As := [.int (xs (i + 1).toNatClampNeg)]) (rest := []) C0 hN (hM H.size) (cwV 1 hts gLV_258 rfl hc hs (by decide +kernel) ⟨by show rmY.frames + 1 ≤ 2048; omega, by show 8 + (_ + 11) + rmY.locals ≤ 84000; omega⟩) 10 rfl hw0 hP hD hS rfl hl.1 rfl (Nat.le_of_ble_eq_true rfl) hrm dL_law__2690 (fun u H locs hok hP hD hS => ?_)
  refine lv_aload_n hx hb dL_law__2693 rfl (lv_at hl 2 rfl) ?_
  refine lv_aload_n hx hb dL_law__2694 rfl (lv_at hl 0 rfl) ?_
  refine lv_iload hx hb dL_law__2695 (lv_at hl 4 rfl) ?_
  refine lv_iconst (v := 1) hx hb dL_law__2697 (by decide) ?_
  refine lv_iadd hx hb dL_law__2698 ?_
  refine ow_scr C0 hX hbl hS h1 dL_law__2699 ?_
  refine ow_lR (As := [.int (xs (i + 1).toNatClampNeg)]) (rest := [.int r]) C0 (hR H.size) (cwV 1 hts gLV_261 rfl rfl rfl (by decide +kernel) ⟨(Nat.le_of_ble_eq_true rfl), (Nat.le_of_ble_eq_true rfl)⟩) 11 rfl hr0 hP hD hS rfl hl.1 rfl (Nat.le_of_ble_eq_true rfl) hrm dL_law__2700 (fun H locs hP hD hS => ?_)
  refine lv_icmp_eq (tgt := 2733) hx hb dL_law__2703 (by decide) (fun hc => ?_) (fun hc => absurd heq hc)
  exact kk u v H locs ls hok hP hD hS (lv_sub hl [0, 1, 2, 3, 4] rfl)
set_option maxHeartbeats 4000000 in
set_option maxRecDepth 100000 in
theorem lc_40 {p : Program} {l : Launch} {e : Env} {s : State} {m : MethodId} {av : Array Value} {below : List Frame} {meth : Method} {c : Code} {D : va_G} {cs : Nat → ClassId} {cells slots : Nat} {Q : State → Prop} (C0 : Cx p s m meth c av lw_tbl code 7 (some .boolean) RL D cs []) (hN : gN s) (hC : gC s) {b L : Nat} {xs : Nat → Int32} (hX : va_X b L xs s s.heap) (hbl : b < s.heap.size) {x mo o : Nat} (i : Int32) (h1 : vp_in (i + 1) L) {S : Type} (w rw rw1 : va_W) (v : Nat → Int64) (fs fs2 fs3 : List Value) (hw0 : w[0]? = some (x, .inr (10, fs))) (hr0 : rw[0]? = some (mo, .inr (11, fs2))) (hr1 : rw1[0]? = some (mo, .inr (11, fs3))) (ok : S → Prop) (w' : S → va_W) (K : Nat) (r b1 th : Int32) (rmY : Room) (mc1 ms1 : Nat) (hc : rmY.cells = mc1) (hs : rmY.slots = ms1) (hf : rmY.frames ≤ 95) (hlo : rmY.locals ≤ 2300) (hrm : cells + mc1 ≤ room_1.cells ∧ slots + ms1 ≤ room_1.slots) (hM : ∀ sz, MJ l D cs yX10_count wsX10_count rmY [.ref x, .int (xs (i + 1).toNatClampNeg)] sz w ok w' r mc1 ms1) (heq : r = b1) (hR : ∀ sz, MI l D cs yX11_count wsX11_count rm_X11_count [.ref mo, .int (xs (i + 1).toNatClampNeg)] sz rw rw1 b1) (H : Heap) (locs : List Loc) (ls : Array Slot) (hP : va_P D vwCl [w, rw, [oCell cs o v]].flatten H) (hD : va_D (va_A [] s.heap.size) [w, rw, [oCell cs o v]].flatten) (hS : va_S (va_A [] s.heap.size) s.heap H locs) (hl : lv_has ls 7 [(0, .ref b), (1, .ref x), (2, .ref mo), (3, .ref o), (4, .int i)]) (kk : ∀ (u : S) (v' : Nat → Int64) (H : Heap) (locs : List Loc) (ls : Array Slot), ok u → va_P D vwCl [w' u, rw1, [oCell cs o v']].flatten H → va_D (va_A [] s.heap.size) [w' u, rw1, [oCell cs o v']].flatten → va_S (va_A [] s.heap.size) s.heap H locs → lv_has ls 7 [(0, .ref b), (1, .ref x), (2, .ref mo), (3, .ref o), (4, .int i)] → W p l e room_1 s m av below meth c H locs (cells + mc1) (slots + ms1) Q (F0 m 2733 ls [])) : W p l e room_1 s m av below meth c H locs cells slots Q (F0 m 2708 ls []) := by
  obtain ⟨hx, hb, hr, hlk, hml, hown, hts, hK0, hG, hE⟩ := id C0
  refine lv_aload_n hx hb dL_law__2708 rfl (lv_at hl 1 rfl) ?_
  refine lv_aload_n hx hb dL_law__2709 rfl (lv_at hl 0 rfl) ?_
  refine lv_iload hx hb dL_law__2710 (lv_at hl 4 rfl) ?_
  refine lv_iconst (v := 1) hx hb dL_law__2712 (by decide) ?_
  refine lv_iadd hx hb dL_law__2713 ?_
  refine ow_scr C0 hX hbl hS h1 dL_law__2714 ?_
  refine ow_lJ (As := [.int (xs (i + 1).toNatClampNeg)]) (rest := []) C0 hN (hM H.size) (cwV 1 hts gLV_262 rfl hc hs (by decide +kernel) ⟨by show rmY.frames + 1 ≤ 2048; omega, by show 8 + (_ + 11) + rmY.locals ≤ 84000; omega⟩) 10 rfl hw0 hP hD hS rfl hl.1 rfl (Nat.le_of_ble_eq_true rfl) hrm dL_law__2715 (fun u H locs hok hP hD hS => ?_)
  refine lv_aload_n hx hb dL_law__2718 rfl (lv_at hl 2 rfl) ?_
  refine lv_aload_n hx hb dL_law__2719 rfl (lv_at hl 0 rfl) ?_
  refine lv_iload hx hb dL_law__2720 (lv_at hl 4 rfl) ?_
  refine lv_iconst (v := 1) hx hb dL_law__2722 (by decide) ?_
  refine lv_iadd hx hb dL_law__2723 ?_
  refine ow_scr C0 hX hbl hS h1 dL_law__2724 ?_
  refine ow_lR (As := [.int (xs (i + 1).toNatClampNeg)]) (rest := [.int r]) C0 (hR H.size) (cwV 1 hts gLV_265 rfl rfl rfl (by decide +kernel) ⟨(Nat.le_of_ble_eq_true rfl), (Nat.le_of_ble_eq_true rfl)⟩) 11 rfl hr0 hP hD hS rfl hl.1 rfl (Nat.le_of_ble_eq_true rfl) hrm dL_law__2725 (fun H locs hP hD hS => ?_)
  refine lv_icmp_eq (tgt := 2733) hx hb dL_law__2728 (by decide) (fun hc => ?_) (fun hc => absurd heq hc)
  exact kk u v H locs ls hok hP hD hS (lv_sub hl [0, 1, 2, 3, 4] rfl)

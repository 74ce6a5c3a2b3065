/-! PaneDays.undo, image, restore -/
abbrev qJ {S : Type} (D : va_G) (w : va_W) (w' : S → va_W) (ok : S → Prop) (r : Int32) (sz : Nat) : Array Value → State → Outcome → State → Prop := va_Qi (fun x (u : S) => x = r ∧ ok u) (fun u t => va_P D vwCl (w' u) t.heap ∧ va_D (va_A w sz) (w' u)) (va_A w sz)
abbrev MJ {S : Type} (l : Launch) (D : va_G) (cs : Nat → ClassId) (y : MethodName) (ws : List Cond) (rm : Room) (av : List Value) (sz : Nat) (w : va_W) (ok : S → Prop) (w' : S → va_W) (r : Int32) (mc ms : Nat) : Prop := Met l y ws rm (pN D cs av sz w) (qJ D w w' ok r sz) mc ms (va_A w sz)
abbrev imgA (cs : Nat → ClassId) (a : Nat) (IM : Nat → Option Nat) : Nat × va_E := (a, .inl (cs 5, 2, .inr (.inr (.inr (.inr IM)))))
section PDH
variable {p : Program} {l : Launch} {e : Env} {R : Room} {s : State} {m : MethodId} {av : Array Value} {below : List Frame} {meth : Method} {c : Code} {H : Heap} {locs : List Loc} {cells slots : Nat} {Q : State → Prop}
variable {ws : List Cond} {cc : ByteArray} {nL : Nat} {ret : Option FieldType} {own : String} {D : va_G} {cs : Nat → ClassId} {pc : Nat} {ls : Array Slot} {rest st0 : List Value} {w w0 w1 : va_W} {r : Int32} {mc ms : Nat}
theorem ow_retJ {S : Type} {w' : S → va_W} {ok : S → Prop} (C0 : Cx p s m meth c av ws cc nL (some .int) own D cs w0) (u : S) (hok : ok u) (hP : va_P D vwCl (w' u) H) (hD : va_D (va_A w0 s.heap.size) (w' u)) (hS : va_S (va_A w0 s.heap.size) s.heap H locs) (h1 : cells ≤ mc) (h2 : slots ≤ ms) (hdg : decode cc pc = .ok (.ireturn, 1)) :
    W p l e R s m av below meth c H locs cells slots (MQ below (qJ D w0 w' ok r s.heap.size) av s mc ms (va_A w0 s.heap.size)) (F0 m pc ls (.int r :: [])) := by
  obtain ⟨hx, hb, hr, hlk, hml, hown, hts, hK, hG, hE⟩ := id C0
  exact W.widen h1 h2 (W.iret hx hb hr (fun t ht hW => ⟨⟨r, u, rfl, ⟨rfl, hok⟩, by rw [ht]; exact hP, hD⟩, hS.F ht⟩) hS.2.2 hdg hlk)
/-- a constructor of a nest mate called, in segments -/
theorem ow_gmkN {S : Type} {y : MethodName} {wsY : List Cond} {rmY : Room} {b : Nat} {As : List Value} {sg sc sr : List va_W} {wc' : S → va_W} {idx n maxLY : Nat} {bytes : ByteArray} {mc1 ms1 : Nat} {host : String} (C0 : Cx p s m meth c av ws cc nL ret own D cs w0) (hN : gN s) (hM : MN l D cs y wsY rmY (.ref b :: As) H.size sc.flatten wc' mc1 ms1) (cw : va_CN R s av own idx y host bytes maxLY none wsY rmY mc1 ms1 n ∧ y.name = "<init>" ∧ (Cond.instanceMethod y).before av s = true)
    (hP : va_P D vwCl sg.flatten H) (hD : va_D (va_A w0 s.heap.size) sg.flatten) (hS : va_S (va_A w0 s.heap.size) s.heap H locs) (hp : (sc ++ sr).Perm sg)
    (hn : As.length = n) (hls : ls.size = nL) (hst : st0 = As.reverse ++ .ref b :: rest) (hrest : (rest.map fun v => v.category).sum ≤ 8) (hrm : cells + mc1 ≤ R.cells ∧ slots + ms1 ≤ R.slots) (hdg : decode cc pc = .ok (.invokespecial idx, 3))
    (kk : ∀ (P : S) (H1 : Heap) (locs1 : List Loc), va_P D vwCl (sr ++ [wc' P]).flatten H1 → va_D (va_A w0 s.heap.size) (sr ++ [wc' P]).flatten → va_S (va_A w0 s.heap.size) s.heap H1 locs1 → W p l e R s m av below meth c H1 locs1 (cells + mc1) (slots + ms1) Q (F0 m (pc + 3) ls rest)) :
    W p l e R s m av below meth c H locs cells slots Q (F0 m pc ls st0) := by
  obtain ⟨hx, hb, hr, hlk, hml, hown, hts, hK, hG, hE⟩ := id C0
  have hA : ∀ q, s.heap.size ≤ q → va_A w0 s.heap.size q := fun q h => Or.inr h
  have hPc := sg_cutP hP hp
  have hDc := sg_cutD hD hp
  have hFc := sg_free hD hS hA hp
  refine va_callv (va_runIN (As := As) (rest := rest) ⟨hx, hb, hml, hown, hts⟩ hM cw ⟨ow_blindN, fun U hU hW => ⟨rfl, by rw [hU], by rw [hU]; exact hPc, gK_warm hW hG, gN_warm hW hN, hDc.weaken (fun _ _ _ _ => trivial), by rw [hU]; exact sS.moved hW.alike ((hE.kept hS.2.1).narrow hFc)⟩⟩ rfl hn hls hst (lv_room hrest) hdg hrm) hS (fun q _ h => hFc q h) hFc (fun u t H1 locs1 ht hvm hw hB hz1 hk1 hS1 => ?_)
  obtain ⟨hP1, hD1⟩ := hB
  rw [ht] at hP1
  have e1 : [wc' u].flatten = wc' u := by simp
  obtain ⟨hP2, hD2⟩ := sg_back (sc' := [wc' u]) hP hD hS hA hp (List.Perm.refl _) hk1 (by rw [e1]; exact hP1) (by rw [e1]; exact hD1)
  exact kk u H1 locs1 hP2 hD2 hS1
end PDH
noncomputable abbrev sU (cs : Nat → ClassId) (a0 : Nat) (p0 : Nat → Nat) (i13 i14 : Int32) (v15 : Nat → Int32) (pp : Nat → Nat) (i2 : Int32) (B : Nat → Option Nat) (pn : Nat → Nat) (gn : GC) (Q : Nat → Nat → Nat) (G : Nat → GC) : List va_W := [wX10 cs a0 p0 i13 i14 v15, wS4 cs (p0 9) pp i2 B, wG cs (pp 0) pn gn, gPool cs B Q G]
theorem in_X10_undo_X10 : ∀ w ∈ u_ws RX10 TX10 16, w ∈ wsX10_undo := fun w h => List.mem_cons_of_mem _ (List.mem_append_left _ (List.mem_append_left _ (List.mem_append_right _ h)))
theorem in_X10_undo_X4 : ∀ w ∈ u_ws RX4 TX4 3, w ∈ wsX10_undo := fun w h => List.mem_cons_of_mem _ (List.mem_append_left _ (List.mem_append_right _ h))
abbrev rm_X10_undo : Room := { frames := 4, cells := 0, slots := 0, locals := 140 }
set_option maxHeartbeats 4000000 in
set_option maxRecDepth 100000 in
theorem c_X10_undo0 (l : Launch) (D : va_G) (cs : Nat → ClassId) (sz a0 : Nat) (p0 : Nat → Nat) (i13 i14 : Int32) (v15 : Nat → Int32) (pp : Nat → Nat) (B : Nat → Option Nat) (pn : Nat → Nat) (gn : GC) (Q : Nat → Nat → Nat) (G : Nat → GC) : MJ l D cs yX10_undo wsX10_undo rm_X10_undo [.ref a0] sz (sU cs a0 p0 i13 i14 v15 pp 0 B pn gn Q G).flatten (fun (_ : Unit) => True) (fun _ => (sU cs a0 p0 i13 i14 v15 pp 0 B pn gn Q G).flatten) (-1) 0 0 := by
  refine ow_enterN (cc := cX10_undo) (nL := 1) (ret := some .int) (by decide) rfl (Nat.le_of_ble_eq_true rfl) (fun p e s m below meth c ls H locs C0 hN hnm hP hD hS hA hl => ?_)
  obtain ⟨hx, hb, hr, hlk, hml, hown, hts, hK, hG, hE⟩ := id C0
  have hl : lv_has ls 1 [(0, .ref a0)] := hl
  refine lv_aload_n hx hb dX10_undo_0 rfl (lv_at hl 0 rfl) ?_
  refine va_get (D := D) (ci := 10) (v := .ref (p0 9)) (C := RX10) (T := TX10) (N := 16) hx hb hts in_X10_undo_X10 hown hK hP 0 rfl rfl 9 (by decide) (hts (.fieldLink RX10 63 "PaneDays" "past" "LPaneDays$Past;") (List.mem_of_getElem? (i := 1) rfl)) (fun _ h9 => h9) rfl dX10_undo_1 ?_
  refine va_get (D := D) (ci := 4) (v := .int 0) (C := RX4) (T := TX4) (N := 3) hx hb hts in_X10_undo_X4 hown hK hP 2 rfl rfl 2 (by decide) (hts (.fieldLink RX10 133 "PaneDays$Past" "works" "I") (List.mem_of_getElem? (i := 2) rfl)) (fun _ h9 => h9) rfl dX10_undo_4 ?_
  refine lv_if_ne (tgt := 12) hx hb dX10_undo_7 (by decide) (fun hc => absurd rfl hc) (fun hc => ?_)
  refine lv_iconst (v := -1) hx hb dX10_undo_10 (by decide) ?_
  exact ow_retJ C0 () trivial hP hD hS (Nat.le_refl _) (Nat.le_refl _) dX10_undo_11
set_option maxHeartbeats 4000000 in
set_option maxRecDepth 100000 in
theorem c_X10_undo1 (l : Launch) (D : va_G) (cs : Nat → ClassId) (sz a0 : Nat) (p0 : Nat → Nat) (i13 i14 : Int32) (v15 : Nat → Int32) (pp : Nat → Nat) (k : Nat) (hk : k < 8) (B : Nat → Option Nat) (b : Nat) (hB : B k = some b) (pn : Nat → Nat) (gn : GC) (Q : Nat → Nat → Nat) (G : Nat → GC) : MJ l D cs yX10_undo wsX10_undo rm_X10_undo [.ref a0] sz (sU cs a0 p0 i13 i14 v15 pp (nI (k + 1)) B pn gn Q G).flatten (fun (_ : Unit) => True) (fun _ => (sU cs a0 p0 i13 0 v15 pp (nI k) B pn (g_cp gn (G k)) Q G).flatten) (nI k) 0 0 := by
  refine ow_enterN (cc := cX10_undo) (nL := 1) (ret := some .int) (by decide) rfl (Nat.le_of_ble_eq_true rfl) (fun p e s m below meth c ls H locs C0 hN hnm hP hD hS hA hl => ?_)
  obtain ⟨hx, hb, hr, hlk, hml, hown, hts, hK, hG, hE⟩ := id C0
  have hl : lv_has ls 1 [(0, .ref a0)] := hl
  refine lv_aload_n hx hb dX10_undo_0 rfl (lv_at hl 0 rfl) ?_
  refine va_get (D := D) (ci := 10) (v := .ref (p0 9)) (C := RX10) (T := TX10) (N := 16) hx hb hts in_X10_undo_X10 hown hK hP 0 rfl rfl 9 (by decide) (hts (.fieldLink RX10 63 "PaneDays" "past" "LPaneDays$Past;") (List.mem_of_getElem? (i := 1) rfl)) (fun _ h9 => h9) rfl dX10_undo_1 ?_
  refine va_get (D := D) (ci := 4) (v := .int (nI (k + 1))) (C := RX4) (T := TX4) (N := 3) hx hb hts in_X10_undo_X4 hown hK hP 2 rfl rfl 2 (by decide) (hts (.fieldLink RX10 133 "PaneDays$Past" "works" "I") (List.mem_of_getElem? (i := 2) rfl)) (fun _ h9 => h9) rfl dX10_undo_4 ?_
  refine lv_if_ne (tgt := 12) hx hb dX10_undo_7 (by decide) (fun hc => ?_) (fun hc => absurd hc (nI_ne0 (by omega) (by omega)))
  refine lv_aload_n hx hb dX10_undo_12 rfl (lv_at hl 0 rfl) ?_
  refine va_get (D := D) (ci := 10) (v := .ref (p0 9)) (C := RX10) (T := TX10) (N := 16) hx hb hts in_X10_undo_X10 hown hK hP 0 rfl rfl 9 (by decide) (hts (.fieldLink RX10 63 "PaneDays" "past" "LPaneDays$Past;") (List.mem_of_getElem? (i := 1) rfl)) (fun _ h9 => h9) rfl dX10_undo_13 ?_
  refine ow_gVO (As := []) (rest := []) (sg := sU cs a0 p0 i13 i14 v15 pp (nI (k + 1)) B pn gn Q G) (sc := sK4 cs (p0 9) pp (nI (k + 1)) B pn gn Q G) (sr := [wX10 cs a0 p0 i13 i14 v15]) (sc' := fun (_ : Unit) => sK4 cs (p0 9) pp (nI k) B pn (g_cp gn (G k)) Q G) (sf := fun (_ : Unit) => sU cs a0 p0 i13 i14 v15 pp (nI k) B pn (g_cp gn (G k)) Q G) C0 hN (c_X4_goBack l D cs H.size (p0 9) pp k hk B b hB pn gn Q G) (cwV 0 hts gX10_undo_X4_goBack rfl rfl rfl (by decide +kernel) ⟨Nat.le_of_ble_eq_true rfl, Nat.le_of_ble_eq_true rfl⟩) 4 rfl rfl hP hD hS (sg_permL [1, 2, 3] [0] 4 rfl (by decide) rfl rfl) (fun _ => List.Perm.refl _) rfl hl.1 rfl (Nat.le_of_ble_eq_true rfl) ⟨Nat.le_refl _, Nat.le_refl _⟩ dX10_undo_16 (fun _ H locs hok hP hD hS => ?_)
  refine lv_aload_n hx hb dX10_undo_19 rfl (lv_at hl 0 rfl) ?_
  refine lv_iconst (v := 0) hx hb dX10_undo_20 (by decide) ?_
  refine va_put (D := D) (ci := 10) (v := .int 0) (ty := .int) (C := RX10) (T := TX10) (N := 16) hx hb hts in_X10_undo_X10 tyX10 tyX10_ok nmX10 hown hK hP hD hS 0 rfl rfl 14 (by decide) (hts (.fieldLink RX10 126 "PaneDays" "refusedSteps" "I") (List.mem_of_getElem? (i := 3) rfl)) (fun _ h9 => h9) rfl (by decide +kernel) rfl rfl (Nat.le_of_ble_eq_true rfl) dX10_undo_21 (fun H locs (hP : va_P D vwCl (sU cs a0 p0 i13 0 v15 pp (nI k) B pn (g_cp gn (G k)) Q G).flatten H) (hD : va_D _ (sU cs a0 p0 i13 0 v15 pp (nI k) B pn (g_cp gn (G k)) Q G).flatten) hS => ?_)
  refine lv_aload_n hx hb dX10_undo_24 rfl (lv_at hl 0 rfl) ?_
  refine va_get (D := D) (ci := 10) (v := .ref (p0 9)) (C := RX10) (T := TX10) (N := 16) hx hb hts in_X10_undo_X10 hown hK hP 0 rfl rfl 9 (by decide) (hts (.fieldLink RX10 63 "PaneDays" "past" "LPaneDays$Past;") (List.mem_of_getElem? (i := 1) rfl)) (fun _ h9 => h9) rfl dX10_undo_25 ?_
  refine va_get (D := D) (ci := 4) (v := .int (nI k)) (C := RX4) (T := TX4) (N := 3) hx hb hts in_X10_undo_X4 hown hK hP 2 rfl rfl 2 (by decide) (hts (.fieldLink RX10 133 "PaneDays$Past" "works" "I") (List.mem_of_getElem? (i := 2) rfl)) (fun _ h9 => h9) rfl dX10_undo_28 ?_
  exact ow_retJ C0 () trivial hP hD hS (Nat.le_refl _) (Nat.le_refl _) dX10_undo_31
theorem in_X10_image_X10 : ∀ w ∈ u_ws RX10 TX10 16, w ∈ wsX10_image := fun w h => List.mem_cons_of_mem _ (List.mem_append_left _ (List.mem_append_left _ (List.mem_append_right _ h)))
theorem in_X10_image_X4 : ∀ w ∈ u_ws RX4 TX4 3, w ∈ wsX10_image := fun w h => List.mem_cons_of_mem _ (List.mem_append_left _ (List.mem_append_right _ h))
theorem in_X10_restore_X10 : ∀ w ∈ u_ws RX10 TX10 16, w ∈ wsX10_restore := fun w h => List.mem_cons_of_mem _ (List.mem_append_left _ (List.mem_append_left _ (List.mem_append_right _ h)))
theorem in_X10_restore_X4 : ∀ w ∈ u_ws RX4 TX4 3, w ∈ wsX10_restore := fun w h => List.mem_cons_of_mem _ (List.mem_append_left _ (List.mem_append_right _ h))
abbrev rm_X10_image (c s : Nat) : Room := { frames := 4, cells := c, slots := s, locals := 142 }
set_option maxHeartbeats 4000000 in
set_option maxRecDepth 100000 in
theorem c_X10_image2 (l : Launch) (D : va_G) (cs : Nat → ClassId) (sz a0 : Nat) (p0 : Nat → Nat) (i14 : Int32) (v15 : Nat → Int32) : MJ l D cs yX10_image wsX10_image (rm_X10_image 0 0) [.ref a0] sz [wX10 cs a0 p0 2 i14 v15].flatten (fun (_ : Unit) => True) (fun _ => [wX10 cs a0 p0 2 i14 v15].flatten) (-1) 0 0 := by
  refine ow_enterN (cc := cX10_image) (nL := 2) (ret := some .int) (by decide) rfl (Nat.le_of_ble_eq_true rfl) (fun p e s m below meth c ls H locs C0 hN hnm hP hD hS hA hl => ?_)
  obtain ⟨hx, hb, hr, hlk, hml, hown, hts, hK, hG, hE⟩ := id C0
  have hl : lv_has ls 2 [(0, .ref a0)] := hl
  refine lv_aload_n hx hb dX10_image_0 rfl (lv_at hl 0 rfl) ?_
  refine va_get (D := D) (ci := 10) (v := .int 2) (C := RX10) (T := TX10) (N := 16) hx hb hts in_X10_image_X10 hown hK hP 0 rfl rfl 13 (by decide) (hts (.fieldLink RX10 123 "PaneDays" "imageCount" "I") (List.mem_of_getElem? (i := 1) rfl)) (fun _ h9 => h9) rfl dX10_image_1 ?_
  refine lv_iconst (v := 2) hx hb dX10_image_4 (by decide) ?_
  refine lv_icmp_lt (tgt := 10) hx hb dX10_image_5 (by decide) (fun hc => absurd hc (by decide)) (fun hc => ?_)
  refine lv_iconst (v := -1) hx hb dX10_image_8 (by decide) ?_
  exact ow_retJ C0 () trivial hP hD hS (Nat.le_refl _) (Nat.le_refl _) dX10_image_9
/-- object, images, an image (a1), the past -/
noncomputable abbrev sI (cs : Nat → ClassId) (a0 : Nat) (p0 : Nat → Nat) (i13 i14 : Int32) (v15 : Nat → Int32) (IM : Nat → Option Nat) (a1 : Nat) (p1 : Nat → Nat) (j2 : Int32) (B1 : Nat → Option Nat) (pm : Nat → Nat) (gm : GC) (Q1 : Nat → Nat → Nat) (G1 : Nat → GC) (pp : Nat → Nat) (i2 : Int32) (B : Nat → Option Nat) (pn : Nat → Nat) (gn : GC) (Q : Nat → Nat → Nat) (G : Nat → GC) : List va_W := [wX10 cs a0 p0 i13 i14 v15, [imgA cs (p0 12) IM], wS4 cs a1 p1 j2 B1, wG cs (p1 0) pm gm, gPool cs B1 Q1 G1, wS4 cs (p0 9) pp i2 B, wG cs (pp 0) pn gn, gPool cs B Q G]
section IMG
variable {p : Program} {l : Launch} {e : Env} {s : State} {m : MethodId} {av : Array Value} {below : List Frame} {meth : Method} {c : Code} {D : va_G} {cs : Nat → ClassId} {w0 : va_W}
/-- the end of image, from the call of copy on -/
theorem w_X10_image_42 (C0 : Cx p s m meth c av wsX10_image cX10_image 2 (some .int) RX10 D cs w0) (hN : gN s) (a0 : Nat) (p0 : Nat → Nat) (j : Nat) (hj : j < 2) (i14 : Int32) (v15 : Nat → Int32) (IM : Nat → Option Nat) (a1 : Nat) (p1 : Nat → Nat) (j2 : Int32) (B1 : Nat → Option Nat) (pm : Nat → Nat) (gm : GC) (Q1 : Nat → Nat → Nat) (G1 : Nat → GC) (pp : Nat → Nat) (k : Nat) (hk : k ≤ 8) (B : Nat → Option Nat) (hB : ∀ i, i < k → (B i).isSome = true) (pn : Nat → Nat) (gn : GC) (Q : Nat → Nat → Nat) (G : Nat → GC) {mc ms : Nat} {cells slots : Nat} (hc : cells + 4 * nulN B1 k ≤ mc) (hs : slots + 2689 * nulN B1 k ≤ ms) {S : Type} {ok : S → Prop} {w' : S → va_W} (fin : (Nat → Option Nat) × (Nat → Nat → Nat) × (Nat → GC) → S) (hok : ∀ u, cpOk B1 u.1 G1 G u.2.2 k → ok (fin u)) (hw' : ∀ u, w' (fin u) = (sI cs a0 p0 (nI j + 1) i14 v15 IM a1 p1 (nI k) u.1 pm (g_cp gm gn) u.2.1 u.2.2 pp (nI k) B pn gn Q G).flatten)
    (H : Heap) (locs : List Loc) (ls : Array Slot) (hP : va_P D vwCl (sI cs a0 p0 (nI j) i14 v15 IM a1 p1 j2 B1 pm gm Q1 G1 pp (nI k) B pn gn Q G).flatten H) (hD : va_D (va_A w0 s.heap.size) (sI cs a0 p0 (nI j) i14 v15 IM a1 p1 j2 B1 pm gm Q1 G1 pp (nI k) B pn gn Q G).flatten) (hS : va_S (va_A w0 s.heap.size) s.heap H locs) (hl : lv_has ls 2 [(0, .ref a0), (1, .ref a1)]) :
    W p l e (rm_X10_image mc ms) s m av below meth c H locs cells slots (MQ below (qJ D w0 w' ok (nI j + 1) s.heap.size) av s mc ms (va_A w0 s.heap.size)) (F0 m 42 ls []) := by
  obtain ⟨hx, hb, hr, hlk, hml, hown, hts, hK, hG, hE⟩ := id C0
  refine lv_aload_n hx hb dX10_image_42 rfl (lv_at hl 1 rfl) ?_
  refine lv_aload_n hx hb dX10_image_43 rfl (lv_at hl 0 rfl) ?_
  refine va_get (D := D) (ci := 10) (v := .ref (p0 9)) (C := RX10) (T := TX10) (N := 16) hx hb hts in_X10_image_X10 hown hK hP 0 rfl rfl 9 (by decide) (hts (.fieldLink RX10 63 "PaneDays" "past" "LPaneDays$Past;") (List.mem_of_getElem? (i := 6) rfl)) (fun _ h9 => h9) rfl dX10_image_44 ?_
  refine ow_gVO (As := [.ref (p0 9)]) (rest := []) (sg := sI cs a0 p0 (nI j) i14 v15 IM a1 p1 j2 B1 pm gm Q1 G1 pp (nI k) B pn gn Q G) (sc := sC4 cs a1 p1 j2 B1 pm gm Q1 G1 (p0 9) pp (nI k) B pn gn Q G) (sr := [wX10 cs a0 p0 (nI j) i14 v15, [imgA cs (p0 12) IM]]) (sc' := fun (u : (Nat → Option Nat) × (Nat → Nat → Nat) × (Nat → GC)) => sC4 cs a1 p1 (nI k) u.1 pm (g_cp gm gn) u.2.1 u.2.2 (p0 9) pp (nI k) B pn gn Q G) (sf := fun u => sI cs a0 p0 (nI j) i14 v15 IM a1 p1 (nI k) u.1 pm (g_cp gm gn) u.2.1 u.2.2 pp (nI k) B pn gn Q G) C0 hN (c_X4_copy l D cs H.size a1 p1 j2 B1 pm gm Q1 G1 (p0 9) pp k hk B hB pn gn Q G) (cwV 1 hts gX10_image_X4_copy rfl rfl rfl (by decide +kernel) ⟨Nat.le_of_ble_eq_true rfl, Nat.le_of_ble_eq_true rfl⟩) 4 rfl rfl hP hD hS (sg_permL [2, 3, 4, 5, 6, 7] [0, 1] 8 rfl (by decide) rfl rfl) (fun _ => List.Perm.refl _) rfl hl.1 rfl (Nat.le_of_ble_eq_true rfl) ⟨hc, hs⟩ dX10_image_47 (fun u H locs hok1 hP hD hS => ?_)
  refine lv_aload_n hx hb dX10_image_50 rfl (lv_at hl 0 rfl) ?_
  refine lv_dup hx hb dX10_image_51 rfl ?_
  refine va_get (D := D) (ci := 10) (v := .int (nI j)) (C := RX10) (T := TX10) (N := 16) hx hb hts in_X10_image_X10 hown hK hP 0 rfl rfl 13 (by decide) (hts (.fieldLink RX10 123 "PaneDays" "imageCount" "I") (List.mem_of_getElem? (i := 1) rfl)) (fun _ h9 => h9) rfl dX10_image_52 ?_
  refine lv_iconst (v := 1) hx hb dX10_image_55 (by decide) ?_
  refine lv_iadd hx hb dX10_image_56 ?_
  refine va_put (D := D) (ci := 10) (v := .int (nI j + 1)) (ty := .int) (C := RX10) (T := TX10) (N := 16) hx hb hts in_X10_image_X10 tyX10 tyX10_ok nmX10 hown hK hP hD hS 0 rfl rfl 13 (by decide) (hts (.fieldLink RX10 123 "PaneDays" "imageCount" "I") (List.mem_of_getElem? (i := 1) rfl)) (fun _ h9 => h9) rfl (by decide +kernel) rfl rfl (Nat.le_of_ble_eq_true rfl) dX10_image_57 (fun H locs (hP : va_P D vwCl (sI cs a0 p0 (nI j + 1) i14 v15 IM a1 p1 (nI k) u.1 pm (g_cp gm gn) u.2.1 u.2.2 pp (nI k) B pn gn Q G).flatten H) (hD : va_D _ (sI cs a0 p0 (nI j + 1) i14 v15 IM a1 p1 (nI k) u.1 pm (g_cp gm gn) u.2.1 u.2.2 pp (nI k) B pn gn Q G).flatten) hS => ?_)
  refine lv_aload_n hx hb dX10_image_60 rfl (lv_at hl 0 rfl) ?_
  refine va_get (D := D) (ci := 10) (v := .int (nI j + 1)) (C := RX10) (T := TX10) (N := 16) hx hb hts in_X10_image_X10 hown hK hP 0 rfl rfl 13 (by decide) (hts (.fieldLink RX10 123 "PaneDays" "imageCount" "I") (List.mem_of_getElem? (i := 1) rfl)) (fun _ h9 => h9) rfl dX10_image_61 ?_
  exact ow_retJ C0 (fin u) (hok u hok1) (by rw [hw']; exact hP) (by rw [hw']; exact hD) hS hc hs dX10_image_64
end IMG
set_option maxHeartbeats 4000000 in
set_option maxRecDepth 100000 in
theorem c_X10_imageS (l : Launch) (D : va_G) (cs : Nat → ClassId) (sz a0 : Nat) (p0 : Nat → Nat) (j : Nat) (hj : j < 2) (i14 : Int32) (v15 : Nat → Int32) (IM : Nat → Option Nat) (a1 : Nat) (hIM : IM j = some a1) (p1 : Nat → Nat) (j2 : Int32) (B1 : Nat → Option Nat) (pm : Nat → Nat) (gm : GC) (Q1 : Nat → Nat → Nat) (G1 : Nat → GC) (pp : Nat → Nat) (k : Nat) (hk : k ≤ 8) (B : Nat → Option Nat) (hB : ∀ i, i < k → (B i).isSome = true) (pn : Nat → Nat) (gn : GC) (Q : Nat → Nat → Nat) (G : Nat → GC) :
    MJ l D cs yX10_image wsX10_image (rm_X10_image (4 * nulN B1 k) (2689 * nulN B1 k)) [.ref a0] sz (sI cs a0 p0 (nI j) i14 v15 IM a1 p1 j2 B1 pm gm Q1 G1 pp (nI k) B pn gn Q G).flatten (fun (u : (Nat → Option Nat) × (Nat → Nat → Nat) × (Nat → GC)) => cpOk B1 u.1 G1 G u.2.2 k) (fun u => (sI cs a0 p0 (nI j + 1) i14 v15 IM a1 p1 (nI k) u.1 pm (g_cp gm gn) u.2.1 u.2.2 pp (nI k) B pn gn Q G).flatten) (nI j + 1) (4 * nulN B1 k) (2689 * nulN B1 k) := by
  refine ow_enterN (cc := cX10_image) (nL := 2) (ret := some .int) (by decide) rfl (Nat.le_of_ble_eq_true rfl) (fun p e s m below meth c ls H locs C0 hN hnm hP hD hS hA hl => ?_)
  obtain ⟨hx, hb, hr, hlk, hml, hown, hts, hK, hG, hE⟩ := id C0
  have hl : lv_has ls 2 [(0, .ref a0)] := hl
  refine lv_aload_n hx hb dX10_image_0 rfl (lv_at hl 0 rfl) ?_
  refine va_get (D := D) (ci := 10) (v := .int (nI j)) (C := RX10) (T := TX10) (N := 16) hx hb hts in_X10_image_X10 hown hK hP 0 rfl rfl 13 (by decide) (hts (.fieldLink RX10 123 "PaneDays" "imageCount" "I") (List.mem_of_getElem? (i := 1) rfl)) (fun _ h9 => h9) rfl dX10_image_1 ?_
  refine lv_iconst (v := 2) hx hb dX10_image_4 (by decide) ?_
  refine lv_icmp_lt (tgt := 10) hx hb dX10_image_5 (by decide) (fun hc => ?_) (fun hc => absurd (nI_lt (b := 2) hj (by decide)) hc)
  refine lv_aload_n hx hb dX10_image_10 rfl (lv_at hl 0 rfl) ?_
  refine va_get (D := D) (ci := 10) (v := .ref (p0 12)) (C := RX10) (T := TX10) (N := 16) hx hb hts in_X10_image_X10 hown hK hP 0 rfl rfl 12 (by decide) (hts (.fieldLink RX10 87 "PaneDays" "images" "[LPaneDays$Past;") (List.mem_of_getElem? (i := 2) rfl)) (fun _ h9 => h9) rfl dX10_image_11 ?_
  refine lv_aload_n hx hb dX10_image_14 rfl (lv_at hl 0 rfl) ?_
  refine va_get (D := D) (ci := 10) (v := .int (nI j)) (C := RX10) (T := TX10) (N := 16) hx hb hts in_X10_image_X10 hown hK hP 0 rfl rfl 13 (by decide) (hts (.fieldLink RX10 123 "PaneDays" "imageCount" "I") (List.mem_of_getElem? (i := 1) rfl)) (fun _ h9 => h9) rfl dX10_image_15 ?_
  refine va_aldq hx hb hK hP 2 5 rfl rfl (vp_in_nI hj (by decide)) dX10_image_18 ?_
  rw [nI_clamp (by omega), hIM]
  refine lv_astore_n (lv' := [(1, .ref a1), (0, .ref a0)]) hx hb dX10_image_19 rfl hl (by decide) rfl (fun ls hl => ?_)
  refine lv_aload_n hx hb dX10_image_20 rfl (lv_at hl 0 rfl) ?_
  refine lv_ifnonnull (tgt := 42) hx hb dX10_image_21 (by decide) ?_
  exact w_X10_image_42 C0 hN a0 p0 j hj i14 v15 IM a1 p1 j2 B1 pm gm Q1 G1 pp k hk B hB pn gn Q G (by omega) (by omega) (fun u => u) (fun _ h => h) (fun _ => rfl) H locs ls hP hD hS (lv_sub hl [1, 0] rfl)

/-! Past: slots made when first wanted -/
abbrev GC : Type := Int32 × Int32 × Int32 × Int32 × Int32 × (Nat → Int32) × (Nat → Int32) × (Nat → Int32)
abbrev wG (cs : Nat → ClassId) (a : Nat) (p : Nat → Nat) (g : GC) : va_W := wX2 cs a p g.1 g.2.1 g.2.2.1 g.2.2.2.1 g.2.2.2.2.1 g.2.2.2.2.2.1 g.2.2.2.2.2.2.1 g.2.2.2.2.2.2.2
/-- what g0 holds when g1 was copied into it -/
def g_cp (g0 g1 : GC) : GC := (g1.1, g1.2.1, g1.2.2.1, g1.2.2.2.1, g1.2.2.2.2.1, va_cpy g1.2.2.2.2.2.1 g0.2.2.2.2.2.1 0 0 2400, va_cpy g1.2.2.2.2.2.2.1 g0.2.2.2.2.2.2.1 0 0 80, va_cpy g1.2.2.2.2.2.2.2 g0.2.2.2.2.2.2.2 0 0 201)
def g_0 : GC := (0, 0, 0, 0, 0, fun _ => 0, fun _ => 0, fun _ => 0)
theorem f_copy (g0 g1 : GC) : f_X2_copy g0.1 g0.2.1 g0.2.2.1 g0.2.2.2.1 g0.2.2.2.2.1 g0.2.2.2.2.2.1 g0.2.2.2.2.2.2.1 g0.2.2.2.2.2.2.2 g1.1 g1.2.1 g1.2.2.1 g1.2.2.2.1 g1.2.2.2.2.1 g1.2.2.2.2.2.1 g1.2.2.2.2.2.2.1 g1.2.2.2.2.2.2.2 = some (g_cp g0 g1) := by
  rw [f_X2_copy, cy, if_pos (by decide), cy, if_pos (by decide), cy, if_pos (by decide)]
  rfl
theorem c_cp (l : Launch) (D : va_G) (cs : Nat → ClassId) (sz a0 : Nat) (p0 : Nat → Nat) (g0 : GC) (a1 : Nat) (p1 : Nat → Nat) (g1 : GC) : MV l D cs yX2_copy wsX2_copy rm_X2_copy [.ref a0, .ref a1] sz (wG cs a0 p0 g0 ++ wG cs a1 p1 g1) (wG cs a0 p0 (g_cp g0 g1) ++ wG cs a1 p1 g1) :=
  c_X2_copy l D cs sz a0 p0 _ _ _ _ _ _ _ _ a1 p1 _ _ _ _ _ _ _ _ (g_cp g0 g1) (f_copy g0 g1)
abbrev bArr (cs : Nat → ClassId) (a : Nat) (B : Nat → Option Nat) : Nat × va_E := (a, .inl (cs 4, 8, .inr (.inr (.inr (.inr B)))))
def pWrd (cs : Nat → ClassId) (B : Nat → Option Nat) (Q : Nat → Nat → Nat) (G : Nat → GC) (i : Nat) : va_W := match B i with
  | none => []
  | some b => wG cs b (Q i) (G i)
theorem gPool_ex (cs : Nat → ClassId) (B : Nat → Option Nat) (Q : Nat → Nat → Nat) (G : Nat → GC) : ∃ w : va_W, w = (List.range 8).flatMap (pWrd cs B Q G) := ⟨_, rfl⟩
/-- the slots' cells; not to be unfolded by the machine -/
noncomputable def gPool (cs : Nat → ClassId) (B : Nat → Option Nat) (Q : Nat → Nat → Nat) (G : Nat → GC) : va_W := Classical.choose (gPool_ex cs B Q G)
theorem gPool_eq (cs : Nat → ClassId) (B : Nat → Option Nat) (Q : Nat → Nat → Nat) (G : Nat → GC) : gPool cs B Q G = (List.range 8).flatMap (pWrd cs B Q G) := Classical.choose_spec (gPool_ex cs B Q G)
theorem gPoolR_ex (cs : Nat → ClassId) (B : Nat → Option Nat) (Q : Nat → Nat → Nat) (G : Nat → GC) (k : Nat) : ∃ w : va_W, w = ((List.range 8).erase k).flatMap (pWrd cs B Q G) := ⟨_, rfl⟩
noncomputable def gPoolR (cs : Nat → ClassId) (B : Nat → Option Nat) (Q : Nat → Nat → Nat) (G : Nat → GC) (k : Nat) : va_W := Classical.choose (gPoolR_ex cs B Q G k)
theorem gPoolR_eq (cs : Nat → ClassId) (B : Nat → Option Nat) (Q : Nat → Nat → Nat) (G : Nat → GC) (k : Nat) : gPoolR cs B Q G k = ((List.range 8).erase k).flatMap (pWrd cs B Q G) := Classical.choose_spec (gPoolR_ex cs B Q G k)
theorem gp_split {cs : Nat → ClassId} {B : Nat → Option Nat} {Q : Nat → Nat → Nat} {G : Nat → GC} {k : Nat} (hk : k < 8) : (gPool cs B Q G).Perm (pWrd cs B Q G k ++ gPoolR cs B Q G k) := by
  rw [gPool_eq, gPoolR_eq]
  have h := (List.perm_cons_erase (List.mem_range.mpr hk)).flatMap_right (pWrd cs B Q G)
  rw [List.flatMap_cons] at h
  exact h
theorem gp_rest {cs : Nat → ClassId} {B B' : Nat → Option Nat} {Q Q' : Nat → Nat → Nat} {G G' : Nat → GC} {k : Nat} (h : ∀ j, j ≠ k → B' j = B j ∧ Q' j = Q j ∧ G' j = G j) : gPoolR cs B' Q' G' k = gPoolR cs B Q G k := by
  rw [gPoolR_eq, gPoolR_eq]
  have e : ∀ i ∈ (List.range 8).erase k, pWrd cs B' Q' G' i = pWrd cs B Q G i := by
    intro i hi
    have hne : i ≠ k := ((List.Nodup.mem_erase_iff List.nodup_range).mp hi).1
    obtain ⟨h1, h2, h3⟩ := h i hne
    simp only [pWrd, h1, h2, h3]
  rw [List.flatMap_def, List.flatMap_def, List.map_congr_left e]
/-- the slot k there: its cells and the others' -/
theorem gp_take {cs : Nat → ClassId} {B : Nat → Option Nat} {Q : Nat → Nat → Nat} {G : Nat → GC} {k b : Nat} (hk : k < 8) (hb : B k = some b) : (gPool cs B Q G).Perm (wG cs b (Q k) (G k) ++ gPoolR cs B Q G k) := by
  have h := gp_split (cs := cs) (B := B) (Q := Q) (G := G) hk
  rw [show pWrd cs B Q G k = wG cs b (Q k) (G k) by simp only [pWrd, hb]] at h
  exact h
/-- put back with other contents, or put in anew -/
theorem gp_put {cs : Nat → ClassId} {B : Nat → Option Nat} {Q : Nat → Nat → Nat} {G : Nat → GC} {k b : Nat} {q : Nat → Nat} {g : GC} (hk : k < 8) : (gPool cs (va_up B k (some b)) (va_up Q k q) (va_up G k g)).Perm (wG cs b q g ++ gPoolR cs B Q G k) := by
  have h := gp_take (cs := cs) (B := va_up B k (some b)) (Q := va_up Q k q) (G := va_up G k g) (b := b) hk (va_up_self _ _ _)
  rw [va_up_self, va_up_self, gp_rest (B := B) (Q := Q) (G := G) (fun j hj => ⟨va_up_ne _ _ hj, va_up_ne _ _ hj, va_up_ne _ _ hj⟩)] at h
  exact h
theorem gp_none {cs : Nat → ClassId} {B : Nat → Option Nat} {Q : Nat → Nat → Nat} {G : Nat → GC} {k : Nat} (hk : k < 8) (hb : B k = none) : (gPool cs B Q G).Perm (gPoolR cs B Q G k) := by
  have h := gp_split (cs := cs) (B := B) (Q := Q) (G := G) hk
  rw [show pWrd cs B Q G k = [] by simp only [pWrd, hb], List.nil_append] at h
  exact h
/-- an answer that is a cell -/
abbrev qR {S : Type} (D : va_G) (w : va_W) (w' : S → Nat → va_W) (ok : S → Nat → Prop) (sz : Nat) : Array Value → State → Outcome → State → Prop := va_Qr (fun (_ : S) => True) (fun u ra t => ok u ra ∧ va_P D vwCl (w' u ra) t.heap ∧ va_D (va_A w sz) (w' u ra)) (va_A w sz)
abbrev MR {S : Type} (l : Launch) (D : va_G) (cs : Nat → ClassId) (y : MethodName) (ws : List Cond) (rm : Room) (av : List Value) (sz : Nat) (w : va_W) (w' : S → Nat → va_W) (ok : S → Nat → Prop) (mc ms : Nat) : Prop := Met l y ws rm (pN D cs av sz w) (qR D w w' ok sz) mc ms (va_A w sz)
abbrev wS4 (cs : Nat → ClassId) (a0 : Nat) (p0 : Nat → Nat) (i2 : Int32) (B : Nat → Option Nat) : va_W := [(a0, .inr (4, [.ref (p0 0), .ref (p0 1), .int i2])), bArr cs (p0 1) B]
theorem in_X4_slot_X4 : ∀ w ∈ u_ws RX4 TX4 3, w ∈ wsX4_slot := fun w h => List.mem_cons_of_mem _ (List.mem_append_left _ (List.mem_append_right _ h))
theorem in_X4_slot_X2 : ∀ w ∈ u_ws RX2 TX2 8, w ∈ wsX4_slot := fun w h => List.mem_cons_of_mem _ (List.mem_append_right _ h)
abbrev rm_X4_slot0 : Room := { frames := 2, cells := 0, slots := 0, locals := 32 }
abbrev rm_X4_slot1 : Room := { frames := 2, cells := 4, slots := 2689, locals := 32 }
set_option maxHeartbeats 4000000 in
set_option maxRecDepth 100000 in
theorem c_X4_slot0 (l : Launch) (D : va_G) (cs : Nat → ClassId) (sz a0 : Nat) (p0 : Nat → Nat) (i2 : Int32) (B : Nat → Option Nat) (x1 : Int32) (b : Nat) (hin : vp_in x1 8) (hB : B x1.toNatClampNeg = some b) : MR l D cs yX4_slot wsX4_slot rm_X4_slot0 [.ref a0, .int x1] sz (wS4 cs a0 p0 i2 B) (fun (_ : Unit) _ => wS4 cs a0 p0 i2 B) (fun _ ra => ra = b) 0 0 := by
  refine ow_enterN (cc := cX4_slot) (nL := 3) (ret := some (.object "PaneDays$Glass")) (by decide) rfl (Nat.le_of_ble_eq_true rfl) (fun p e s m below meth c ls H locs C0 hN hnm hP hD hS hA hl => ?_)
  obtain ⟨hx, hb, hr, hlk, hml, hown, hts, hK, hG, hE⟩ := id C0
  have hl : lv_has ls 3 [(0, .ref a0), (1, .int x1)] := hl
  refine lv_aload_n hx hb dX4_slot_0 rfl (lv_at hl 0 rfl) ?_
  refine va_get (D := D) (ci := 4) (v := .ref (p0 1)) (C := RX4) (T := TX4) (N := 3) hx hb hts in_X4_slot_X4 hown hK hP 0 rfl rfl 1 (by decide) (hts (.fieldLink RX4 18 "PaneDays$Past" "before" "[LPaneDays$Glass;") (List.mem_of_getElem? (i := 1) rfl)) (fun _ h9 => h9) rfl dX4_slot_1 ?_
  refine lv_iload_n hx hb dX4_slot_4 rfl (lv_at hl 1 rfl) ?_
  refine va_aldq hx hb hK hP 1 4 rfl rfl hin dX4_slot_5 ?_
  rw [hB]
  refine lv_astore_n (lv' := [(2, .ref b), (0, .ref a0), (1, .int x1)]) hx hb dX4_slot_6 rfl hl (by decide) rfl (fun ls hl => ?_)
  refine lv_aload_n hx hb dX4_slot_7 rfl (lv_at hl 0 rfl) ?_
  refine lv_ifnonnull (tgt := 26) hx hb dX4_slot_8 (by decide) ?_
  refine lv_aload_n hx hb dX4_slot_26 rfl (lv_at hl 0 rfl) ?_
  exact W.aret hx hb hr (Or.inl ⟨_, rfl⟩) (Or.inr ⟨b, rfl⟩) (fun t ht hW => ⟨⟨(), b, rfl, trivial, rfl, by rw [ht]; exact hP, hD⟩, hS.F ht⟩) hS.2.2 dX4_slot_27 hlk
set_option maxHeartbeats 4000000 in
set_option maxRecDepth 100000 in
theorem c_X4_slot1 (l : Launch) (D : va_G) (cs : Nat → ClassId) (sz a0 : Nat) (p0 : Nat → Nat) (i2 : Int32) (B : Nat → Option Nat) (x1 : Int32) (hin : vp_in x1 8) (hB : B x1.toNatClampNeg = none) : MR l D cs yX4_slot wsX4_slot rm_X4_slot1 [.ref a0, .int x1] sz (wS4 cs a0 p0 i2 B) (fun (q : Nat → Nat) ra => wS4 cs a0 p0 i2 (va_up B x1.toNatClampNeg (some ra)) ++ wG cs ra q g_0) (fun _ _ => True) 4 2689 := by
  refine ow_enterN (cc := cX4_slot) (nL := 3) (ret := some (.object "PaneDays$Glass")) (by decide) rfl (Nat.le_of_ble_eq_true rfl) (fun p e s m below meth c ls H locs C0 hN hnm hP hD hS hA hl => ?_)
  obtain ⟨hx, hb, hr, hlk, hml, hown, hts, hK, hG, hE⟩ := id C0
  have hl : lv_has ls 3 [(0, .ref a0), (1, .int x1)] := hl
  refine lv_aload_n hx hb dX4_slot_0 rfl (lv_at hl 0 rfl) ?_
  refine va_get (D := D) (ci := 4) (v := .ref (p0 1)) (C := RX4) (T := TX4) (N := 3) hx hb hts in_X4_slot_X4 hown hK hP 0 rfl rfl 1 (by decide) (hts (.fieldLink RX4 18 "PaneDays$Past" "before" "[LPaneDays$Glass;") (List.mem_of_getElem? (i := 1) rfl)) (fun _ h9 => h9) rfl dX4_slot_1 ?_
  refine lv_iload_n hx hb dX4_slot_4 rfl (lv_at hl 1 rfl) ?_
  refine va_aldq hx hb hK hP 1 4 rfl rfl hin dX4_slot_5 ?_
  rw [hB]
  refine lv_astore_nN (lv' := [(2, .null), (0, .ref a0), (1, .int x1)]) hx hb dX4_slot_6 rfl hl (by decide) rfl (fun ls hl => ?_)
  refine lv_aload_nN hx hb dX4_slot_7 rfl (lv_at hl 0 rfl) ?_
  refine lv_ifnonnullN hx hb dX4_slot_8 ?_
  refine va_new (D := D) (ci := 2) (C := RX2) (T := TX2) (N := 8) (fs := [.null, .null, .null, .int 0, .int 0, .int 0, .int 0, .int 0]) hx hb hts in_X4_slot_X2 tyX2 tyX2_ok hown (hts (.classLink RX4 9 RX2) (List.mem_of_getElem? (i := 2) rfl)) (hts (.instantiable RX2 8) (List.mem_of_getElem? (i := 3) rfl)) (hts (.initialized RX2) (List.mem_of_getElem? (i := 4) rfl)) hK hP hD hS hA rfl (by decide) (Nat.le_of_ble_eq_true rfl) (Nat.le_of_ble_eq_true rfl) dX4_slot_11 (fun ra H (hP : va_P D vwCl [(a0, .inr (4, [.ref (p0 0), .ref (p0 1), .int i2])), bArr cs (p0 1) B, (ra, .inr (2, [.null, .null, .null, .int 0, .int 0, .int 0, .int 0, .int 0]))] H) (hD : va_D _ [(a0, .inr (4, [.ref (p0 0), .ref (p0 1), .int i2])), bArr cs (p0 1) B, (ra, .inr (2, [.null, .null, .null, .int 0, .int 0, .int 0, .int 0, .int 0]))]) hS => ?_)
  refine lv_dup hx hb dX4_slot_14 rfl ?_
  refine ow_mkN (As := []) (rest := [.ref ra]) (wr := wS4 cs a0 p0 i2 B) C0 hN (c_X2_init l D cs H.size ra) ⟨va_cnB (host := RX10) 0 hts gX4_slot_X2_init_n11 rfl rfl rfl (hG.2.1 (RX4, 11, yX2_init, RX10) (List.mem_of_getElem? (i := 1) rfl)) (hts (.initialized RX2) (List.mem_of_getElem? (i := 4) rfl)) (by decide +kernel) ⟨Nat.le_of_ble_eq_true rfl, Nat.le_of_ble_eq_true rfl⟩, rfl, hts (.instanceMethod yX2_init) (List.mem_of_getElem? (i := 5) rfl)⟩ hP hD hS hA [2] [0, 1] rfl (by decide) rfl (by decide) (by decide) rfl hl.1 rfl (Nat.le_of_ble_eq_true rfl) ⟨Nat.le_of_ble_eq_true rfl, Nat.le_of_ble_eq_true rfl⟩ dX4_slot_15 (fun P H locs (hP : va_P D vwCl (wS4 cs a0 p0 i2 B ++ wG cs ra P g_0) H) (hD : va_D _ (wS4 cs a0 p0 i2 B ++ wG cs ra P g_0)) hS => ?_)
  refine lv_astore_n (lv' := [(2, .ref ra), (0, .ref a0), (1, .int x1)]) hx hb dX4_slot_18 rfl hl (by decide) rfl (fun ls hl => ?_)
  refine lv_aload_n hx hb dX4_slot_19 rfl (lv_at hl 1 rfl) ?_
  refine va_get (D := D) (ci := 4) (v := .ref (p0 1)) (C := RX4) (T := TX4) (N := 3) hx hb hts in_X4_slot_X4 hown hK hP 0 rfl rfl 1 (by decide) (hts (.fieldLink RX4 18 "PaneDays$Past" "before" "[LPaneDays$Glass;") (List.mem_of_getElem? (i := 1) rfl)) (fun _ h9 => h9) rfl dX4_slot_20 ?_
  refine lv_iload_n hx hb dX4_slot_23 rfl (lv_at hl 2 rfl) ?_
  refine lv_aload_n hx hb dX4_slot_24 rfl (lv_at hl 0 rfl) ?_
  refine va_astq (r := (RX2, TX2, 8)) hx hb hK hP hD hS 1 4 2 2 rfl rfl rfl rfl hin dX4_slot_25 (fun H locs (hP : va_P D vwCl (wS4 cs a0 p0 i2 (va_up B x1.toNatClampNeg (some ra)) ++ wG cs ra P g_0) H) (hD : va_D _ (wS4 cs a0 p0 i2 (va_up B x1.toNatClampNeg (some ra)) ++ wG cs ra P g_0)) hS => ?_)
  refine lv_aload_n hx hb dX4_slot_26 rfl (lv_at hl 0 rfl) ?_
  exact W.aret hx hb hr (Or.inl ⟨_, rfl⟩) (Or.inr ⟨ra, rfl⟩) (fun t ht hW => ⟨⟨P, ra, rfl, trivial, trivial, by rw [ht]; exact hP, hD⟩, hS.F ht⟩) hS.2.2 dX4_slot_27 hlk
section POOL
variable {p : Program} {l : Launch} {e : Env} {R : Room} {s : State} {m : MethodId} {av : Array Value} {below : List Frame} {meth : Method} {c : Code} {H : Heap} {locs : List Loc} {cells slots : Nat} {Q : State → Prop}
variable {ws : List Cond} {cc : ByteArray} {nL : Nat} {ret : Option FieldType} {own : String} {D : va_G} {cs : Nat → ClassId} {pc : Nat} {ls : Array Slot} {rest st0 : List Value} {w w0 w1 : va_W} {r : Int32}
/-- a call that answers a cell -/
theorem ow_gVR {S : Type} {y : MethodName} {wsY : List Cond} {rmY : Room} {b : Nat} {As : List Value} {sg sc sr : List va_W} {sc' sf : S → Nat → List va_W} {ok : S → Nat → Prop} {C : String} {T : u_T} {N idx n maxLY mc1 ms1 : Nat} {bytes : ByteArray} {retY : Option FieldType} {fs : List Value} (C0 : Cx p s m meth c av ws cc nL ret own D cs w0) (hN : gN s) (hM : MR l D cs y wsY rmY (.ref b :: As) H.size sc.flatten (fun u ra => (sc' u ra).flatten) ok mc1 ms1) (cw : CallW R s av own C idx y bytes maxLY retY wsY rmY mc1 ms1 n) (ci : Nat) (hci : vwCl[ci]? = some (C, T, N)) (hrc : sc.flatten[0]? = some (b, .inr (ci, fs)))
    (hP : va_P D vwCl sg.flatten H) (hD : va_D (va_A w0 s.heap.size) sg.flatten) (hS : va_S (va_A w0 s.heap.size) s.heap H locs) (hp : (sc ++ sr).Perm sg) (hpF : ∀ u ra, (sr ++ sc' u ra).Perm (sf u ra))
    (hn : As.length = n) (hls : ls.size = nL) (hst : st0 = As.reverse ++ .ref b :: rest) (hrest : (rest.map fun v => v.category).sum ≤ 8) (hrm : cells + mc1 ≤ R.cells ∧ slots + ms1 ≤ R.slots) (hdg : decode cc pc = .ok (.invokevirtual idx, 3))
    (kk : ∀ (u : S) (ra : Nat) (H1 : Heap) (locs1 : List Loc), ok u ra → va_P D vwCl (sf u ra).flatten H1 → va_D (va_A w0 s.heap.size) (sf u ra).flatten → va_S (va_A w0 s.heap.size) s.heap H1 locs1 → W p l e R s m av below meth c H1 locs1 (cells + mc1) (slots + ms1) Q (F0 m (pc + 3) ls (.ref ra :: rest))) :
    W p l e R s m av below meth c H locs cells slots Q (F0 m pc ls st0) := by
  obtain ⟨hx, hb, hr, hlk, hml, hown, hts, hK, hG, hE⟩ := id C0
  have hA : ∀ q, s.heap.size ≤ q → va_A w0 s.heap.size q := fun q h => Or.inr h
  have hPc := sg_cutP hP hp
  have hDc := sg_cutD hD hp
  have hFc := sg_free hD hS hA hp
  refine va_callr (va_runV (As := As) (rest := rest) ⟨hx, hb, hml, hown, hts⟩ hM cw ⟨ow_blindN, va_recv hK hPc hci hrc, fun U hU hW => ⟨rfl, by rw [hU], by rw [hU]; exact hPc, gK_warm hW hG, gN_warm hW hN, hDc.weaken (fun _ _ _ _ => trivial), by rw [hU]; exact sS.moved hW.alike ((hE.kept hS.2.1).narrow hFc)⟩⟩ rfl hn hls hst (lv_room hrest) hdg hrm) hS (fun q _ h => hFc q h) hFc (fun u ra t H1 locs1 ht hvm hw hB hz1 hk1 hS1 => ?_)
  obtain ⟨hok, hP1, hD1⟩ := hB
  rw [ht] at hP1
  obtain ⟨hP2, hD2⟩ := sg_back hP hD hS hA hp (hpF u ra) hk1 hP1 hD1
  exact kk u ra H1 locs1 hok hP2 hD2 hS1
/-- a maker called, in segments -/
theorem ow_gVO {S : Type} {y : MethodName} {wsY : List Cond} {rmY : Room} {b : Nat} {As : List Value} {sg sc sr : List va_W} {sc' sf : S → List va_W} {ok : S → Prop} {C : String} {T : u_T} {N idx n maxLY mc1 ms1 : Nat} {bytes : ByteArray} {retY : Option FieldType} {fs : List Value} (C0 : Cx p s m meth c av ws cc nL ret own D cs w0) (hN : gN s) (hM : Met l y wsY rmY (pN D cs (.ref b :: As) H.size sc.flatten) (va_Qv ok (fun u t => va_P D vwCl (sc' u).flatten t.heap ∧ va_D (va_A sc.flatten H.size) (sc' u).flatten) (va_A sc.flatten H.size)) mc1 ms1 (va_A sc.flatten H.size)) (cw : CallW R s av own C idx y bytes maxLY retY wsY rmY mc1 ms1 n) (ci : Nat) (hci : vwCl[ci]? = some (C, T, N)) (hrc : sc.flatten[0]? = some (b, .inr (ci, fs)))
    (hP : va_P D vwCl sg.flatten H) (hD : va_D (va_A w0 s.heap.size) sg.flatten) (hS : va_S (va_A w0 s.heap.size) s.heap H locs) (hp : (sc ++ sr).Perm sg) (hpF : ∀ u, (sr ++ sc' u).Perm (sf u))
    (hn : As.length = n) (hls : ls.size = nL) (hst : st0 = As.reverse ++ .ref b :: rest) (hrest : (rest.map fun v => v.category).sum ≤ 8) (hrm : cells + mc1 ≤ R.cells ∧ slots + ms1 ≤ R.slots) (hdg : decode cc pc = .ok (.invokevirtual idx, 3))
    (kk : ∀ (u : S) (H1 : Heap) (locs1 : List Loc), ok u → va_P D vwCl (sf u).flatten H1 → va_D (va_A w0 s.heap.size) (sf u).flatten → va_S (va_A w0 s.heap.size) s.heap H1 locs1 → W p l e R s m av below meth c H1 locs1 (cells + mc1) (slots + ms1) Q (F0 m (pc + 3) ls rest)) :
    W p l e R s m av below meth c H locs cells slots Q (F0 m pc ls st0) := by
  obtain ⟨hx, hb, hr, hlk, hml, hown, hts, hK, hG, hE⟩ := id C0
  have hA : ∀ q, s.heap.size ≤ q → va_A w0 s.heap.size q := fun q h => Or.inr h
  have hPc := sg_cutP hP hp
  have hDc := sg_cutD hD hp
  have hFc := sg_free hD hS hA hp
  refine va_callv (va_runV (As := As) (rest := rest) ⟨hx, hb, hml, hown, hts⟩ hM cw ⟨ow_blindN, va_recv hK hPc hci hrc, fun U hU hW => ⟨rfl, by rw [hU], by rw [hU]; exact hPc, gK_warm hW hG, gN_warm hW hN, hDc.weaken (fun _ _ _ _ => trivial), by rw [hU]; exact sS.moved hW.alike ((hE.kept hS.2.1).narrow hFc)⟩⟩ rfl hn hls hst (lv_room hrest) hdg hrm) hS (fun q _ h => hFc q h) hFc (fun u t H1 locs1 ht hvm hw hB hz1 hk1 hS1 => ?_)
  obtain ⟨hP1, hD1⟩ := hB
  rw [ht] at hP1
  obtain ⟨hP2, hD2⟩ := sg_back hP hD hS hA hp (hpF u) hk1 hP1 hD1
  exact kk u H1 locs1 hw hP2 hD2 hS1
end POOL

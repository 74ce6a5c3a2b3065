/-! methods that may throw: 0 returned, 1 IllegalArgumentException, 2 NoSuchElementException, 3 IndexOutOfBoundsException -/
def exN (k : Nat) : String := if k = 1 then "java/lang/IllegalArgumentException" else if k = 2 then "java/util/NoSuchElementException" else "java/lang/IndexOutOfBoundsException"
def exL : List String := ["java/lang/IllegalArgumentException", "java/util/NoSuchElementException", "java/lang/IndexOutOfBoundsException"]
def exD : List MethodName := [⟨"java/lang/RuntimeException", "<init>", "()V"⟩, ⟨"java/lang/Exception", "<init>", "()V"⟩, ⟨"java/lang/Throwable", "<init>", "()V"⟩]
def ow_AOI (U : State) : Prop := (Cond.arrayOver (.array .int)).before #[] U = true
theorem ow_AOI.moved {u U : State} (hvm : u.vm.Alike U.vm) (h : ow_AOI u) : ow_AOI U := by
  have h0 := h
  unfold ow_AOI Cond.before Cond.holds at h0
  simp only [Cond.value, beq_iff_eq] at h0
  cases hc : u.vm.findClass (FieldType.array .int).toString with
  | none => simp [hc] at h0
  | some comp =>
    simp only [hc, Option.bind_some, Option.bind_eq_some_iff, Option.map_eq_some_iff] at h0
    obtain ⟨c, hi, k, hk, hb⟩ := h0
    obtain ⟨k', hk', he⟩ := hvm.2.2 _ _ hk
    have hi2 : (U.vm.classes.findIdx? fun (x : Class) => match x.kind with | .array component _ => component == comp | _ => false) = some c := by
      have h1 := va_idx_bare U.vm comp
      have h2 := va_idx_bare u.vm comp
      have hb : U.vm.bare = u.vm.bare := by first | exact hvm.bare_eq | exact hvm.bare_eq.symm
      rw [hb] at h1
      exact h1.symm.trans (h2.trans hi)
    have f1 : U.vm.findClass (FieldType.array .int).toString = some comp := by rw [hvm.findClass]; exact hc
    unfold ow_AOI Cond.before Cond.holds
    simp only [Cond.value]
    rw [f1, Option.bind_some]
    refine (congrArg (fun o : Option Nat => (o.bind (fun c => (U.vm.classes[c]?).map fun (k : Class) => match k.kind with | .array _ ty => decide (ty = FieldType.array .int) && decide (U.vm.findClass ("[" ++ (FieldType.array .int).toString) = some c) | _ => false) == some true)) hi2).trans ?_
    have hkk : k'.kind = k.kind := by rw [he]
    simp only [Option.bind_some, hk', Option.map_some, hkk, hvm.findClass]
    exact beq_iff_eq.mpr (congrArg some hb)
/-- what the makers and the throwers take as given beside gK -/
def gN (U : State) : Prop := va_AO "PaneDays$Glass" U ∧ va_AO "PaneDays$Past" U ∧ ow_AOI U ∧ (∀ E ∈ exL, va_Nw (.castable E E) U) ∧ (∀ x ∈ exD, va_Nw (.declares x) U)
theorem gN_warm {s U : State} (hW : s.WarmedH U.vm) (h : gN s) : gN U := ⟨va_AO.moved hW.alike h.1, va_AO.moved hW.alike h.2.1, ow_AOI.moved hW.alike h.2.2.1, fun E hE => va_Nw.warmC hW (h.2.2.2.1 E hE), fun x hx => va_Nw.warmD hW (h.2.2.2.2 x hx)⟩
theorem gN_call {U V : State} (hv : U.vm = V.vm) (h : gN U) : gN V := ⟨va_AO.moved (by rw [← hv]; exact Vm.Alike.refl U.vm) h.1, va_AO.moved (by rw [← hv]; exact Vm.Alike.refl U.vm) h.2.1, ow_AOI.moved (by rw [← hv]; exact Vm.Alike.refl U.vm) h.2.2.1, fun E hE => va_Nw.same rfl hv (h.2.2.2.1 E hE), fun x hx => va_Nw.same rfl hv (h.2.2.2.2 x hx)⟩
abbrev pN (D : va_G) (cs : Nat → ClassId) (av : List Value) (sz : Nat) (w : va_W) : Array Value → State → Prop := va_Pc av (fun U => U.heap.size = sz ∧ va_P D vwCl w U.heap ∧ gK D cs U ∧ gN U ∧ va_D (fun _ => True) w ∧ sS D (va_A w sz) U U.heap)
theorem ow_blindN {D : va_G} {cs : Nat → ClassId} {av : List Value} {sz : Nat} {w : va_W} : FrameBlind (pN D cs av sz w) := fun a U g mk q => by
  obtain ⟨q0, q1, qP, qK, qN, qD, qS⟩ := q
  exact ⟨q0, q1, qP, gK_call (U := U) (V := U.calling g mk a) rfl qK, gN_call (U := U) (V := U.calling g mk a) rfl qN, qD, sS.moved (u := U) (U := U.calling g mk a) (Vm.Alike.refl U.vm) qS⟩
abbrev xI (D : va_G) (cs : Nat → ClassId) (w w' : va_W) (k : Nat) (r : Int32) (sz : Nat) : Array Value → State → Outcome → State → Prop := va_Qi (fun x (_ : Unit) => k = 0 ∧ x = r) (fun _ t => va_P D vwCl w' t.heap ∧ va_D (va_A w sz) w') (va_A w sz)
abbrev xV (D : va_G) (cs : Nat → ClassId) (w w' : va_W) (k : Nat) (sz : Nat) : Array Value → State → Outcome → State → Prop := va_Qv (fun (_ : Unit) => k = 0) (fun _ t => va_P D vwCl w' t.heap ∧ va_D (va_A w sz) w') (va_A w sz)
abbrev xX (D : va_G) (cs : Nat → ClassId) (w w' : va_W) (k : Nat) (sz : Nat) : String → State → State → Prop := vx_X (fun (_ : Unit) => k ≠ 0) (fun E _ t => E = exN k ∧ va_P D vwCl w' t.heap ∧ va_D (va_A w sz) w') (va_A w sz)
abbrev XI (l : Launch) (D : va_G) (cs : Nat → ClassId) (y : MethodName) (ws : List Cond) (rm : Room) (av : List Value) (sz : Nat) (w w' : va_W) (k : Nat) (r : Int32) (mc ms : Nat) : Prop := vx_Met l y ws rm (pN D cs av sz w) (xI D cs w w' k r sz) (xX D cs w w' k sz) mc ms (va_A w sz)
abbrev XV (l : Launch) (D : va_G) (cs : Nat → ClassId) (y : MethodName) (ws : List Cond) (rm : Room) (av : List Value) (sz : Nat) (w w' : va_W) (k : Nat) (mc ms : Nat) : Prop := vx_Met l y ws rm (pN D cs av sz w) (xV D cs w w' k sz) (xX D cs w w' k sz) mc ms (va_A w sz)
/-- the machine's givens inside a method that may throw -/
def CxT (l : Launch) (s : State) (c : Code) : Prop := l.stackTraces = false ∧ gN s ∧ ∀ x ∈ c.exceptionTable.toList, False
theorem ow_enterT {l : Launch} {D : va_G} {cs : Nat → ClassId} {y : MethodName} {ws ws' : List Cond} {rm : Room} {av : List Value} {sz mc ms : Nat} {w : va_W} {Qc : Nat → Array Value → State → Outcome → State → Prop} {XC : Nat → String → State → State → Prop} {cc : ByteArray} {nL : Nat} {ret : Option FieldType} (hl0 : l.stackTraces = false) (hy : plainName y.cls = true) (hw : ws = Cond.code y cc nL ret :: ws') (hn : (lg_sl av).length ≤ nL)
    (k : ∀ (p : Program) (e : Env) (s : State) (m : MethodId) (below : List Frame) (meth : Method) (c : Code) (ls : Array Slot) (H : Heap) (locs : List Loc), Cx p s m meth c av.toArray ws cc nL ret y.cls D cs w → CxT l s c → va_P D vwCl w H → va_D (va_A w s.heap.size) w → va_S (va_A w s.heap.size) s.heap H locs → (∀ q : Nat, s.heap.size ≤ q → va_A w s.heap.size q) → lv_has ls nL (lv_args 0 av) → W p l e rm s m av.toArray below meth c H locs 0 0 (vx_MQ below (Qc s.heap.size) (XC s.heap.size) av.toArray s mc ms (va_A w s.heap.size)) (F0 m 0 ls [])) :
    vx_Met l y ws rm (pN D cs av sz w) (Qc sz) (XC sz) mc ms (va_A w sz) := by
  refine vx_ofW (cc := cc) (maxL := nL) (ret := ret) hy hw ?_
  intro p e s m args below meth c s₁ B hml ht hv
  obtain ⟨rfl, hsz, hP, hK, hN, hD0, hE⟩ := hv
  subst hsz
  rw [lg_entry_eq]
  exact k p e s m below meth c _ _ _ ⟨B.exec, B.bytes, B.returns, B.notSynchronized, hml, findClass_of_methodNamed B.named, atoms_spec (ws := ws) B.pre, hK.1, hK, hE⟩ ⟨hl0, hN, ht⟩ hP hD0.self va_S.rf (fun q h => Or.inr h) (lv_entry av hn)
section THR
variable {p : Program} {l : Launch} {e : Env} {R : Room} {s : State} {m : MethodId} {av : Array Value} {below : List Frame} {meth : Method} {c : Code} {H : Heap} {locs : List Loc} {cells slots : Nat} {Q : State → Prop}
variable {ws : List Cond} {cc : ByteArray} {nL : Nat} {ret : Option FieldType} {own : String} {D : va_G} {cs : Nat → ClassId} {pc : Nat} {ls : Array Slot} {rest st0 : List Value} {A : Nat → Prop} {w w0 w1 : va_W} {r : Int32} {K mc ms : Nat}
theorem ow_tretI (C0 : Cx p s m meth c av ws cc nL (some .int) own D cs w0) (hk : K = 0) (hP : va_P D vwCl w1 H) (hD : va_D (va_A w0 s.heap.size) w1) (hS : va_S (va_A w0 s.heap.size) s.heap H locs) (h1 : cells ≤ mc) (h2 : slots ≤ ms) (hdg : decode cc pc = .ok (.ireturn, 1)) :
    W p l e R s m av below meth c H locs cells slots (vx_MQ below (xI D cs w0 w1 K r s.heap.size) (xX D cs w0 w1 K s.heap.size) av s mc ms (va_A w0 s.heap.size)) (F0 m pc ls (.int r :: [])) := by
  obtain ⟨hx, hb, hr, hlk, hml, hown, hts, hK, hG, hE⟩ := id C0
  exact vx_ret (W.widen h1 h2 (W.iret hx hb hr (fun t ht hW => ⟨⟨r, (), rfl, ⟨hk, rfl⟩, by rw [ht]; exact hP, hD⟩, hS.F ht⟩) hS.2.2 hdg hlk))
theorem ow_tretZ (C0 : Cx p s m meth c av ws cc nL (some .boolean) own D cs w0) (hz : r = 0 ∨ r = 1) (hk : K = 0) (hP : va_P D vwCl w1 H) (hD : va_D (va_A w0 s.heap.size) w1) (hS : va_S (va_A w0 s.heap.size) s.heap H locs) (h1 : cells ≤ mc) (h2 : slots ≤ ms) (hdg : decode cc pc = .ok (.ireturn, 1)) :
    W p l e R s m av below meth c H locs cells slots (vx_MQ below (xI D cs w0 w1 K r s.heap.size) (xX D cs w0 w1 K s.heap.size) av s mc ms (va_A w0 s.heap.size)) (F0 m pc ls (.int r :: [])) := by
  obtain ⟨hx, hb, hr, hlk, hml, hown, hts, hK, hG, hE⟩ := id C0
  exact vx_ret (W.widen h1 h2 (W.zret hx hb hr (ow_nz hz) (fun t ht hW => ⟨⟨r, (), rfl, ⟨hk, rfl⟩, by rw [ht]; exact hP, hD⟩, hS.F ht⟩) hS.2.2 hdg hlk))
theorem ow_tretV (C0 : Cx p s m meth c av ws cc nL none own D cs w0) (hk : K = 0) (hP : va_P D vwCl w1 H) (hD : va_D (va_A w0 s.heap.size) w1) (hS : va_S (va_A w0 s.heap.size) s.heap H locs) (h1 : cells ≤ mc) (h2 : slots ≤ ms) (hdg : decode cc pc = .ok (.return_, 1)) :
    W p l e R s m av below meth c H locs cells slots (vx_MQ below (xV D cs w0 w1 K s.heap.size) (xX D cs w0 w1 K s.heap.size) av s mc ms (va_A w0 s.heap.size)) (F0 m pc ls []) := by
  obtain ⟨hx, hb, hr, hlk, hml, hown, hts, hK, hG, hE⟩ := id C0
  exact vx_ret (W.widen h1 h2 (W.vret hx hb hr (fun t ht hW => ⟨⟨(), rfl, hk, by rw [ht]; exact hP, hD⟩, hS.F ht⟩) hS.2.2 hdg hlk))
/-- the words of a throw that the method's list can't bear -/
def exB (cls : String) : List Cond := .castable cls cls :: exD.map Cond.declares
abbrev exU : List String := ["java/lang/RuntimeException", "java/lang/Exception"]
theorem ow_thr {Qc : Array Value → State → Outcome → State → Prop} {cls : String} {ik ic : Nat} (C0 : Cx p s m meth c av ws cc nL ret own D cs w0) (T0 : CxT l s c) (hk : K ≠ 0) (hcls : cls = exN K) (hfit : Bundle.fit cls = true) (hmem : cls ∈ exL) (hcl : Cond.classLink own ik cls ∈ ws) (hin : Cond.initialized cls ∈ ws)
    (hgd : ∀ w ∈ (vx_at0 own ic cls exU).filter goodWord, w ∈ ws) (hbd : ∀ w ∈ (vx_at0 own ic cls exU).filter (fun w => !goodWord w), w ∈ exB cls) (hot : ∀ w ∈ Cond.classLink own ik cls :: Cond.initialized cls :: vx_at0 own ic cls exU, vx_ot w = true)
    (hP : va_P D vwCl w1 H) (hD : va_D (va_A w0 s.heap.size) w1) (hS : va_S (va_A w0 s.heap.size) s.heap H locs) (hls : ls.size = nL)
    (d0 : decode cc pc = .ok (.new ik, 3)) (d3 : decode cc (pc + 3) = .ok (.dup, 1)) (d4 : decode cc (pc + 4) = .ok (.invokespecial ic, 3)) (d7 : decode cc (pc + 7) = .ok (.athrow, 1))
    (hR1 : 5 < R.frames) (hR2 : 81 ≤ R.locals) (hR3 : cells + 1 ≤ R.cells) (hR4 : slots + 6 ≤ R.slots) (h1 : cells + 1 ≤ mc) (h2 : slots + 6 ≤ ms) :
    W p l e R s m av below meth c H locs cells slots (vx_MQ below Qc (xX D cs w0 w1 K s.heap.size) av s mc ms (va_A w0 s.heap.size)) (F0 m pc ls []) := by
  obtain ⟨hx, hb, hr, hlk, hml, hown, hts, hK, hG, hE⟩ := id C0
  obtain ⟨hl0, hN, ht⟩ := T0
  have hB : ∀ w ∈ exB cls, w.before av s = true := by
    intro w hw
    rcases List.mem_cons.mp hw with e | hw
    · rw [e]; exact va_Nw.use rfl (hN.2.2.2.1 cls hmem)
    · obtain ⟨x, hx2, rfl⟩ := List.mem_map.mp hw
      exact va_Nw.use rfl (hN.2.2.2.2 x hx2)
  refine vx_throw0 (names := exU) (A := va_A w0 s.heap.size) hx hb hl0 hown hfit (by decide +kernel) (hts _ hcl) (hts _ hin) (vx_hat (fun w hw => hts w (hgd w hw)) hbd hB) hot hE.2.2.1 hE.2.2.2.1 hS (hls.trans hml.symm) d0 d3 d4 d7 (fun x hx => (ht x hx).elim) hR1 (by simpa using hR2) hR3 hR4 hlk (fun t hA hz hq => ?_) hS.2.2 h1 h2
  exact ⟨(), hk, ⟨hcls, hP.kept (fun k x hx => hq x.1 (hP k x hx).lt), hD⟩, Nat.le_trans hS.1 hz, fun q h3 h4 => (hq q (Nat.lt_of_lt_of_le h3 hS.1)).trans (hS.2.1 q h3 h4)⟩
theorem ow_tVI {Qc : Array Value → State → Outcome → State → Prop} {y : MethodName} {wsY : List Cond} {rmY : Room} {b : Nat} {As : List Value} {wc wc' wr wf wT : va_W} {C : String} {T : u_T} {N idx n maxLY : Nat} {bytes : ByteArray} {retY : Option FieldType} {fs : List Value} {k mc1 ms1 : Nat} (C0 : Cx p s m meth c av ws cc nL ret own D cs w0) (T0 : CxT l s c) (hM : XI l D cs y wsY rmY (.ref b :: As) H.size wc wc' k r mc1 ms1) (cw : CallW R s av own C idx y bytes maxLY retY wsY rmY mc1 ms1 n) (ci : Nat) (hci : vwCl[ci]? = some (C, T, N)) (hrc : wc[0]? = some (b, .inr (ci, fs)))
    (hP : va_P D vwCl w H) (hD : va_D (va_A w0 s.heap.size) w) (hS : va_S (va_A w0 s.heap.size) s.heap H locs) (hA : ∀ q, s.heap.size ≤ q → va_A w0 s.heap.size q) (isC isR isF : List Nat) (hC : isC.map (fun i => w[i]?) = wc.map some) (hnC : va_nd isC = true) (hR : isR.map (fun i => w[i]?) = wr.map some) (hnR : va_nd isR = true) (hdis : ∀ i ∈ isR, i ∉ isC) (hF : isF.map (fun i => (wr ++ wc')[i]?) = wf.map some) (hnF : va_nd isF = true)
    (hn : As.length = n) (hls : ls.size = nL) (hst : st0 = As.reverse ++ .ref b :: rest) (hrest : (rest.map fun v => v.category).sum ≤ 8) (hrm : cells + mc1 ≤ R.cells ∧ slots + ms1 ≤ R.slots) (hdg : decode cc pc = .ok (.invokevirtual idx, 3))
    (hX : k ≠ 0 → K = k ∧ wf = wT) (h1 : cells + mc1 ≤ mc) (h2 : slots + ms1 ≤ ms)
    (kk : k = 0 → ∀ (H1 : Heap) (locs1 : List Loc), va_P D vwCl wf H1 → va_D (va_A w0 s.heap.size) wf → va_S (va_A w0 s.heap.size) s.heap H1 locs1 → W p l e R s m av below meth c H1 locs1 (cells + mc1) (slots + ms1) (vx_MQ below Qc (xX D cs w0 wT K s.heap.size) av s mc ms (va_A w0 s.heap.size)) (F0 m (pc + 3) ls (.int r :: rest))) :
    W p l e R s m av below meth c H locs cells slots (vx_MQ below Qc (xX D cs w0 wT K s.heap.size) av s mc ms (va_A w0 s.heap.size)) (F0 m pc ls st0) := by
  obtain ⟨hx, hb, hr, hlk, hml, hown, hts, hK, hG, hE⟩ := id C0
  obtain ⟨hl0, hN, ht⟩ := T0
  have hPc := ow_cut hP isC hC
  have hDc := hD.sub isC hnC hC
  have hFc := va_free hD hS hA isC hC
  refine vx_calli (vx_runV (As := As) (rest := rest) ⟨hx, hb, hml, hown, hts⟩ hM cw ⟨ow_blindN, va_recv hK hPc hci hrc, fun U hU hW => ⟨rfl, by rw [hU], by rw [hU]; exact hPc, gK_warm hW hG, gN_warm hW hN, hDc.weaken (fun _ _ _ _ => trivial), by rw [hU]; exact sS.moved hW.alike ((hE.kept hS.2.1).narrow hFc)⟩⟩ rfl hn hls hst (lv_room hrest) hdg hrm) hS (fun q _ h => hFc q h) hFc (fun q _ h => hFc q h) (fun E ce q9 u t H1 locs1 ht1 hvm hk hB hz1 hk1 hS1 hce hcv hcl => ?_) (fun r1 u t H1 locs1 ht1 hvm hw hB hz1 hk1 hS1 => ?_)
  · obtain ⟨hE1, hP1, hD1⟩ := hB
    rw [ht1] at hP1
    obtain ⟨hP2, hD2⟩ := ow_back hP hD hS hA isC isR isF hC hR hnR hdis hF hnF hk1 hP1 hD1
    obtain ⟨e1, e2⟩ := hX hk
    subst e2
    exact vx_out (fun x hx => (ht x hx).elim) hlk hce hcv hcl (fun t ht hW => ⟨(), by rw [e1]; exact hk, ⟨by rw [e1]; exact hE1, by rw [ht]; exact hP2, hD2⟩, hS1.F ht⟩) hS1.2.2 h1 h2
  · obtain ⟨hP1, hD1⟩ := hB
    rw [ht1] at hP1
    obtain ⟨hP2, hD2⟩ := ow_back hP hD hS hA isC isR isF hC hR hnR hdis hF hnF hk1 hP1 hD1
    obtain ⟨hk0, hw⟩ := hw
    subst hw
    exact kk hk0 H1 locs1 hP2 hD2 hS1
theorem ow_tVV {Qc : Array Value → State → Outcome → State → Prop} {y : MethodName} {wsY : List Cond} {rmY : Room} {b : Nat} {As : List Value} {wc wc' wr wf wT : va_W} {C : String} {T : u_T} {N idx n maxLY : Nat} {bytes : ByteArray} {retY : Option FieldType} {fs : List Value} {k mc1 ms1 : Nat} (C0 : Cx p s m meth c av ws cc nL ret own D cs w0) (T0 : CxT l s c) (hM : XV l D cs y wsY rmY (.ref b :: As) H.size wc wc' k mc1 ms1) (cw : CallW R s av own C idx y bytes maxLY retY wsY rmY mc1 ms1 n) (ci : Nat) (hci : vwCl[ci]? = some (C, T, N)) (hrc : wc[0]? = some (b, .inr (ci, fs)))
    (hP : va_P D vwCl w H) (hD : va_D (va_A w0 s.heap.size) w) (hS : va_S (va_A w0 s.heap.size) s.heap H locs) (hA : ∀ q, s.heap.size ≤ q → va_A w0 s.heap.size q) (isC isR isF : List Nat) (hC : isC.map (fun i => w[i]?) = wc.map some) (hnC : va_nd isC = true) (hR : isR.map (fun i => w[i]?) = wr.map some) (hnR : va_nd isR = true) (hdis : ∀ i ∈ isR, i ∉ isC) (hF : isF.map (fun i => (wr ++ wc')[i]?) = wf.map some) (hnF : va_nd isF = true)
    (hn : As.length = n) (hls : ls.size = nL) (hst : st0 = As.reverse ++ .ref b :: rest) (hrest : (rest.map fun v => v.category).sum ≤ 8) (hrm : cells + mc1 ≤ R.cells ∧ slots + ms1 ≤ R.slots) (hdg : decode cc pc = .ok (.invokevirtual idx, 3))
    (hX : k ≠ 0 → K = k ∧ wf = wT) (h1 : cells + mc1 ≤ mc) (h2 : slots + ms1 ≤ ms)
    (kk : k = 0 → ∀ (H1 : Heap) (locs1 : List Loc), va_P D vwCl wf H1 → va_D (va_A w0 s.heap.size) wf → va_S (va_A w0 s.heap.size) s.heap H1 locs1 → W p l e R s m av below meth c H1 locs1 (cells + mc1) (slots + ms1) (vx_MQ below Qc (xX D cs w0 wT K s.heap.size) av s mc ms (va_A w0 s.heap.size)) (F0 m (pc + 3) ls rest)) :
    W p l e R s m av below meth c H locs cells slots (vx_MQ below Qc (xX D cs w0 wT K s.heap.size) av s mc ms (va_A w0 s.heap.size)) (F0 m pc ls st0) := by
  obtain ⟨hx, hb, hr, hlk, hml, hown, hts, hK, hG, hE⟩ := id C0
  obtain ⟨hl0, hN, ht⟩ := T0
  have hPc := ow_cut hP isC hC
  have hDc := hD.sub isC hnC hC
  have hFc := va_free hD hS hA isC hC
  refine vx_callv (vx_runV (As := As) (rest := rest) ⟨hx, hb, hml, hown, hts⟩ hM cw ⟨ow_blindN, va_recv hK hPc hci hrc, fun U hU hW => ⟨rfl, by rw [hU], by rw [hU]; exact hPc, gK_warm hW hG, gN_warm hW hN, hDc.weaken (fun _ _ _ _ => trivial), by rw [hU]; exact sS.moved hW.alike ((hE.kept hS.2.1).narrow hFc)⟩⟩ rfl hn hls hst (lv_room hrest) hdg hrm) hS (fun q _ h => hFc q h) hFc (fun q _ h => hFc q h) (fun E ce q9 u t H1 locs1 ht1 hvm hk hB hz1 hk1 hS1 hce hcv hcl => ?_) (fun u t H1 locs1 ht1 hvm hw hB hz1 hk1 hS1 => ?_)
  · obtain ⟨hE1, hP1, hD1⟩ := hB
    rw [ht1] at hP1
    obtain ⟨hP2, hD2⟩ := ow_back hP hD hS hA isC isR isF hC hR hnR hdis hF hnF hk1 hP1 hD1
    obtain ⟨e1, e2⟩ := hX hk
    subst e2
    exact vx_out (fun x hx => (ht x hx).elim) hlk hce hcv hcl (fun t ht hW => ⟨(), by rw [e1]; exact hk, ⟨by rw [e1]; exact hE1, by rw [ht]; exact hP2, hD2⟩, hS1.F ht⟩) hS1.2.2 h1 h2
  · obtain ⟨hP1, hD1⟩ := hB
    rw [ht1] at hP1
    obtain ⟨hP2, hD2⟩ := ow_back hP hD hS hA isC isR isF hC hR hnR hdis hF hnF hk1 hP1 hD1
    exact kk hw H1 locs1 hP2 hD2 hS1
end THR

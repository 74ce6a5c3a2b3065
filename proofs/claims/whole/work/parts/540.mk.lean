/-! makers: constructors -/
abbrev qN {S : Type} (D : va_G) (w : va_W) (w' : S → va_W) (sz : Nat) : Array Value → State → Outcome → State → Prop := va_Qv (fun (_ : S) => True) (fun P t => va_P D vwCl (w' P) t.heap ∧ va_D (va_A w sz) (w' P)) (va_A w sz)
abbrev MN {S : Type} (l : Launch) (D : va_G) (cs : Nat → ClassId) (y : MethodName) (ws : List Cond) (rm : Room) (av : List Value) (sz : Nat) (w : va_W) (w' : S → va_W) (mc ms : Nat) : Prop := Met l y ws rm (pN D cs av sz w) (qN D w w' sz) mc ms (va_A w sz)
theorem ow_enterN {l : Launch} {D : va_G} {cs : Nat → ClassId} {y : MethodName} {ws ws' : List Cond} {rm : Room} {av : List Value} {sz mc ms : Nat} {w : va_W} {Qc : Nat → Array Value → State → Outcome → State → Prop} {cc : ByteArray} {nL : Nat} {ret : Option FieldType} (hy : plainName y.cls = true) (hw : ws = Cond.code y cc nL ret :: ws') (hn : (lg_sl av).length ≤ nL)
    (k : ∀ (p : Program) (e : Env) (s : State) (m : MethodId) (below : List Frame) (meth : Method) (c : Code) (ls : Array Slot) (H : Heap) (locs : List Loc), Cx p s m meth c av.toArray ws cc nL ret y.cls D cs w → gN s → meth.name = y.name → va_P D vwCl w H → va_D (va_A w s.heap.size) w → va_S (va_A w s.heap.size) s.heap H locs → (∀ q : Nat, s.heap.size ≤ q → va_A w s.heap.size q) → lv_has ls nL (lv_args 0 av) → W p l e rm s m av.toArray below meth c H locs 0 0 (MQ below (Qc s.heap.size) av.toArray s mc ms (va_A w s.heap.size)) (F0 m 0 ls [])) :
    Met l y ws rm (pN D cs av sz w) (Qc sz) mc ms (va_A w sz) := by
  refine Met.ofW (cc := cc) (maxL := nL) (ret := ret) hy hw ?_
  intro p e s m args below meth c s₁ B hml hv
  obtain ⟨rfl, hsz, hP, hK, hN, hD0, hE⟩ := hv
  subst hsz
  rw [lg_entry_eq]
  exact k p e s m below meth c _ _ _ ⟨B.exec, B.bytes, B.returns, B.notSynchronized, hml, findClass_of_methodNamed B.named, atoms_spec (ws := ws) B.pre, hK.1, hK, hE⟩ hN (name_of_methodNamed B.named B.method).1 hP hD0.self va_S.rf (fun q h => Or.inr h) (lv_entry av hn)
section MKS
variable {p : Program} {l : Launch} {e : Env} {R : Room} {s : State} {m : MethodId} {av : Array Value} {below : List Frame} {meth : Method} {c : Code} {H : Heap} {locs : List Loc} {cells slots : Nat} {Q : State → Prop}
variable {ws : List Cond} {cc : ByteArray} {nL : Nat} {ret : Option FieldType} {own : String} {D : va_G} {cs : Nat → ClassId} {pc : Nat} {ls : Array Slot} {rest st0 : List Value} {A : Nat → Prop} {w w0 w1 : va_W} {r : Int32} {mc ms : Nat}
theorem ow_retN {S : Type} {w' : S → va_W} (C0 : Cx p s m meth c av ws cc nL none own D cs w0) (P : S) (hP : va_P D vwCl (w' P) H) (hD : va_D (va_A w0 s.heap.size) (w' P)) (hS : va_S (va_A w0 s.heap.size) s.heap H locs) (h1 : cells ≤ mc) (h2 : slots ≤ ms) (hdg : decode cc pc = .ok (.return_, 1)) :
    W p l e R s m av below meth c H locs cells slots (MQ below (qN D w0 w' s.heap.size) av s mc ms (va_A w0 s.heap.size)) (F0 m pc ls []) := by
  obtain ⟨hx, hb, hr, hlk, hml, hown, hts, hK, hG, hE⟩ := id C0
  exact W.widen h1 h2 (W.vret hx hb hr (fun t ht hW => ⟨⟨P, rfl, trivial, by rw [ht]; exact hP, hD⟩, hS.F ht⟩) hS.2.2 hdg hlk)
theorem ow_mk {S : Type} {y : MethodName} {wsY : List Cond} {rmY : Room} {b : Nat} {As : List Value} {wc wr : va_W} {wc' : S → va_W} {idx n maxLY : Nat} {bytes : ByteArray} {mc1 ms1 : Nat} (C0 : Cx p s m meth c av ws cc nL ret own D cs w0) (hN : gN s) (hM : MN l D cs y wsY rmY (.ref b :: As) H.size wc wc' mc1 ms1) (cw : CallB R s av own idx y bytes maxLY none wsY rmY mc1 ms1 n ∧ y.name = "<init>" ∧ (Cond.instanceMethod y).before av s = true)
    (hP : va_P D vwCl w H) (hD : va_D (va_A w0 s.heap.size) w) (hS : va_S (va_A w0 s.heap.size) s.heap H locs) (hA : ∀ q, s.heap.size ≤ q → va_A w0 s.heap.size q) (isC isR : List Nat) (hC : isC.map (fun i => w[i]?) = wc.map some) (hnC : va_nd isC = true) (hR : isR.map (fun i => w[i]?) = wr.map some) (hnR : va_nd isR = true) (hdis : ∀ i ∈ isR, i ∉ isC)
    (hn : As.length = n) (hls : ls.size = nL) (hst : st0 = As.reverse ++ .ref b :: rest) (hrest : (rest.map fun v => v.category).sum ≤ 8) (hrm : cells + mc1 ≤ R.cells ∧ slots + ms1 ≤ R.slots) (hdg : decode cc pc = .ok (.invokespecial idx, 3))
    (kk : ∀ (P : S) (H1 : Heap) (locs1 : List Loc), va_P D vwCl (wr ++ wc' P) H1 → va_D (va_A w0 s.heap.size) (wr ++ wc' P) → va_S (va_A w0 s.heap.size) s.heap H1 locs1 → W p l e R s m av below meth c H1 locs1 (cells + mc1) (slots + ms1) Q (F0 m (pc + 3) ls rest)) :
    W p l e R s m av below meth c H locs cells slots Q (F0 m pc ls st0) := by
  obtain ⟨hx, hb, hr, hlk, hml, hown, hts, hK, hG, hE⟩ := id C0
  have hPc := ow_cut hP isC hC
  have hDc := hD.sub isC hnC hC
  have hFc := va_free hD hS hA isC hC
  refine va_callv (va_runI (As := As) (rest := rest) ⟨hx, hb, hml, hown, hts⟩ hM cw ⟨ow_blindN, fun U hU hW => ⟨rfl, by rw [hU], by rw [hU]; exact hPc, gK_warm hW hG, gN_warm hW hN, hDc.weaken (fun _ _ _ _ => trivial), by rw [hU]; exact sS.moved hW.alike ((hE.kept hS.2.1).narrow hFc)⟩⟩ rfl hn hls hst (lv_room hrest) hdg hrm) hS (fun q _ h => hFc q h) hFc (fun u t H1 locs1 ht hvm hw hB hz1 hk1 hS1 => ?_)
  obtain ⟨hP1, hD1⟩ := hB
  rw [ht] at hP1
  obtain ⟨hPj, hDj⟩ := va_join hP hD isC isR hC hR hnR hdis hk1 hFc hP1 hD1
  exact kk u H1 locs1 hPj hDj hS1
theorem ow_mkN {S : Type} {y : MethodName} {wsY : List Cond} {rmY : Room} {b : Nat} {As : List Value} {wc wr : va_W} {wc' : S → va_W} {idx n maxLY : Nat} {bytes : ByteArray} {mc1 ms1 : Nat} {host : String} (C0 : Cx p s m meth c av ws cc nL ret own D cs w0) (hN : gN s) (hM : MN l D cs y wsY rmY (.ref b :: As) H.size wc wc' mc1 ms1) (cw : va_CN R s av own idx y host bytes maxLY none wsY rmY mc1 ms1 n ∧ y.name = "<init>" ∧ (Cond.instanceMethod y).before av s = true)
    (hP : va_P D vwCl w H) (hD : va_D (va_A w0 s.heap.size) w) (hS : va_S (va_A w0 s.heap.size) s.heap H locs) (hA : ∀ q, s.heap.size ≤ q → va_A w0 s.heap.size q) (isC isR : List Nat) (hC : isC.map (fun i => w[i]?) = wc.map some) (hnC : va_nd isC = true) (hR : isR.map (fun i => w[i]?) = wr.map some) (hnR : va_nd isR = true) (hdis : ∀ i ∈ isR, i ∉ isC)
    (hn : As.length = n) (hls : ls.size = nL) (hst : st0 = As.reverse ++ .ref b :: rest) (hrest : (rest.map fun v => v.category).sum ≤ 8) (hrm : cells + mc1 ≤ R.cells ∧ slots + ms1 ≤ R.slots) (hdg : decode cc pc = .ok (.invokespecial idx, 3))
    (kk : ∀ (P : S) (H1 : Heap) (locs1 : List Loc), va_P D vwCl (wr ++ wc' P) H1 → va_D (va_A w0 s.heap.size) (wr ++ wc' P) → va_S (va_A w0 s.heap.size) s.heap H1 locs1 → W p l e R s m av below meth c H1 locs1 (cells + mc1) (slots + ms1) Q (F0 m (pc + 3) ls rest)) :
    W p l e R s m av below meth c H locs cells slots Q (F0 m pc ls st0) := by
  obtain ⟨hx, hb, hr, hlk, hml, hown, hts, hK, hG, hE⟩ := id C0
  have hPc := ow_cut hP isC hC
  have hDc := hD.sub isC hnC hC
  have hFc := va_free hD hS hA isC hC
  refine va_callv (va_runIN (As := As) (rest := rest) ⟨hx, hb, hml, hown, hts⟩ hM cw ⟨ow_blindN, fun U hU hW => ⟨rfl, by rw [hU], by rw [hU]; exact hPc, gK_warm hW hG, gN_warm hW hN, hDc.weaken (fun _ _ _ _ => trivial), by rw [hU]; exact sS.moved hW.alike ((hE.kept hS.2.1).narrow hFc)⟩⟩ rfl hn hls hst (lv_room hrest) hdg hrm) hS (fun q _ h => hFc q h) hFc (fun u t H1 locs1 ht hvm hw hB hz1 hk1 hS1 => ?_)
  obtain ⟨hP1, hD1⟩ := hB
  rw [ht] at hP1
  obtain ⟨hPj, hDj⟩ := va_join hP hD isC isR hC hR hnR hdis hk1 hFc hP1 hD1
  exact kk u H1 locs1 hPj hDj hS1
/-- an array of references, of the classes 4 (Glass) and 5 (Past) -/
theorem ow_newQ {H0 : Heap} {C : String} {index ti : Nat} (hx : p.tables.exec = Jvm.exec) (hb : c.code = cc) (hown : s.vm.findClass own = some m.cls) (hclink : (Cond.classLink own index C).before av s = true) (hover : va_AO C s) (hti : (tyG cs)[ti]? = some (cs ti, .object C)) (hK : va_K D vwCl (tyG cs) s) (hP : va_P D vwCl w H) (hD : va_D A w) (hS : va_S A H0 H locs) (hA : ∀ q, H0.size ≤ q → A q)
    {n : Int32} {N' : Nat} (hn : ¬ n < 0) (hN : n.toNatClampNeg = N') (hbytes : N' * 4 ≤ 536870912) (hcells : cells + 1 ≤ R.cells) (hslots : slots + N' ≤ R.slots) (hdg : decode cc pc = .ok (.anewarray index, 3))
    (kk : ∀ (q : Nat) (H1 : Heap), va_P D vwCl (w ++ [(q, .inl (cs ti, N', .inr (.inr (.inr (.inr (fun _ => none))))))]) H1 → va_D A (w ++ [(q, .inl (cs ti, N', .inr (.inr (.inr (.inr (fun _ => none))))))]) → va_S A H0 H1 locs → W p l e R s m av below meth c H1 locs (cells + 1) (slots + N') Q (F0 m (pc + 3) ls (.ref q :: rest))) : W p l e R s m av below meth c H locs cells slots Q (F0 m pc ls (.int n :: rest)) := by
  refine va_newq hx hb hown hclink hover hK hP hD hS hA hn hN hbytes hcells hslots hdg (fun q cA H1 hK1 hP1 hD1 hS1 => ?_)
  obtain ⟨k1, c1, a1, a2, a3, h1⟩ := (hK1.2 6 (cA, .object C) rfl).2
  obtain ⟨k2, c2, b1, b2, b3, h2⟩ := (hK.2 ti (cs ti, .object C) hti).2
  have e : cA = cs ti := Option.some.inj (h1.symm.trans h2)
  subst e
  exact kk q H1 hP1 hD1 hS1
theorem ow_outer (c : ClassId) (N h0 : Nat) : ∀ i : Nat, Jvm.Free.Multi.outerC c N h0 i = arrV c N (fun j => va_rf (if j < i then some (h0 + 1 + j) else none))
  | 0 => by
    show ({ cls := c, slots := Array.replicate N .null, vm := .none } : Cell) = _
    rw [arrV_new]
    refine congrArg (arrV c N) (funext fun j => ?_)
    simp [va_rf]
  | i + 1 => by
    show (Jvm.Free.Multi.outerC c N h0 i).setSlot i (.ref (h0 + 1 + i)) = _
    rw [ow_outer c N h0 i, arrV_store]
    refine congrArg (arrV c N) (funext fun j => ?_)
    by_cases e : j = i
    · subst e
      simp [updV, va_rf]
    · by_cases h : j < i
      · simp [updV, e, h, Nat.lt_succ_of_lt h]
      · simp [updV, e, h, show ¬ j < i + 1 by omega]
theorem va_D.more {A : Nat → Prop} {X Y : va_W} (hX : va_D A X) (hlt : ∀ q ∈ X, ∀ y ∈ Y, q.1 ≠ y.1) (hY : va_D A Y) : va_D A (X ++ Y) := by
  rw [sg_D] at hX hY ⊢
  refine ⟨List.pairwise_append.mpr ⟨hX.1, hY.1, hlt⟩, fun q hq => ?_⟩
  rcases List.mem_append.mp hq with h | h
  · exact hX.2 q h
  · exact hY.2 q h
/-- a grid of ints: the outer array, then its rows -/
theorem ow_mna {H0 : Heap} {index : Nat} (hx : p.tables.exec = Jvm.exec) (hb : c.code = cc) (hown : s.vm.findClass own = some m.cls) (hclink : (Cond.classLink own index "[[I").before av s = true) (hover : ow_AOI s) (harr : (Cond.arrayClass .int).before av s = true) (hK : va_K D vwCl (tyG cs) s) (hP : va_P D vwCl w H) (hD : va_D A w) (hS : va_S A H0 H locs) (hA : ∀ q, H0.size ≤ q → A q)
    {n k : Int32} {N' K' : Nat} (hn : ¬ n < 0) (hk : ¬ k < 0) (hN : n.toNatClampNeg = N') (hM : k.toNatClampNeg = K') (hb1 : N' * 4 ≤ 536870912) (hb2 : K' * componentBytes .int ≤ 536870912) (hb3 : K' ≤ 536870912) (hcells : cells + (1 + N') ≤ R.cells) (hslots : slots + (N' + N' * K') ≤ R.slots) (hdg : decode cc pc = .ok (.multianewarray index 2, 4))
    (kk : ∀ (q : Nat) (r : Nat → Nat) (H1 : Heap), va_P D vwCl ((w ++ [gOut cs q N' r]) ++ gRow cs N' K' r (fun _ _ => 0)) H1 → va_D A ((w ++ [gOut cs q N' r]) ++ gRow cs N' K' r (fun _ _ => 0)) → va_S A H0 H1 locs →
      W p l e R s m av below meth c H1 locs (cells + 1 + N') (slots + N' + N' * K') Q (F0 m (pc + 4) ls (.ref q :: rest))) : W p l e R s m av below meth c H locs cells slots Q (F0 m pc ls (.int k :: .int n :: rest)) := by
  subst hN
  subst hM
  intro T hT Xs
  obtain ⟨vm₁, cA, comp, -, fA, fC, hO, -, X', step⟩ := Jvm.Stand.multianewarray2F Xs hx (ty := .int) hown hclink hover harr (g := F0 m pc ls (.int k :: .int n :: rest)) rfl (by rw [hb]; exact hdg) rfl hn hk hb1 hb2 hb3 rfl rfl hcells hslots
  have e3 : cA = cs 3 := Option.some.inj (fA.symm.trans (hK.2 3 (cs 3, .array .int) rfl).2)
  have e0 : comp = cs 0 := Option.some.inj (fC.symm.trans (hK.2 0 (cs 0, .int) rfl).2)
  subst e3
  subst e0
  generalize hF : Jvm.Free.Multi.fill (T.setVm vm₁) (cs 3) (cs 0) n.toNatClampNeg k.toNatClampNeg (defaultValue .int) n.toNatClampNeg = F at X' step
  have hTh : (T.setVm vm₁).heap = H := hT
  obtain ⟨f1, f2, -, -⟩ := Jvm.Free.Multi.fill_facts (T.setVm vm₁) (cs 3) (cs 0) n.toNatClampNeg k.toNatClampNeg (defaultValue .int) n.toNatClampNeg
  rw [hF, hTh] at f1 f2
  have hold : ∀ x : Nat, x < H.size → F.heap[x]? = H[x]? := fun x hx => by
    have := Jvm.Free.Multi.fill_old (T.setVm vm₁) (cs 3) (cs 0) n.toNatClampNeg k.toNatClampNeg (defaultValue .int) (a := x) (by rw [hTh]; exact hx) n.toNatClampNeg
    rw [hF, hTh] at this
    exact this
  have hrow : ∀ j : Nat, j < n.toNatClampNeg → F.heap[H.size + 1 + j]? = some (vp_cell (cs 0) (k.toNatClampNeg, .inl (fun _ => 0))) := fun j hj => by
    have := Jvm.Free.Multi.fill_inner (T.setVm vm₁) (cs 3) (cs 0) n.toNatClampNeg k.toNatClampNeg (defaultValue .int) n.toNatClampNeg j hj
    rw [hF, hTh] at this
    rw [this]
    exact congrArg some (arrV_new _ _ _)
  have hout : Jvm.Free.Multi.outerC (cs 3) n.toNatClampNeg H.size n.toNatClampNeg = vp_cell (cs 3) (n.toNatClampNeg, .inr (.inr (.inr (.inr (fun i => if i < n.toNatClampNeg then some (H.size + 1 + i) else none))))) := by
    rw [vp_cell_q]
    exact ow_outer (cs 3) n.toNatClampNeg H.size n.toNatClampNeg
  rw [hout] at f2
  have hP0 : va_P D vwCl w F.heap := hP.kept (fun k9 x hx => hold x.1 ((hP k9 x hx).lt))
  have hP1 : va_P D vwCl ((w ++ [gOut cs H.size n.toNatClampNeg (fun i => H.size + 1 + i)]) ++ gRow cs n.toNatClampNeg k.toNatClampNeg (fun i => H.size + 1 + i) (fun _ _ => 0)) F.heap := by
    rw [sg_P] at hP0 ⊢
    intro q hq
    rcases List.mem_append.mp hq with h | h
    · rcases List.mem_append.mp h with h | h
      · exact hP0 q h
      · rw [List.mem_singleton.mp h]
        exact f2
    · rw [gRow_eq] at h
      obtain ⟨j, hj, rfl⟩ := List.mem_map.mp h
      exact hrow j (List.mem_range.mp hj)
  have hAn : ∀ x : Nat, H.size ≤ x → A x := fun x h => hA x (Nat.le_trans hS.1 h)
  have hD1 : va_D A ((w ++ [gOut cs H.size n.toNatClampNeg (fun i => H.size + 1 + i)]) ++ gRow cs n.toNatClampNeg k.toNatClampNeg (fun i => H.size + 1 + i) (fun _ _ => 0)) := by
    have hlt : ∀ q ∈ w, q.1 < H.size := fun q hq => (sg_P.mp hP q hq).lt
    refine va_D.more (va_D.more hD (fun q hq y hy => ?_) (sg_D.mpr ⟨by simp, fun q hq => ?_⟩)) (fun q hq y hy => ?_) (sg_D.mpr ⟨?_, fun q hq => ?_⟩)
    · rw [List.mem_singleton.mp hy]
      exact Nat.ne_of_lt (hlt q hq)
    · rw [List.mem_singleton.mp hq]
      exact hAn _ (Nat.le_refl _)
    · rw [gRow_eq] at hy
      obtain ⟨j, hj, rfl⟩ := List.mem_map.mp hy
      rcases List.mem_append.mp hq with h | h
      · have := hlt q h
        show q.1 ≠ H.size + 1 + j
        omega
      · rw [List.mem_singleton.mp h]
        show H.size ≠ H.size + 1 + j
        omega
    · rw [gRow_eq, List.pairwise_map]
      exact List.Pairwise.imp (fun {a b} h e => h (Nat.add_left_cancel e)) (List.nodup_range (n := n.toNatClampNeg))
    · rw [gRow_eq] at hq
      obtain ⟨j, hj, rfl⟩ := List.mem_map.mp hq
      exact hAn _ (by show H.size ≤ H.size + 1 + j; omega)
  obtain ⟨t, a1, b1⟩ := kk H.size (fun i => H.size + 1 + i) F.heap hP1 hD1 ⟨Nat.le_trans hS.1 (by rw [f1]; omega), fun x h1 h2 => (hold x (Nat.lt_of_lt_of_le h1 hS.1)).trans (hS.2.1 x h1 h2), hS.2.2⟩ F rfl X'
  refine ⟨t, step t ?_, b1⟩
  rw [hT]
  exact a1
end MKS

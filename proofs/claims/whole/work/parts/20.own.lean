abbrev tyG (cs : Nat → ClassId) : List (ClassId × FieldType) := [(cs 0, .int), (cs 1, .byte), (cs 2, .long), (cs 3, .array .int), (cs 4, .object "PaneDays$Glass"), (cs 5, .object "PaneDays$Past")]
/-! partial steps of the pure programs -/
def ck {R : Type} (i : Int32) (n : Nat) (k : Option R) : Option R := if i < 0 ∨ n ≤ i.toNatClampNeg then none else k
theorem ck_some {R : Type} {i : Int32} {n : Nat} {k : Option R} {r : R} (h : ck i n k = some r) : vp_in i n ∧ k = some r := by
  unfold ck at h
  by_cases c : i < 0 ∨ n ≤ i.toNatClampNeg
  · rw [if_pos c] at h; cases h
  · rw [if_neg c] at h; exact ⟨c, h⟩
theorem ck_in {R : Type} {i : Int32} {n : Nat} {k : Option R} (h : vp_in i n) : ck i n k = k := if_neg h
def cd {R : Type} (y : Int32) (k : Option R) : Option R := if y = 0 then none else k
theorem cd_some {R : Type} {y : Int32} {k : Option R} {r : R} (h : cd y k = some r) : ¬ y = 0 ∧ k = some r := by
  unfold cd at h
  by_cases c : y = 0
  · rw [if_pos c] at h; cases h
  · rw [if_neg c] at h; exact ⟨c, h⟩
def cz {R : Type} (y : Int32) (k : Option R) : Option R := if y = 0 ∨ y = 1 then k else none
theorem cz_some {R : Type} {y : Int32} {k : Option R} {r : R} (h : cz y k = some r) : (y = 0 ∨ y = 1) ∧ k = some r := by
  unfold cz at h
  by_cases c : y = 0 ∨ y = 1
  · rw [if_pos c] at h; exact ⟨c, h⟩
  · rw [if_neg c] at h; cases h
def cy {R : Type} (sp dp n : Int32) (n0 n1 : Nat) (k : Option R) : Option R := if ¬ sp < 0 ∧ ¬ dp < 0 ∧ ¬ n < 0 ∧ sp.toNatClampNeg + n.toNatClampNeg ≤ n0 ∧ dp.toNatClampNeg + n.toNatClampNeg ≤ n1 then k else none
theorem cy_some {R : Type} {sp dp n : Int32} {n0 n1 : Nat} {k : Option R} {r : R} (h : cy sp dp n n0 n1 k = some r) : (¬ sp < 0 ∧ ¬ dp < 0 ∧ ¬ n < 0 ∧ sp.toNatClampNeg + n.toNatClampNeg ≤ n0 ∧ dp.toNatClampNeg + n.toNatClampNeg ≤ n1) ∧ k = some r := by
  unfold cy at h
  by_cases c : ¬ sp < 0 ∧ ¬ dp < 0 ∧ ¬ n < 0 ∧ sp.toNatClampNeg + n.toNatClampNeg ≤ n0 ∧ dp.toNatClampNeg + n.toNatClampNeg ≤ n1
  · rw [if_pos c] at h; exact ⟨c, h⟩
  · rw [if_neg c] at h; cases h
theorem bd_some {α β : Type} {x : Option α} {g : α → Option β} {r : β} (h : x.bind g = some r) : ∃ a, x = some a ∧ g a = some r := by
  cases x with
  | none => cases h
  | some a => exact ⟨a, rfl, h⟩
theorem ow_t {α : Type} {c : Prop} [Decidable c] {a b r : α} (h : c) (hf : (if c then a else b) = r) : a = r := by rw [if_pos h] at hf; exact hf
theorem ow_f {α : Type} {c : Prop} [Decidable c] {a b r : α} (h : ¬ c) (hf : (if c then a else b) = r) : b = r := by rw [if_neg h] at hf; exact hf
theorem ow_inc {x a b : Int32} (h : a = b) : x + a = x + b := by rw [h]
theorem ow_nz {y : Int32} (h : y = 0 ∨ y = 1) : narrow .boolean (.int y) = .int y := by rcases h with rfl | rfl <;> rfl
/-! contracts -/
def strL : List (String × Nat × String × Nat) := [(RX6, 103, "pane", 0), (RX6, 109, "rain", 1), (RX6, 111, "order", 2), (RX6, 112, "pace", 3), (RX6, 114, "hold", 4), (RX3, 63, "least", 5), (RX3, 69, "most", 6), (RX3, 78, "day", 7), (RX3, 80, "x", 8), (RX3, 82, "y", 9), (RX3, 84, "floor", 10), (RX3, 86, "pane", 11), (RX3, 88, "deep", 12), (RX3, 90, "seen", 13), (RX3, 92, "rain", 14), (RX9, 93, "wipe", 15), (RX9, 99, "cell", 16), (RX9, 101, "circle", 17), (RX9, 103, "day", 18), (RX9, 105, "rinse", 19), (RX9, 107, "break", 20), (RX9, 109, "again", 21)]
def lenS : List Nat := [4, 4, 5, 4, 4, 5, 4, 3, 1, 1, 5, 4, 4, 4, 4, 4, 4, 6, 3, 5, 5, 5]
def bytS : List (List Int32) := [[112, 97, 110, 101], [114, 97, 105, 110], [111, 114, 100, 101, 114], [112, 97, 99, 101], [104, 111, 108, 100], [108, 101, 97, 115, 116], [109, 111, 115, 116], [100, 97, 121], [120], [121], [102, 108, 111, 111, 114], [112, 97, 110, 101], [100, 101, 101, 112], [115, 101, 101, 110], [114, 97, 105, 110], [119, 105, 112, 101], [99, 101, 108, 108], [99, 105, 114, 99, 108, 101], [100, 97, 121], [114, 105, 110, 115, 101], [98, 114, 101, 97, 107], [97, 103, 97, 105, 110]]
/-- what lies in the heap outside of every world: the literals, COMPACT_STRINGS, Throwable's constants -/
def sS (D : va_G) (A : Nat → Prop) (U : State) (H : Heap) : Prop :=
  (∀ i : Nat, i < 22 → va_O "java/lang/String" (D.2 100 i) A U H ∧ va_OF "java/lang/String" "coder" "B" (.int 0) (D.2 100 i) A U H ∧ va_OF "java/lang/String" "value" "[B" (.ref (D.2 101 i)) (D.2 100 i) A U H ∧ va_T .byte (D.2 101 i) (lenS.getD i 0) (fun j => .int ((bytS.getD i []).getD j 0)) A U H) ∧ va_Z "java/lang/String" "COMPACT_STRINGS" "Z" (.int 1) A U H ∧ vx_Zq Bundle.tN "UNASSIGNED_STACK" Bundle.steD A U H ∧ vx_Zq Bundle.tN "SUPPRESSED_SENTINEL" Bundle.listD A U H ∧ va_Zq "jdk/internal/util/Preconditions" "SIOOBE_FORMATTER" "Ljava/util/function/BiFunction;" A U H
theorem sS.moved {D : va_G} {A : Nat → Prop} {u U : State} {H : Heap} (hvm : u.vm.Alike U.vm) (h : sS D A u H) : sS D A U H :=
  ⟨fun i hi => ⟨va_O.moved hvm (h.1 i hi).1, va_OF.moved hvm (h.1 i hi).2.1, va_OF.moved hvm (h.1 i hi).2.2.1, va_T.moved hvm (h.1 i hi).2.2.2⟩, va_Z.moved hvm h.2.1, vx_Zq.moved hvm h.2.2.1, vx_Zq.moved hvm h.2.2.2.1, va_Zq.moved hvm h.2.2.2.2⟩
theorem sS.kept {D : va_G} {A : Nat → Prop} {U : State} {H H1 : Heap} (h : sS D A U H) (hq : ∀ a : Nat, a < H.size → ¬ A a → H1[a]? = H[a]?) : sS D A U H1 :=
  ⟨fun i hi => ⟨(h.1 i hi).1.kept hq, (h.1 i hi).2.1.kept hq, (h.1 i hi).2.2.1.kept hq, (h.1 i hi).2.2.2.kept hq⟩, h.2.1.kept hq, h.2.2.1.kept hq, h.2.2.2.1.kept hq, h.2.2.2.2.kept hq⟩
theorem sS.narrow {D : va_G} {A B : Nat → Prop} {U : State} {H : Heap} (h : sS D A U H) (hAB : ∀ q, B q → A q) : sS D B U H :=
  ⟨fun i hi => ⟨(h.1 i hi).1.narrow hAB, (h.1 i hi).2.1.narrow hAB, (h.1 i hi).2.2.1.narrow hAB, (h.1 i hi).2.2.2.narrow hAB⟩, h.2.1.narrow hAB, h.2.2.1.narrow hAB, h.2.2.2.1.narrow hAB, h.2.2.2.2.narrow hAB⟩
def nestL : List (String × Nat × MethodName × String) := [(RX6, 36, yX10_cellAt, RX10), (RX4, 11, yX2_init, RX10), (RX8, 11, yX2_init, RX10), (RX10, 9, yX7_init, RX10), (RX10, 38, yX0_init, RX10), (RX10, 48, yX1_init, RX10), (RX10, 55, yX5_init, RX10), (RX10, 62, yX4_init, RX10), (RX10, 69, yX8_init, RX10)]
/-- what every method may take as given of the machine's tables -/
def gK (D : va_G) (cs : Nat → ClassId) (U : State) : Prop := va_K D vwCl (tyG cs) U ∧ (∀ q ∈ nestL, va_Nw (.methodLinkNest q.1 q.2.1 q.2.2.1 q.2.2.2) U) ∧ (∀ q ∈ strL, vk_R q.1 q.2.1 q.2.2.1 (D.2 100 q.2.2.2) U)
theorem gK_warm {D : va_G} {cs : Nat → ClassId} {s U : State} (hW : s.WarmedH U.vm) (h : gK D cs s) : gK D cs U := ⟨va_K.moved hW.alike h.1, fun q hq => va_Nw.warmM hW (h.2.1 q hq), fun q hq => vk_R.warm hW (h.2.2 q hq)⟩
theorem gK_call {D : va_G} {cs : Nat → ClassId} {U V : State} (hv : U.vm = V.vm) (h : gK D cs U) : gK D cs V := ⟨va_K.moved (by rw [← hv]; exact Vm.Alike.refl U.vm) h.1, fun q hq => va_Nw.same rfl hv (h.2.1 q hq), fun q hq => vk_R.same hv.symm (h.2.2 q hq)⟩
abbrev pW (D : va_G) (cs : Nat → ClassId) (av : List Value) (sz : Nat) (w : va_W) : Array Value → State → Prop := va_Pc av (fun U => U.heap.size = sz ∧ va_P D vwCl w U.heap ∧ gK D cs U ∧ va_D (fun _ => True) w ∧ sS D (va_A w sz) U U.heap)
abbrev oI (D : va_G) (cs : Nat → ClassId) (w w' : va_W) (r : Int32) (sz : Nat) : Array Value → State → Outcome → State → Prop := va_Qi (fun x (_ : Unit) => x = r) (fun _ t => va_P D vwCl w' t.heap ∧ va_D (va_A w sz) w') (va_A w sz)
abbrev oV (D : va_G) (cs : Nat → ClassId) (w w' : va_W) (sz : Nat) : Array Value → State → Outcome → State → Prop := va_Qv (fun (_ : Unit) => True) (fun _ t => va_P D vwCl w' t.heap ∧ va_D (va_A w sz) w') (va_A w sz)
abbrev MI (l : Launch) (D : va_G) (cs : Nat → ClassId) (y : MethodName) (ws : List Cond) (rm : Room) (av : List Value) (sz : Nat) (w w' : va_W) (r : Int32) : Prop := Met l y ws rm (pW D cs av sz w) (oI D cs w w' r sz) 0 0 (va_A w sz)
abbrev MV (l : Launch) (D : va_G) (cs : Nat → ClassId) (y : MethodName) (ws : List Cond) (rm : Room) (av : List Value) (sz : Nat) (w w' : va_W) : Prop := Met l y ws rm (pW D cs av sz w) (oV D cs w w' sz) 0 0 (va_A w sz)
def Cx (p : Program) (s : State) (m : MethodId) (meth : Method) (c : Code) (av : Array Value) (ws : List Cond) (cc : ByteArray) (nL : Nat) (ret : Option FieldType) (own : String) (D : va_G) (cs : Nat → ClassId) (w0 : va_W) : Prop :=
  p.tables.exec = Jvm.exec ∧ c.code = cc ∧ meth.sig.returnType = ret ∧ meth.locks = false ∧ c.maxLocals = nL ∧ s.vm.findClass own = some m.cls ∧ (∀ w ∈ ws, w.before av s = true) ∧ va_K D vwCl (tyG cs) s ∧ gK D cs s ∧ sS D (va_A w0 s.heap.size) s s.heap
theorem ow_blind {D : va_G} {cs : Nat → ClassId} {av : List Value} {sz : Nat} {w : va_W} : FrameBlind (pW D cs av sz w) := fun a U g mk q => by
  obtain ⟨q0, q1, qP, qK, qD, qS⟩ := q
  exact ⟨q0, q1, qP, gK_call (U := U) (V := U.calling g mk a) rfl qK, qD, sS.moved (u := U) (U := U.calling g mk a) (Vm.Alike.refl U.vm) qS⟩
theorem ow_enter {l : Launch} {D : va_G} {cs : Nat → ClassId} {y : MethodName} {ws ws' : List Cond} {rm : Room} {av : List Value} {sz mc ms : Nat} {w : va_W} {Qc : Nat → Array Value → State → Outcome → State → Prop} {cc : ByteArray} {nL : Nat} {ret : Option FieldType} (hy : plainName y.cls = true) (hw : ws = Cond.code y cc nL ret :: ws') (hn : (lg_sl av).length ≤ nL)
    (k : ∀ (p : Program) (e : Env) (s : State) (m : MethodId) (below : List Frame) (meth : Method) (c : Code) (ls : Array Slot) (H : Heap) (locs : List Loc), Cx p s m meth c av.toArray ws cc nL ret y.cls D cs w → va_P D vwCl w H → va_D (va_A w s.heap.size) w → va_S (va_A w s.heap.size) s.heap H locs → (∀ q : Nat, s.heap.size ≤ q → va_A w s.heap.size q) → lv_has ls nL (lv_args 0 av) → W p l e rm s m av.toArray below meth c H locs 0 0 (MQ below (Qc s.heap.size) av.toArray s mc ms (va_A w s.heap.size)) (F0 m 0 ls [])) :
    Met l y ws rm (pW D cs av sz w) (Qc sz) mc ms (va_A w sz) := by
  refine Met.ofW (cc := cc) (maxL := nL) (ret := ret) hy hw ?_
  intro p e s m args below meth c s₁ B hml hv
  obtain ⟨rfl, hsz, hP, hK, hD0, hE⟩ := hv
  subst hsz
  rw [lg_entry_eq]
  exact k p e s m below meth c _ _ _ ⟨B.exec, B.bytes, B.returns, B.notSynchronized, hml, findClass_of_methodNamed B.named, atoms_spec (ws := ws) B.pre, hK.1, hK, hE⟩ hP hD0.self va_S.rf (fun q h => Or.inr h) (lv_entry av hn)
abbrev ow_pk (w : va_W) (is : List Nat) : va_W := is.filterMap (fun i => w[i]?)
section OWN
variable {p : Program} {l : Launch} {e : Env} {R : Room} {s : State} {m : MethodId} {av : Array Value} {below : List Frame} {meth : Method} {c : Code} {H : Heap} {locs : List Loc} {cells slots : Nat} {Q : State → Prop}
variable {ws : List Cond} {cc : ByteArray} {nL : Nat} {ret : Option FieldType} {own : String} {D : va_G} {cs : Nat → ClassId} {pc : Nat} {ls : Array Slot} {rest st0 : List Value} {A : Nat → Prop} {w w0 w1 : va_W} {r : Int32}
theorem ow_retI (C0 : Cx p s m meth c av ws cc nL (some .int) own D cs w0) (hP : va_P D vwCl w1 H) (hD : va_D (va_A w0 s.heap.size) w1) (hS : va_S (va_A w0 s.heap.size) s.heap H locs) (hdg : decode cc pc = .ok (.ireturn, 1)) :
    W p l e R s m av below meth c H locs 0 0 (MQ below (oI D cs w0 w1 r s.heap.size) av s 0 0 (va_A w0 s.heap.size)) (F0 m pc ls (.int r :: [])) := by
  obtain ⟨hx, hb, hr, hlk, hml, hown, hts, hK, hG, hE⟩ := id C0
  exact W.iret hx hb hr (fun t ht hW => ⟨⟨r, (), rfl, rfl, by rw [ht]; exact hP, hD⟩, hS.F ht⟩) hS.2.2 hdg hlk
theorem ow_retZ (C0 : Cx p s m meth c av ws cc nL (some .boolean) own D cs w0) (hz : r = 0 ∨ r = 1) (hP : va_P D vwCl w1 H) (hD : va_D (va_A w0 s.heap.size) w1) (hS : va_S (va_A w0 s.heap.size) s.heap H locs) (hdg : decode cc pc = .ok (.ireturn, 1)) :
    W p l e R s m av below meth c H locs 0 0 (MQ below (oI D cs w0 w1 r s.heap.size) av s 0 0 (va_A w0 s.heap.size)) (F0 m pc ls (.int r :: [])) := by
  obtain ⟨hx, hb, hr, hlk, hml, hown, hts, hK, hG, hE⟩ := id C0
  exact W.zret hx hb hr (ow_nz hz) (fun t ht hW => ⟨⟨r, (), rfl, rfl, by rw [ht]; exact hP, hD⟩, hS.F ht⟩) hS.2.2 hdg hlk
theorem ow_retT {ty : FieldType} (C0 : Cx p s m meth c av ws cc nL (some ty) own D cs w0) (hn : narrow ty (.int r) = .int r) (hP : va_P D vwCl w1 H) (hD : va_D (va_A w0 s.heap.size) w1) (hS : va_S (va_A w0 s.heap.size) s.heap H locs) (hdg : decode cc pc = .ok (.ireturn, 1)) :
    W p l e R s m av below meth c H locs 0 0 (MQ below (oI D cs w0 w1 r s.heap.size) av s 0 0 (va_A w0 s.heap.size)) (F0 m pc ls (.int r :: [])) := by
  obtain ⟨hx, hb, hr, hlk, hml, hown, hts, hK, hG, hE⟩ := id C0
  exact W.zret hx hb hr hn (fun t ht hW => ⟨⟨r, (), rfl, rfl, by rw [ht]; exact hP, hD⟩, hS.F ht⟩) hS.2.2 hdg hlk
theorem ow_retV (C0 : Cx p s m meth c av ws cc nL none own D cs w0) (hP : va_P D vwCl w1 H) (hD : va_D (va_A w0 s.heap.size) w1) (hS : va_S (va_A w0 s.heap.size) s.heap H locs) (hdg : decode cc pc = .ok (.return_, 1)) :
    W p l e R s m av below meth c H locs 0 0 (MQ below (oV D cs w0 w1 s.heap.size) av s 0 0 (va_A w0 s.heap.size)) (F0 m pc ls []) := by
  obtain ⟨hx, hb, hr, hlk, hml, hown, hts, hK, hG, hE⟩ := id C0
  exact W.vret hx hb hr (fun t ht hW => ⟨⟨(), rfl, trivial, by rw [ht]; exact hP, hD⟩, hS.F ht⟩) hS.2.2 hdg hlk
/-- what comes back from a call, beside the rest, in its canonical order -/
theorem ow_back {wc wr wc' wf : va_W} {H1 : Heap} (hP : va_P D vwCl w H) (hD : va_D A w) (hS : va_S A s.heap H locs) (hA : ∀ q, s.heap.size ≤ q → A q) (isC isR isF : List Nat) (hC : isC.map (fun i => w[i]?) = wc.map some) (hR : isR.map (fun i => w[i]?) = wr.map some) (hnR : va_nd isR = true) (hdis : ∀ i ∈ isR, i ∉ isC) (hF : isF.map (fun i => (wr ++ wc')[i]?) = wf.map some) (hnF : va_nd isF = true)
    (hk1 : ∀ q : Nat, q < H.size → ¬ va_A wc H.size q → H1[q]? = H[q]?) (hP1 : va_P D vwCl wc' H1) (hD1 : va_D (va_A wc H.size) wc') : va_P D vwCl wf H1 ∧ va_D A wf := by
  obtain ⟨hPj, hDj⟩ := va_join hP hD isC isR hC hR hnR hdis hk1 (va_free hD hS hA isC hC) hP1 hD1
  refine ⟨hPj.by (fun k => (isF[k]?).getD 0) (fun k q hq => ?_), hDj.sub isF hnF hF⟩
  have h1 : (isF.map (fun i => (wr ++ wc')[i]?))[k]? = some (some q) := by rw [hF, List.getElem?_map, hq]; rfl
  rw [List.getElem?_map] at h1
  cases h2 : isF[k]? with
  | none => rw [h2] at h1; cases h1
  | some i =>
    rw [h2] at h1
    exact Option.some.inj h1
theorem ow_cut {wc : va_W} (hP : va_P D vwCl w H) (isC : List Nat) (hC : isC.map (fun i => w[i]?) = wc.map some) : va_P D vwCl wc H := by
  refine hP.by (fun k => (isC[k]?).getD 0) (fun k q hq => ?_)
  have h1 : (isC.map (fun i => w[i]?))[k]? = some (some q) := by rw [hC, List.getElem?_map, hq]; rfl
  rw [List.getElem?_map] at h1
  cases h2 : isC[k]? with
  | none => rw [h2] at h1; cases h1
  | some i =>
    rw [h2] at h1
    exact Option.some.inj h1
theorem ow_callVI {y : MethodName} {wsY : List Cond} {rmY : Room} {b : Nat} {As : List Value} {wc wc' wr wf : va_W} {C : String} {T : u_T} {N idx n maxLY : Nat} {bytes : ByteArray} {retY : Option FieldType} {fs : List Value} (C0 : Cx p s m meth c av ws cc nL ret own D cs w0) (hM : MI l D cs y wsY rmY (.ref b :: As) H.size wc wc' r) (cw : CallW R s av own C idx y bytes maxLY retY wsY rmY 0 0 n) (ci : Nat) (hci : vwCl[ci]? = some (C, T, N)) (hrc : wc[0]? = some (b, .inr (ci, fs)))
    (hP : va_P D vwCl w H) (hD : va_D (va_A w0 s.heap.size) w) (hS : va_S (va_A w0 s.heap.size) s.heap H locs) (hA : ∀ q, s.heap.size ≤ q → va_A w0 s.heap.size q) (isC isR isF : List Nat) (hC : isC.map (fun i => w[i]?) = wc.map some) (hnC : va_nd isC = true) (hR : isR.map (fun i => w[i]?) = wr.map some) (hnR : va_nd isR = true) (hdis : ∀ i ∈ isR, i ∉ isC) (hF : isF.map (fun i => (wr ++ wc')[i]?) = wf.map some) (hnF : va_nd isF = true)
    (hn : As.length = n) (hls : ls.size = nL) (hst : st0 = As.reverse ++ .ref b :: rest) (hrest : (rest.map fun v => v.category).sum ≤ 8) (hrm : cells ≤ R.cells ∧ slots ≤ R.slots) (hdg : decode cc pc = .ok (.invokevirtual idx, 3))
    (kk : ∀ (H1 : Heap) (locs1 : List Loc), va_P D vwCl wf H1 → va_D (va_A w0 s.heap.size) wf → va_S (va_A w0 s.heap.size) s.heap H1 locs1 → W p l e R s m av below meth c H1 locs1 cells slots Q (F0 m (pc + 3) ls (.int r :: rest))) :
    W p l e R s m av below meth c H locs cells slots Q (F0 m pc ls st0) := by
  obtain ⟨hx, hb, hr, hlk, hml, hown, hts, hK, hG, hE⟩ := id C0
  have hPc := ow_cut hP isC hC
  have hDc := hD.sub isC hnC hC
  have hFc := va_free hD hS hA isC hC
  refine va_calli (va_runV (As := As) (rest := rest) ⟨hx, hb, hml, hown, hts⟩ hM cw ⟨ow_blind, va_recv hK hPc hci hrc, fun U hU hW => ⟨rfl, by rw [hU], by rw [hU]; exact hPc, gK_warm hW hG, hDc.weaken (fun _ _ _ _ => trivial), by rw [hU]; exact sS.moved hW.alike ((hE.kept hS.2.1).narrow hFc)⟩⟩ rfl hn hls hst (lv_room hrest) hdg hrm) hS (fun q _ h => hFc q h) hFc (fun r1 u t H1 locs1 ht hvm hw hB hz1 hk1 hS1 => ?_)
  obtain ⟨hP1, hD1⟩ := hB
  rw [ht] at hP1
  obtain ⟨hP2, hD2⟩ := ow_back hP hD hS hA isC isR isF hC hR hnR hdis hF hnF hk1 hP1 hD1
  subst hw
  exact kk H1 locs1 hP2 hD2 hS1
theorem ow_callVIs {y : MethodName} {wsY : List Cond} {rmY : Room} {b : Nat} {As : List Value} {wc wc' wr wf : va_W} {C : String} {idx n maxLY : Nat} {bytes : ByteArray} {retY : Option FieldType} (C0 : Cx p s m meth c av ws cc nL ret own D cs w0) (hM : MI l D cs y wsY rmY (.ref b :: As) H.size wc wc' r) (cw : CallW R s av own C idx y bytes maxLY retY wsY rmY 0 0 n) (hrv : ∃ cellB : Cell, H[b]? = some cellB ∧ cellB.vm.isStatics = false ∧ s.vm.findClass C = some cellB.cls)
    (hP : va_P D vwCl w H) (hD : va_D (va_A w0 s.heap.size) w) (hS : va_S (va_A w0 s.heap.size) s.heap H locs) (hA : ∀ q, s.heap.size ≤ q → va_A w0 s.heap.size q) (isC isR isF : List Nat) (hC : isC.map (fun i => w[i]?) = wc.map some) (hnC : va_nd isC = true) (hR : isR.map (fun i => w[i]?) = wr.map some) (hnR : va_nd isR = true) (hdis : ∀ i ∈ isR, i ∉ isC) (hF : isF.map (fun i => (wr ++ wc')[i]?) = wf.map some) (hnF : va_nd isF = true)
    (hn : As.length = n) (hls : ls.size = nL) (hst : st0 = As.reverse ++ .ref b :: rest) (hrest : (rest.map fun v => v.category).sum ≤ 8) (hrm : cells ≤ R.cells ∧ slots ≤ R.slots) (hdg : decode cc pc = .ok (.invokevirtual idx, 3))
    (kk : ∀ (H1 : Heap) (locs1 : List Loc), va_P D vwCl wf H1 → va_D (va_A w0 s.heap.size) wf → va_S (va_A w0 s.heap.size) s.heap H1 locs1 → W p l e R s m av below meth c H1 locs1 cells slots Q (F0 m (pc + 3) ls (.int r :: rest))) :
    W p l e R s m av below meth c H locs cells slots Q (F0 m pc ls st0) := by
  obtain ⟨hx, hb, hr, hlk, hml, hown, hts, hK, hG, hE⟩ := id C0
  have hPc := ow_cut hP isC hC
  have hDc := hD.sub isC hnC hC
  have hFc := va_free hD hS hA isC hC
  refine va_calli (va_runV (As := As) (rest := rest) ⟨hx, hb, hml, hown, hts⟩ hM cw ⟨ow_blind, hrv, fun U hU hW => ⟨rfl, by rw [hU], by rw [hU]; exact hPc, gK_warm hW hG, hDc.weaken (fun _ _ _ _ => trivial), by rw [hU]; exact sS.moved hW.alike ((hE.kept hS.2.1).narrow hFc)⟩⟩ rfl hn hls hst (lv_room hrest) hdg hrm) hS (fun q _ h => hFc q h) hFc (fun r1 u t H1 locs1 ht hvm hw hB hz1 hk1 hS1 => ?_)
  obtain ⟨hP1, hD1⟩ := hB
  rw [ht] at hP1
  obtain ⟨hP2, hD2⟩ := ow_back hP hD hS hA isC isR isF hC hR hnR hdis hF hnF hk1 hP1 hD1
  subst hw
  exact kk H1 locs1 hP2 hD2 hS1
theorem ow_callVV {y : MethodName} {wsY : List Cond} {rmY : Room} {b : Nat} {As : List Value} {wc wc' wr wf : va_W} {C : String} {T : u_T} {N idx n maxLY : Nat} {bytes : ByteArray} {retY : Option FieldType} {fs : List Value} (C0 : Cx p s m meth c av ws cc nL ret own D cs w0) (hM : MV l D cs y wsY rmY (.ref b :: As) H.size wc wc') (cw : CallW R s av own C idx y bytes maxLY retY wsY rmY 0 0 n) (ci : Nat) (hci : vwCl[ci]? = some (C, T, N)) (hrc : wc[0]? = some (b, .inr (ci, fs)))
    (hP : va_P D vwCl w H) (hD : va_D (va_A w0 s.heap.size) w) (hS : va_S (va_A w0 s.heap.size) s.heap H locs) (hA : ∀ q, s.heap.size ≤ q → va_A w0 s.heap.size q) (isC isR isF : List Nat) (hC : isC.map (fun i => w[i]?) = wc.map some) (hnC : va_nd isC = true) (hR : isR.map (fun i => w[i]?) = wr.map some) (hnR : va_nd isR = true) (hdis : ∀ i ∈ isR, i ∉ isC) (hF : isF.map (fun i => (wr ++ wc')[i]?) = wf.map some) (hnF : va_nd isF = true)
    (hn : As.length = n) (hls : ls.size = nL) (hst : st0 = As.reverse ++ .ref b :: rest) (hrest : (rest.map fun v => v.category).sum ≤ 8) (hrm : cells ≤ R.cells ∧ slots ≤ R.slots) (hdg : decode cc pc = .ok (.invokevirtual idx, 3))
    (kk : ∀ (H1 : Heap) (locs1 : List Loc), va_P D vwCl wf H1 → va_D (va_A w0 s.heap.size) wf → va_S (va_A w0 s.heap.size) s.heap H1 locs1 → W p l e R s m av below meth c H1 locs1 cells slots Q (F0 m (pc + 3) ls rest)) :
    W p l e R s m av below meth c H locs cells slots Q (F0 m pc ls st0) := by
  obtain ⟨hx, hb, hr, hlk, hml, hown, hts, hK, hG, hE⟩ := id C0
  have hPc := ow_cut hP isC hC
  have hDc := hD.sub isC hnC hC
  have hFc := va_free hD hS hA isC hC
  refine va_callv (va_runV (As := As) (rest := rest) ⟨hx, hb, hml, hown, hts⟩ hM cw ⟨ow_blind, va_recv hK hPc hci hrc, fun U hU hW => ⟨rfl, by rw [hU], by rw [hU]; exact hPc, gK_warm hW hG, hDc.weaken (fun _ _ _ _ => trivial), by rw [hU]; exact sS.moved hW.alike ((hE.kept hS.2.1).narrow hFc)⟩⟩ rfl hn hls hst (lv_room hrest) hdg hrm) hS (fun q _ h => hFc q h) hFc (fun u t H1 locs1 ht hvm hw hB hz1 hk1 hS1 => ?_)
  obtain ⟨hP1, hD1⟩ := hB
  rw [ht] at hP1
  obtain ⟨hP2, hD2⟩ := ow_back hP hD hS hA isC isR isF hC hR hnR hdis hF hnF hk1 hP1 hD1
  exact kk H1 locs1 hP2 hD2 hS1
theorem ow_callSI {y : MethodName} {wsY : List Cond} {rmY : Room} {As : List Value} {wc wc' wr wf : va_W} {idx n maxLY : Nat} {bytes : ByteArray} {retY : Option FieldType} (C0 : Cx p s m meth c av ws cc nL ret own D cs w0) (hM : MI l D cs y wsY rmY As H.size wc wc' r) (cw : CallB R s av own idx y bytes maxLY retY wsY rmY 0 0 n ∧ (Cond.static y).before av s = true)
    (hP : va_P D vwCl w H) (hD : va_D (va_A w0 s.heap.size) w) (hS : va_S (va_A w0 s.heap.size) s.heap H locs) (hA : ∀ q, s.heap.size ≤ q → va_A w0 s.heap.size q) (isC isR isF : List Nat) (hC : isC.map (fun i => w[i]?) = wc.map some) (hnC : va_nd isC = true) (hR : isR.map (fun i => w[i]?) = wr.map some) (hnR : va_nd isR = true) (hdis : ∀ i ∈ isR, i ∉ isC) (hF : isF.map (fun i => (wr ++ wc')[i]?) = wf.map some) (hnF : va_nd isF = true)
    (hn : As.length = n) (hls : ls.size = nL) (hst : st0 = As.reverse ++ rest) (hrest : (rest.map fun v => v.category).sum ≤ 8) (hrm : cells ≤ R.cells ∧ slots ≤ R.slots) (hdg : decode cc pc = .ok (.invokestatic idx, 3))
    (kk : ∀ (H1 : Heap) (locs1 : List Loc), va_P D vwCl wf H1 → va_D (va_A w0 s.heap.size) wf → va_S (va_A w0 s.heap.size) s.heap H1 locs1 → W p l e R s m av below meth c H1 locs1 cells slots Q (F0 m (pc + 3) ls (.int r :: rest))) :
    W p l e R s m av below meth c H locs cells slots Q (F0 m pc ls st0) := by
  obtain ⟨hx, hb, hr, hlk, hml, hown, hts, hK, hG, hE⟩ := id C0
  have hPc := ow_cut hP isC hC
  have hDc := hD.sub isC hnC hC
  have hFc := va_free hD hS hA isC hC
  refine va_calli (va_runS (As := As) (rest := rest) ⟨hx, hb, hml, hown, hts⟩ hM cw ⟨ow_blind, fun U hU hW => ⟨rfl, by rw [hU], by rw [hU]; exact hPc, gK_warm hW hG, hDc.weaken (fun _ _ _ _ => trivial), by rw [hU]; exact sS.moved hW.alike ((hE.kept hS.2.1).narrow hFc)⟩⟩ rfl hn hls hst (lv_room hrest) hdg hrm) hS (fun q _ h => hFc q h) hFc (fun r1 u t H1 locs1 ht hvm hw hB hz1 hk1 hS1 => ?_)
  obtain ⟨hP1, hD1⟩ := hB
  rw [ht] at hP1
  obtain ⟨hP2, hD2⟩ := ow_back hP hD hS hA isC isR isF hC hR hnR hdis hF hnF hk1 hP1 hD1
  subst hw
  exact kk H1 locs1 hP2 hD2 hS1
theorem ow_callSIN {y : MethodName} {wsY : List Cond} {rmY : Room} {As : List Value} {wc wc' wr wf : va_W} {idx n maxLY : Nat} {bytes : ByteArray} {retY : Option FieldType} (C0 : Cx p s m meth c av ws cc nL ret own D cs w0) (hM : MI l D cs y wsY rmY As H.size wc wc' r) {host : String} (cw : va_CN R s av own idx y host bytes maxLY retY wsY rmY 0 0 n ∧ (Cond.static y).before av s = true ∧ True)
    (hP : va_P D vwCl w H) (hD : va_D (va_A w0 s.heap.size) w) (hS : va_S (va_A w0 s.heap.size) s.heap H locs) (hA : ∀ q, s.heap.size ≤ q → va_A w0 s.heap.size q) (isC isR isF : List Nat) (hC : isC.map (fun i => w[i]?) = wc.map some) (hnC : va_nd isC = true) (hR : isR.map (fun i => w[i]?) = wr.map some) (hnR : va_nd isR = true) (hdis : ∀ i ∈ isR, i ∉ isC) (hF : isF.map (fun i => (wr ++ wc')[i]?) = wf.map some) (hnF : va_nd isF = true)
    (hn : As.length = n) (hls : ls.size = nL) (hst : st0 = As.reverse ++ rest) (hrest : (rest.map fun v => v.category).sum ≤ 8) (hrm : cells ≤ R.cells ∧ slots ≤ R.slots) (hdg : decode cc pc = .ok (.invokestatic idx, 3))
    (kk : ∀ (H1 : Heap) (locs1 : List Loc), va_P D vwCl wf H1 → va_D (va_A w0 s.heap.size) wf → va_S (va_A w0 s.heap.size) s.heap H1 locs1 → W p l e R s m av below meth c H1 locs1 cells slots Q (F0 m (pc + 3) ls (.int r :: rest))) :
    W p l e R s m av below meth c H locs cells slots Q (F0 m pc ls st0) := by
  obtain ⟨hx, hb, hr, hlk, hml, hown, hts, hK, hG, hE⟩ := id C0
  have hPc := ow_cut hP isC hC
  have hDc := hD.sub isC hnC hC
  have hFc := va_free hD hS hA isC hC
  refine va_calli (va_runSN (As := As) (rest := rest) ⟨hx, hb, hml, hown, hts⟩ hM cw ⟨ow_blind, fun U hU hW => ⟨rfl, by rw [hU], by rw [hU]; exact hPc, gK_warm hW hG, hDc.weaken (fun _ _ _ _ => trivial), by rw [hU]; exact sS.moved hW.alike ((hE.kept hS.2.1).narrow hFc)⟩⟩ rfl hn hls hst (lv_room hrest) hdg hrm) hS (fun q _ h => hFc q h) hFc (fun r1 u t H1 locs1 ht hvm hw hB hz1 hk1 hS1 => ?_)
  obtain ⟨hP1, hD1⟩ := hB
  rw [ht] at hP1
  obtain ⟨hP2, hD2⟩ := ow_back hP hD hS hA isC isR isF hC hR hnR hdis hF hnF hk1 hP1 hD1
  subst hw
  exact kk H1 locs1 hP2 hD2 hS1
theorem ow_callSV {y : MethodName} {wsY : List Cond} {rmY : Room} {As : List Value} {wc wc' wr wf : va_W} {idx n maxLY : Nat} {bytes : ByteArray} {retY : Option FieldType} (C0 : Cx p s m meth c av ws cc nL ret own D cs w0) (hM : MV l D cs y wsY rmY As H.size wc wc') (cw : CallB R s av own idx y bytes maxLY retY wsY rmY 0 0 n ∧ (Cond.static y).before av s = true)
    (hP : va_P D vwCl w H) (hD : va_D (va_A w0 s.heap.size) w) (hS : va_S (va_A w0 s.heap.size) s.heap H locs) (hA : ∀ q, s.heap.size ≤ q → va_A w0 s.heap.size q) (isC isR isF : List Nat) (hC : isC.map (fun i => w[i]?) = wc.map some) (hnC : va_nd isC = true) (hR : isR.map (fun i => w[i]?) = wr.map some) (hnR : va_nd isR = true) (hdis : ∀ i ∈ isR, i ∉ isC) (hF : isF.map (fun i => (wr ++ wc')[i]?) = wf.map some) (hnF : va_nd isF = true)
    (hn : As.length = n) (hls : ls.size = nL) (hst : st0 = As.reverse ++ rest) (hrest : (rest.map fun v => v.category).sum ≤ 8) (hrm : cells ≤ R.cells ∧ slots ≤ R.slots) (hdg : decode cc pc = .ok (.invokestatic idx, 3))
    (kk : ∀ (H1 : Heap) (locs1 : List Loc), va_P D vwCl wf H1 → va_D (va_A w0 s.heap.size) wf → va_S (va_A w0 s.heap.size) s.heap H1 locs1 → W p l e R s m av below meth c H1 locs1 cells slots Q (F0 m (pc + 3) ls rest)) :
    W p l e R s m av below meth c H locs cells slots Q (F0 m pc ls st0) := by
  obtain ⟨hx, hb, hr, hlk, hml, hown, hts, hK, hG, hE⟩ := id C0
  have hPc := ow_cut hP isC hC
  have hDc := hD.sub isC hnC hC
  have hFc := va_free hD hS hA isC hC
  refine va_callv (va_runS (As := As) (rest := rest) ⟨hx, hb, hml, hown, hts⟩ hM cw ⟨ow_blind, fun U hU hW => ⟨rfl, by rw [hU], by rw [hU]; exact hPc, gK_warm hW hG, hDc.weaken (fun _ _ _ _ => trivial), by rw [hU]; exact sS.moved hW.alike ((hE.kept hS.2.1).narrow hFc)⟩⟩ rfl hn hls hst (lv_room hrest) hdg hrm) hS (fun q _ h => hFc q h) hFc (fun u t H1 locs1 ht hvm hw hB hz1 hk1 hS1 => ?_)
  obtain ⟨hP1, hD1⟩ := hB
  rw [ht] at hP1
  obtain ⟨hP2, hD2⟩ := ow_back hP hD hS hA isC isR isF hC hR hnR hdis hF hnF hk1 hP1 hD1
  exact kk H1 locs1 hP2 hD2 hS1
end OWN

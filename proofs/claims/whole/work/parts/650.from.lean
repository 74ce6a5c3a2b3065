def R_law : String := "PaneDaysLaw"
def lw_P (b : Addr) (xs : List Int32) (args : Array Value) (s : State) : Prop := args = #[.ref b] ∧ s.IntsAt b xs ∧ xs.length ≤ 3584 ∧ (Jvm.Cond.and given_1 narrow_1).before args s = true
def lw_Q (_ : Array Value) (s : State) (o : Outcome) (t : State) : Prop := o = .returned (some (.int 1)) ∧ Framed s o t [] room_1.cells room_1.slots
def lw_Z (below : List Frame) (a : Array Value) (s : State) : State → Prop := fun t => ∃ o, t.status = .running ∧ Ended t below o ∧ lw_Q a s o t
theorem lw_ret {p : Program} {l : Launch} {e : Env} {s : State} {m : MethodId} {below : List Frame} {meth : Method} {c : Code} {b : Nat} (hx : p.tables.exec = Jvm.exec) (hb : c.code = code) (hr : meth.sig.returnType = ret) (hlocks : meth.locks = false) {pc : Nat} {H : Heap} {ls : Array Slot} (hdg : decode code pc = .ok (.ireturn, 1)) : W p l e room_1 s m #[Value.ref b] below meth c H [] room_1.cells room_1.slots (lw_Z below #[Value.ref b] s) (F0 m pc ls [.int 1]) := by
  intro T hT X
  obtain ⟨fs, hret, hrun, hended, hW, hframe⟩ := X.leave (v := some (.int 1)) (hlocks := hlocks) (fun h => by rw [hr] at h; cases h)
  have hmeth' : T.vm.method? m = some meth := X.method'
  refine ⟨T.setFrames fs, ?_, .returned (some (.int 1)), hrun, hended, rfl, ⟨_, rfl⟩, hW, hframe⟩
  jvm_step X.here [X.here.top, hx, hb, hdg, hmeth', hr, ret, narrow_b1]
  (try refine ⟨rfl, ?_⟩); (try refine ⟨rfl, ?_⟩)
  first | (intro acts; rw [hret _ acts rfl rfl rfl]) | rw [hret _ _ rfl rfl rfl]
  exact Steps.refl _
def lw_At (p : Program) (s : State) (m : MethodId) (meth : Method) (c : Code) (b L : Nat) (xs : Nat → Int32) : Prop :=
  p.tables.exec = Jvm.exec ∧ c.code = code ∧ meth.sig.returnType = ret ∧ c.maxLocals = 7 ∧ s.vm.findClass R_law = some m.cls ∧ (∀ w ∈ lw_tbl, w.before #[Value.ref b] s = true) ∧ va_X b L xs s s.heap ∧ b < s.heap.size ∧ meth.locks = false ∧ (Jvm.Cond.and given_1 narrow_1).before #[Value.ref b] s = true
theorem whole_from {p : Program} {e : Env} {s : State} {m : MethodId} {below : List Frame} {meth : Method} {c : Code} (l : Launch) (hl0 : l.stackTraces = false) {b L : Nat} {xs : Nat → Int32} (hL : L ≤ 3584) (C0 : lw_At p s m meth c b L xs) (I : Nat → CS → RS → Nat → Nat → Prop)
    (r6 : Int32 × Int32 × Int32 × Int32 × Int32 × Int32 × (Nat → Int32)) (hr6 : f_X6_forget (0) (0) (0) (0) (0) (0) (fun _ => 0) = some r6) (r3 : Int32 × (Nat → Int32)) (hr3 : f_X3_forget (0) (fun _ => 0) = some r3) (tn : (Nat → Int32)) (htn : f_X11_tellsNothing ((fun _ => 0)) = some tn) (st : Int32 × Int32 × Int32 × Int32 × Int32 × (Nat → Int32) × (Nat → Int32) × (Nat → Nat → Int32) × (Nat → Nat → Int32) × (Nat → Nat → Int32)) (hst : f_X11_stands (0) (0) (0) (0) (0) tn ((fun _ => 0)) ((fun _ => 0)) ((fun _ _ => 0)) ((fun _ _ => 0)) ((fun _ _ => 0)) ((fun _ _ => 0)) ((fun _ _ => 0)) ((fun _ _ => 0)) = some st)
    (hstart : ∀ (x mo : Nat) (P : Nat → Nat → Nat) (P2 : (Nat → Nat) × (Nat → Nat → Nat)), I 0 (C00 x r6 r3 P) (R00 mo tn st P2) 566 86124)
    (hstep : ∀ (i : Nat) (C : CS) (R : RS) (cells slots : Nat), i + 7 ≤ L → I i C R cells slots → (∀ k, k ≤ 40 → xs i &&& 63 = nI k → pOp (I (i + 7)) C R xs i cells slots k) ∧ I (i + 7) C R cells slots)
    (hroom : ∀ (i : Nat) (C : CS) (R : RS) (cells slots : Nat), i ≤ L → I i C R cells slots → cells ≤ room_1.cells ∧ slots ≤ room_1.slots) :
    W p l e room_1 s m #[Value.ref b] below meth c s.heap [] 0 0 (lw_Z below #[Value.ref b] s) (entryFrame m ([Value.ref b] : List Value).toArray 7) := by
  obtain ⟨hx, hb, hr, hml, hown, hts, hX, hbl, hlocks, hgv⟩ := id C0
  obtain ⟨D, cs, Cx0, hN, hC⟩ := st_all hx hb hr hlocks hml hown hts hgv
  have hl := lv_entry ([.ref b]) (n := 7) (Nat.le_of_ble_eq_true rfl)
  rw [lg_entry_eq]
  generalize (lg_sl ([.ref b]) ++ List.replicate (7 - (lg_sl ([.ref b])).length) Slot.unset).toArray = ls at hl ⊢
  have hl : lv_has ls 7 [(0, .ref b)] := hl
  refine law_begin Cx0 hN r6 hr6 r3 hr3 tn htn st hst ls hl (fun x mo o P P2 H locs ls hs => ?_)
  refine law_loop Cx0 hX hbl hL I (x := x) (mo := mo) (o := o) ?_ ?_ (L + 1) 0 _ _ _ _ _ _ _ _ (by omega) (by omega) (hstart x mo P P2) hs
  · intro i C R cells slots v H locs ls hi hI hs kk
    exact law_step Cx0 hN hC hl0 hX hbl hL i hi (I (i + 7)) C R cells slots v H locs ls hs kk (hstep i C R cells slots hi hI).1 (hstep i C R cells slots hi hI).2
  · intro i C R cells slots H locs ls hi hI hS
    obtain ⟨h1, h2⟩ := hroom i C R cells slots hi hI
    refine va_forget (fun q hq => ?_) ?_
    · rcases hS.2.2 q hq with ⟨k, e, h⟩ | h
      · cases h
      · exact h
    · refine lv_iconst (v := 1) hx hb dL_law__2739 (by decide) ?_
      refine W.widen (k := room_1.cells) (n := room_1.slots) h1 h2 ?_
      exact lw_ret hx hb hr hlocks dL_law__2740

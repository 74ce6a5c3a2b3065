/-! the law's wrappers: a call that may throw, caught -/
abbrev oCell (cs : Nat → ClassId) (o : Nat) (v : Nat → Int64) : Nat × va_E := (o, .inl (cs 2, 1, .inr (.inl v)))
def gC (U : State) : Prop := va_Nc "java/lang/IllegalArgumentException" "java/util/NoSuchElementException" U ∧ va_Nc "java/util/NoSuchElementException" "java/lang/IndexOutOfBoundsException" U ∧ va_Nc "java/lang/IllegalArgumentException" "java/lang/IndexOutOfBoundsException" U
theorem gC_warm {s U : State} (hW : s.WarmedH U.vm) (h : gC s) : gC U := ⟨va_Nc.moved hW.alike h.1, va_Nc.moved hW.alike h.2.1, va_Nc.moved hW.alike h.2.2⟩
theorem gC_call {U V : State} (hv : U.vm = V.vm) (h : gC U) : gC V := ⟨va_Nc.moved (by rw [← hv]; exact Vm.Alike.refl U.vm) h.1, va_Nc.moved (by rw [← hv]; exact Vm.Alike.refl U.vm) h.2.1, va_Nc.moved (by rw [← hv]; exact Vm.Alike.refl U.vm) h.2.2⟩
abbrev pC (D : va_G) (cs : Nat → ClassId) (av : List Value) (sz : Nat) (w : va_W) : Array Value → State → Prop := va_Pc av (fun U => U.heap.size = sz ∧ va_P D vwCl w U.heap ∧ gK D cs U ∧ (gN U ∧ gC U) ∧ va_D (fun _ => True) w ∧ sS D (va_A w sz) U U.heap)
theorem ow_blindC {D : va_G} {cs : Nat → ClassId} {av : List Value} {sz : Nat} {w : va_W} : FrameBlind (pC D cs av sz w) := fun a U g mk q => by
  obtain ⟨q0, q1, qP, qK, qN, qD, qS⟩ := q
  exact ⟨q0, q1, qP, gK_call (U := U) (V := U.calling g mk a) rfl qK, ⟨gN_call (U := U) (V := U.calling g mk a) rfl qN.1, gC_call (U := U) (V := U.calling g mk a) rfl qN.2⟩, qD, sS.moved (u := U) (U := U.calling g mk a) (Vm.Alike.refl U.vm) qS⟩
/-- what a method of PaneDays does: k 0: it answers r; else it throws exN k; the cells behind it are those of w' u, for a u with ok -/
abbrev XS {S : Type} (l : Launch) (D : va_G) (cs : Nat → ClassId) (y : MethodName) (ws : List Cond) (rm : Room) (av : List Value) (sz : Nat) (w : va_W) (ok : S → Prop) (w' : S → va_W) (k : Nat) (r : Int32) (mc ms : Nat) : Prop := vx_Met l y ws rm (pN D cs av sz w) (va_Qi (fun x (u : S) => k = 0 ∧ x = r ∧ ok u) (fun u t => va_P D vwCl (w' u) t.heap ∧ va_D (va_A w sz) (w' u)) (va_A w sz)) (vx_X (fun (u : S) => k ≠ 0 ∧ ok u) (fun E u t => E = exN k ∧ va_P D vwCl (w' u) t.heap ∧ va_D (va_A w sz) (w' u)) (va_A w sz)) mc ms (va_A w sz)
/-- what a wrapper does -/
abbrev MW {S : Type} (l : Launch) (D : va_G) (cs : Nat → ClassId) (y : MethodName) (ws : List Cond) (rm : Room) (av : List Value) (sz : Nat) (w : va_W) (ok : S → Prop) (w' : S → va_W) (r : Int32) (mc ms : Nat) : Prop := Met l y ws rm (pC D cs av sz w) (va_Qi (fun x (u : S) => x = r ∧ ok u) (fun u t => va_P D vwCl (w' u) t.heap ∧ va_D (va_A w sz) (w' u)) (va_A w sz)) mc ms (va_A w sz)
theorem ow_XI {l : Launch} {D : va_G} {cs : Nat → ClassId} {y : MethodName} {ws : List Cond} {rm : Room} {av : List Value} {sz : Nat} {w w' : va_W} {k : Nat} {r : Int32} {mc ms : Nat} (h : XI l D cs y ws rm av sz w w' k r mc ms) : XS l D cs y ws rm av sz w (fun (_ : Unit) => True) (fun _ => w') k r mc ms := by
  refine MetFree.mono h (fun _ _ q => q) (fun _ _ _ _ _ q => q) (fun a st o t _ q => ?_)
  rcases q with ⟨⟨⟨x, u, h1, h2, h3⟩, h4⟩, h5⟩ | ⟨q, h1, E, ce, L, ⟨u, h2, h3, h4⟩, h5⟩
  · exact Or.inl ⟨⟨⟨x, u, h1, ⟨h2.1, h2.2, trivial⟩, h3⟩, h4⟩, h5⟩
  · exact Or.inr ⟨q, h1, E, ce, L, ⟨u, ⟨h2, trivial⟩, h3, h4⟩, h5⟩
theorem ow_XJ {S : Type} {l : Launch} {D : va_G} {cs : Nat → ClassId} {y : MethodName} {ws : List Cond} {rm : Room} {av : List Value} {sz : Nat} {w wT : va_W} {w' : S → va_W} {r : Int32} {mc ms : Nat} (h : vx_Met l y ws rm (pN D cs av sz w) (qXI D w w' r sz) (xX D cs w wT 0 sz) mc ms (va_A w sz)) : XS l D cs y ws rm av sz w (fun (_ : S) => True) w' 0 r mc ms := by
  refine MetFree.mono h (fun _ _ q => q) (fun _ _ _ _ _ q => q) (fun a st o t _ q => ?_)
  rcases q with ⟨⟨⟨x, u, h1, h2, h3⟩, h4⟩, h5⟩ | ⟨q, h1, E, ce, L, ⟨u, h2, h3, h4⟩, h5⟩
  · exact Or.inl ⟨⟨⟨x, u, h1, ⟨rfl, h2, trivial⟩, h3⟩, h4⟩, h5⟩
  · exact absurd rfl h2
theorem ow_enterH {S : Type} {l : Launch} {D : va_G} {cs : Nat → ClassId} {y : MethodName} {ws ws' : List Cond} {rm : Room} {av : List Value} {sz mc ms : Nat} {w : va_W} {Qc : Nat → Array Value → State → Outcome → State → Prop} {cc : ByteArray} {nL : Nat} {ret : Option FieldType} {hh : List (Nat × Nat × Nat × Nat)} (hy : plainName y.cls = true) (hw : ws = Cond.codeWith y cc nL ret hh :: ws') (hn : (lg_sl av).length ≤ nL)
    (k : ∀ (p : Program) (e : Env) (s : State) (m : MethodId) (below : List Frame) (meth : Method) (c : Code) (ls : Array Slot) (H : Heap) (locs : List Loc), Cx p s m meth c av.toArray ws cc nL ret y.cls D cs w → gN s → gC s → c.exceptionTable.toList = tableOf hh → va_P D vwCl w H → va_D (va_A w s.heap.size) w → va_S (va_A w s.heap.size) s.heap H locs → H.size = s.heap.size → lv_has ls nL (lv_args 0 av) → W p l e rm s m av.toArray below meth c H locs 0 0 (MQ below (Qc s.heap.size) av.toArray s mc ms (va_A w s.heap.size)) (F0 m 0 ls [])) :
    Met l y ws rm (pC D cs av sz w) (Qc sz) mc ms (va_A w sz) := by
  refine MetFree.of_bodyS (code := cc) (maxLocals := nL) (ret := ret) hy ?_ ?_
  · intro args s m h hn
    obtain ⟨m9, meth, c, hn9, h1, h2, h3, h4, -, h5, h6, -⟩ := Cond.codeWith_spec (atoms_spec (ws := ws) h _ (by rw [hw]; exact List.mem_cons_self))
    cases hn.symm.trans hn9
    exact ⟨meth, c, h1, h2, h3, h4, h5, h6⟩
  · intro p e s m args below meth c s₁ B hml hv _
    have hh0 : s₁.heap = s.heap := by rw [B.state]; rfl
    obtain ⟨rfl, hsz, hP, hK, hN, hD0, hE⟩ := hv
    subst hsz
    have ht := vx_table (x := y) B (atoms_spec (ws := ws) B.pre _ (by rw [hw]; exact List.mem_cons_self))
    have hb := k p e s m below meth c _ s.heap [] ⟨B.exec, B.bytes, B.returns, B.notSynchronized, hml, findClass_of_methodNamed B.named, atoms_spec (ws := ws) B.pre, hK.1, hK, hE⟩ hN.1 hN.2 ht hP hD0.self va_S.rf rfl (lv_entry av hn)
    rw [← lg_entry_eq] at hb
    obtain ⟨t, a1, o, b1, b2, b3, b4⟩ := hb s₁ hh0 (Stand.of_body B)
    exact ⟨t, o, a1, b1, b2, b3, b4⟩
section WRP
variable {p : Program} {l : Launch} {e : Env} {R : Room} {s : State} {m : MethodId} {av : Array Value} {below : List Frame} {meth : Method} {c : Code} {H : Heap} {locs : List Loc} {cells slots : Nat} {Q : State → Prop}
variable {ws : List Cond} {cc : ByteArray} {nL : Nat} {ret : Option FieldType} {own : String} {D : va_G} {cs : Nat → ClassId} {pc : Nat} {ls : Array Slot} {rest st0 : List Value} {w w0 : va_W} {r : Int32} {mc ms : Nat}
theorem ow_wcall {S : Type} {y : MethodName} {wsY : List Cond} {rmY : Room} {b : Nat} {As : List Value} {wc : va_W} {x : Nat × va_E} {ok : S → Prop} {wc' : S → va_W} {k mc1 ms1 : Nat} {C : String} {T : u_T} {N idx n maxLY : Nat} {bytes : ByteArray} {retY : Option FieldType} {fs : List Value} (C0 : Cx p s m meth c av ws cc nL ret own D cs w0) (hN : gN s) (hM : XS l D cs y wsY rmY (.ref b :: As) H.size wc ok wc' k r mc1 ms1) (cw : CallW R s av own C idx y bytes maxLY retY wsY rmY mc1 ms1 n) (ci : Nat) (hci : vwCl[ci]? = some (C, T, N)) (hrc : wc[0]? = some (b, .inr (ci, fs)))
    (hP : va_P D vwCl (wc ++ [x]) H) (hD : va_D (va_A w0 s.heap.size) (wc ++ [x])) (hS : va_S (va_A w0 s.heap.size) s.heap H locs)
    (hn : As.length = n) (hls : ls.size = nL) (hst : st0 = As.reverse ++ .ref b :: rest) (hrest : (rest.map fun v => v.category).sum ≤ 8) (hrm : cells + mc1 ≤ R.cells ∧ slots + ms1 ≤ R.slots) (hdg : decode cc pc = .ok (.invokevirtual idx, 3))
    (kx : k ≠ 0 → ∀ (u : S) (q9 : Addr) (ce : Cell) (H1 : Heap) (locs1 : List Loc), ok u → H1[q9]? = some ce → ce.vm = .none → s.vm.findClass (exN k) = some ce.cls → va_P D vwCl (x :: wc' u) H1 → va_D (va_A w0 s.heap.size) (x :: wc' u) → va_S (va_A w0 s.heap.size) s.heap H1 locs1 → vx_W p l e R s m av below meth c H1 locs1 (cells + mc1) (slots + ms1) Q (F0 m pc ls rest) q9)
    (kk : k = 0 → ∀ (u : S) (H1 : Heap) (locs1 : List Loc), ok u → va_P D vwCl (x :: wc' u) H1 → va_D (va_A w0 s.heap.size) (x :: wc' u) → va_S (va_A w0 s.heap.size) s.heap H1 locs1 → W p l e R s m av below meth c H1 locs1 (cells + mc1) (slots + ms1) Q (F0 m (pc + 3) ls (.int r :: rest))) :
    W p l e R s m av below meth c H locs cells slots Q (F0 m pc ls st0) := by
  obtain ⟨hx, hb, hr, hlk, hml, hown, hts, hK, hG, hE⟩ := id C0
  have hA : ∀ q, s.heap.size ≤ q → va_A w0 s.heap.size q := fun q h => Or.inr h
  have ef : [wc, [x]].flatten = wc ++ [x] := by simp
  have e1 : [wc].flatten = wc := by simp
  have hp : ([wc] ++ [[x]]).Perm [wc, [x]] := List.Perm.refl _
  have hP' : va_P D vwCl [wc, [x]].flatten H := by rw [ef]; exact hP
  have hD' : va_D (va_A w0 s.heap.size) [wc, [x]].flatten := by rw [ef]; exact hD
  have hPc : va_P D vwCl wc H := e1 ▸ sg_cutP hP' hp
  have hDc : va_D (va_A w0 s.heap.size) wc := e1 ▸ sg_cutD hD' hp
  have hFc : ∀ q, va_A wc H.size q → va_A w0 s.heap.size q := e1 ▸ sg_free hD' hS hA hp
  have back : ∀ (u : S) (H1 : Heap), (∀ q : Nat, q < H.size → ¬ va_A wc H.size q → H1[q]? = H[q]?) → va_P D vwCl (wc' u) H1 → va_D (va_A wc H.size) (wc' u) → va_P D vwCl (x :: wc' u) H1 ∧ va_D (va_A w0 s.heap.size) (x :: wc' u) := by
    intro u H1 hk1 hP1 hD1
    have e2 : [wc' u].flatten = wc' u := by simp
    have e3 : [[x], wc' u].flatten = x :: wc' u := by simp
    have h := sg_back (sg := [wc, [x]]) (sc := [wc]) (sr := [[x]]) (sc' := [wc' u]) (sf := [[x], wc' u]) hP' hD' hS hA hp (List.Perm.refl _) (by rw [e1]; exact hk1) (by rw [e2]; exact hP1) (by rw [e1, e2]; exact hD1)
    rw [e3] at h
    exact h
  refine vx_calli (vx_runV (As := As) (rest := rest) ⟨hx, hb, hml, hown, hts⟩ hM cw ⟨ow_blindN, va_recv hK hPc hci hrc, fun U hU hW => ⟨rfl, by rw [hU], by rw [hU]; exact hPc, gK_warm hW hG, gN_warm hW hN, hDc.weaken (fun _ _ _ _ => trivial), by rw [hU]; exact sS.moved hW.alike ((hE.kept hS.2.1).narrow hFc)⟩⟩ rfl hn hls hst (lv_room hrest) hdg hrm) hS (fun q _ h => hFc q h) hFc (fun q _ h => hFc q h) (fun E ce q9 u t H1 locs1 ht1 hvm hk hB hz1 hk1 hS1 hce hcv hcl => ?_) (fun r1 u t H1 locs1 ht1 hvm hw hB hz1 hk1 hS1 => ?_)
  · obtain ⟨hE1, hP1, hD1⟩ := hB
    rw [ht1] at hP1
    obtain ⟨hP2, hD2⟩ := back u H1 hk1 hP1 hD1
    rw [hE1] at hcl
    exact kx hk.1 u q9 ce H1 locs1 hk.2 hce hcv hcl hP2 hD2 hS1
  · obtain ⟨hP1, hD1⟩ := hB
    rw [ht1] at hP1
    obtain ⟨hP2, hD2⟩ := back u H1 hk1 hP1 hD1
    obtain ⟨hk0, hw, hok⟩ := hw
    subst hw
    exact kk hk0 u H1 locs1 hok hP2 hD2 hS1
theorem ow_wret {S : Type} {w' : S → va_W} {ok : S → Prop} {k : Int32} (C0 : Cx p s m meth c av ws cc nL (some .int) own D cs w0) (u : S) (hok : ok u) (hk : k = r) (hP : va_P D vwCl (w' u) H) (hD : va_D (va_A w0 s.heap.size) (w' u)) (hS : va_S (va_A w0 s.heap.size) s.heap H locs) (h1 : cells ≤ mc) (h2 : slots ≤ ms) (hdg : decode cc pc = .ok (.ireturn, 1)) :
    W p l e R s m av below meth c H locs cells slots (MQ below (va_Qi (fun x (u : S) => x = r ∧ ok u) (fun u t => va_P D vwCl (w' u) t.heap ∧ va_D (va_A w0 s.heap.size) (w' u)) (va_A w0 s.heap.size)) av s mc ms (va_A w0 s.heap.size)) (F0 m pc ls (.int k :: [])) := by
  obtain ⟨hx, hb, hr, hlk, hml, hown, hts, hK, hG, hE⟩ := id C0
  exact W.widen h1 h2 (W.iret hx hb hr (fun t ht hW => ⟨⟨k, u, rfl, ⟨hk, hok⟩, by rw [ht]; exact hP, hD⟩, hS.F ht⟩) hS.2.2 hdg hlk)
end WRP
/-- the wrappers' room -/
abbrev rmL (c s : Nat) : Room := { frames := 100, cells := c, slots := s, locals := 2400 }

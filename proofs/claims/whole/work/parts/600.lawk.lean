/-! the law's body: three blocks (the class w, the reference rw, the array oc) -/
theorem pm_o {x : Nat × va_E} {a b : va_W} : ([x :: a, b] : List va_W).flatten.Perm ([a, b, [x]] : List va_W).flatten := by
  simp only [List.flatten_cons, List.flatten_nil, List.append_nil, List.cons_append]
  have h := List.perm_append_comm (l₁ := [x]) (l₂ := a ++ b)
  rw [List.append_assoc] at h
  exact h
abbrev kOne (K : Nat) (a : Nat) : Int32 := if K = a then 1 else 0
section LAWK
variable {p : Program} {l : Launch} {e : Env} {R : Room} {s : State} {m : MethodId} {av : Array Value} {below : List Frame} {meth : Method} {c : Code} {H : Heap} {locs : List Loc} {cells slots : Nat} {Q : State → Prop}
variable {ws : List Cond} {cc : ByteArray} {nL : Nat} {ret : Option FieldType} {own : String} {D : va_G} {cs : Nat → ClassId} {pc : Nat} {ls : Array Slot} {rest st0 : List Value} {w0 : va_W} {r : Int32}
theorem ow_lW {S : Type} {y : MethodName} {wsY : List Cond} {rmY : Room} {As : List Value} {w rw : va_W} {oc : Nat × va_E} {ok : S → Prop} {w' : S → va_W} {idx n maxLY mc1 ms1 : Nat} {bytes : ByteArray} {retY : Option FieldType} {hh : List (Nat × Nat × Nat × Nat)} (C0 : Cx p s m meth c av ws cc nL ret own D cs w0) (hN : gN s) (hC : gC s) (hM : MW l D cs y wsY rmY As H.size (w ++ [oc]) ok w' r mc1 ms1) (cw : vx_CSW R s av own idx y bytes maxLY retY hh wsY rmY mc1 ms1 n)
    (hP : va_P D vwCl [w, rw, [oc]].flatten H) (hD : va_D (va_A w0 s.heap.size) [w, rw, [oc]].flatten) (hS : va_S (va_A w0 s.heap.size) s.heap H locs)
    (hn : As.length = n) (hls : ls.size = nL) (hst : st0 = As.reverse ++ rest) (hrest : (rest.map fun v => v.category).sum ≤ 8) (hrm : cells + mc1 ≤ R.cells ∧ slots + ms1 ≤ R.slots) (hdg : decode cc pc = .ok (.invokestatic idx, 3))
    (kk : ∀ (u : S) (H1 : Heap) (locs1 : List Loc), ok u → va_P D vwCl [w' u, rw].flatten H1 → va_D (va_A w0 s.heap.size) [w' u, rw].flatten → va_S (va_A w0 s.heap.size) s.heap H1 locs1 → W p l e R s m av below meth c H1 locs1 (cells + mc1) (slots + ms1) Q (F0 m (pc + 3) ls (.int r :: rest))) :
    W p l e R s m av below meth c H locs cells slots Q (F0 m pc ls st0) := by
  obtain ⟨hx, hb, hr, hlk, hml, hown, hts, hK, hG, hE⟩ := id C0
  have hA : ∀ q, s.heap.size ≤ q → va_A w0 s.heap.size q := fun q h => Or.inr h
  have hp : ([w, [oc]] ++ [rw]).Perm [w, rw, [oc]] := sg_permL [0, 2] [1] 3 rfl (by decide) rfl rfl
  have e1 : [w, [oc]].flatten = w ++ [oc] := by simp
  have hPc : va_P D vwCl (w ++ [oc]) H := e1 ▸ sg_cutP hP hp
  have hDc : va_D (va_A w0 s.heap.size) (w ++ [oc]) := e1 ▸ sg_cutD hD hp
  have hFc : ∀ q, va_A (w ++ [oc]) H.size q → va_A w0 s.heap.size q := e1 ▸ sg_free hD hS hA hp
  refine va_calli (vx_runSW (As := As) (rest := rest) ⟨hx, hb, hml, hown, hts⟩ hM cw ⟨ow_blindC, fun U hU hW => ⟨rfl, by rw [hU], by rw [hU]; exact hPc, gK_warm hW hG, ⟨gN_warm hW hN, gC_warm hW hC⟩, hDc.weaken (fun _ _ _ _ => trivial), by rw [hU]; exact sS.moved hW.alike ((hE.kept hS.2.1).narrow hFc)⟩⟩ rfl hn hls hst (lv_room hrest) hdg hrm) hS (fun q _ h => hFc q h) hFc (fun r1 u t H1 locs1 ht hvm hw hB hz1 hk1 hS1 => ?_)
  obtain ⟨hP1, hD1⟩ := hB
  rw [ht] at hP1
  have e2 : [w' u].flatten = w' u := by simp
  obtain ⟨hP2, hD2⟩ := sg_back (sc' := [w' u]) (sf := [w' u, rw]) hP hD hS hA hp (List.Perm.swap _ _ _) (by rw [e1]; exact hk1) (by rw [e2]; exact hP1) (by rw [e1, e2]; exact hD1)
  obtain ⟨hw, hok⟩ := hw
  subst hw
  exact kk u H1 locs1 hok hP2 hD2 hS1
theorem ow_lJ {S : Type} {y : MethodName} {wsY : List Cond} {rmY : Room} {b : Nat} {As : List Value} {w rw : va_W} {oc : Nat × va_E} {ok : S → Prop} {w' : S → va_W} {C : String} {T : u_T} {N idx n maxLY mc1 ms1 : Nat} {bytes : ByteArray} {retY : Option FieldType} {fs : List Value} (C0 : Cx p s m meth c av ws cc nL ret own D cs w0) (hN : gN s) (hM : MJ l D cs y wsY rmY (.ref b :: As) H.size w ok w' r mc1 ms1) (cw : CallW R s av own C idx y bytes maxLY retY wsY rmY mc1 ms1 n) (ci : Nat) (hci : vwCl[ci]? = some (C, T, N)) (hrc : w[0]? = some (b, .inr (ci, fs)))
    (hP : va_P D vwCl [w, rw, [oc]].flatten H) (hD : va_D (va_A w0 s.heap.size) [w, rw, [oc]].flatten) (hS : va_S (va_A w0 s.heap.size) s.heap H locs)
    (hn : As.length = n) (hls : ls.size = nL) (hst : st0 = As.reverse ++ .ref b :: rest) (hrest : (rest.map fun v => v.category).sum ≤ 8) (hrm : cells + mc1 ≤ R.cells ∧ slots + ms1 ≤ R.slots) (hdg : decode cc pc = .ok (.invokevirtual idx, 3))
    (kk : ∀ (u : S) (H1 : Heap) (locs1 : List Loc), ok u → va_P D vwCl [w' u, rw, [oc]].flatten H1 → va_D (va_A w0 s.heap.size) [w' u, rw, [oc]].flatten → va_S (va_A w0 s.heap.size) s.heap H1 locs1 → W p l e R s m av below meth c H1 locs1 (cells + mc1) (slots + ms1) Q (F0 m (pc + 3) ls (.int r :: rest))) :
    W p l e R s m av below meth c H locs cells slots Q (F0 m pc ls st0) := by
  obtain ⟨hx, hb, hr, hlk, hml, hown, hts, hK, hG, hE⟩ := id C0
  have hA : ∀ q, s.heap.size ≤ q → va_A w0 s.heap.size q := fun q h => Or.inr h
  have hp : ([w] ++ [rw, [oc]]).Perm [w, rw, [oc]] := List.Perm.refl _
  have e1 : [w].flatten = w := by simp
  have hPc : va_P D vwCl w H := e1 ▸ sg_cutP hP hp
  have hDc : va_D (va_A w0 s.heap.size) w := e1 ▸ sg_cutD hD hp
  have hFc : ∀ q, va_A w H.size q → va_A w0 s.heap.size q := e1 ▸ sg_free hD hS hA hp
  refine va_calli (va_runV (As := As) (rest := rest) ⟨hx, hb, hml, hown, hts⟩ hM cw ⟨ow_blindN, va_recv hK hPc hci hrc, fun U hU hW => ⟨rfl, by rw [hU], by rw [hU]; exact hPc, gK_warm hW hG, gN_warm hW hN, hDc.weaken (fun _ _ _ _ => trivial), by rw [hU]; exact sS.moved hW.alike ((hE.kept hS.2.1).narrow hFc)⟩⟩ rfl hn hls hst (lv_room hrest) hdg hrm) hS (fun q _ h => hFc q h) hFc (fun r1 u t H1 locs1 ht hvm hw hB hz1 hk1 hS1 => ?_)
  obtain ⟨hP1, hD1⟩ := hB
  rw [ht] at hP1
  have e2 : [w' u].flatten = w' u := by simp
  obtain ⟨hP2, hD2⟩ := sg_back (sc' := [w' u]) (sf := [w' u, rw, [oc]]) hP hD hS hA hp (sg_permG [2, 0, 1] 3 rfl (by decide) rfl) (by rw [e1]; exact hk1) (by rw [e2]; exact hP1) (by rw [e1, e2]; exact hD1)
  obtain ⟨hw, hok⟩ := hw
  subst hw
  exact kk u H1 locs1 hok hP2 hD2 hS1
theorem ow_lR {y : MethodName} {wsY : List Cond} {rmY : Room} {b : Nat} {As : List Value} {w rw rw' : va_W} {oc : Nat × va_E} {C : String} {T : u_T} {N idx n maxLY : Nat} {bytes : ByteArray} {retY : Option FieldType} {fs : List Value} (C0 : Cx p s m meth c av ws cc nL ret own D cs w0) (hM : MI l D cs y wsY rmY (.ref b :: As) H.size rw rw' r) (cw : CallW R s av own C idx y bytes maxLY retY wsY rmY 0 0 n) (ci : Nat) (hci : vwCl[ci]? = some (C, T, N)) (hrc : rw[0]? = some (b, .inr (ci, fs)))
    (hP : va_P D vwCl [w, rw, [oc]].flatten H) (hD : va_D (va_A w0 s.heap.size) [w, rw, [oc]].flatten) (hS : va_S (va_A w0 s.heap.size) s.heap H locs)
    (hn : As.length = n) (hls : ls.size = nL) (hst : st0 = As.reverse ++ .ref b :: rest) (hrest : (rest.map fun v => v.category).sum ≤ 8) (hrm : cells ≤ R.cells ∧ slots ≤ R.slots) (hdg : decode cc pc = .ok (.invokevirtual idx, 3))
    (kk : ∀ (H1 : Heap) (locs1 : List Loc), va_P D vwCl [w, rw', [oc]].flatten H1 → va_D (va_A w0 s.heap.size) [w, rw', [oc]].flatten → va_S (va_A w0 s.heap.size) s.heap H1 locs1 → W p l e R s m av below meth c H1 locs1 cells slots Q (F0 m (pc + 3) ls (.int r :: rest))) :
    W p l e R s m av below meth c H locs cells slots Q (F0 m pc ls st0) := by
  have e1 : [rw].flatten = rw := by simp
  have e2 : [rw'].flatten = rw' := by simp
  exact ow_gVI (sg := [w, rw, [oc]]) (sc := [rw]) (sc' := [rw']) (sr := [w, [oc]]) (sf := [w, rw', [oc]]) (rest := rest) C0 (by rw [e1, e2]; exact hM) cw ci hci (by rw [e1]; exact hrc) hP hD hS (sg_permL [1] [0, 2] 3 rfl (by decide) rfl rfl) (sg_permG [0, 2, 1] 3 rfl (by decide) rfl) hn hls hst hrest hrm hdg kk
theorem ow_scr {b L : Nat} {xs : Nat → Int32} {i : Int32} (C0 : Cx p s m meth c av ws cc nL ret own D cs []) (hX : va_X b L xs s s.heap) (hbl : b < s.heap.size) (hS : va_S (va_A [] s.heap.size) s.heap H locs) (hin : vp_in i L) (hdg : decode cc pc = .ok (.iaload, 1))
    (kk : W p l e R s m av below meth c H locs cells slots Q (F0 m (pc + 1) ls (.int (xs i.toNatClampNeg) :: rest))) : W p l e R s m av below meth c H locs cells slots Q (F0 m pc ls (.int i :: .ref b :: rest)) := by
  obtain ⟨hx, hb, hr, hlk, hml, hown, hts, hK, hG, hE⟩ := id C0
  refine va_sld hx hb hX hbl (fun h => ?_) hS hin hdg kk
  rcases h with ⟨k, e, h⟩ | h
  · cases h
  · omega
end LAWK
theorem lg_eq (x : Int64) : lg_cmp x x = 0 := by simp [lg_cmp]
theorem out_at (cs : Nat → ClassId) (o : Nat) (v : Nat → Int64) (a b : va_W) : ([a, b, [oCell cs o v]] : List va_W).flatten[a.length + b.length]? = some (oCell cs o v) := by
  simp only [List.flatten_cons, List.flatten_nil, List.append_nil]
  rw [List.getElem?_append_right (by omega), Nat.add_sub_cancel_left, List.getElem?_append_right (by omega), Nat.sub_self]
  rfl

section THG
variable {p : Program} {l : Launch} {e : Env} {R : Room} {s : State} {m : MethodId} {av : Array Value} {below : List Frame} {meth : Method} {c : Code} {H : Heap} {locs : List Loc} {cells slots : Nat} {Q : State → Prop}
variable {ws : List Cond} {cc : ByteArray} {nL : Nat} {ret : Option FieldType} {own : String} {D : va_G} {cs : Nat → ClassId} {pc : Nat} {ls : Array Slot} {rest st0 : List Value} {w0 : va_W} {r : Int32} {K mc ms : Nat}
theorem ow_gtVI {Qc : Array Value → State → Outcome → State → Prop} {y : MethodName} {wsY : List Cond} {rmY : Room} {b : Nat} {As : List Value} {sg sc sr sc' sf : List va_W} {wT : va_W} {C : String} {T : u_T} {N idx n maxLY : Nat} {bytes : ByteArray} {retY : Option FieldType} {fs : List Value} {k mc1 ms1 : Nat} (C0 : Cx p s m meth c av ws cc nL ret own D cs w0) (T0 : CxT l s c) (hM : XI l D cs y wsY rmY (.ref b :: As) H.size sc.flatten sc'.flatten k r mc1 ms1) (cw : CallW R s av own C idx y bytes maxLY retY wsY rmY mc1 ms1 n) (ci : Nat) (hci : vwCl[ci]? = some (C, T, N)) (hrc : sc.flatten[0]? = some (b, .inr (ci, fs)))
    (hP : va_P D vwCl sg.flatten H) (hD : va_D (va_A w0 s.heap.size) sg.flatten) (hS : va_S (va_A w0 s.heap.size) s.heap H locs) (hp : (sc ++ sr).Perm sg) (hpF : (sr ++ sc').Perm sf)
    (hn : As.length = n) (hls : ls.size = nL) (hst : st0 = As.reverse ++ .ref b :: rest) (hrest : (rest.map fun v => v.category).sum ≤ 8) (hrm : cells + mc1 ≤ R.cells ∧ slots + ms1 ≤ R.slots) (hdg : decode cc pc = .ok (.invokevirtual idx, 3))
    (hX : k ≠ 0 → K = k ∧ sf.flatten = wT) (h1 : cells + mc1 ≤ mc) (h2 : slots + ms1 ≤ ms)
    (kk : k = 0 → ∀ (H1 : Heap) (locs1 : List Loc), va_P D vwCl sf.flatten H1 → va_D (va_A w0 s.heap.size) sf.flatten → va_S (va_A w0 s.heap.size) s.heap H1 locs1 → W p l e R s m av below meth c H1 locs1 (cells + mc1) (slots + ms1) (vx_MQ below Qc (xX D cs w0 wT K s.heap.size) av s mc ms (va_A w0 s.heap.size)) (F0 m (pc + 3) ls (.int r :: rest))) :
    W p l e R s m av below meth c H locs cells slots (vx_MQ below Qc (xX D cs w0 wT K s.heap.size) av s mc ms (va_A w0 s.heap.size)) (F0 m pc ls st0) := by
  obtain ⟨hx, hb, hr, hlk, hml, hown, hts, hK, hG, hE⟩ := id C0
  obtain ⟨hl0, hN, ht⟩ := T0
  have hA : ∀ q, s.heap.size ≤ q → va_A w0 s.heap.size q := fun q h => Or.inr h
  have hPc := sg_cutP hP hp
  have hDc := sg_cutD hD hp
  have hFc := sg_free hD hS hA hp
  refine vx_calli (vx_runV (As := As) (rest := rest) ⟨hx, hb, hml, hown, hts⟩ hM cw ⟨ow_blindN, va_recv hK hPc hci hrc, fun U hU hW => ⟨rfl, by rw [hU], by rw [hU]; exact hPc, gK_warm hW hG, gN_warm hW hN, hDc.weaken (fun _ _ _ _ => trivial), by rw [hU]; exact sS.moved hW.alike ((hE.kept hS.2.1).narrow hFc)⟩⟩ rfl hn hls hst (lv_room hrest) hdg hrm) hS (fun q _ h => hFc q h) hFc (fun q _ h => hFc q h) (fun E ce q9 u t H1 locs1 ht1 hvm hk hB hz1 hk1 hS1 hce hcv hcl => ?_) (fun r1 u t H1 locs1 ht1 hvm hw hB hz1 hk1 hS1 => ?_)
  · obtain ⟨hE1, hP1, hD1⟩ := hB
    rw [ht1] at hP1
    obtain ⟨hP2, hD2⟩ := sg_back hP hD hS hA hp hpF hk1 hP1 hD1
    obtain ⟨e1, e2⟩ := hX hk
    subst e2
    exact vx_out (fun x hx => (ht x hx).elim) hlk hce hcv hcl (fun t ht hW => ⟨(), by rw [e1]; exact hk, ⟨by rw [e1]; exact hE1, by rw [ht]; exact hP2, hD2⟩, hS1.F ht⟩) hS1.2.2 h1 h2
  · obtain ⟨hP1, hD1⟩ := hB
    rw [ht1] at hP1
    obtain ⟨hP2, hD2⟩ := sg_back hP hD hS hA hp hpF hk1 hP1 hD1
    obtain ⟨hk0, hw⟩ := hw
    subst hw
    exact kk hk0 H1 locs1 hP2 hD2 hS1
theorem ow_gtVV {Qc : Array Value → State → Outcome → State → Prop} {y : MethodName} {wsY : List Cond} {rmY : Room} {b : Nat} {As : List Value} {sg sc sr sc' sf : List va_W} {wT : va_W} {C : String} {T : u_T} {N idx n maxLY : Nat} {bytes : ByteArray} {retY : Option FieldType} {fs : List Value} {k mc1 ms1 : Nat} (C0 : Cx p s m meth c av ws cc nL ret own D cs w0) (T0 : CxT l s c) (hM : XV l D cs y wsY rmY (.ref b :: As) H.size sc.flatten sc'.flatten k mc1 ms1) (cw : CallW R s av own C idx y bytes maxLY retY wsY rmY mc1 ms1 n) (ci : Nat) (hci : vwCl[ci]? = some (C, T, N)) (hrc : sc.flatten[0]? = some (b, .inr (ci, fs)))
    (hP : va_P D vwCl sg.flatten H) (hD : va_D (va_A w0 s.heap.size) sg.flatten) (hS : va_S (va_A w0 s.heap.size) s.heap H locs) (hp : (sc ++ sr).Perm sg) (hpF : (sr ++ sc').Perm sf)
    (hn : As.length = n) (hls : ls.size = nL) (hst : st0 = As.reverse ++ .ref b :: rest) (hrest : (rest.map fun v => v.category).sum ≤ 8) (hrm : cells + mc1 ≤ R.cells ∧ slots + ms1 ≤ R.slots) (hdg : decode cc pc = .ok (.invokevirtual idx, 3))
    (hX : k ≠ 0 → K = k ∧ sf.flatten = wT) (h1 : cells + mc1 ≤ mc) (h2 : slots + ms1 ≤ ms)
    (kk : k = 0 → ∀ (H1 : Heap) (locs1 : List Loc), va_P D vwCl sf.flatten H1 → va_D (va_A w0 s.heap.size) sf.flatten → va_S (va_A w0 s.heap.size) s.heap H1 locs1 → W p l e R s m av below meth c H1 locs1 (cells + mc1) (slots + ms1) (vx_MQ below Qc (xX D cs w0 wT K s.heap.size) av s mc ms (va_A w0 s.heap.size)) (F0 m (pc + 3) ls rest)) :
    W p l e R s m av below meth c H locs cells slots (vx_MQ below Qc (xX D cs w0 wT K s.heap.size) av s mc ms (va_A w0 s.heap.size)) (F0 m pc ls st0) := by
  obtain ⟨hx, hb, hr, hlk, hml, hown, hts, hK, hG, hE⟩ := id C0
  obtain ⟨hl0, hN, ht⟩ := T0
  have hA : ∀ q, s.heap.size ≤ q → va_A w0 s.heap.size q := fun q h => Or.inr h
  have hPc := sg_cutP hP hp
  have hDc := sg_cutD hD hp
  have hFc := sg_free hD hS hA hp
  refine vx_callv (vx_runV (As := As) (rest := rest) ⟨hx, hb, hml, hown, hts⟩ hM cw ⟨ow_blindN, va_recv hK hPc hci hrc, fun U hU hW => ⟨rfl, by rw [hU], by rw [hU]; exact hPc, gK_warm hW hG, gN_warm hW hN, hDc.weaken (fun _ _ _ _ => trivial), by rw [hU]; exact sS.moved hW.alike ((hE.kept hS.2.1).narrow hFc)⟩⟩ rfl hn hls hst (lv_room hrest) hdg hrm) hS (fun q _ h => hFc q h) hFc (fun q _ h => hFc q h) (fun E ce q9 u t H1 locs1 ht1 hvm hk hB hz1 hk1 hS1 hce hcv hcl => ?_) (fun u t H1 locs1 ht1 hvm hw hB hz1 hk1 hS1 => ?_)
  · obtain ⟨hE1, hP1, hD1⟩ := hB
    rw [ht1] at hP1
    obtain ⟨hP2, hD2⟩ := sg_back hP hD hS hA hp hpF hk1 hP1 hD1
    obtain ⟨e1, e2⟩ := hX hk
    subst e2
    exact vx_out (fun x hx => (ht x hx).elim) hlk hce hcv hcl (fun t ht hW => ⟨(), by rw [e1]; exact hk, ⟨by rw [e1]; exact hE1, by rw [ht]; exact hP2, hD2⟩, hS1.F ht⟩) hS1.2.2 h1 h2
  · obtain ⟨hP1, hD1⟩ := hB
    rw [ht1] at hP1
    obtain ⟨hP2, hD2⟩ := sg_back hP hD hS hA hp hpF hk1 hP1 hD1
    exact kk hw H1 locs1 hP2 hD2 hS1
end THG

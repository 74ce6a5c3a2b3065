/-! worlds as rows of segments: cuts and joins by whole segments -/
abbrev ow_pks (sg : List va_W) (is : List Nat) : List va_W := is.filterMap (fun i => sg[i]?)
theorem sg_P {D : va_G} {cl : List vw_C} {ws : va_W} {H : Heap} : va_P D cl ws H ↔ ∀ q ∈ ws, va_at D cl q H :=
  ⟨fun h q hq => by obtain ⟨k, hk⟩ := List.mem_iff_getElem?.mp hq; exact h k q hk, fun h k q hk => h q (List.mem_of_getElem? hk)⟩
theorem sg_D {A : Nat → Prop} {ws : va_W} : va_D A ws ↔ ws.Pairwise (fun p q => p.1 ≠ q.1) ∧ ∀ q ∈ ws, A q.1 := by
  constructor
  · intro h
    refine ⟨List.pairwise_iff_getElem.mpr fun i j hi hj hij e => ?_, fun q hq => ?_⟩
    · have := h.1 i j ws[i] ws[j] (List.getElem?_eq_getElem hi) (List.getElem?_eq_getElem hj) e
      omega
    · obtain ⟨k, hk⟩ := List.mem_iff_getElem?.mp hq
      exact h.2 k q hk
  · intro h
    refine ⟨fun i j p q hp hq e => ?_, fun k q hk => h.2 q (List.mem_of_getElem? hk)⟩
    obtain ⟨hi, ei⟩ := List.getElem?_eq_some_iff.mp hp
    obtain ⟨hj, ej⟩ := List.getElem?_eq_some_iff.mp hq
    rcases Nat.lt_trichotomy i j with h1 | h1 | h1
    · exact absurd (by rw [ei, ej]; exact e) (List.pairwise_iff_getElem.mp h.1 i j hi hj h1)
    · exact h1
    · exact absurd (by rw [ei, ej]; exact e.symm) (List.pairwise_iff_getElem.mp h.1 j i hj hi h1)
theorem sg_Dp {A : Nat → Prop} {ws ws' : va_W} (h : ws.Perm ws') (hD : va_D A ws) : va_D A ws' := by
  rw [sg_D] at hD ⊢
  exact ⟨(h.pairwise_iff (fun e e' => e e'.symm)).mp hD.1, fun q hq => hD.2 q (h.mem_iff.mpr hq)⟩
theorem sg_Pp {D : va_G} {cl : List vw_C} {ws ws' : va_W} {H : Heap} (h : ws.Perm ws') (hP : va_P D cl ws H) : va_P D cl ws' H := by
  rw [sg_P] at hP ⊢
  exact fun q hq => hP q (h.mem_iff.mpr hq)
theorem sg_perm {sg sc sr : List va_W} {isC isR : List Nat} (hC : isC.map (fun i => sg[i]?) = sc.map some) (hR : isR.map (fun i => sg[i]?) = sr.map some) (hp : (isC ++ isR).isPerm (List.range sg.length) = true) : (sc ++ sr).Perm sg := by
  have e1 : (sc ++ sr).map some = (isC ++ isR).map (fun i => sg[i]?) := by rw [List.map_append, List.map_append, hC, hR]
  have e2 : (List.range sg.length).map (fun i => sg[i]?) = sg.map some := by
    apply List.ext_getElem?
    intro i
    by_cases h : i < sg.length
    · simp [h]
    · simp [h, Nat.not_lt.mp h]
  have h1 : ((sc ++ sr).map some).Perm (sg.map some) := by
    rw [e1, ← e2]
    exact (List.isPerm_iff.mp hp).map _
  have h2 := h1.filterMap id
  simpa [List.filterMap_map] using h2
theorem sg_flat {a b : List va_W} (h : a.Perm b) : a.flatten.Perm b.flatten := h.flatten
theorem sg_back {A : Nat → Prop} {D : va_G} {s : State} {H H1 : Heap} {locs : List Loc} {sg sc sr sc' sf : List va_W} (hP : va_P D vwCl sg.flatten H) (hD : va_D A sg.flatten) (hS : va_S A s.heap H locs) (hA : ∀ q, s.heap.size ≤ q → A q) (hp : (sc ++ sr).Perm sg) (hpF : (sr ++ sc').Perm sf)
    (hk1 : ∀ q : Nat, q < H.size → ¬ va_A sc.flatten H.size q → H1[q]? = H[q]?) (hP1 : va_P D vwCl sc'.flatten H1) (hD1 : va_D (va_A sc.flatten H.size) sc'.flatten) : va_P D vwCl sf.flatten H1 ∧ va_D A sf.flatten := by
  have hp1 : (sc.flatten ++ sr.flatten).Perm sg.flatten := by rw [← List.flatten_append]; exact sg_flat hp
  have hp2 : (sr.flatten ++ sc'.flatten).Perm sf.flatten := by rw [← List.flatten_append]; exact sg_flat hpF
  have hP0 := sg_Pp hp1.symm hP
  have hD0 := sg_D.mp (sg_Dp hp1.symm hD)
  have hPr : va_P D vwCl sr.flatten H := sg_P.mpr fun q hq => sg_P.mp hP0 q (List.mem_append_right _ hq)
  obtain ⟨hw1, hw2, hw3⟩ := List.pairwise_append.mp hD0.1
  have apart : ∀ q ∈ sr.flatten, q.1 < H.size ∧ ¬ va_A sc.flatten H.size q.1 := by
    intro q hq
    have hl := (sg_P.mp hPr q hq).lt
    refine ⟨hl, fun h => ?_⟩
    rcases h with ⟨k, e, h⟩ | h
    · exact hw3 _ (List.mem_of_getElem? h) q hq rfl
    · omega
  have hPr1 : va_P D vwCl sr.flatten H1 := hPr.kept (fun k x hx => hk1 x.1 (apart x (List.mem_of_getElem? hx)).1 (apart x (List.mem_of_getElem? hx)).2)
  have hD1' := sg_D.mp hD1
  have hfree : ∀ q, va_A sc.flatten H.size q → A q := by
    intro q h
    rcases h with ⟨k, e, h⟩ | h
    · exact hD0.2 _ (List.mem_append_left _ (List.mem_of_getElem? h))
    · exact hA q (Nat.le_trans hS.1 h)
  refine ⟨sg_Pp hp2 (sg_P.mpr fun q hq => ?_), sg_Dp hp2 (sg_D.mpr ⟨List.pairwise_append.mpr ⟨hw2, hD1'.1, fun a ha b hb e => ?_⟩, fun q hq => ?_⟩)⟩
  · rcases List.mem_append.mp hq with h | h
    · exact sg_P.mp hPr1 q h
    · exact sg_P.mp hP1 q h
  · exact (apart a ha).2 (by rw [e]; exact hD1'.2 b hb)
  · rcases List.mem_append.mp hq with h | h
    · exact hD0.2 q (List.mem_append_right _ h)
    · exact hfree _ (hD1'.2 q h)
theorem sg_free {A : Nat → Prop} {s : State} {H : Heap} {locs : List Loc} {sg sc sr : List va_W} (hD : va_D A sg.flatten) (hS : va_S A s.heap H locs) (hA : ∀ q, s.heap.size ≤ q → A q) (hp : (sc ++ sr).Perm sg) : ∀ q, va_A sc.flatten H.size q → A q := by
  intro q h
  have hp1 : (sc.flatten ++ sr.flatten).Perm sg.flatten := by rw [← List.flatten_append]; exact sg_flat hp
  rcases h with ⟨k, e, h⟩ | h
  · exact (sg_D.mp hD).2 _ (hp1.mem_iff.mp (List.mem_append_left _ (List.mem_of_getElem? h)))
  · exact hA q (Nat.le_trans hS.1 h)
theorem sg_cutP {D : va_G} {H : Heap} {sg sc sr : List va_W} (hP : va_P D vwCl sg.flatten H) (hp : (sc ++ sr).Perm sg) : va_P D vwCl sc.flatten H := by
  have hp1 : (sc.flatten ++ sr.flatten).Perm sg.flatten := by rw [← List.flatten_append]; exact sg_flat hp
  exact sg_P.mpr fun q hq => sg_P.mp hP q (hp1.mem_iff.mp (List.mem_append_left _ hq))
theorem sg_cutD {A : Nat → Prop} {sg sc sr : List va_W} (hD : va_D A sg.flatten) (hp : (sc ++ sr).Perm sg) : va_D A sc.flatten := by
  have hp1 : (sc.flatten ++ sr.flatten).Perm sg.flatten := by rw [← List.flatten_append]; exact sg_flat hp
  have h := sg_D.mp (sg_Dp hp1.symm hD)
  exact sg_D.mpr ⟨(List.pairwise_append.mp h.1).1, fun q hq => h.2 q (List.mem_append_left _ hq)⟩
theorem sg_permF {l sf : List va_W} {is : List Nat} (h : is.map (fun i => l[i]?) = sf.map some) (hp : is.isPerm (List.range l.length) = true) : l.Perm sf := by
  have := sg_perm (sg := l) (sc := sf) (sr := []) (isC := is) (isR := []) h rfl (by rw [List.append_nil]; exact hp)
  rw [List.append_nil] at this
  exact this.symm
theorem sg_permL {sg sc sr : List va_W} (isC isR : List Nat) (n : Nat) (hn : sg.length = n) (hp : (isC ++ isR).isPerm (List.range n) = true) (hC : isC.map (fun i => sg[i]?) = sc.map some) (hR : isR.map (fun i => sg[i]?) = sr.map some) : (sc ++ sr).Perm sg := by
  subst hn
  exact sg_perm hC hR hp
theorem sg_permG {l sf : List va_W} (is : List Nat) (n : Nat) (hn : l.length = n) (hp : is.isPerm (List.range n) = true) (h : is.map (fun i => l[i]?) = sf.map some) : l.Perm sf := by
  subst hn
  exact sg_permF h hp
theorem sg_split {a b : va_W} : ∀ {sg : List va_W} {seg : va_W} (t : Nat), sg[t]? = some seg → seg.Perm (a ++ b) → sg.flatten.Perm ((sg.set t a) ++ [b]).flatten
  | [], seg, t, h, _ => by simp at h
  | x :: xs, seg, 0, h, hp => by
    have e : x = seg := by simpa using h
    subst e
    rw [List.set_cons_zero, List.cons_append, List.flatten_cons, List.flatten_cons, List.flatten_append, List.flatten_cons, List.flatten_nil, List.append_nil]
    exact (hp.append_right _).trans (by rw [List.append_assoc]; exact (List.perm_append_comm).append_left a)
  | x :: xs, seg, t + 1, h, hp => by
    rw [List.set_cons_succ, List.cons_append, List.flatten_cons, List.flatten_cons]
    exact (sg_split t (by simpa using h) hp).append_left x
theorem sg_merge {a b : va_W} {sg : List va_W} {seg : va_W} (t : Nat) (h : sg[t]? = some seg) (hp : seg.Perm (a ++ b)) : ((sg.set t a) ++ [b]).flatten.Perm sg.flatten := (sg_split t h hp).symm
theorem vp_lt {i : Int32} {n : Nat} (h : vp_in i n) : i.toNatClampNeg < n := Nat.not_le.mp fun q => h (Or.inr q)
/-! rows of a grid -/
theorem gRow_ex (cs : Nat → ClassId) (n L : Nat) (r : Nat → Nat) (G : Nat → Nat → Int32) : ∃ w : va_W, w = (List.range n).map (fun i => (r i, .inl (cs 0, L, .inl (G i)))) := ⟨_, rfl⟩
/-- the rows of a grid; not to be unfolded by the machine -/
noncomputable def gRow (cs : Nat → ClassId) (n L : Nat) (r : Nat → Nat) (G : Nat → Nat → Int32) : va_W := Classical.choose (gRow_ex cs n L r G)
theorem gRow_eq (cs : Nat → ClassId) (n L : Nat) (r : Nat → Nat) (G : Nat → Nat → Int32) : gRow cs n L r G = (List.range n).map (fun i => (r i, .inl (cs 0, L, .inl (G i)))) := Classical.choose_spec (gRow_ex cs n L r G)
theorem gRow_len (cs : Nat → ClassId) (n L : Nat) (r : Nat → Nat) (G : Nat → Nat → Int32) : (gRow cs n L r G).length = n := by simp [gRow_eq]
theorem gr_head {cs : Nat → ClassId} {n L : Nat} {r : Nat → Nat} {G : Nat → Nat → Int32} {T : va_W} {j : Nat} (h : j < n) : (gRow cs n L r G ++ T)[j]? = some (r j, .inl (cs 0, L, .inl (G j))) := by
  rw [List.getElem?_append_left (by rw [gRow_len]; exact h)]
  simp [gRow_eq, h]
theorem gr_skip {R T : va_W} {m j : Nat} {x : Nat × va_E} (hR : R.length = m) (h : T[j]? = some x) : (R ++ T)[m + j]? = some x := by
  rw [List.getElem?_append_right (by omega), hR, Nat.add_sub_cancel_left]
  exact h
theorem gr_headS {cs : Nat → ClassId} {n L : Nat} {r : Nat → Nat} {G : Nat → Nat → Int32} {T : va_W} {j : Nat} {v : Nat → Int32} (h : j < n) : (gRow cs n L r G ++ T).set j (r j, .inl (cs 0, L, .inl v)) = gRow cs n L r (va_up G j v) ++ T := by
  rw [List.set_append_left _ _ (by rw [gRow_len]; exact h)]
  congr 1
  apply List.ext_getElem?
  intro i
  by_cases hi : i < n
  · by_cases e : j = i
    · subst e
      rw [List.getElem?_set_self (by rw [gRow_len]; exact h)]
      simp [gRow_eq, h, va_up]
    · rw [List.getElem?_set_ne e]
      simp [gRow_eq, hi, va_up, Ne.symm e]
  · rw [List.getElem?_eq_none (by rw [List.length_set, gRow_len]; omega), List.getElem?_eq_none (by rw [gRow_len]; omega)]
theorem gr_skipS {R T T' : va_W} {m j : Nat} {x : Nat × va_E} (hR : R.length = m) (h : T.set j x = T') : (R ++ T).set (m + j) x = R ++ T' := by
  rw [List.set_append_right _ _ (by omega), hR, Nat.add_sub_cancel_left, h]
theorem gRest_ex (cs : Nat → ClassId) (n L : Nat) (r : Nat → Nat) (G : Nat → Nat → Int32) (j : Nat) : ∃ w : va_W, w = ((List.range n).erase j).map (fun i => (r i, .inl (cs 0, L, .inl (G i)))) := ⟨_, rfl⟩
noncomputable def gRest (cs : Nat → ClassId) (n L : Nat) (r : Nat → Nat) (G : Nat → Nat → Int32) (j : Nat) : va_W := Classical.choose (gRest_ex cs n L r G j)
theorem gRest_eq (cs : Nat → ClassId) (n L : Nat) (r : Nat → Nat) (G : Nat → Nat → Int32) (j : Nat) : gRest cs n L r G j = ((List.range n).erase j).map (fun i => (r i, .inl (cs 0, L, .inl (G i)))) := Classical.choose_spec (gRest_ex cs n L r G j)
theorem gr_split {cs : Nat → ClassId} {n L : Nat} {r : Nat → Nat} {G : Nat → Nat → Int32} {j : Nat} (h : j < n) : (gRow cs n L r G).Perm ([(r j, .inl (cs 0, L, .inl (G j)))] ++ gRest cs n L r G j) := by
  rw [gRow_eq, gRest_eq]
  exact (List.perm_cons_erase (List.mem_range.mpr h)).map _
theorem gr_splitU {cs : Nat → ClassId} {n L : Nat} {r : Nat → Nat} {j : Nat} (h : j < n) {G : Nat → Nat → Int32} {v : Nat → Int32} : (gRow cs n L r (va_up G j v)).Perm ([(r j, .inl (cs 0, L, .inl v))] ++ gRest cs n L r G j) := by
  have h1 := gr_split (cs := cs) (L := L) (r := r) (G := va_up G j v) h
  have e1 : va_up G j v j = v := by simp [va_up]
  have e2 : gRest cs n L r (va_up G j v) j = gRest cs n L r G j := by
    rw [gRest_eq, gRest_eq]
    apply List.map_congr_left
    intro i hi
    have hne : i ≠ j := ((List.Nodup.mem_erase_iff List.nodup_range).mp hi).1
    simp [va_up, hne]
  rw [e1, e2] at h1
  exact h1
/-- the outer array of a grid -/
abbrev gOut (cs : Nat → ClassId) (a n : Nat) (r : Nat → Nat) : Nat × va_E := (a, .inl (cs 3, n, .inr (.inr (.inr (.inr (fun i => if i < n then some (r i) else none))))))
section SEG
variable {p : Program} {l : Launch} {e : Env} {R : Room} {s : State} {m : MethodId} {av : Array Value} {below : List Frame} {meth : Method} {c : Code} {H : Heap} {locs : List Loc} {cells slots : Nat} {Q : State → Prop}
variable {ws : List Cond} {cc : ByteArray} {nL : Nat} {ret : Option FieldType} {own : String} {D : va_G} {cs : Nat → ClassId} {pc : Nat} {ls : Array Slot} {rest st0 : List Value} {w w0 w1 : va_W} {r : Int32}
theorem ow_aald {n a : Nat} {rr : Nat → Nat} (hx : p.tables.exec = Jvm.exec) (hb : c.code = cc) (hK : va_K D vwCl (tyG cs) s) (hP : va_P D vwCl w H) (q0 : Nat) (ha : w[q0]? = some (gOut cs a n rr)) {i : Int32} (hin : vp_in i n) (hdg : decode cc pc = .ok (.aaload, 1))
    (kk : W p l e R s m av below meth c H locs cells slots Q (F0 m (pc + 1) ls (.ref (rr i.toNatClampNeg) :: rest))) : W p l e R s m av below meth c H locs cells slots Q (F0 m pc ls (.int i :: .ref a :: rest)) := by
  have hlt : i.toNatClampNeg < n := Nat.not_le.mp fun q => hin (Or.inr q)
  exact W.aald (v := .ref (rr i.toNatClampNeg)) (ty := .array .int) hx hb (hP q0 _ ha) ((hK.2 3 (cs 3, .array .int) rfl).1 n (fun j => va_rf (if j < n then some (rr j) else none))) rfl (fun q => by cases q) (by show ¬ (i < 0 ∨ (arrV _ _ _).slots.size ≤ _); rw [arrV_size]; exact hin) (by show (arrV _ _ _).slots[_]? = _; rw [arrV_read _ _ hlt]; show some (va_rf (if i.toNatClampNeg < n then some (rr i.toNatClampNeg) else none)) = _; rw [if_pos hlt]; rfl) rfl rfl hdg kk
theorem ow_gVI {y : MethodName} {wsY : List Cond} {rmY : Room} {b : Nat} {As : List Value} {sg sc sr sc' sf : List va_W} {C : String} {T : u_T} {N idx n maxLY : Nat} {bytes : ByteArray} {retY : Option FieldType} {fs : List Value} (C0 : Cx p s m meth c av ws cc nL ret own D cs w0) (hM : MI l D cs y wsY rmY (.ref b :: As) H.size sc.flatten sc'.flatten r) (cw : CallW R s av own C idx y bytes maxLY retY wsY rmY 0 0 n) (ci : Nat) (hci : vwCl[ci]? = some (C, T, N)) (hrc : sc.flatten[0]? = some (b, .inr (ci, fs)))
    (hP : va_P D vwCl sg.flatten H) (hD : va_D (va_A w0 s.heap.size) sg.flatten) (hS : va_S (va_A w0 s.heap.size) s.heap H locs) (hp : (sc ++ sr).Perm sg) (hpF : (sr ++ sc').Perm sf)
    (hn : As.length = n) (hls : ls.size = nL) (hst : st0 = As.reverse ++ .ref b :: rest) (hrest : (rest.map fun v => v.category).sum ≤ 8) (hrm : cells ≤ R.cells ∧ slots ≤ R.slots) (hdg : decode cc pc = .ok (.invokevirtual idx, 3))
    (kk : ∀ (H1 : Heap) (locs1 : List Loc), va_P D vwCl sf.flatten H1 → va_D (va_A w0 s.heap.size) sf.flatten → va_S (va_A w0 s.heap.size) s.heap H1 locs1 → W p l e R s m av below meth c H1 locs1 cells slots Q (F0 m (pc + 3) ls (.int r :: rest))) :
    W p l e R s m av below meth c H locs cells slots Q (F0 m pc ls st0) := by
  obtain ⟨hx, hb, hr, hlk, hml, hown, hts, hK, hG, hE⟩ := id C0
  have hA : ∀ q, s.heap.size ≤ q → va_A w0 s.heap.size q := fun q h => Or.inr h
  have hPc := sg_cutP hP hp
  have hDc := sg_cutD hD hp
  have hFc := sg_free hD hS hA hp
  refine va_calli (va_runV (As := As) (rest := rest) ⟨hx, hb, hml, hown, hts⟩ hM cw ⟨ow_blind, va_recv hK hPc hci hrc, fun U hU hW => ⟨rfl, by rw [hU], by rw [hU]; exact hPc, gK_warm hW hG, hDc.weaken (fun _ _ _ _ => trivial), by rw [hU]; exact sS.moved hW.alike ((hE.kept hS.2.1).narrow hFc)⟩⟩ rfl hn hls hst (lv_room hrest) hdg hrm) hS (fun q _ h => hFc q h) hFc (fun r1 u t H1 locs1 ht hvm hw hB hz1 hk1 hS1 => ?_)
  obtain ⟨hP1, hD1⟩ := hB
  rw [ht] at hP1
  obtain ⟨hP2, hD2⟩ := sg_back hP hD hS hA hp hpF hk1 hP1 hD1
  subst hw
  exact kk H1 locs1 hP2 hD2 hS1
theorem ow_gVV {y : MethodName} {wsY : List Cond} {rmY : Room} {b : Nat} {As : List Value} {sg sc sr sc' sf : List va_W} {C : String} {T : u_T} {N idx n maxLY : Nat} {bytes : ByteArray} {retY : Option FieldType} {fs : List Value} (C0 : Cx p s m meth c av ws cc nL ret own D cs w0) (hM : MV l D cs y wsY rmY (.ref b :: As) H.size sc.flatten sc'.flatten) (cw : CallW R s av own C idx y bytes maxLY retY wsY rmY 0 0 n) (ci : Nat) (hci : vwCl[ci]? = some (C, T, N)) (hrc : sc.flatten[0]? = some (b, .inr (ci, fs)))
    (hP : va_P D vwCl sg.flatten H) (hD : va_D (va_A w0 s.heap.size) sg.flatten) (hS : va_S (va_A w0 s.heap.size) s.heap H locs) (hp : (sc ++ sr).Perm sg) (hpF : (sr ++ sc').Perm sf)
    (hn : As.length = n) (hls : ls.size = nL) (hst : st0 = As.reverse ++ .ref b :: rest) (hrest : (rest.map fun v => v.category).sum ≤ 8) (hrm : cells ≤ R.cells ∧ slots ≤ R.slots) (hdg : decode cc pc = .ok (.invokevirtual idx, 3))
    (kk : ∀ (H1 : Heap) (locs1 : List Loc), va_P D vwCl sf.flatten H1 → va_D (va_A w0 s.heap.size) sf.flatten → va_S (va_A w0 s.heap.size) s.heap H1 locs1 → W p l e R s m av below meth c H1 locs1 cells slots Q (F0 m (pc + 3) ls rest)) :
    W p l e R s m av below meth c H locs cells slots Q (F0 m pc ls st0) := by
  obtain ⟨hx, hb, hr, hlk, hml, hown, hts, hK, hG, hE⟩ := id C0
  have hA : ∀ q, s.heap.size ≤ q → va_A w0 s.heap.size q := fun q h => Or.inr h
  have hPc := sg_cutP hP hp
  have hDc := sg_cutD hD hp
  have hFc := sg_free hD hS hA hp
  refine va_callv (va_runV (As := As) (rest := rest) ⟨hx, hb, hml, hown, hts⟩ hM cw ⟨ow_blind, va_recv hK hPc hci hrc, fun U hU hW => ⟨rfl, by rw [hU], by rw [hU]; exact hPc, gK_warm hW hG, hDc.weaken (fun _ _ _ _ => trivial), by rw [hU]; exact sS.moved hW.alike ((hE.kept hS.2.1).narrow hFc)⟩⟩ rfl hn hls hst (lv_room hrest) hdg hrm) hS (fun q _ h => hFc q h) hFc (fun u t H1 locs1 ht hvm hw hB hz1 hk1 hS1 => ?_)
  obtain ⟨hP1, hD1⟩ := hB
  rw [ht] at hP1
  obtain ⟨hP2, hD2⟩ := sg_back hP hD hS hA hp hpF hk1 hP1 hD1
  exact kk H1 locs1 hP2 hD2 hS1
theorem ow_gSI {y : MethodName} {wsY : List Cond} {rmY : Room} {As : List Value} {sg sc sr sc' sf : List va_W} {idx n maxLY : Nat} {bytes : ByteArray} {retY : Option FieldType} (C0 : Cx p s m meth c av ws cc nL ret own D cs w0) (hM : MI l D cs y wsY rmY As H.size sc.flatten sc'.flatten r) (cw : CallB R s av own idx y bytes maxLY retY wsY rmY 0 0 n ∧ (Cond.static y).before av s = true)
    (hP : va_P D vwCl sg.flatten H) (hD : va_D (va_A w0 s.heap.size) sg.flatten) (hS : va_S (va_A w0 s.heap.size) s.heap H locs) (hp : (sc ++ sr).Perm sg) (hpF : (sr ++ sc').Perm sf)
    (hn : As.length = n) (hls : ls.size = nL) (hst : st0 = As.reverse ++ rest) (hrest : (rest.map fun v => v.category).sum ≤ 8) (hrm : cells ≤ R.cells ∧ slots ≤ R.slots) (hdg : decode cc pc = .ok (.invokestatic idx, 3))
    (kk : ∀ (H1 : Heap) (locs1 : List Loc), va_P D vwCl sf.flatten H1 → va_D (va_A w0 s.heap.size) sf.flatten → va_S (va_A w0 s.heap.size) s.heap H1 locs1 → W p l e R s m av below meth c H1 locs1 cells slots Q (F0 m (pc + 3) ls (.int r :: rest))) :
    W p l e R s m av below meth c H locs cells slots Q (F0 m pc ls st0) := by
  obtain ⟨hx, hb, hr, hlk, hml, hown, hts, hK, hG, hE⟩ := id C0
  have hA : ∀ q, s.heap.size ≤ q → va_A w0 s.heap.size q := fun q h => Or.inr h
  have hPc := sg_cutP hP hp
  have hDc := sg_cutD hD hp
  have hFc := sg_free hD hS hA hp
  refine va_calli (va_runS (As := As) (rest := rest) ⟨hx, hb, hml, hown, hts⟩ hM cw ⟨ow_blind, fun U hU hW => ⟨rfl, by rw [hU], by rw [hU]; exact hPc, gK_warm hW hG, hDc.weaken (fun _ _ _ _ => trivial), by rw [hU]; exact sS.moved hW.alike ((hE.kept hS.2.1).narrow hFc)⟩⟩ rfl hn hls hst (lv_room hrest) hdg hrm) hS (fun q _ h => hFc q h) hFc (fun r1 u t H1 locs1 ht hvm hw hB hz1 hk1 hS1 => ?_)
  obtain ⟨hP1, hD1⟩ := hB
  rw [ht] at hP1
  obtain ⟨hP2, hD2⟩ := sg_back hP hD hS hA hp hpF hk1 hP1 hD1
  subst hw
  exact kk H1 locs1 hP2 hD2 hS1
theorem ow_gSV {y : MethodName} {wsY : List Cond} {rmY : Room} {As : List Value} {sg sc sr sc' sf : List va_W} {idx n maxLY : Nat} {bytes : ByteArray} {retY : Option FieldType} (C0 : Cx p s m meth c av ws cc nL ret own D cs w0) (hM : MV l D cs y wsY rmY As H.size sc.flatten sc'.flatten) (cw : CallB R s av own idx y bytes maxLY retY wsY rmY 0 0 n ∧ (Cond.static y).before av s = true)
    (hP : va_P D vwCl sg.flatten H) (hD : va_D (va_A w0 s.heap.size) sg.flatten) (hS : va_S (va_A w0 s.heap.size) s.heap H locs) (hp : (sc ++ sr).Perm sg) (hpF : (sr ++ sc').Perm sf)
    (hn : As.length = n) (hls : ls.size = nL) (hst : st0 = As.reverse ++ rest) (hrest : (rest.map fun v => v.category).sum ≤ 8) (hrm : cells ≤ R.cells ∧ slots ≤ R.slots) (hdg : decode cc pc = .ok (.invokestatic idx, 3))
    (kk : ∀ (H1 : Heap) (locs1 : List Loc), va_P D vwCl sf.flatten H1 → va_D (va_A w0 s.heap.size) sf.flatten → va_S (va_A w0 s.heap.size) s.heap H1 locs1 → W p l e R s m av below meth c H1 locs1 cells slots Q (F0 m (pc + 3) ls rest)) :
    W p l e R s m av below meth c H locs cells slots Q (F0 m pc ls st0) := by
  obtain ⟨hx, hb, hr, hlk, hml, hown, hts, hK, hG, hE⟩ := id C0
  have hA : ∀ q, s.heap.size ≤ q → va_A w0 s.heap.size q := fun q h => Or.inr h
  have hPc := sg_cutP hP hp
  have hDc := sg_cutD hD hp
  have hFc := sg_free hD hS hA hp
  refine va_callv (va_runS (As := As) (rest := rest) ⟨hx, hb, hml, hown, hts⟩ hM cw ⟨ow_blind, fun U hU hW => ⟨rfl, by rw [hU], by rw [hU]; exact hPc, gK_warm hW hG, hDc.weaken (fun _ _ _ _ => trivial), by rw [hU]; exact sS.moved hW.alike ((hE.kept hS.2.1).narrow hFc)⟩⟩ rfl hn hls hst (lv_room hrest) hdg hrm) hS (fun q _ h => hFc q h) hFc (fun u t H1 locs1 ht hvm hw hB hz1 hk1 hS1 => ?_)
  obtain ⟨hP1, hD1⟩ := hB
  rw [ht] at hP1
  obtain ⟨hP2, hD2⟩ := sg_back hP hD hS hA hp hpF hk1 hP1 hD1
  exact kk H1 locs1 hP2 hD2 hS1
end SEG

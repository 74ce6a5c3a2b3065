/-! what holds at the entry of the law -/
theorem st_cls {av : Array Value} {s : State} (hts : ∀ w ∈ lw_tbl, w.before av s = true) : ∃ (dC : Nat → ClassId) (dI : Nat → Nat → Nat), ∀ (k : Nat) (q : vw_C), vwCl[k]? = some q → u_Kn s q.1 q.2.1 q.2.2 (dC k) (dI k) := by
  obtain ⟨c0, i0, h0⟩ := u_known (C := RX0) (T := TX0) (N := 4) (n := 4) hts (fun w h => (gU_wsX00 w h).1) (hts _ hw_1415.1)
  obtain ⟨c1, i1, h1⟩ := u_known (C := RX1) (T := TX1) (N := 4) (n := 4) hts (fun w h => (gU_wsX10 w h).1) (hts _ hw_1417.1)
  obtain ⟨c2, i2, h2⟩ := u_known (C := RX2) (T := TX2) (N := 8) (n := 8) hts (fun w h => (gU_wsX20 w h).1) (hts _ hw_361.1)
  obtain ⟨c3, i3, h3⟩ := u_known (C := RX3) (T := TX3) (N := 3) (n := 3) hts (fun w h => (gU_wsX30 w h).1) (hts _ hw_1413.1)
  obtain ⟨c4, i4, h4⟩ := u_known (C := RX4) (T := TX4) (N := 3) (n := 3) hts (fun w h => (gU_wsX40 w h).1) (hts _ hw_1395.1)
  obtain ⟨c5, i5, h5⟩ := u_known (C := RX5) (T := TX5) (N := 3) (n := 3) hts (fun w h => (gU_wsX50 w h).1) (hts _ hw_1419.1)
  obtain ⟨c6, i6, h6⟩ := u_known (C := RX6) (T := TX6) (N := 13) (n := 13) hts (fun w h => (gU_wsX60 w h).1) (hts _ hw_1411.1)
  obtain ⟨c7, i7, h7⟩ := u_known (C := RX7) (T := TX7) (N := 9) (n := 9) hts (fun w h => (gU_wsX70 w h).1) (hts _ hw_1409.1)
  obtain ⟨c8, i8, h8⟩ := u_known (C := RX8) (T := TX8) (N := 6) (n := 6) hts (fun w h => (gU_wsX80 w h).1) (hts _ hw_1421.1)
  obtain ⟨c9, i9, h9⟩ := u_known (C := RX9) (T := TX9) (N := 13) (n := 13) hts (fun w h => (gU_wsX90 w h).1) (hts _ hw_1423.1)
  obtain ⟨c10, i10, h10⟩ := u_known (C := RX10) (T := TX10) (N := 16) (n := 16) hts (fun w h => (gU_wsX100 w h).1) (hts _ hw_1455.1)
  obtain ⟨c11, i11, h11⟩ := u_known (C := RX11) (T := TX11) (N := 44) (n := 44) hts (fun w h => (gU_wsX110 w h).1) (hts _ hw_1457.1)
  refine ⟨fun k => match k with | 0 => c0 | 1 => c1 | 2 => c2 | 3 => c3 | 4 => c4 | 5 => c5 | 6 => c6 | 7 => c7 | 8 => c8 | 9 => c9 | 10 => c10 | _ => c11, fun k => match k with | 0 => i0 | 1 => i1 | 2 => i2 | 3 => i3 | 4 => i4 | 5 => i5 | 6 => i6 | 7 => i7 | 8 => i8 | 9 => i9 | 10 => i10 | _ => i11, ?_⟩
  intro k q hq
  match k, hq with
  | 0, hq => cases hq; exact h0
  | 1, hq => cases hq; exact h1
  | 2, hq => cases hq; exact h2
  | 3, hq => cases hq; exact h3
  | 4, hq => cases hq; exact h4
  | 5, hq => cases hq; exact h5
  | 6, hq => cases hq; exact h6
  | 7, hq => cases hq; exact h7
  | 8, hq => cases hq; exact h8
  | 9, hq => cases hq; exact h9
  | 10, hq => cases hq; exact h10
  | 11, hq => cases hq; exact h11
  | k + 12, hq => simp at hq
theorem st_aK {av : Array Value} {s : State} {ty : FieldType} (h : (Cond.arrayClass ty).before av s = true) : ∃ cA : ClassId, ArrOfT s cA ty ∧ s.vm.findClass ("[" ++ ty.toString) = some cA := by
  obtain ⟨cA, kA, comp, h1, h2, h3⟩ := Cond.arrayClass_spec h
  exact ⟨cA, fun n z => ⟨fun k h => (by cases h), kA, h2, comp, h3⟩, h1⟩
theorem st_aO {av : Array Value} {s : State} {C : String} (h : (Cond.arrayOver (.object C)).before av s = true) : ∃ cA : ClassId, ArrOfT s cA (.object C) ∧ va_RA s cA (.object C) := by
  obtain ⟨comp, cA, kA, h1, h2, h3, h4, h5⟩ := Cond.arrayOver_spec h
  exact ⟨cA, fun n z => ⟨fun k h => (by cases h), kA, h3, comp, h4⟩, kA, comp, h3, h4, h1, h5⟩
theorem st_aB {av : Array Value} {s : State} {t : FieldType} (h : (Cond.arrayOver (.array t)).before av s = true) : ∃ cA : ClassId, ArrOfT s cA (.array t) ∧ va_RA s cA (.array t) := by
  obtain ⟨comp, cA, kA, h1, h2, h3, h4, h5⟩ := Jvm.Stand.arrayOver_specB h
  exact ⟨cA, fun n z => ⟨fun k h => (by cases h), kA, h3, comp, h4⟩, h5⟩
theorem st_wG : Cond.arrayOver (.object "PaneDays$Glass") ∈ lw_tbl := tk_2 _ (List.mem_of_getElem? (l := tables_1_2) (i := 46) rfl)
theorem st_wP : Cond.arrayOver (.object "PaneDays$Past") ∈ lw_tbl := tk_2 _ (List.mem_of_getElem? (l := tables_1_2) (i := 138) rfl)
theorem st_wI : Cond.arrayOver (.array .int) ∈ lw_tbl := tk_6 _ (List.mem_of_getElem? (l := tables_1_6) (i := 138) rfl)
theorem st_K {av : Array Value} {s : State} (hts : ∀ w ∈ lw_tbl, w.before av s = true) : ∃ (dC : Nat → ClassId) (cs : Nat → ClassId) (dI : Nat → Nat → Nat), ∀ dJ : Nat → Nat → Nat, (∀ k, k < 12 → dJ k = dI k) → va_K (dC, dJ) vwCl (tyG cs) s := by
  obtain ⟨dC, dI, hK⟩ := st_cls hts
  obtain ⟨c0, a0, b0⟩ := st_aK (hts _ hw_367.1)
  obtain ⟨c1, a1, b1⟩ := st_aK (hts _ hw_1427.1)
  obtain ⟨c2, a2, b2⟩ := st_aK (hts _ hw_1458.1)
  obtain ⟨c3, a3, b3⟩ := st_aB (hts _ st_wI)
  obtain ⟨c4, a4, b4⟩ := st_aO (hts _ st_wG)
  obtain ⟨c5, a5, b5⟩ := st_aO (hts _ st_wP)
  refine ⟨dC, fun k => match k with | 0 => c0 | 1 => c1 | 2 => c2 | 3 => c3 | 4 => c4 | _ => c5, dI, fun dJ hJ => ⟨fun c q hq => ?_, fun k q hq => ?_⟩⟩
  · have hc : c < 12 := by
      have h := (List.getElem?_eq_some_iff.mp hq).1
      exact h
    have h := hK c q hq
    rw [← hJ c hc] at h
    exact h
  · match k, hq with
    | 0, hq => cases hq; exact ⟨a0, b0⟩
    | 1, hq => cases hq; exact ⟨a1, b1⟩
    | 2, hq => cases hq; exact ⟨a2, b2⟩
    | 3, hq => cases hq; exact ⟨a3, b3⟩
    | 4, hq => cases hq; exact ⟨a4, b4⟩
    | 5, hq => cases hq; exact ⟨a5, b5⟩
    | k + 6, hq => simp at hq
theorem st_gN {av : Array Value} {s : State} (hts : ∀ w ∈ lw_tbl, w.before av s = true) : gN s := by
  refine ⟨va_AO.of (hts _ st_wG), va_AO.of (hts _ st_wP), hts _ st_wI, fun E hE => ?_, fun x hx => ?_⟩
  · simp only [exL, List.mem_cons, List.not_mem_nil, or_false] at hE
    rcases hE with rfl | rfl | rfl
    · exact va_Nw.of rfl (hts (.castable "java/lang/IllegalArgumentException" "java/lang/IllegalArgumentException") (tk_3 _ (List.mem_of_getElem? (l := tables_1_3) (i := 60) rfl)))
    · exact va_Nw.of rfl (hts (.castable "java/util/NoSuchElementException" "java/util/NoSuchElementException") (tk_4 _ (List.mem_of_getElem? (l := tables_1_4) (i := 232) rfl)))
    · exact va_Nw.of rfl (hts (.castable "java/lang/IndexOutOfBoundsException" "java/lang/IndexOutOfBoundsException") (tk_5 _ (List.mem_of_getElem? (l := tables_1_5) (i := 21) rfl)))
  · simp only [exD, List.mem_cons, List.not_mem_nil, or_false] at hx
    rcases hx with rfl | rfl | rfl
    · exact va_Nw.of rfl (hts (.declares ⟨"java/lang/RuntimeException", "<init>", "()V"⟩) (tk_3 _ (List.mem_of_getElem? (l := tables_1_3) (i := 61) rfl)))
    · exact va_Nw.of rfl (hts (.declares ⟨"java/lang/Exception", "<init>", "()V"⟩) (tk_3 _ (List.mem_of_getElem? (l := tables_1_3) (i := 63) rfl)))
    · exact va_Nw.of rfl (hts (.declares ⟨"java/lang/Throwable", "<init>", "()V"⟩) (tk_3 _ (List.mem_of_getElem? (l := tables_1_3) (i := 65) rfl)))
theorem st_gC {av : Array Value} {s : State} (h : (Jvm.Cond.and given_1 narrow_1).before av s = true) : gC s := by
  have hs := flat_of_before _ h
  exact ⟨va_Nc.of (hs (.not (.castable "java/lang/IllegalArgumentException" "java/util/NoSuchElementException")) (by decide +kernel)), va_Nc.of (hs (.not (.castable "java/util/NoSuchElementException" "java/lang/IndexOutOfBoundsException")) (by decide +kernel)), va_Nc.of (hs (.not (.castable "java/lang/IllegalArgumentException" "java/lang/IndexOutOfBoundsException")) (by decide +kernel))⟩
theorem st_nest {av : Array Value} {s : State} (hts : ∀ w ∈ lw_tbl, w.before av s = true) : ∀ q ∈ nestL, va_Nw (.methodLinkNest q.1 q.2.1 q.2.2.1 q.2.2.2) s := by
  intro q hq
  simp only [nestL, List.mem_cons, List.not_mem_nil, or_false] at hq
  rcases hq with rfl | rfl | rfl | rfl | rfl | rfl | rfl | rfl | rfl
  · exact va_Nw.of rfl (hts (.methodLinkNest RX6 36 yX10_cellAt RX10) (tk_2 _ (List.mem_of_getElem? (l := tables_1_2) (i := 235) rfl)))
  · exact va_Nw.of rfl (hts (.methodLinkNest RX4 11 yX2_init RX10) (tk_2 _ (List.mem_of_getElem? (l := tables_1_2) (i := 4) rfl)))
  · exact va_Nw.of rfl (hts (.methodLinkNest RX8 11 yX2_init RX10) (tk_2 _ (List.mem_of_getElem? (l := tables_1_2) (i := 66) rfl)))
  · exact va_Nw.of rfl (hts (.methodLinkNest RX10 9 yX7_init RX10) (tk_1 _ (List.mem_of_getElem? (l := tables_1_1) (i := 37) rfl)))
  · exact va_Nw.of rfl (hts (.methodLinkNest RX10 38 yX0_init RX10) (tk_1 _ (List.mem_of_getElem? (l := tables_1_1) (i := 179) rfl)))
  · exact va_Nw.of rfl (hts (.methodLinkNest RX10 48 yX1_init RX10) (tk_1 _ (List.mem_of_getElem? (l := tables_1_1) (i := 199) rfl)))
  · exact va_Nw.of rfl (hts (.methodLinkNest RX10 55 yX5_init RX10) (tk_1 _ (List.mem_of_getElem? (l := tables_1_1) (i := 220) rfl)))
  · exact va_Nw.of rfl (hts (.methodLinkNest RX10 62 yX4_init RX10) (tk_1 _ (List.mem_of_getElem? (l := tables_1_1) (i := 238) rfl)))
  · exact va_Nw.of rfl (hts (.methodLinkNest RX10 69 yX8_init RX10) (tk_2 _ (List.mem_of_getElem? (l := tables_1_2) (i := 61) rfl)))

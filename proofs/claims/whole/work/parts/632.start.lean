/-! the law's entry: Cx, gN, gC -/
theorem va_strR {own tx : String} {k a : Nat} {av : Array Value} {s : State} (h1 : (Cond.stringRef own k tx).before av s = true) (h2 : (Term.string own k).eval av s none [] s = some (.ref a)) : vk_R own k tx a s := vk_R.of h1 h2
theorem st_all {p : Program} {s : State} {m : MethodId} {meth : Method} {c : Code} {av : Array Value} (hx : p.tables.exec = Jvm.exec) (hb : c.code = code) (hr : meth.sig.returnType = some .boolean) (hlocks : meth.locks = false) (hml : c.maxLocals = 7) (hown : s.vm.findClass RL = some m.cls) (hts : ∀ w ∈ lw_tbl, w.before av s = true) (hgv : (Jvm.Cond.and given_1 narrow_1).before av s = true) :
    ∃ (D : va_G) (cs : Nat → ClassId), Cx p s m meth c av lw_tbl code 7 (some .boolean) RL D cs [] ∧ gN s ∧ gC s := by
  have hA : ∀ a : Nat, a < s.heap.size → ¬ va_A [] s.heap.size a := by
    intro a ha h
    rcases h with ⟨k, e, h⟩ | h
    · cases h
    · omega
  have hs := flat_of_before _ hgv
  obtain ⟨dC, cs, dI, hK⟩ := st_K hts
  obtain ⟨adK, adV, hS⟩ := st_S hgv hA
  have hK := hK (fun k => if k < 12 then dI k else if k = 100 then adK else adV) (fun k hk => if_pos hk)
  refine ⟨(dC, fun k => if k < 12 then dI k else if k = 100 then adK else adV), cs, ⟨hx, hb, hr, hlocks, hml, hown, hts, hK, ⟨hK, st_nest hts, ?_⟩, ?_, ?_, ?_, ?_, ?_⟩, st_gN hts, st_gC hgv⟩
  · intro q hq
    have hw := st_wS q hq
    have hi : ∃ i, i < 22 ∧ strL.getD i ("", 0, "", 0) = q ∧ q.2.2.2 = i := by
      simp only [strL, List.mem_cons, List.not_mem_nil, or_false] at hq
      rcases hq with rfl | rfl | rfl | rfl | rfl | rfl | rfl | rfl | rfl | rfl | rfl | rfl | rfl | rfl | rfl | rfl | rfl | rfl | rfl | rfl | rfl | rfl <;> exact ⟨_, by decide, rfl, rfl⟩
    obtain ⟨i, hi, e1, e2⟩ := hi
    have he := (hS i hi).1
    have e3 : tmS i = .string q.1 q.2.1 := by unfold tmS; rw [e1]
    rw [e3] at he
    rw [e2]
    exact va_strR (hts _ hw) he
  · exact fun i hi => (hS i hi).2
  · exact va_Zof (hts (.laysStatic "java/lang/String" "COMPACT_STRINGS" "Z") (tk_3 _ (List.mem_of_getElem? (l := tables_1_3) (i := 158) rfl))) (hts (.initialized "java/lang/String") (tk_1 _ (List.mem_of_getElem? (l := tables_1_1) (i := 19) rfl))) (va_eqt (hs (.eq (.static "java/lang/String" "COMPACT_STRINGS" "Z") (.int 1)) (by decide +kernel))) hA
  · exact vx_Zqof (hts (.laysStatic "java/lang/Throwable" "UNASSIGNED_STACK" "[Ljava/lang/StackTraceElement;") (tk_3 _ (List.mem_of_getElem? (l := tables_1_3) (i := 85) rfl))) (hts (.initialized "java/lang/Throwable") (tk_1 _ (List.mem_of_getElem? (l := tables_1_1) (i := 14) rfl))) (hs (.isRef (.static "java/lang/Throwable" "UNASSIGNED_STACK" "[Ljava/lang/StackTraceElement;")) (by decide +kernel)) hA
  · exact vx_Zqof (hts (.laysStatic "java/lang/Throwable" "SUPPRESSED_SENTINEL" "Ljava/util/List;") (tk_3 _ (List.mem_of_getElem? (l := tables_1_3) (i := 87) rfl))) (hts (.initialized "java/lang/Throwable") (tk_1 _ (List.mem_of_getElem? (l := tables_1_1) (i := 14) rfl))) (hs (.isRef (.static "java/lang/Throwable" "SUPPRESSED_SENTINEL" "Ljava/util/List;")) (by decide +kernel)) hA
  · exact va_Zqof (hts (.laysStatic "jdk/internal/util/Preconditions" "SIOOBE_FORMATTER" "Ljava/util/function/BiFunction;") (tk_3 _ (List.mem_of_getElem? (l := tables_1_3) (i := 174) rfl))) (hts (.initialized "jdk/internal/util/Preconditions") (tk_1 _ (List.mem_of_getElem? (l := tables_1_1) (i := 21) rfl))) (hs (.isRef (.static "jdk/internal/util/Preconditions" "SIOOBE_FORMATTER" "Ljava/util/function/BiFunction;")) (by decide +kernel)) hA

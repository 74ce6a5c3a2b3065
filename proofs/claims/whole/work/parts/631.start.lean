/-! the literals at the law's entry -/
def tmS (i : Nat) : Term := .string (strL.getD i ("", 0, "", 0)).1 (strL.getD i ("", 0, "", 0)).2.1
theorem st_str {args : Array Value} {s : State} {tm : Term} {n : Nat} {bs : List Int32} {A : Nat → Prop} (hN : n < 2 ^ 31) (hex : (Cond.exactly tm "java/lang/String").before args s = true) (hco : (Cond.eq (.field tm "java/lang/String" "coder" "B") (.int 0)).before args s = true)
    (har : (Cond.arrayOf (.field tm "java/lang/String" "value" "[B") .byte).before args s = true) (hle : (Cond.eq (.length (.field tm "java/lang/String" "value" "[B")) (.int (Int32.ofNat n))).before args s = true)
    (hel : ∀ j : Nat, j < n → (Cond.eq (.elem (.field tm "java/lang/String" "value" "[B") (.int (Int32.ofNat j))) (.int (bs.getD j 0))).before args s = true) (hA : ∀ a : Nat, a < s.heap.size → ¬ A a) :
    ∃ q : Nat × Nat, tm.eval args s none [] s = some (.ref q.1) ∧ va_O "java/lang/String" q.1 A s s.heap ∧ va_OF "java/lang/String" "coder" "B" (.int 0) q.1 A s s.heap ∧ va_OF "java/lang/String" "value" "[B" (.ref q.2) q.1 A s s.heap ∧ va_T .byte q.2 n (fun j => .int (bs.getD j 0)) A s s.heap := by
  obtain ⟨a, c, cA, kA, q1, q2, q3, q4, q5, q6, -⟩ := Cond.exactly_spec (args := args) (first := s) (o := none) (s := s) (idx := []) (t := tm) (cls := "java/lang/String") hex
  obtain ⟨t, ht, hT⟩ := va_Tof (f := fun j => .int (bs.getD j 0)) (A := A) hN har (va_eqt hle) (fun j hj => va_eqt (hel j hj)) hA
  exact ⟨(a, t), q1, ⟨cA, q3, q5, by rw [q6]; exact q2, hA a (Array.getElem?_eq_some_iff.mp q3).1⟩, vk_OFof q1 (va_eqt hco) hA, vk_OFof q1 ht hA, hT⟩
theorem st_wS : ∀ q ∈ strL, Cond.stringRef q.1 q.2.1 q.2.2.1 ∈ lw_tbl := by
  intro q hq
  simp only [strL, List.mem_cons, List.not_mem_nil, or_false] at hq
  rcases hq with rfl | rfl | rfl | rfl | rfl | rfl | rfl | rfl | rfl | rfl | rfl | rfl | rfl | rfl | rfl | rfl | rfl | rfl | rfl | rfl | rfl | rfl
  · exact tk_3 _ (List.mem_of_getElem? (l := tables_1_3) (i := 144) rfl)
  · exact tk_3 _ (List.mem_of_getElem? (l := tables_1_3) (i := 197) rfl)
  · exact tk_3 _ (List.mem_of_getElem? (l := tables_1_3) (i := 198) rfl)
  · exact tk_3 _ (List.mem_of_getElem? (l := tables_1_3) (i := 199) rfl)
  · exact tk_3 _ (List.mem_of_getElem? (l := tables_1_3) (i := 200) rfl)
  · exact tk_4 _ (List.mem_of_getElem? (l := tables_1_4) (i := 54) rfl)
  · exact tk_4 _ (List.mem_of_getElem? (l := tables_1_4) (i := 55) rfl)
  · exact tk_4 _ (List.mem_of_getElem? (l := tables_1_4) (i := 44) rfl)
  · exact tk_4 _ (List.mem_of_getElem? (l := tables_1_4) (i := 46) rfl)
  · exact tk_4 _ (List.mem_of_getElem? (l := tables_1_4) (i := 47) rfl)
  · exact tk_4 _ (List.mem_of_getElem? (l := tables_1_4) (i := 48) rfl)
  · exact tk_4 _ (List.mem_of_getElem? (l := tables_1_4) (i := 49) rfl)
  · exact tk_4 _ (List.mem_of_getElem? (l := tables_1_4) (i := 50) rfl)
  · exact tk_4 _ (List.mem_of_getElem? (l := tables_1_4) (i := 51) rfl)
  · exact tk_4 _ (List.mem_of_getElem? (l := tables_1_4) (i := 52) rfl)
  · exact tk_4 _ (List.mem_of_getElem? (l := tables_1_4) (i := 82) rfl)
  · exact tk_4 _ (List.mem_of_getElem? (l := tables_1_4) (i := 84) rfl)
  · exact tk_4 _ (List.mem_of_getElem? (l := tables_1_4) (i := 85) rfl)
  · exact tk_4 _ (List.mem_of_getElem? (l := tables_1_4) (i := 86) rfl)
  · exact tk_4 _ (List.mem_of_getElem? (l := tables_1_4) (i := 87) rfl)
  · exact tk_4 _ (List.mem_of_getElem? (l := tables_1_4) (i := 88) rfl)
  · exact tk_4 _ (List.mem_of_getElem? (l := tables_1_4) (i := 89) rfl)
theorem st_S {av : Array Value} {s : State} {A : Nat → Prop} (h : (Jvm.Cond.and given_1 narrow_1).before av s = true) (hA : ∀ a : Nat, a < s.heap.size → ¬ A a) : ∃ (adK adV : Nat → Nat), ∀ i : Nat, i < 22 → (tmS i).eval av s none [] s = some (.ref (adK i)) ∧ va_O "java/lang/String" (adK i) A s s.heap ∧ va_OF "java/lang/String" "coder" "B" (.int 0) (adK i) A s s.heap ∧ va_OF "java/lang/String" "value" "[B" (.ref (adV i)) (adK i) A s s.heap ∧ va_T .byte (adV i) (lenS.getD i 0) (fun j => .int ((bytS.getD i []).getD j 0)) A s s.heap := by
  have hs := flat_of_before _ h
  have h0 : ∀ i : Nat, ∃ q : Nat × Nat, i < 22 → (tmS i).eval av s none [] s = some (.ref q.1) ∧ va_O "java/lang/String" q.1 A s s.heap ∧ va_OF "java/lang/String" "coder" "B" (.int 0) q.1 A s s.heap ∧ va_OF "java/lang/String" "value" "[B" (.ref q.2) q.1 A s s.heap ∧ va_T .byte q.2 (lenS.getD i 0) (fun j => .int ((bytS.getD i []).getD j 0)) A s s.heap := by
    intro i
    by_cases hi : i < 22
    · obtain ⟨q, hq⟩ := st_str (args := av) (s := s) (tm := tmS i) (n := lenS.getD i 0) (bs := bytS.getD i []) (A := A) ((by decide +kernel : ∀ i, i < 22 → lenS.getD i 0 < 2 ^ 31) i hi) (hs _ ((by decide +kernel : ∀ i, i < 22 → Cond.exactly (tmS i) "java/lang/String" ∈ flatC (Jvm.Cond.and given_1 narrow_1)) i hi)) (hs _ ((by decide +kernel : ∀ i, i < 22 → Cond.eq (.field (tmS i) "java/lang/String" "coder" "B") (.int 0) ∈ flatC (Jvm.Cond.and given_1 narrow_1)) i hi)) (hs _ ((by decide +kernel : ∀ i, i < 22 → Cond.arrayOf (.field (tmS i) "java/lang/String" "value" "[B") .byte ∈ flatC (Jvm.Cond.and given_1 narrow_1)) i hi)) (hs _ ((by decide +kernel : ∀ i, i < 22 → Cond.eq (.length (.field (tmS i) "java/lang/String" "value" "[B")) (.int (Int32.ofNat (lenS.getD i 0))) ∈ flatC (Jvm.Cond.and given_1 narrow_1)) i hi)) (fun j hj => hs _ ((by decide +kernel : ∀ i, i < 22 → ∀ j, j < lenS.getD i 0 → Cond.eq (.elem (.field (tmS i) "java/lang/String" "value" "[B") (.int (Int32.ofNat j))) (.int ((bytS.getD i []).getD j 0)) ∈ flatC (Jvm.Cond.and given_1 narrow_1)) i hi j hj)) hA
      exact ⟨q, fun _ => hq⟩
    · exact ⟨(0, 0), fun h => absurd h hi⟩
  exact ⟨fun i => (Classical.choose (h0 i)).1, fun i => (Classical.choose (h0 i)).2, fun i hi => Classical.choose_spec (h0 i) hi⟩

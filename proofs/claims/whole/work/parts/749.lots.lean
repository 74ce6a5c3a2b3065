/-! decades: the reference -/
theorem r_breaks_b {p : Nat} (hp : p < 5) : ∀ (m i q : Nat) (row : Nat → Int32), i + m = 16 → m < q → ∃ row', f_X11_breaks_b27 2685 q row (nI p) (nI i) = some (1, row') ∧ ∀ j, row' j = if 2400 + (16 * p + i) ≤ j ∧ j < 2400 + (16 * p + 16) then 0 else row j := by
  intro m
  induction m with
  | zero =>
    intro i q row hi hq
    obtain ⟨q, rfl⟩ : ∃ r, q = r + 1 := ⟨q - 1, by omega⟩
    refine ⟨row, ?_, fun j => by rw [if_neg (by omega)]⟩
    rw [f_X11_breaks_b27, pl16, if_pos (nI_le (by omega) (by omega))]
  | succ m ih =>
    intro i q row hi hq
    obtain ⟨q, rfl⟩ : ∃ r, q = r + 1 := ⟨q - 1, by omega⟩
    obtain ⟨row', e1, e2⟩ := ih (i + 1) q (upd row (2400 + 16 * p + i) 0) (by omega) (by omega)
    refine ⟨row', ?_, fun j => ?_⟩
    · rw [f_X11_breaks_b27, pl16, if_neg (nI_ge (by omega) (by omega)), pl2400, pk_mul, nI_add, nI_add, pu_ck (by omega) (by omega), nI_clamp (by omega), nI_1]
      exact e1
    · rw [e2 j, upd]
      by_cases e : j = 2400 + 16 * p + i
      · rw [if_pos e, if_neg (by omega), if_pos (by omega)]
      · rw [if_neg e]
        by_cases e3 : 2400 + (16 * p + i) ≤ j ∧ j < 2400 + (16 * p + 16)
        · rw [if_pos e3, if_pos (by omega)]
        · rw [if_neg e3, if_neg (by omega)]
theorem r_breaks {row : Nat → Int32} {p b : Nat} (hp : p < 5) (hb : b < 32) (hrb : row 2681 = nI b) (h : ¬ b.testBit p = true) : ∃ row', f_X11_breaks 2685 row (nI p) = some (1, row') ∧ ∀ j, row' j = if j = 2681 then nI (b ||| 2 ^ p) else if 2400 + 16 * p ≤ j ∧ j < 2400 + (16 * p + 16) then 0 else row j := by
  have c81 : ((2681 : Int32).toNatClampNeg) = 2681 := rfl
  have hk81 : ∀ {R : Type} (z : Option R), ck 2681 2685 z = z := fun z => by rw [pl2681]; exact pu_ck (by omega) (by omega)
  obtain ⟨row', e1, e2⟩ := r_breaks_b hp 16 0 4000 (upd row 2681 (nI (b ||| 2 ^ p))) (by omega) (by omega)
  rw [← pl0] at e1
  refine ⟨row', ?_, fun j => ?_⟩
  · rw [f_X11_breaks, hk81, hk81, hk81, c81, hrb, r_has (by omega) (by omega), Option.bind_some, if_neg h, if_pos (show (0 : Int32) = 0 from rfl), pl1, pl31, pn_shl (by omega), pz_or, ← pl1]
    exact e1
  · rw [e2 j, Nat.add_zero, upd]
    by_cases e : j = 2681
    · rw [if_pos e, if_pos e, if_neg (by omega)]
    · rw [if_neg e, if_neg e]
theorem r_breaksNo {row : Nat → Int32} {p b : Nat} (hp : p < 5) (hb : b < 32) (hrb : row 2681 = nI b) (h : b.testBit p = true) : f_X11_breaks 2685 row (nI p) = some (0, row) := by
  have c81 : ((2681 : Int32).toNatClampNeg) = 2681 := rfl
  have hk81 : ∀ {R : Type} (z : Option R), ck 2681 2685 z = z := fun z => by rw [pl2681]; exact pu_ck (by omega) (by omega)
  rw [f_X11_breaks, hk81, c81, hrb, r_has (by omega) (by omega), Option.bind_some, if_pos h, if_neg (show ¬ ((1 : Int32) = 0) by decide)]
theorem tb_or {b p j : Nat} : (b ||| 2 ^ p).testBit j = (b.testBit j || decide (p = j)) := by
  rw [Nat.testBit_or, Nat.testBit_two_pow]
/-- washed by day d on the panes that are whole -/
def sWb (np b : Nat) (wb : Nat → Int32) (d : Nat) : Int32 := sIt (fun p => if b.testBit p = true then 0 else wb (61 * p + d)) np 0
/-- row after k days, panes b broken, wm washed off those that broke -/
def rQ (np hd : Nat) (wb : Nat → Int32) (w0 : Int32) (b0 : Nat) (S : DS) (k : Nat) (s : DW) (row : Nat → Int32) : Prop :=
  rRep hd row (msk s.1 S.1) S.2.1 ∧ row 2681 = nI s.1 ∧ row 2684 = nI S.2.2 ∧ row 2683 = w0 + (s.2.2 + sWb np s.1 wb k) ∧ s.1 < 32 ∧ (∀ p, b0.testBit p = true → s.1.testBit p = true)
theorem rQ_brk {np hd : Nat} {wb : Nat → Int32} {w0 : Int32} {b0 : Nat} {S : DS} {k p : Nat} {s : DW} {row row' : Nat → Int32} {l : Int32} (h : rQ np hd wb w0 b0 S k s row) (hp : p < np) (hn : np ≤ 5) (hd30 : hd ≤ 30) (hb : ¬ s.1.testBit p = true) (hr : ∀ j, row' j = if j = 2681 then nI (s.1 ||| 2 ^ p) else if 2400 + 16 * p ≤ j ∧ j < 2400 + (16 * p + 16) then 0 else row j) : rQ np hd wb w0 b0 S k (s.1 ||| 2 ^ p, l, s.2.2 + wb (61 * p + (k + 1) - 1)) row' := by
  obtain ⟨h1, h2, h3, h4, h5, h6⟩ := h
  refine ⟨fun c hc => ?_, ?_, ?_, ?_, or_lt32 h5 (by omega), fun j hj => ?_⟩
  · obtain ⟨a1, a2, a3⟩ := h1 c hc
    show row' (2400 + c) = nI (msk (s.1 ||| 2 ^ p) S.1 c) ∧ msk (s.1 ||| 2 ^ p) S.1 c ≤ hd ∧ ∀ j, j < msk (s.1 ||| 2 ^ p) S.1 c → row' (30 * c + j) = nI (S.2.1 (30 * c + j))
    by_cases e : p = c / 16
    · have e0 : msk (s.1 ||| 2 ^ p) S.1 c = 0 := by
        rw [msk, tb_or, decide_eq_true e, Bool.or_true, if_pos rfl]
      rw [e0]
      refine ⟨?_, by omega, fun j hj => absurd hj (by omega)⟩
      rw [hr, if_neg (by omega), if_pos (by omega), pl0]
    · have e0 : msk (s.1 ||| 2 ^ p) S.1 c = msk s.1 S.1 c := by
        rw [msk, msk, tb_or, decide_eq_false e, Bool.or_false]
      rw [e0]
      refine ⟨?_, a2, fun j hj => ?_⟩
      · rw [hr, if_neg (by omega), if_neg (by omega)]
        exact a1
      · rw [hr, if_neg (by omega), if_neg (by omega)]
        exact a3 j hj
  · rw [hr, if_pos rfl]
  · rw [hr, if_neg (by omega), if_neg (by omega)]
    exact h3
  · rw [hr, if_neg (by omega), if_neg (by omega), h4]
    show w0 + (s.2.2 + sWb np s.1 wb k) = w0 + (s.2.2 + wb (61 * p + (k + 1) - 1) + sWb np (s.1 ||| 2 ^ p) wb k)
    have e := sIt_one (fun p => if s.1.testBit p = true then 0 else wb (61 * p + k)) (fun j => if (s.1 ||| 2 ^ p).testBit j = true then 0 else wb (61 * j + k)) p (by
      show (if (s.1 ||| 2 ^ p).testBit p = true then 0 else wb (61 * p + k)) = 0
      rw [tb_or, decide_eq_true rfl, Bool.or_true, if_pos rfl]) (fun j hj => by
      show (if (s.1 ||| 2 ^ p).testBit j = true then 0 else wb (61 * j + k)) = (if s.1.testBit j = true then 0 else wb (61 * j + k))
      rw [tb_or, decide_eq_false (fun e => hj e.symm), Bool.or_false]) np 0 (by omega) (by omega)
    rw [sWb, sWb, e, show (if s.1.testBit p = true then (0 : Int32) else wb (61 * p + k)) = wb (61 * p + k) by rw [if_neg hb], show 61 * p + (k + 1) - 1 = 61 * p + k by omega, Int32.add_assoc]
  · rw [tb_or, h6 j hj, Bool.true_or]
theorem rQ_lot {np hd : Nat} {wb : Nat → Int32} {w0 : Int32} {b0 : Nat} {S : DS} {k : Nat} {s : DW} {row : Nat → Int32} {l : Int32} (h : rQ np hd wb w0 b0 S k s row) : rQ np hd wb w0 b0 S k (s.1, l, s.2.2) row := h
theorem r_decP {np hd : Nat} {wb : Nat → Int32} {w0 : Int32} {b0 : Nat} {S : DS} {k : Nat} {m19 : Int32} {to v29 v25 v26 : Nat → Int32} {pa ra od la : Nat → Nat → Int32} {x x3 x4 : Int32} {k19 : (Int32) → (Nat → Int32) → (Nat → Int32) → (Nat → Int32) → Int32 → Int32 → Int32 → Option (Int32 × (Nat → Int32) × (Nat → Int32) × (Nat → Int32))} (hn : np ≤ 5) (ht : to 0 = nI np) (hd30 : hd ≤ 30) : ∀ (m i q : Nat) (s : DW) (row : Nat → Int32), i + m = np → m < q → rQ np hd wb w0 b0 S k s row → ∃ row', f_X11_decades_b28 m19 to v29 pa ra od la k19 q s.2.1 v25 v26 row x x3 x4 (nI i) = (f_X11_dayEnds m19 to v25 v26 pa ra od la 2685 row').bind (fun q109 => k19 (dwP x wb (k + 1) m i s).2.1 q109.2.1 q109.2.2.1 q109.2.2.2 x x3 (x4 + 1)) ∧ rQ np hd wb w0 b0 S k (dwP x wb (k + 1) m i s) row' := by
  have e0 : to ((0 : Int32).toNatClampNeg) = nI np := ht
  have c81 : ((2681 : Int32).toNatClampNeg) = 2681 := rfl
  intro m
  induction m with
  | zero =>
    intro i q s row hi hq hQ
    obtain ⟨q, rfl⟩ : ∃ r, q = r + 1 := ⟨q - 1, by omega⟩
    refine ⟨row, ?_, hQ⟩
    rw [f_X11_decades_b28, e0, if_pos (nI_le (by omega) (by omega)), dwP]
  | succ m ih =>
    intro i q s row hi hq hQ
    obtain ⟨q, rfl⟩ : ∃ r, q = r + 1 := ⟨q - 1, by omega⟩
    have hs := hQ.2.2.2.2.1
    rw [f_X11_decades_b28, e0, if_neg (nI_ge (by omega) (by omega)), c81, hQ.2.1, r_has (by omega) (by omega), Option.bind_some, f_X11_decades_b98, f_X11_decades_b98, nI_1, dwP, dw1]
    by_cases h : s.1.testBit i = true
    · rw [if_pos h, if_pos h, if_neg (show ¬ ((1 : Int32) = 0) by decide)]
      exact ih (i + 1) q s row (by omega) (by omega) hQ
    · rw [if_neg h, if_neg h, if_pos (show (0 : Int32) = 0 from rfl)]
      generalize s.2.1 * 1103515245 + 12345 = l
      by_cases h2 : x ≤ ((l >>> ((16 : Int32) &&& 31)) &&& 15)
      · simp -implicitDefEqProofs only [if_pos h2]
        exact ih (i + 1) q (s.1, l, s.2.2) row (by omega) (by omega) (rQ_lot hQ)
      · obtain ⟨row', b1, b2⟩ := r_breaks (by omega) hs hQ.2.1 h
        simp -implicitDefEqProofs only [if_neg h2, b1, Option.bind_some, f_X11_decades_b98, nI_1]
        exact ih (i + 1) q (s.1 ||| 2 ^ i, l, s.2.2 + wb (61 * i + (k + 1) - 1)) row' (by omega) (by omega) (rQ_brk hQ (by omega) hn hd30 h b2)
theorem r_decD {np no hd : Nat} {W H : Nat → Nat} {s6 : CX6} {to : Nat → Int32} {pa ra od : Nat → Nat → Int32} (hS : PzS np no hd W H s6 to pa ra od) {m19 : Int32} {la : Nat → Nat → Int32} {lv : (Nat → Int32) → Int32} {fl : Nat → Int32} (hfl : ∀ p, p < np → pa p 3 = fl p) (l2 : ∀ kn st, ∃ st', f_X11_byLaw m19 st kn la = some (lv kn, st')) (l3 : ∀ kn kn', (∀ k, k < 8 → kn k = kn' k) → lv kn = lv kn') {X D U : Nat → Nat} (hX : ∀ o, o < no → X o < 80 ∧ D o ≤ 200 ∧ U o ≤ 200 ∧ f_X11_cellOfOrder 5 (od o) = some (nI (X o)) ∧ od o 3 = nI (D o) ∧ od o 4 = nI (U o)) {rn : Nat → Nat} {nr : Nat} (hnr : nr ≤ 12) (htr : to 2 = nI nr) (hrn : ∀ d, d ≤ 200 → rn d ≤ 108 ∧ pzRain ra (nI d) nr = nI (rn d)) {s0 : DS} {b0 days : Nat} (hw0 : wf np hd W H s0.1 s0.2.1 s0.2.2) (hdays : days ≤ 60) {v29 wb : Nat → Int32} {x w0 : Int32} (hwb : ∀ p k, p < np → 1 ≤ k → k ≤ days → wb (61 * p + k) = wb (61 * p + k - 1) + nI (wsD rn (itS np hd W H lv fl b0 rn s0 (k - 1)) p)) : ∀ (m k q : Nat) (s : DW) (v25 v26 row : Nat → Int32), k + m = days → m < q → rQ np hd wb w0 b0 (itS np hd W H lv fl b0 rn s0 k) k s row → ∃ v25' v26' row', f_X11_decades_b19 m19 to v29 pa ra od la q s.2.1 v25 v26 row x (nI days) (nI k) = some ((dwD x wb np m (k + 1) s).2.1, v25', v26', row') ∧ rQ np hd wb w0 b0 (itS np hd W H lv fl b0 rn s0 days) days (dwD x wb np m (k + 1) s) row' := by
  obtain ⟨h5, -, ⟨h1, h30⟩, ⟨-, t0⟩, -⟩ := id hS
  intro m
  induction m with
  | zero =>
    intro k q s v25 v26 row hi hq hQ
    obtain ⟨q, rfl⟩ : ∃ r, q = r + 1 := ⟨q - 1, by omega⟩
    rw [show k = days by omega] at hQ ⊢
    refine ⟨v25, v26, row, ?_, hQ⟩
    rw [f_X11_decades_b19, if_pos (nI_le (by omega) (by omega)), dwD]
  | succ m ih =>
    intro k q s v25 v26 row hi hq hQ
    obtain ⟨q, rfl⟩ : ∃ r, q = r + 1 := ⟨q - 1, by omega⟩
    obtain ⟨row1, a1, a2⟩ := r_decP (np := np) (hd := hd) (wb := wb) (w0 := w0) (b0 := b0) (S := itS np hd W H lv fl b0 rn s0 k) (k := k) (m19 := m19) (to := to) (v29 := v29) (v25 := v25) (v26 := v26) (pa := pa) (ra := ra) (od := od) (la := la) (x := x) (x3 := nI days) (x4 := nI k) (k19 := f_X11_decades_b19 m19 to v29 pa ra od la q) h5 t0 h30 np 0 4000 s row (by omega) (by omega) hQ
    rw [← pl0] at a1
    rw [dwD]
    generalize dwP x wb (k + 1) np 0 s = s' at a1 a2 ⊢
    obtain ⟨q1, q2, q3, q4, q5, q6⟩ := a2
    obtain ⟨t, v25', v26', row', e1, e2, e3, e4, e5⟩ := r_dayM hS (lv := lv) hfl l2 l3 hX hnr htr hrn (b0 := b0) (wf_itS h1 h30 hw0 k) q6 q1 q2 q5 q3 v25 v26
    obtain ⟨w25, w26, row2, c1, c2⟩ := ih (k + 1) q s' v25' v26' row' (by omega) (by omega) ⟨e5, e3, e2, (by
      rw [e4, q4, Int32.add_assoc, Int32.add_assoc]
      congr 2
      have e := sIt_nI (fun p => if s'.1.testBit p = true then 0 else wsD rn (itS np hd W H lv fl b0 rn s0 k) p) np 0
      rw [wsM, ← e, sWb, sWb, ← sIt_add]
      refine sIt_ext _ _ np 0 (fun p _ hp => ?_)
      show (if s'.1.testBit p = true then 0 else wb (61 * p + k)) + nI (if s'.1.testBit p = true then 0 else wsD rn (itS np hd W H lv fl b0 rn s0 k) p) = (if s'.1.testBit p = true then 0 else wb (61 * p + (k + 1)))
      by_cases h : s'.1.testBit p = true
      · rw [if_pos h, if_pos h, if_pos h]
        rfl
      · rw [if_neg h, if_neg h, if_neg h, hwb p (k + 1) (by omega) (by omega) (by omega)]
        rfl), q5, q6⟩
    refine ⟨w25, w26, row2, ?_, c2⟩
    rw [f_X11_decades_b19, if_neg (nI_ge (by omega) (by omega)), a1, e1, Option.bind_some, nI_1]
    exact c1

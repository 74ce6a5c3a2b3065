/-! decade -/
theorem aP_msk (b : Nat) (dp : Nat → Nat) (p : Nat) : aP (msk b dp) p = if b.testBit p = true then 0 else aP dp p := by
  by_cases h : b.testBit p = true
  · rw [if_pos h, aP]
    refine sF_zero _ 16 0 (fun j _ hj => ?_)
    show msk b dp (16 * p + j) = 0
    rw [msk, show (16 * p + j) / 16 = p by omega, if_pos h]
  · rw [if_neg h, aP, aP]
    refine sF_ext _ _ 16 0 (fun j _ hj => ?_)
    show msk b dp (16 * p + j) = dp (16 * p + j)
    rw [msk, show (16 * p + j) / 16 = p by omega, if_neg h]
theorem r_onAllM {to row : Nat → Int32} {dp fd : Nat → Nat} {np hd b : Nat} (hn : np ≤ 5) (ht : to 0 = nI np) (h : rRep hd row (msk b dp) fd) : f_X11_onAll to 2685 row = some (nI (sF (fun p => if b.testBit p = true then 0 else aP dp p) np 0)) := by
  have h1 := r_onAll_b hn ht (fun c hc => (h c hc).1) np 0 4000 0 (by omega) (by omega)
  rw [Nat.zero_add] at h1
  rw [← sF_ext (aP (msk b dp)) (fun p => if b.testBit p = true then 0 else aP dp p) np 0 (fun j _ _ => aP_msk b dp j)]
  exact h1
theorem sIt_zero (f : Nat → Int32) : ∀ m i, (∀ j, i ≤ j → j < i + m → f j = 0) → sIt f m i = 0 := by
  intro m
  induction m with
  | zero => intro i _; rfl
  | succ m ih =>
    intro i h
    rw [sIt, h i (by omega) (by omega), ih (i + 1) (fun j h1 h2 => h j (by omega) (by omega))]
    rfl
theorem r_decades {np no hd : Nat} {W H : Nat → Nat} {s6 : CX6} {to : Nat → Int32} {pa ra od : Nat → Nat → Int32} (hS : PzS np no hd W H s6 to pa ra od) {n : GC} {v29 : Nat → Int32} {dp fd : Nat → Nat} {dy b0 days : Nat} (hG : PzG np hd W H n v29 dp fd dy) (hb32 : b0 < 32) (hb2 : v29 2681 = nI b0) (hb0 : ∀ c, c < 80 → b0.testBit (c / 16) = true → dp c = 0) {m19 : Int32} {la : Nat → Nat → Int32} {lv : (Nat → Int32) → Int32} {fl : Nat → Int32} (hfl : ∀ p, p < np → pa p 3 = fl p) (l2 : ∀ kn st, ∃ st', f_X11_byLaw m19 st kn la = some (lv kn, st')) (l3 : ∀ kn kn', (∀ k, k < 8 → kn k = kn' k) → lv kn = lv kn') {X D U : Nat → Nat} (hX : ∀ o, o < no → X o < 80 ∧ D o ≤ 200 ∧ U o ≤ 200 ∧ f_X11_cellOfOrder 5 (od o) = some (nI (X o)) ∧ od o 3 = nI (D o) ∧ od o 4 = nI (U o)) {rn : Nat → Nat} {nr : Nat} (hnr : nr ≤ 12) (htr : to 2 = nI nr) (hrn : ∀ d, d ≤ 200 → rn d ≤ 108 ∧ pzRain ra (nI d) nr = nI (rn d)) (hdays : days ≤ 60) {wb : Nat → Int32} (hwb : ∀ p k, p < np → 1 ≤ k → k ≤ days → wb (61 * p + k) = wb (61 * p + k - 1) + nI (wsD rn (itS np hd W H lv fl b0 rn (dp, fd, dy) (k - 1)) p)) (hwb0 : ∀ p, p < 5 → wb (61 * p) = 0) (x seed i43 : Int32) (v25 v26 v30 : Nat → Int32) :
    ∃ l v25' v26' row', f_X11_decades m19 i43 to v25 v26 v29 v30 pa ra od la seed x (nI days) = some (l, v25', v26', row') ∧ rQ np hd wb (v29 2683) b0 (itS np hd W H lv fl b0 rn (dp, fd, dy) days) days (dwD x wb np days 1 (b0, seed, 0)) row' := by
  obtain ⟨t30, k1, k2⟩ := r_copies v29 v30
  obtain ⟨hdy, hd1, hd2⟩ := hG.2.2.1
  have h30 := hS.2.2.1.2
  have h5 := hS.1
  obtain ⟨v25', v26', row', e1, e2⟩ := r_decD hS (lv := lv) hfl l2 l3 hX hnr htr hrn (s0 := (dp, fd, dy)) (b0 := b0) (days := days) hG.wf hdays (v29 := v29) (wb := wb) (x := x) (w0 := v29 2683) hwb days 0 4000 (b0, seed, 0) v25 v26 t30 (by omega) (by omega) ⟨fun c hc => by
      have hle := hG.le hc
      have e : msk b0 dp c = dp c := by
        rw [msk]
        by_cases h : b0.testBit (c / 16) = true
        · rw [if_pos h, hb0 c hc h]
        · rw [if_neg h]
      show t30 (2400 + c) = nI (msk b0 dp c) ∧ msk b0 dp c ≤ hd ∧ ∀ j, j < msk b0 dp c → t30 (30 * c + j) = nI (fd (30 * c + j))
      rw [e]
      refine ⟨by rw [k2 _ (by omega)]; exact hG.many hc, hle, fun j hj => ?_⟩
      rw [k2 _ (by omega)]
      exact (hG.2.1 c hc j hj).2.1, by rw [k2 _ (by omega)]; exact hb2, by rw [k2 _ (by omega)]; exact hd2, (by
      show t30 2683 = v29 2683 + (0 + sWb np b0 wb 0)
      rw [k2 _ (by omega), sWb, sIt_zero _ np 0 (fun p _ hp => by
        show (if b0.testBit p = true then (0 : Int32) else wb (61 * p + 0)) = 0
        rw [Nat.add_zero, hwb0 p (by omega)]
        by_cases h : b0.testBit p = true
        · rw [if_pos h]
        · rw [if_neg h])]
      rw [Int32.add_zero, Int32.add_zero]), hb32, fun p hp => hp⟩
  refine ⟨(dwD x wb np days 1 (b0, seed, 0)).2.1, v25', v26', row', ?_, e2⟩
  rw [← pl0] at e1
  rw [f_X11_decades, k1, Option.bind_some]
  exact e1
theorem r_ones_b {b : Nat} (hb : b < 32) : ∀ (m i q acc : Nat), i + m = 5 → m < q → f_X11_ones_b4 q (nI b) (nI acc) (nI i) = some (nI (acc + sF (fun i => (b.testBit i).toNat) m i)) := by
  intro m
  induction m with
  | zero =>
    intro i q acc hi hq
    obtain ⟨q, rfl⟩ : ∃ r, q = r + 1 := ⟨q - 1, by omega⟩
    rw [f_X11_ones_b4, pl5, if_pos (nI_le (by omega) (by omega)), sF, Nat.add_zero]
  | succ m ih =>
    intro i q acc hi hq
    obtain ⟨q, rfl⟩ : ∃ r, q = r + 1 := ⟨q - 1, by omega⟩
    rw [f_X11_ones_b4, pl5, if_neg (nI_ge (by omega) (by omega)), pl31, pl1, pn_bit (by omega) (by omega), nI_add, ← pl1, nI_1, ih (i + 1) q _ (by omega) (by omega), sF, Nat.add_assoc, tb_nat]
theorem ones_eq {b : Nat} (hb : b < 32) : f_J6_bitCount_0f7a4 (nI b) = some (nI (sF (fun i => (b.testBit i).toNat) 5 0)) ∧ f_X11_ones (nI b) = some (nI (sF (fun i => (b.testBit i).toNat) 5 0)) := by
  have e1 := r_ones_b hb 5 0 4000 0 (by omega) (by omega)
  rw [← pl0, Nat.zero_add] at e1
  refine ⟨?_, e1⟩
  rw [p_bitCount (by omega), pc4_eq (by omega), show 32 = 5 + 27 from rfl, sF_split, sF_zero _ 27 _ (fun j h1 h2 => by
    show (b.testBit j).toNat = 0
    have : b < 2 ^ j := Nat.lt_of_lt_of_le (show b < 2 ^ 5 from hb) (Nat.pow_le_pow_right (by omega) (by omega))
    rw [Nat.testBit_lt_two_pow this]
    rfl), Nat.add_zero]
theorem pz_decade (v : Nat → Int32) (x2 x3 : Int32) :
    (f_X10_needDecade v x2 x3 = some (1, upd v 2 (v 2 + 1)) ∧ (f_X11_in x2 0 16 = some 0 ∨ (f_X11_in x2 0 16 = some 1 ∧ f_X11_in x3 1 60 = some 0))) ∨ ∃ a d, a ≤ 16 ∧ 1 ≤ d ∧ d ≤ 60 ∧ x2 = nI a ∧ x3 = nI d ∧ f_X10_needDecade v x2 x3 = some (0, v) ∧ f_X11_in x2 0 16 = some 1 ∧ f_X11_in x3 1 60 = some 1 := by
  rcases pz_ix2 x2 (n := 16) (by omega) with hb | ⟨a, ha, rfl⟩
  · refine .inl ⟨?_, .inl (r_inNo hb)⟩
    rw [f_X10_needDecade]
    by_cases h0 : x2 < 0
    · rw [if_pos h0]; rfl
    · have h16 : (16 : Int32) < x2 := by
        rcases hb with hb | hb
        · exact absurd hb h0
        · exact hb
      rw [if_neg h0, if_pos h16]; rfl
  · have hin : f_X11_in (nI a) 0 16 = some 1 := r_inOk (b := 0) (k := 16) (by omega) ha (by omega)
    have hn0 : ¬ nI a < 0 := nI_pos (by omega)
    have hn16 : ¬ (16 : Int32) < nI a := nI_nlt (a := 16) (by omega) (by omega)
    rcases pz_ix2 x3 (n := 60) (by omega) with hb | ⟨d, hd, rfl⟩
    · have h1 : x3 < 1 ∨ (60 : Int32) < x3 := by
        rcases hb with hb | hb
        · exact .inl (Int32.lt_trans hb (by decide))
        · exact .inr hb
      refine .inl ⟨?_, .inr ⟨hin, r_inNo h1⟩⟩
      rw [f_X10_needDecade, if_neg hn0, if_neg hn16]
      by_cases h0 : x3 < 1
      · rw [if_pos h0]; rfl
      · have h60 : (60 : Int32) < x3 := by
          rcases h1 with hb | hb
          · exact absurd hb h0
          · exact hb
        rw [if_neg h0, if_pos h60]; rfl
    · by_cases h0 : d = 0
      · subst h0
        refine .inl ⟨?_, .inr ⟨hin, r_inNo (.inl (by decide))⟩⟩
        rw [f_X10_needDecade, if_neg hn0, if_neg hn16, if_pos (by decide)]; rfl
      · refine .inr ⟨a, d, ha, by omega, hd, rfl, rfl, ?_, hin, r_inOk (b := 1) (k := 60) (by omega) hd (by omega)⟩
        have m1 : ¬ nI d < 1 := nI_nlt (b := 1) (by omega) (by omega)
        have m2 : ¬ (60 : Int32) < nI d := nI_nlt (a := 60) (by omega) (by omega)
        rw [f_X10_needDecade, if_neg hn0, if_neg hn16, if_neg m1, if_neg m2]; rfl
theorem p_draw {wb de : Nat → Int32} {dp : Nat → Nat} {np days b0 : Nat} {x i1 i2 i3 seed : Int32} (hn : np ≤ 5) (hdays : days ≤ 60) (hb : b0 < 32) (hd : ∀ c, c < 80 → de c = nI (dp c)) : f_X8_drawDecade i1 i2 i3 wb de seed x (nI days) (nI np) (nI b0) = some (nI (sF (fun p => if (dwD x wb np days 1 (b0, seed, 0)).1.testBit p = true then 0 else aP dp p) np 0), nI (dwD x wb np days 1 (b0, seed, 0)).1, (dwD x wb np days 1 (b0, seed, 0)).2.2 + sWb np (dwD x wb np days 1 (b0, seed, 0)).1 wb days) := by
  have e := (p_drawD (wb := wb) (de := de) (x := x) (i1 := i1) hn hdays hd days 1 4000 (b0, seed, 0) (by omega) (by omega) (by omega) hb).1
  rw [f_X8_drawDecade]
  exact e
theorem a_decade {C : CS} {R : RS} (hc : PzC C R) (x1 x2 x3 x4 : Int32) :
    (∃ r z i43 y, fC_decade C x1 x2 x3 x4 = some (0, r, C.v15, z) ∧ (∀ p, p < 5 → z.2.2.2.2.1 (61 * p) = 0) ∧ fR_decade R x1 x2 x3 x4 = some (r, 0, i43, R.v10, y)) ∨
    (∃ z i43 y, fC_decade C x1 x2 x3 x4 = some (1, 0, upd C.v15 2 (C.v15 2 + 1), z) ∧ (∀ p, p < 5 → z.2.2.2.2.1 (61 * p) = 0) ∧ fR_decade R x1 x2 x3 x4 = some (0, 1, i43, upd R.v10 2 (R.v10 2 + 1), y)) := by
  obtain ⟨np, no, hd, W, H, hS, ⟨dp, fd, dy, hG⟩, hL, hrest⟩ := hc
  have hwb : ∀ p, p < 5 → C.h.2.2.2.2 (61 * p) = 0 := hrest.2.2.2.2.2.2.2
  have h5 := hS.1
  have h30 := hS.2.2.1.2
  rcases pz_decade C.v15 x2 x3 with ⟨h1, h2⟩ | ⟨a, days, ha, hd1, hdays, rfl, rfl, h1, h2, h3⟩
  · refine .inr ⟨(C.h.1, C.h.2.1, C.h.2.2.1, C.h.2.2.2.1, C.h.2.2.2.2, C.q.1, C.q.2.1, C.q.2.2.1, C.q.2.2.2.1, C.q.2.2.2.2.1, C.q.2.2.2.2.2.1, C.q.2.2.2.2.2.2.1, C.q.2.2.2.2.2.2.2, C.l1.2.2), R.i43, (R.v25, R.v26, R.v30), ?_, hwb, ?_⟩
    · simp -implicitDefEqProofs only [Option.bind_some, pz10, if_true, if_false, eq_self, ↓reduceIte, r_bad0, r_A1, r_A2, r_B1, r_B2, r_B3, r_C1, fC_decade, f_X10_decade, h1]; rfl
    · rcases h2 with h2 | ⟨h2, h3⟩
      · simp -implicitDefEqProofs only [Option.bind_some, pz10, if_true, if_false, eq_self, ↓reduceIte, r_bad0, r_A1, r_A2, r_B1, r_B2, r_B3, r_C1, fR_decade, f_X11_decade, h2, f_X11_decade_b36, f_X11_decade_b41]
      · simp -implicitDefEqProofs only [Option.bind_some, pz10, if_true, if_false, eq_self, ↓reduceIte, r_bad0, r_A1, r_A2, r_B1, r_B2, r_B3, r_C1, fR_decade, f_X11_decade, h2, h3, f_X11_decade_b36, f_X11_decade_b41]
  · rcases pz_what C.v15 x4 2 (by omega) with ⟨h4, h6⟩ | ⟨w, hw, rfl, h4, h6⟩
    · rw [← pl2] at h4 h6
      refine .inr ⟨(C.h.1, C.h.2.1, C.h.2.2.1, C.h.2.2.2.1, C.h.2.2.2.2, C.q.1, C.q.2.1, C.q.2.2.1, C.q.2.2.2.1, C.q.2.2.2.2.1, C.q.2.2.2.2.2.1, C.q.2.2.2.2.2.2.1, C.q.2.2.2.2.2.2.2, C.l1.2.2), R.i43, (R.v25, R.v26, R.v30), ?_, hwb, ?_⟩
      · simp -implicitDefEqProofs only [Option.bind_some, pz10, if_true, if_false, eq_self, ↓reduceIte, r_bad0, r_A1, r_A2, r_B1, r_B2, r_B3, r_C1, fC_decade, f_X10_decade, h1, h4]; rfl
      · simp -implicitDefEqProofs only [Option.bind_some, pz10, if_true, if_false, eq_self, ↓reduceIte, r_bad0, r_A1, r_A2, r_B1, r_B2, r_B3, r_C1, fR_decade, f_X11_decade, h2, h3, h6, f_X11_decade_b36, f_X11_decade_b41]
    · rw [← pl2] at h4 h6
      left
      obtain ⟨lv, l1, l2, l3⟩ := hL.val2
      obtain ⟨hdy, hdd1, hdd2⟩ := hG.2.2.1
      obtain ⟨b, hb32, hb1, hb2, hb0⟩ := hG.2.2.2.2.2.2.2
      obtain ⟨nr, rn, hnr, htr, hrn⟩ := hS.rn
      obtain ⟨X, D, U, hX⟩ := hS.fc
      obtain ⟨A, F, hF⟩ := hS.fn
      obtain ⟨nm', wb', st', fi', de', rg', c1, c2, c3, c4⟩ := p_foresee hS hG hb32 hb1 l1 l3 (fun d hd => ⟨(hrn d hd).1, (hrn d hd).2.1⟩) hdays C.h.2.2.2.1 C.h.2.2.2.2 C.l1.2.2 C.q.1 C.q.2.1 C.q.2.2.1 C.q.2.2.2.1 C.q.2.2.2.2.1 C.q.2.2.2.2.2.1 C.q.2.2.2.2.2.2.1 C.q.2.2.2.2.2.2.2
      have z4 : ∀ p, p < 5 → wb' (61 * p) = 0 := fun p hp => by rw [c4 p hp, hwb p hp]
      obtain ⟨l, v25', v26', row', e1, e2⟩ := r_decades hS hG hb32 hb2 hb0 (m19 := R.i19) (la := R.g21) (lv := lv) (fl := C.s1.2.2.2.2.2.2.2.2.2.1) (fun p hp => by rw [(hF p hp).2.2.2.2.2, (hF p hp).2.2.2.2.1]) l2 l3 (fun o ho => ⟨(hX o ho).1, (hX o ho).2.1, (hX o ho).2.2.1, (hX o ho).2.2.2.2.1, (hX o ho).2.2.2.2.2.2.1, (hX o ho).2.2.2.2.2.2.2.2⟩) hnr htr (fun d hd => ⟨(hrn d hd).1, (hrn d hd).2.2⟩) hdays (wb := wb') c3 z4 (nI a) x1 R.i43 R.v25 R.v26 R.v30
      have d1 := p_draw (wb := wb') (de := de') (x := nI a) (i1 := C.h.1) (i2 := C.h.2.1) (i3 := C.h.2.2.1) (seed := x1) h5 hdays hb32 (fun c hc => (c2 c hc).1)
      have hnp : C.s1.1 = nI np := hS.2.2.2.1.1
      have htp : R.v12 0 = nI np := hS.2.2.2.1.2
      generalize hs : itS np hd W H lv C.s1.2.2.2.2.2.2.2.2.2.1 b rn (dp, fd, dy) days = s at c1 c2 e2 d1
      generalize dwD (nI a) wb' np days 1 (b, x1, 0) = t at d1 e2
      obtain ⟨q1, q2, q3, q4, q5, q6⟩ := e2
      have g1 := r_onAllM h5 htp q1
      obtain ⟨g2, g3⟩ := ones_eq q5
      have c81 : ((2681 : Int32).toNatClampNeg) = 2681 := rfl
      have c83 : ((2683 : Int32).toNatClampNeg) = 2683 := rfl
      rw [← hb1, ← hnp] at d1
      have z20 : ((2 : Int32) = 0) = False := by decide
      have z21 : ((2 : Int32) = 1) = False := by decide
      have hw3 : w = 0 ∨ w = 1 ∨ w = 2 := by omega
      rcases hw3 with rfl | rfl | rfl
      · rw [← pl0] at h4 h6
        refine ⟨nI (sF (fun p => if t.1.testBit p = true then 0 else aP s.1 p) np 0), (nI (sF (fun p => if t.1.testBit p = true then 0 else aP s.1 p) np 0), nI t.1, t.2.2 + sWb np t.1 wb' days, nm', wb', C.n.1, nI s.2.2, C.n.2.2.1, nI b, C.n.2.2.2.2.1, fi', de', rg', st'), l, (v25', v26', row'), ?_, z4, ?_⟩
        · simp -implicitDefEqProofs only [Option.bind_some, pz10, if_true, if_false, eq_self, ↓reduceIte, r_bad0, r_A1, r_A2, r_B1, r_B2, r_B3, r_C1, fC_decade, f_X10_decade, h1, h4, c1, d1, ← pl0]
        · simp -implicitDefEqProofs only [Option.bind_some, pz10, if_true, if_false, eq_self, ↓reduceIte, r_bad0, r_A1, r_A2, r_B1, r_B2, r_B3, r_C1, fR_decade, f_X11_decade, h2, h3, h6, f_X11_decade_b41, e1, g1, ← pl0]
      · rw [← pl1] at h4 h6
        refine ⟨nI (sF (fun i => (t.1.testBit i).toNat) 5 0), (nI (sF (fun p => if t.1.testBit p = true then 0 else aP s.1 p) np 0), nI t.1, t.2.2 + sWb np t.1 wb' days, nm', wb', C.n.1, nI s.2.2, C.n.2.2.1, nI b, C.n.2.2.2.2.1, fi', de', rg', st'), l, (v25', v26', row'), ?_, z4, ?_⟩
        · simp -implicitDefEqProofs only [Option.bind_some, pz10, if_true, if_false, eq_self, ↓reduceIte, r_bad0, r_A1, r_A2, r_B1, r_B2, r_B3, r_C1, fC_decade, f_X10_decade, h1, h4, c1, d1, ← pl1, g2]
        · simp -implicitDefEqProofs only [Option.bind_some, pz10, if_true, if_false, eq_self, ↓reduceIte, r_bad0, r_A1, r_A2, r_B1, r_B2, r_B3, r_C1, fR_decade, f_X11_decade, h2, h3, h6, f_X11_decade_b41, e1, c81, q2, g3, ← pl1]
      · rw [← pl2] at h4 h6
        refine ⟨t.2.2 + sWb np t.1 wb' days, (nI (sF (fun p => if t.1.testBit p = true then 0 else aP s.1 p) np 0), nI t.1, t.2.2 + sWb np t.1 wb' days, nm', wb', C.n.1, nI s.2.2, C.n.2.2.1, nI b, C.n.2.2.2.2.1, fi', de', rg', st'), l, (v25', v26', row'), ?_, z4, ?_⟩
        · simp -implicitDefEqProofs only [Option.bind_some, pz10, if_true, if_false, eq_self, ↓reduceIte, r_bad0, r_A1, r_A2, r_B1, r_B2, r_B3, r_C1, fC_decade, f_X10_decade, h1, h4, c1, d1, ← pl2, z20, z21]
        · have e9 : ∀ a b : Int32, a + b - a = b := fun a b => by
            rw [Int32.add_comm, Int32.add_sub_cancel]
          simp -implicitDefEqProofs only [Option.bind_some, pz10, if_true, if_false, eq_self, ↓reduceIte, r_bad0, r_A1, r_A2, r_B1, r_B2, r_B3, r_C1, fR_decade, f_X11_decade, h2, h3, h6, f_X11_decade_b41, e1, c83, q4, e9, ← pl2, z20, z21]
theorem q_decade {L i : Nat} {C : CS} {R : RS} {cells slots : Nat} (h : PzInv L i C R cells slots) (hi : i + 7 ≤ L) (x1 x2 x3 x4 : Int32) : pS_decade (PzInv L (i + 7)) C R x1 x2 x3 x4 cells slots := by
  rcases a_decade h.2.1 x1 x2 x3 x4 with ⟨r, z, l, y, h1, hz, h2⟩ | ⟨z, l, y, h1, hz, h2⟩
  · have hk := h.keep (a := 2) (b := 12) hi (by omega) (by omega) h.1
    obtain ⟨np, no, hd, W, H, hS, hG, hL, hB, hT, hP, hI, hr, hj, hp, -⟩ := h.2.1
    exact ⟨(0, r, C.v15, z), (r, 0, l, R.v10, y), h1, h2, .inl rfl, rfl, fun _ => rfl, pz_fit h (by omega) (by omega), hk.1, ⟨np, no, hd, W, H, hS, hG, hL, hB, hT, hP, hI, hr, hj, hp, hz⟩, hk.2.2⟩
  · have hk := h.keep (a := 2) (b := 12) hi (by omega) (by omega) (h.1.up (k := 2))
    obtain ⟨np, no, hd, W, H, hS, hG, hL, hB, hT, hP, hI, hr, hj, hp, -⟩ := h.2.1
    exact ⟨(1, 0, upd C.v15 2 (C.v15 2 + 1), z), (0, 1, l, upd R.v10 2 (R.v10 2 + 1), y), h1, h2, .inr rfl, rfl, fun _ => rfl, pz_fit h (by omega) (by omega), hk.1, ⟨np, no, hd, W, H, hS, hG, hL, hB, hT, hP, hI, hr, hj, hp, hz⟩, hk.2.2⟩

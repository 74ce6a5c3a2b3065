/-! ahead -/
theorem PzS.rn {np no hd : Nat} {W H : Nat → Nat} {s : CX6} {to : Nat → Int32} {pa ra od : Nat → Nat → Int32} (hS : PzS np no hd W H s to pa ra od) : ∃ (nr : Nat) (rn : Nat → Nat), nr ≤ 12 ∧ to 2 = nI nr ∧ ∀ d, d ≤ 200 → rn d ≤ 108 ∧ s.2.2.2.2.2.2.2.2.2.2.2.1 d = nI (rn d) ∧ pzRain ra (nI d) nr = nI (rn d) := by
  obtain ⟨-, -, -, -, -, ⟨nr, h1, h2, h3, h4⟩, -⟩ := hS
  have h5 : ∀ d, ∃ r, d ≤ 200 → r ≤ 108 ∧ s.2.2.2.2.2.2.2.2.2.2.2.1 d = nI r ∧ pzRain ra (nI d) nr = nI r := by
    intro d
    by_cases hd : d ≤ 200
    · obtain ⟨r, h6⟩ := h4 d hd
      exact ⟨r, fun _ => h6⟩
    · exact ⟨0, fun h => absurd h hd⟩
  exact ⟨nr, fun d => (h5 d).choose, h1, h3, fun d hd => (h5 d).choose_spec hd⟩
theorem p_foresee {np no hd : Nat} {W H : Nat → Nat} {s : CX6} {to : Nat → Int32} {pa ra od : Nat → Nat → Int32} (hS : PzS np no hd W H s to pa ra od) {n : GC} {row : Nat → Int32} {dp fd : Nat → Nat} {dy b days : Nat} (hG : PzG np hd W H n row dp fd dy) (hb32 : b < 32) (hb : n.2.2.2.1 = nI b) {l : CX3} {lv : (Nat → Int32) → Int32} (l1 : ∀ kn st, ∃ st', f_X3_valueFor l.1 l.2.1 st 8 kn = some (lv kn, st')) (l3 : ∀ kn kn', (∀ k, k < 8 → kn k = kn' k) → lv kn = lv kn') {rn : Nat → Nat} (hrn : ∀ d, d ≤ 200 → rn d ≤ 108 ∧ s.2.2.2.2.2.2.2.2.2.2.2.1 d = nI (rn d)) (hdays : days ≤ 60) (nm wb st : Nat → Int32) (i3 i4 i5 i6 i7 : Int32) (t0 t1 t2 : Nat → Int32) :
    ∃ nm' wb' st' fi' de' rg', f_X8_foresee nm wb n.1 n.2.1 n.2.2.1 n.2.2.2.1 n.2.2.2.2.1 n.2.2.2.2.2.1 n.2.2.2.2.2.2.1 n.2.2.2.2.2.2.2 s.1 s.2.2.2.2.2.1 s.2.2.2.2.2.2.2.2.2.1 s.2.2.2.2.2.2.2.2.2.2.1 s.2.2.2.2.2.2.2.2.2.2.2.1 l.1 l.2.1 st i3 i4 i5 i6 i7 t0 t1 t2 (nI days) = some (nm', wb', st', n.1, nI (itS np hd W H lv s.2.2.2.2.2.2.2.2.2.1 b rn (dp, fd, dy) days).2.2, n.2.2.1, nI b, n.2.2.2.2.1, fi', de', rg') ∧ (∀ c, c < 80 → de' c = nI ((itS np hd W H lv s.2.2.2.2.2.2.2.2.2.1 b rn (dp, fd, dy) days).1 c) ∧ ∀ j, j < (itS np hd W H lv s.2.2.2.2.2.2.2.2.2.1 b rn (dp, fd, dy) days).1 c → fi' (30 * c + j) = nI ((itS np hd W H lv s.2.2.2.2.2.2.2.2.2.1 b rn (dp, fd, dy) days).2.1 (30 * c + j))) ∧ (∀ p k, p < np → 1 ≤ k → k ≤ days → wb' (61 * p + k) = wb' (61 * p + k - 1) + nI (wsD rn (itS np hd W H lv s.2.2.2.2.2.2.2.2.2.1 b rn (dp, fd, dy) (k - 1)) p)) ∧ (∀ p, p < 5 → wb' (61 * p) = wb (61 * p)) := by
  obtain ⟨h5, h12, ⟨h1, h30⟩, ⟨hnp, -⟩, -, -, -, -, ⟨hhd, -⟩, hN, -⟩ := hS
  obtain ⟨hdy, hd1, hd2⟩ := hG.2.2.1
  obtain ⟨nm', wb', st', fi', de', b1, b2, b3, b4⟩ := p_foreAll (np := np) (hd := hd) (W := W) (H := H) (l := l) (lv := lv) (fl := s.2.2.2.2.2.2.2.2.2.1) (ce := s.2.2.2.2.2.2.2.2.2.2.1) (ra := s.2.2.2.2.2.2.2.2.2.2.2.1) (b := b) (days := days) (rn := rn) (s0 := (dp, fd, dy)) (a3 := n.1) (a4 := nI dy) (a5 := n.2.2.1) (a6 := nI b) (a7 := n.2.2.2.2.1) (i3 := n.1) (i5 := n.2.2.1) (i7 := n.2.2.2.2.1) (u0 := n.2.2.2.2.2.1) (u1 := n.2.2.2.2.2.2.1) (u2 := n.2.2.2.2.2.2.2) (rg := va_cpy n.2.2.2.2.2.2.2 t2 (0 : Int32).toNatClampNeg (0 : Int32).toNatClampNeg (nI 201 : Int32).toNatClampNeg) h5 (fun p hp => ⟨(hN p hp).1.2, (hN p hp).2.1.2, (hN p hp).2.2.2.2.2.2.2.2⟩) h1 h30 hrn hb32 hdays l1 l3 hG.wf days 1 4000 nm wb st (va_cpy n.2.2.2.2.2.1 t0 (0 : Int32).toNatClampNeg (0 : Int32).toNatClampNeg (nI 2400 : Int32).toNatClampNeg) (va_cpy n.2.2.2.2.2.2.1 t1 (0 : Int32).toNatClampNeg (0 : Int32).toNatClampNeg (nI 80 : Int32).toNatClampNeg) (by omega) (by omega) (by omega) (fun c hc => by
    have hle := hG.le hc
    constructor
    · show va_cpy _ _ 0 0 80 c = _
      rw [va_cpy, if_pos (by omega), Nat.zero_add, Nat.sub_zero]
      exact hG.dep hc
    · intro j hj
      have hj2 : j < dp c := hj
      show va_cpy _ _ 0 0 2400 (30 * c + j) = _
      rw [va_cpy, if_pos (by omega), Nat.zero_add, Nat.sub_zero]
      exact (hG.2.1 c hc j hj2).1)
  refine ⟨nm', wb', st', fi', de', va_cpy n.2.2.2.2.2.2.2 t2 (0 : Int32).toNatClampNeg (0 : Int32).toNatClampNeg (nI 201 : Int32).toNatClampNeg, ?_, b2, fun p k h2 h3 h4 => b3 p k h2 h3 h4, fun p hp => b4 p 0 hp (by omega)⟩
  rw [f_X8_foresee, f_X2_copy, hd1, hb, hnp, hhd]
  exact b1
theorem r_aheadL {np no hd : Nat} {W H : Nat → Nat} {s6 : CX6} {to : Nat → Int32} {pa ra od : Nat → Nat → Int32} (hS : PzS np no hd W H s6 to pa ra od) {m19 : Int32} {la : Nat → Nat → Int32} {lv : (Nat → Int32) → Int32} {fl : Nat → Int32} (hfl : ∀ p, p < np → pa p 3 = fl p) (l2 : ∀ kn st, ∃ st', f_X11_byLaw m19 st kn la = some (lv kn, st')) (l3 : ∀ kn kn', (∀ k, k < 8 → kn k = kn' k) → lv kn = lv kn') {X D U : Nat → Nat} (hX : ∀ o, o < no → X o < 80 ∧ D o ≤ 200 ∧ U o ≤ 200 ∧ f_X11_cellOfOrder 5 (od o) = some (nI (X o)) ∧ od o 3 = nI (D o) ∧ od o 4 = nI (U o)) {rn : Nat → Nat} {nr : Nat} (hnr : nr ≤ 12) (htr : to 2 = nI nr) (hrn : ∀ d, d ≤ 200 → rn d ≤ 108 ∧ pzRain ra (nI d) nr = nI (rn d)) {s0 : DS} {b days : Nat} (hw0 : wf np hd W H s0.1 s0.2.1 s0.2.2) (hb32 : b < 32) (hdays : days ≤ 60) {v29 : Nat → Int32} {i0 x1 x3 : Int32} {v10 : Nat → Int32} : ∀ (m k q : Nat) (v25 v26 row : Nat → Int32), k + m = days → m < q → rRep hd row (msk b (itS np hd W H lv fl b rn s0 k).1) (itS np hd W H lv fl b rn s0 k).2.1 → row 2681 = nI b → row 2684 = nI (itS np hd W H lv fl b rn s0 k).2.2 → ∃ q' v25' v26' row', f_X11_ahead_b76 m19 to v29 pa ra od la q i0 v10 v25 v26 row x1 (nI days) x3 (nI k) = f_X11_ahead_b76 m19 to v29 pa ra od la (q' + 1) i0 v10 v25' v26' row' x1 (nI days) x3 (nI days) ∧ rRep hd row' (msk b (itS np hd W H lv fl b rn s0 days).1) (itS np hd W H lv fl b rn s0 days).2.1 ∧ row' 2681 = nI b ∧ row' 2684 = nI (itS np hd W H lv fl b rn s0 days).2.2 := by
  obtain ⟨-, -, ⟨h1, h30⟩, -⟩ := id hS
  intro m
  induction m with
  | zero =>
    intro k q v25 v26 row hi hq hR hb hdy
    obtain ⟨q, rfl⟩ : ∃ r, q = r + 1 := ⟨q - 1, by omega⟩
    rw [show k = days by omega] at hR hdy ⊢
    exact ⟨q, v25, v26, row, rfl, hR, hb, hdy⟩
  | succ m ih =>
    intro k q v25 v26 row hi hq hR hb hdy
    obtain ⟨q, rfl⟩ : ∃ r, q = r + 1 := ⟨q - 1, by omega⟩
    obtain ⟨t, v25', v26', row', e1, e2, e3, -, e4⟩ := r_dayM hS (lv := lv) hfl l2 l3 hX hnr htr hrn (b0 := b) (wf_itS h1 h30 hw0 k) (fun p hp => hp) hR hb hb32 hdy v25 v26
    obtain ⟨q', w25, w26, row2, a1, a2⟩ := ih (k + 1) q v25' v26' row' (by omega) (by omega) e4 e3 e2
    refine ⟨q', w25, w26, row2, ?_, a2⟩
    rw [f_X11_ahead_b76, if_neg (nI_ge (by omega) (by omega)), e1, Option.bind_some, nI_1]
    exact a1
theorem a_ahead {C : CS} {R : RS} (hc : PzC C R) (x1 x2 x3 : Int32) :
    (∃ r z y, fC_ahead C x1 x2 x3 = some (0, r, C.v15, z) ∧ (∀ p, p < 5 → z.2.1 (61 * p) = 0) ∧ fR_ahead R x1 x2 x3 = some (r, 0, R.v10, y)) ∨
    (∃ z y, fC_ahead C x1 x2 x3 = some (2, 0, upd C.v15 1 (C.v15 1 + 1), z) ∧ (∀ p, p < 5 → z.2.1 (61 * p) = 0) ∧ fR_ahead R x1 x2 x3 = some (0, 1, upd R.v10 1 (R.v10 1 + 1), y)) ∨
    (∃ z y, fC_ahead C x1 x2 x3 = some (1, 0, upd C.v15 2 (C.v15 2 + 1), z) ∧ (∀ p, p < 5 → z.2.1 (61 * p) = 0) ∧ fR_ahead R x1 x2 x3 = some (0, 2, upd R.v10 2 (R.v10 2 + 1), y)) := by
  obtain ⟨np, no, hd, W, H, hS, ⟨dp, fd, dy, hG⟩, hL, hrest⟩ := hc
  have hwb : ∀ p, p < 5 → C.h.2.2.2.2 (61 * p) = 0 := hrest.2.2.2.2.2.2.2
  have h5 := hS.1
  have h30 := hS.2.2.1.2
  rcases pz_pane hS C.v15 x1 with ⟨h1, h2⟩ | ⟨p, hp, hp5, rfl, h1, h2⟩
  · refine .inr (.inl ⟨(C.h.2.2.2.1, C.h.2.2.2.2, C.q.1, C.q.2.1, C.q.2.2.1, C.q.2.2.2.1, C.q.2.2.2.2.1, C.q.2.2.2.2.2.1, C.q.2.2.2.2.2.2.1, C.q.2.2.2.2.2.2.2, C.l1.2.2, C.g.2.2.1), (R.v25, R.v26, R.v30), ?_, hwb, ?_⟩)
    · simp -implicitDefEqProofs only [Option.bind_some, pz10, if_true, if_false, eq_self, ↓reduceIte, r_bad0, r_A1, r_A2, r_B1, r_B2, r_B3, r_C1, fC_ahead, f_X10_ahead, h1]; rfl
    · simp -implicitDefEqProofs only [Option.bind_some, pz10, if_true, if_false, eq_self, ↓reduceIte, r_bad0, r_A1, r_A2, r_B1, r_B2, r_B3, r_C1, fR_ahead, f_X11_ahead, h2, f_X11_ahead_b19]
  · rcases pz_ix2 x2 (n := 60) (by omega) with hb | ⟨days, hdays, rfl⟩
    · have hin : f_X11_in x2 0 60 = some 0 := r_inNo hb
      refine .inr (.inr ⟨(C.h.2.2.2.1, C.h.2.2.2.2, C.q.1, C.q.2.1, C.q.2.2.1, C.q.2.2.2.1, C.q.2.2.2.2.1, C.q.2.2.2.2.2.1, C.q.2.2.2.2.2.2.1, C.q.2.2.2.2.2.2.2, C.l1.2.2, C.g.2.2.1), (R.v25, R.v26, R.v30), ?_, hwb, ?_⟩)
      · by_cases h0 : x2 < 0
        · simp -implicitDefEqProofs only [Option.bind_some, pz10, if_true, if_false, eq_self, ↓reduceIte, r_bad0, r_A1, r_A2, r_B1, r_B2, r_B3, r_C1, fC_ahead, f_X10_ahead, h1, h0, f_X10_ahead_b20, f_X10_ahead_b21, p_need0]; rfl
        · have h60 : (60 : Int32) < x2 := by
            rcases hb with hb | hb
            · exact absurd hb h0
            · exact hb
          simp -implicitDefEqProofs only [Option.bind_some, pz10, if_true, if_false, eq_self, ↓reduceIte, r_bad0, r_A1, r_A2, r_B1, r_B2, r_B3, r_C1, fC_ahead, f_X10_ahead, h1, h0, h60, f_X10_ahead_b20, f_X10_ahead_b21, p_need0]; rfl
      · simp -implicitDefEqProofs only [Option.bind_some, pz10, if_true, if_false, eq_self, ↓reduceIte, r_bad0, r_A1, r_A2, r_B1, r_B2, r_B3, r_C1, fR_ahead, f_X11_ahead, h2, f_X11_ahead_b19, hin, f_X11_ahead_b47, f_X11_ahead_b52]
    · have hin : f_X11_in (nI days) 0 60 = some 1 := r_inOk (b := 0) (k := 60) (by omega) hdays (by omega)
      have hn0 : ¬ nI days < 0 := nI_pos (by omega)
      have hn60 : ¬ (60 : Int32) < nI days := nI_nlt (a := 60) (by omega) (by omega)
      rcases pz_what C.v15 x3 2 (by omega) with ⟨h3, h4⟩ | ⟨a, ha, rfl, h3, h4⟩
      · rw [← pl2] at h3 h4
        refine .inr (.inr ⟨(C.h.2.2.2.1, C.h.2.2.2.2, C.q.1, C.q.2.1, C.q.2.2.1, C.q.2.2.2.1, C.q.2.2.2.2.1, C.q.2.2.2.2.2.1, C.q.2.2.2.2.2.2.1, C.q.2.2.2.2.2.2.2, C.l1.2.2, C.g.2.2.1), (R.v25, R.v26, R.v30), ?_, hwb, ?_⟩)
        · simp -implicitDefEqProofs only [Option.bind_some, pz10, if_true, if_false, eq_self, ↓reduceIte, r_bad0, r_A1, r_A2, r_B1, r_B2, r_B3, r_C1, fC_ahead, f_X10_ahead, h1, hn0, hn60, f_X10_ahead_b21, p_need1, h3]; rfl
        · simp -implicitDefEqProofs only [Option.bind_some, pz10, if_true, if_false, eq_self, ↓reduceIte, r_bad0, r_A1, r_A2, r_B1, r_B2, r_B3, r_C1, fR_ahead, f_X11_ahead, h2, f_X11_ahead_b19, hin, h4, f_X11_ahead_b47, f_X11_ahead_b52]
      · rw [← pl2] at h3 h4
        left
        obtain ⟨lv, l1, l2, l3⟩ := hL.val2
        obtain ⟨hdy, hd1, hd2⟩ := hG.2.2.1
        obtain ⟨b, hb32, hb1, hb2, hb0⟩ := hG.2.2.2.2.2.2.2
        obtain ⟨nr, rn, hnr, htr, hrn⟩ := hS.rn
        obtain ⟨X, D, U, hX⟩ := hS.fc
        obtain ⟨A, F, hF⟩ := hS.fn
        have hN := hS.2.2.2.2.2.2.2.2.2.1 p hp
        have hw0 : wf np hd W H dp fd dy := hG.wf
        obtain ⟨nm', wb', st', fi', de', rg', c1, c2, -, c4⟩ := p_foresee hS hG hb32 hb1 l1 l3 (fun d hd => ⟨(hrn d hd).1, (hrn d hd).2.1⟩) hdays C.h.2.2.2.1 C.h.2.2.2.2 C.l1.2.2 C.q.1 C.q.2.1 C.q.2.2.1 C.q.2.2.2.1 C.q.2.2.2.2.1 C.q.2.2.2.2.2.1 C.q.2.2.2.2.2.2.1 C.q.2.2.2.2.2.2.2
        obtain ⟨t30, k1, k2⟩ := r_copies R.v29 R.v30
        have hmsk : ∀ k c, c < 80 → msk b (itS np hd W H lv C.s1.2.2.2.2.2.2.2.2.2.1 b rn (dp, fd, dy) k).1 c = (itS np hd W H lv C.s1.2.2.2.2.2.2.2.2.2.1 b rn (dp, fd, dy) k).1 c := by
          intro k c hc
          rw [msk]
          by_cases h : b.testBit (c / 16) = true
          · rw [if_pos h, brk_itS h (s := (dp, fd, dy)) (hb0 c hc h)]
          · rw [if_neg h]
        obtain ⟨q', v25', v26', row', e1, e2, e3, e4⟩ := r_aheadL hS (m19 := R.i19) (la := R.g21) (lv := lv) (fl := C.s1.2.2.2.2.2.2.2.2.2.1) (fun p hp => by rw [(hF p hp).2.2.2.2.2, (hF p hp).2.2.2.2.1]) l2 l3 (fun o ho => ⟨(hX o ho).1, (hX o ho).2.1, (hX o ho).2.2.1, (hX o ho).2.2.2.2.1, (hX o ho).2.2.2.2.2.2.1, (hX o ho).2.2.2.2.2.2.2.2⟩) hnr htr (fun d hd => ⟨(hrn d hd).1, (hrn d hd).2.2⟩) (s0 := (dp, fd, dy)) (b := b) hw0 hb32 hdays (v29 := R.v29) (i0 := 0) (x1 := nI p) (x3 := nI a) (v10 := R.v10) days 0 4000 R.v25 R.v26 t30 (by omega) (by omega) (fun c hc => by
          have hle := hG.le hc
          rw [hmsk 0 c hc]
          refine ⟨by rw [k2 _ (by omega)]; exact hG.many hc, hle, fun j hj => ?_⟩
          have hj2 : j < dp c := hj
          rw [k2 _ (by omega)]
          exact (hG.2.1 c hc j hj2).2.1) (by rw [k2 _ (by omega)]; exact hb2) (by rw [k2 _ (by omega)]; exact hd2)
        rw [← pl0] at e1
        have hw := wf_itS (lv := lv) (fl := C.s1.2.2.2.2.2.2.2.2.2.1) (b := b) (rn := rn) (s := (dp, fd, dy)) hS.2.2.1.1 h30 hw0 days
        generalize hs : itS np hd W H lv C.s1.2.2.2.2.2.2.2.2.2.1 b rn (dp, fd, dy) days = s at c1 c2 e2 e4 hw
        have e5 : rRep hd row' s.1 s.2.1 := by
          intro c hc
          have h6 := e2 c hc
          have h7 := hmsk days c hc
          rw [hs] at h7
          rw [h7] at h6
          exact h6
        have hG' := pz_mkG hw c2 e5 e4 hb32 e3 (fun c hc h => by
          have := brk_itS (np := np) (hd := hd) (W := W) (H := H) (lv := lv) (fl := C.s1.2.2.2.2.2.2.2.2.2.1) (rn := rn) h (s := (dp, fd, dy)) (hb0 c hc h) days
          rw [hs] at this
          exact this)
        have z4 : ∀ p, p < 5 → wb' (61 * p) = 0 := fun p hp => by rw [c4 p hp, hwb p hp]
        have hle : nI days ≤ nI days := nI_le (by omega) (by omega)
        have r0 : fR_ahead R (nI p) (nI days) (nI a) = f_X11_ahead_b76 R.i19 R.v12 R.v29 R.g14 R.g16 R.g18 R.g21 (q' + 1) 0 R.v10 v25' v26' row' (nI p) (nI days) (nI a) (nI days) := by
          rw [← e1]
          simp -implicitDefEqProofs only [Option.bind_some, pz10, if_true, if_false, eq_self, ↓reduceIte, r_bad0, r_A1, r_A2, r_B1, r_B2, r_B3, r_C1, fR_ahead, f_X11_ahead, h2, f_X11_ahead_b19, hin, h4, f_X11_ahead_b52, k1]
        have ha3 : a = 0 ∨ a = 1 ∨ a = 2 := by omega
        rcases ha3 with rfl | rfl | rfl
        · rw [← pl0] at h3
          refine ⟨nI (aP s.1 p), (nm', wb', C.n.1, nI s.2.2, C.n.2.2.1, nI b, C.n.2.2.2.2.1, fi', de', rg', st', C.g.2.2.1), (v25', v26', row'), ?_, z4, ?_⟩
          · have g1 : f_X2_filmsOn de' (nI p) = some (nI (aP s.1 p)) := p_filmsOn hp5 (fun c hc => (c2 c hc).1)
            simp -implicitDefEqProofs only [Option.bind_some, pz10, if_true, if_false, eq_self, ↓reduceIte, r_bad0, r_A1, r_A2, r_B1, r_B2, r_B3, r_C1, fC_ahead, f_X10_ahead, h1, hn0, hn60, f_X10_ahead_b21, p_need1, h3, c1, ← pl0, g1]
          · have g2 : f_X11_onPane 2685 row' (nI p) = some (nI (aP s.1 p)) := r_onPane hp5 (fun c hc => (e5 c hc).1)
            rw [r0, f_X11_ahead_b76, if_pos hle, ← pl0]
            simp -implicitDefEqProofs only [Option.bind_some, pz10, if_true, if_false, eq_self, ↓reduceIte, r_bad0, r_A1, r_A2, r_B1, r_B2, r_B3, r_C1, g2]
        · rw [← pl1] at h3
          refine ⟨nI (sF (smS s.1 s.2.1 p (W p) (H p)) 16 0), (nm', wb', C.n.1, nI s.2.2, C.n.2.2.1, nI b, C.n.2.2.2.2.1, fi', de', rg', st', C.g.2.2.1), (v25', v26', row'), ?_, z4, ?_⟩
          · have g1 : f_X1_countSeams fi' de' (nI p) (nI (pzcb (W p) (H p))) = some (nI (sF (smS s.1 s.2.1 p (W p) (H p)) 16 0)) := p_seamsV hG' h30 hp5 hN.1.2 hN.2.1.2
            have g3 : ck (nI p) 5 ((f_X1_countSeams fi' de' (nI p) (C.s1.2.2.2.2.2.2.2.2.2.2.1 (nI p).toNatClampNeg)).bind fun q111 => some ((0 : Nat), q111, C.v15, nm', wb', C.n.1, nI s.2.2, C.n.2.2.1, nI b, C.n.2.2.2.2.1, fi', de', rg', st', C.g.2.2.1)) = some ((0 : Nat), nI (sF (smS s.1 s.2.1 p (W p) (H p)) 16 0), C.v15, nm', wb', C.n.1, nI s.2.2, C.n.2.2.1, nI b, C.n.2.2.2.2.1, fi', de', rg', st', C.g.2.2.1) := by
              rw [pu_ck hp5 (by omega), nI_clamp (by omega), hN.2.2.2.2.2.2.2.2, g1, Option.bind_some]
            simp -implicitDefEqProofs only [Option.bind_some, pz10, if_true, if_false, eq_self, ↓reduceIte, r_bad0, r_A1, r_A2, r_B1, r_B2, r_B3, r_C1, fC_ahead, f_X10_ahead, h1, hn0, hn60, f_X10_ahead_b21, p_need1, h3, c1, ← pl1, g3]
          · have g2 := r_seamsV hG' h30 hN hp5
            rw [r0, f_X11_ahead_b76, if_pos hle, ← pl1]
            simp -implicitDefEqProofs only [Option.bind_some, pz10, if_true, if_false, eq_self, ↓reduceIte, r_bad0, r_A1, r_A2, r_B1, r_B2, r_B3, r_C1, g2]
        · rw [← pl2] at h3
          obtain ⟨v', g1⟩ := p_sightsV hG' h30 hp5 C.g.2.2.1
          have z20 : ((2 : Int32) = 0) = False := by decide
          have z21 : ((2 : Int32) = 1) = False := by decide
          refine ⟨nI (sF (fun c => (newS s.1 s.2.1 p c).toNat) 16 0), (nm', wb', C.n.1, nI s.2.2, C.n.2.2.1, nI b, C.n.2.2.2.2.1, fi', de', rg', st', v'), (v25', v26', row'), ?_, z4, ?_⟩
          · simp -implicitDefEqProofs only [Option.bind_some, pz10, if_true, if_false, eq_self, ↓reduceIte, r_bad0, r_A1, r_A2, r_B1, r_B2, r_B3, r_C1, fC_ahead, f_X10_ahead, h1, hn0, hn60, f_X10_ahead_b21, p_need1, h3, c1, ← pl2, z20, z21, g1]
          · have g2 := r_sightsV hG' h30 hp5
            rw [r0, f_X11_ahead_b76, if_pos hle, ← pl2]
            simp -implicitDefEqProofs only [Option.bind_some, pz10, if_true, if_false, eq_self, ↓reduceIte, r_bad0, r_A1, r_A2, r_B1, r_B2, r_B3, r_C1, g2, z20, z21]
theorem q_ahead {L i : Nat} {C : CS} {R : RS} {cells slots : Nat} (h : PzInv L i C R cells slots) (hi : i + 7 ≤ L) (x1 x2 x3 : Int32) : pS_ahead (PzInv L (i + 7)) C R x1 x2 x3 cells slots := by
  rcases a_ahead h.2.1 x1 x2 x3 with ⟨r, z, y, h1, hz, h2⟩ | ⟨z, y, h1, hz, h2⟩ | ⟨z, y, h1, hz, h2⟩
  · have hk := h.keep (a := 3) (b := 18) hi (by omega) (by omega) h.1
    obtain ⟨np, no, hd, W, H, hS, hG, hL, hB, hT, hP, hI, hr, hj, hp, -⟩ := h.2.1
    exact ⟨(0, r, C.v15, z), (r, 0, R.v10, y), h1, h2, .inl rfl, rfl, fun _ => rfl, pz_fit h (by omega) (by omega), hk.1, ⟨np, no, hd, W, H, hS, hG, hL, hB, hT, hP, hI, hr, hj, hp, hz⟩, hk.2.2⟩
  · have hk := h.keep (a := 3) (b := 18) hi (by omega) (by omega) (h.1.up (k := 1))
    obtain ⟨np, no, hd, W, H, hS, hG, hL, hB, hT, hP, hI, hr, hj, hp, -⟩ := h.2.1
    exact ⟨(2, 0, upd C.v15 1 (C.v15 1 + 1), z), (0, 1, upd R.v10 1 (R.v10 1 + 1), y), h1, h2, .inr (.inl rfl), rfl, fun _ => rfl, pz_fit h (by omega) (by omega), hk.1, ⟨np, no, hd, W, H, hS, hG, hL, hB, hT, hP, hI, hr, hj, hp, hz⟩, hk.2.2⟩
  · have hk := h.keep (a := 3) (b := 18) hi (by omega) (by omega) (h.1.up (k := 2))
    obtain ⟨np, no, hd, W, H, hS, hG, hL, hB, hT, hP, hI, hr, hj, hp, -⟩ := h.2.1
    exact ⟨(1, 0, upd C.v15 2 (C.v15 2 + 1), z), (0, 2, upd R.v10 2 (R.v10 2 + 1), y), h1, h2, .inr (.inr rfl), rfl, fun _ => rfl, pz_fit h (by omega) (by omega), hk.1, ⟨np, no, hd, W, H, hS, hG, hL, hB, hT, hP, hI, hr, hj, hp, hz⟩, hk.2.2⟩

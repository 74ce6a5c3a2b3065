/-! span -/
def lsR (k : Nat) (c r : Int32) : Prop := (k = 0 ∧ c = 2400 ∧ r = -1) ∨ (0 < k ∧ c = r ∧ ∃ v, v ≤ 2400 ∧ c = nI v)
theorem sF_films {dp : Nat → Nat} {np b hd : Nat} (hn : np ≤ 5) (h30 : hd ≤ 30) (h : ∀ c, c < 80 → dp c ≤ hd) : sF (fun p => if b.testBit p = true then 0 else aP dp p) np 0 ≤ 2400 := by
  have e := sF_le (fun p => if b.testBit p = true then 0 else aP dp p) 480 np 0 (fun p _ hp => by
    show (if b.testBit p = true then 0 else aP dp p) ≤ 480
    by_cases hb : b.testBit p = true
    · rw [if_pos hb]
      omega
    · rw [if_neg hb, aP]
      have e := sF_le (fun i => dp (16 * p + i)) 30 16 0 (fun j _ hj => by
        show dp (16 * p + j) ≤ 30
        have := h (16 * p + j) (by omega)
        omega)
      exact e)
  omega
theorem ls_step {k v : Nat} {c r : Int32} (hv : v ≤ 2400) (h : lsR k c r) : ∃ r', (if r = -1 then some (nI v) else f_X11_less r (nI v)) = some r' ∧ lsR (k + 1) (if nI v < c then nI v else c) r' := by
  rcases h with ⟨h1, h2, h3⟩ | ⟨h1, h2, u, hu, h3⟩
  · have hlt : (if nI v < c then nI v else c) = nI v := by
      rw [h2, pl2400]
      by_cases e : v < 2400
      · rw [if_pos (nI_lt e (by omega))]
      · rw [if_neg (nI_nlt (by omega) (by omega)), show v = 2400 by omega]
    exact ⟨nI v, by rw [if_pos h3], .inr ⟨by omega, hlt, v, hv, hlt⟩⟩
  · subst h2
    subst h3
    have hne : ¬ nI u = -1 := by
      intro e
      have h4 := nI_pos (n := u) (by omega)
      rw [e] at h4
      exact h4 (by decide)
    by_cases e : v < u
    · refine ⟨nI v, ?_, .inr ⟨by omega, ?_, v, hv, ?_⟩⟩
      · rw [if_neg hne, f_X11_less, if_pos (nI_le (by omega) (by omega))]
      · rw [if_pos (nI_lt e (by omega))]
      · rw [if_pos (nI_lt e (by omega))]
    · refine ⟨nI u, ?_, .inr ⟨by omega, ?_, u, hu, ?_⟩⟩
      · rw [if_neg hne, f_X11_less]
        by_cases e2 : v = u
        · rw [if_pos (nI_le (by omega) (by omega)), e2]
        · rw [if_neg (nI_ge (by omega) (by omega))]
      · rw [if_neg (nI_nlt (by omega) (by omega))]
      · rw [if_neg (nI_nlt (by omega) (by omega))]
theorem mo_step {v u : Nat} (hv : v ≤ 2400) (hu : u ≤ 2400) : f_X11_more (nI u) (nI v) = some (if nI u < nI v then nI v else nI u) ∧ ∃ w, w ≤ 2400 ∧ (if nI u < nI v then nI v else nI u) = nI w := by
  by_cases e : u < v
  · rw [if_pos (nI_lt e (by omega)), f_X11_more, if_pos (nI_le (by omega) (by omega))]
    exact ⟨rfl, v, hv, rfl⟩
  · rw [if_neg (nI_nlt (by omega) (by omega)), f_X11_more]
    refine ⟨?_, u, hu, rfl⟩
    by_cases e2 : u = v
    · rw [if_pos (nI_le (by omega) (by omega)), e2]
    · rw [if_neg (nI_ge (by omega) (by omega))]
theorem spanL {np no hd : Nat} {W H : Nat → Nat} {s6 : CX6} {to : Nat → Int32} {pa ra od : Nat → Nat → Int32} (hS : PzS np no hd W H s6 to pa ra od) {n : GC} {v29 : Nat → Int32} {dp fd : Nat → Nat} {dy b0 days : Nat} (hG : PzG np hd W H n v29 dp fd dy) (hb32 : b0 < 32) (hb2 : v29 2681 = nI b0) (hb0 : ∀ c, c < 80 → b0.testBit (c / 16) = true → dp c = 0) {m19 : Int32} {la : Nat → Nat → Int32} {lv : (Nat → Int32) → Int32} {fl : Nat → Int32} (hfl : ∀ p, p < np → pa p 3 = fl p) (l2 : ∀ kn st, ∃ st', f_X11_byLaw m19 st kn la = some (lv kn, st')) (l3 : ∀ kn kn', (∀ k, k < 8 → kn k = kn' k) → lv kn = lv kn') {X D U : Nat → Nat} (hX : ∀ o, o < no → X o < 80 ∧ D o ≤ 200 ∧ U o ≤ 200 ∧ f_X11_cellOfOrder 5 (od o) = some (nI (X o)) ∧ od o 3 = nI (D o) ∧ od o 4 = nI (U o)) {rn : Nat → Nat} {nr : Nat} (hnr : nr ≤ 12) (htr : to 2 = nI nr) (hrn : ∀ d, d ≤ 200 → rn d ≤ 108 ∧ pzRain ra (nI d) nr = nI (rn d)) (hdays : days ≤ 60) {wb : Nat → Int32} (hwb : ∀ p k, p < np → 1 ≤ k → k ≤ days → wb (61 * p + k) = wb (61 * p + k - 1) + nI (wsD rn (itS np hd W H lv fl b0 rn (dp, fd, dy) (k - 1)) p)) (hwb0 : ∀ p, p < 5 → wb (61 * p) = 0) {de : Nat → Int32} (hde : ∀ c, c < 80 → de c = nI ((itS np hd W H lv fl b0 rn (dp, fd, dy) days).1 c)) {x seed x5 : Int32} {p many : Nat} (hp : p < np) (hmany : many ≤ 20) (hm0 : 1 ≤ many) {i12 a3 a4 a5 a7 : Int32} {f4 f5 f7 u0 u1 u2 : Nat → Int32} {m2 : Int32} {cd : Nat → Int32} {v15 nm : Nat → Int32} {j3 j4 j5 j6 j7 : Int32} {fi rg st v10 : Nat → Int32} : ∀ (m k q q2 : Nat) (i1 i2 i3 cf rf wh i43 : Int32) (v25 v26 v30 : Nat → Int32) (mo : Nat), k + m = many → m < q → m < q2 → lsR k cf rf → mo ≤ 2400 →
    ∃ r z l y, f_X10_span_b98 (nI np) i12 f4 f5 f7 a3 a4 a5 (nI b0) a7 u0 u1 u2 m2 cd q v15 i1 i2 i3 nm wb j3 j4 j5 j6 j7 fi de rg st seed (nI many) x (nI days) x5 (nI p) cf (nI mo) wh (nI k) = some (0, r, v15, z) ∧ (∀ p, p < 5 → z.2.2.2.2.1 (61 * p) = 0) ∧ f_X11_span_b83 m19 to v29 pa ra od la q2 0 i43 v10 v25 v26 v30 seed (nI many) x (nI days) x5 (nI p) rf (nI mo) wh (nI k) = some (r, 0, l, v10, y) := by
  obtain ⟨h5, -, ⟨h1, h30⟩, ⟨-, t0⟩, -⟩ := id hS
  intro m
  induction m with
  | zero =>
    intro k q q2 i1 i2 i3 cf rf wh i43 v25 v26 v30 mo hi hq hq2 hls hmo
    obtain ⟨q, rfl⟩ : ∃ r, q = r + 1 := ⟨q - 1, by omega⟩
    obtain ⟨q2, rfl⟩ : ∃ r, q2 = r + 1 := ⟨q2 - 1, by omega⟩
    have hcr : cf = rf := by
      rcases hls with ⟨h, -⟩ | ⟨-, h, -⟩
      · omega
      · exact h
    subst hcr
    have hle : nI many ≤ nI k := nI_le (by omega) (by omega)
    refine ⟨if x5 = 0 then cf else if x5 = 1 then nI mo else wh, (i1, i2, i3, nm, wb, j3, j4, j5, j6, j7, fi, de, rg, st), i43, (v25, v26, v30), ?_, hwb0, ?_⟩
    · rw [f_X10_span_b98, if_pos hle]
      by_cases e0 : x5 = 0
      · rw [if_pos e0, if_pos e0]
      · rw [if_neg e0, if_neg e0]
        by_cases e1 : x5 = 1
        · rw [if_pos e1, if_pos e1]
        · rw [if_neg e1, if_neg e1]
    · rw [f_X11_span_b83, if_pos hle]
      by_cases e0 : x5 = 0
      · rw [if_pos e0, if_pos e0]
      · rw [if_neg e0, if_neg e0]
        by_cases e1 : x5 = 1
        · rw [if_pos e1, if_pos e1]
        · rw [if_neg e1, if_neg e1]
  | succ m ih =>
    intro k q q2 i1 i2 i3 cf rf wh i43 v25 v26 v30 mo hi hq hq2 hls hmo
    obtain ⟨q, rfl⟩ : ∃ r, q = r + 1 := ⟨q - 1, by omega⟩
    obtain ⟨q2, rfl⟩ : ∃ r, q2 = r + 1 := ⟨q2 - 1, by omega⟩
    obtain ⟨l, v25', v26', row', e1, e2⟩ := r_decades hS hG hb32 hb2 hb0 (m19 := m19) (la := la) (lv := lv) (fl := fl) hfl l2 l3 hX hnr htr hrn hdays (wb := wb) hwb hwb0 x (seed + nI k) i43 v25 v26 v30
    have d1 := p_draw (wb := wb) (de := de) (x := x) (i1 := i1) (i2 := i2) (i3 := i3) (seed := seed + nI k) h5 hdays hb32 hde
    have hw := wf_itS (lv := lv) (fl := fl) (b := b0) (rn := rn) (s := (dp, fd, dy)) h1 h30 hG.wf days
    generalize itS np hd W H lv fl b0 rn (dp, fd, dy) days = s at e2 d1 hw
    generalize dwD x wb np days 1 (b0, seed + nI k, 0) = t at d1 e2
    obtain ⟨g1, g2, g3, g4, g5, g6⟩ := e2
    have o1 := r_onAllM h5 t0 g1
    have o2 := sF_films (b := t.1) h5 h30 (fun c hc => (hw.1 c hc).1)
    generalize sF (fun p => if t.1.testBit p = true then 0 else aP s.1 p) np 0 = F at o1 o2 d1
    obtain ⟨r', s1, s2⟩ := ls_step o2 hls
    obtain ⟨s3, w, hw4, s4⟩ := mo_step o2 hmo
    have c81 : ((2681 : Int32).toNatClampNeg) = 2681 := rfl
    have hwh : ∀ T : Bool, t.1.testBit p = T → wh + (1 - ((nI t.1 >>> (nI p &&& 31)) &&& 1)) = wh + (if T = true then 0 else 1) := by
      intro T hT
      cases T with
      | true => rw [(show ((nI t.1 >>> (nI p &&& 31)) &&& 1) = 1 by rw [bit_if (by omega) (by omega)]; exact hT)]; rfl
      | false => rw [(show ((nI t.1 >>> (nI p &&& 31)) &&& 1) = 0 by rw [bit_if0 (by omega) (by omega)]; exact hT)]; rfl
    obtain ⟨r, z, l', y, a1, a2, a3⟩ := ih (k + 1) q q2 (nI F) (nI t.1) (t.2.2 + sWb np t.1 wb days) (if nI F < cf then nI F else cf) r' (wh + (if t.1.testBit p = true then 0 else 1)) l v25' v26' row' w (by omega) (by omega) (by omega) s2 hw4
    refine ⟨r, z, l', y, ?_, a2, ?_⟩
    · rw [f_X10_span_b98, if_neg (nI_ge (by omega) (by omega)), d1, Option.bind_some, s4, hwh _ rfl, nI_1]
      exact a1
    · rw [f_X11_span_b83, if_neg (nI_ge (by omega) (by omega)), e1, Option.bind_some, o1, Option.bind_some]
      have hk : ∀ r1, f_X11_span_b128 m19 to v29 pa ra od la (f_X11_span_b83 m19 to v29 pa ra od la q2) 0 l v10 v25' v26' row' seed (nI many) x (nI days) x5 (nI p) (nI mo) wh (nI k) (nI F) r1 = f_X11_span_b83 m19 to v29 pa ra od la q2 0 l v10 v25' v26' row' seed (nI many) x (nI days) x5 (nI p) r1 (nI w) (wh + (if t.1.testBit p = true then 0 else 1)) (nI (k + 1)) := by
        intro r1
        rw [f_X11_span_b128, s3, Option.bind_some, s4, c81, g2, r_has (by omega) (by omega), Option.bind_some, f_X11_span_b162, f_X11_span_b162, nI_1]
        by_cases e : t.1.testBit p = true
        · rw [if_pos e, if_pos e, if_neg (show ¬ ((1 : Int32) = 0) by decide)]
        · rw [if_neg e, if_neg e, if_pos (show (0 : Int32) = 0 from rfl)]
      by_cases em : rf = -1
      · rw [if_pos em] at s1 ⊢
        obtain rfl : nI F = r' := Option.some.inj s1
        rw [hk]
        exact a3
      · rw [if_neg em] at s1 ⊢
        rw [s1, Option.bind_some, hk]
        exact a3
theorem a_span {C : CS} {R : RS} (hc : PzC C R) (x1 x2 x3 x4 x5 x6 : Int32) :
    (∃ r z i43 y, fC_span C x1 x2 x3 x4 x5 x6 = some (0, r, C.v15, z) ∧ (∀ p, p < 5 → z.2.2.2.2.1 (61 * p) = 0) ∧ fR_span R x1 x2 x3 x4 x5 x6 = some (r, 0, i43, R.v10, y)) ∨
    (∃ z i43 y, fC_span C x1 x2 x3 x4 x5 x6 = some (1, 0, upd C.v15 2 (C.v15 2 + 1), z) ∧ (∀ p, p < 5 → z.2.2.2.2.1 (61 * p) = 0) ∧ fR_span R x1 x2 x3 x4 x5 x6 = some (0, 1, i43, upd R.v10 2 (R.v10 2 + 1), y)) := by
  obtain ⟨np, no, hd, W, H, hS, ⟨dp, fd, dy, hG⟩, hL, hrest⟩ := hc
  have hwb : ∀ p, p < 5 → C.h.2.2.2.2 (61 * p) = 0 := hrest.2.2.2.2.2.2.2
  have h5 := hS.1
  have h30 := hS.2.2.1.2
  have hnp : C.s1.1 = nI np := hS.2.2.2.1.1
  have htp : R.v12 0 = nI np := hS.2.2.2.1.2
  have hno : ∀ {k : Nat → Int32}, k = upd R.v10 2 (R.v10 2 + 1) → fC_span C x1 x2 x3 x4 x5 x6 = some (1, 0, upd C.v15 2 (C.v15 2 + 1), (C.h.1, C.h.2.1, C.h.2.2.1, C.h.2.2.2.1, C.h.2.2.2.2, C.q.1, C.q.2.1, C.q.2.2.1, C.q.2.2.2.1, C.q.2.2.2.2.1, C.q.2.2.2.2.2.1, C.q.2.2.2.2.2.2.1, C.q.2.2.2.2.2.2.2, C.l1.2.2)) → fR_span R x1 x2 x3 x4 x5 x6 = some (0, 1, R.i43, k, (R.v25, R.v26, R.v30)) → (∃ z i43 y, fC_span C x1 x2 x3 x4 x5 x6 = some (1, 0, upd C.v15 2 (C.v15 2 + 1), z) ∧ (∀ p, p < 5 → z.2.2.2.2.1 (61 * p) = 0) ∧ fR_span R x1 x2 x3 x4 x5 x6 = some (0, 1, i43, upd R.v10 2 (R.v10 2 + 1), y)) := by
    intro k hk e1 e2
    subst hk
    exact ⟨(C.h.1, C.h.2.1, C.h.2.2.1, C.h.2.2.2.1, C.h.2.2.2.2, C.q.1, C.q.2.1, C.q.2.2.1, C.q.2.2.2.1, C.q.2.2.2.2.1, C.q.2.2.2.2.2.1, C.q.2.2.2.2.2.2.1, C.q.2.2.2.2.2.2.2, C.l1.2.2), R.i43, (R.v25, R.v26, R.v30), e1, hwb, e2⟩
  have hM : (f_X11_in x2 1 20 = some 0 ∧ (x2 < 1 ∨ (¬ x2 < 1 ∧ 20 < x2))) ∨ ∃ many, 1 ≤ many ∧ many ≤ 20 ∧ x2 = nI many ∧ f_X11_in x2 1 20 = some 1 ∧ ¬ x2 < 1 ∧ ¬ 20 < x2 := by
    rcases pz_ix2 x2 (n := 20) (by omega) with hb | ⟨a, ha, rfl⟩
    · have h1 : x2 < 1 ∨ (20 : Int32) < x2 := by
        rcases hb with hb | hb
        · exact .inl (Int32.lt_trans hb (by decide))
        · exact .inr hb
      refine .inl ⟨r_inNo h1, ?_⟩
      by_cases h0 : x2 < 1
      · exact .inl h0
      · rcases h1 with h1 | h1
        · exact absurd h1 h0
        · exact .inr ⟨h0, h1⟩
    · by_cases h0 : a = 0
      · subst h0
        exact .inl ⟨r_inNo (.inl (by decide)), .inl (by decide)⟩
      · exact .inr ⟨a, by omega, ha, rfl, r_inOk (b := 1) (k := 20) (by omega) ha (by omega), nI_nlt (b := 1) (by omega) (by omega), nI_nlt (a := 20) (by omega) (by omega)⟩
  rcases hM with ⟨m1, m2⟩ | ⟨many, hm1, hm2, rfl, m1, m2, m3⟩
  · refine .inr (hno rfl ?_ ?_)
    · rcases m2 with m2 | ⟨m2, m3⟩
      · simp -implicitDefEqProofs only [Option.bind_some, pz10, if_true, if_false, eq_self, ↓reduceIte, r_bad0, r_A1, r_A2, r_B1, r_B2, r_B3, r_C1, fC_span, f_X10_span, m2, f_X10_span_b16, f_X10_span_b17, p_need0]; rfl
      · simp -implicitDefEqProofs only [Option.bind_some, pz10, if_true, if_false, eq_self, ↓reduceIte, r_bad0, r_A1, r_A2, r_B1, r_B2, r_B3, r_C1, fC_span, f_X10_span, m2, m3, f_X10_span_b16, f_X10_span_b17, p_need0]; rfl
    · simp -implicitDefEqProofs only [Option.bind_some, pz10, if_true, if_false, eq_self, ↓reduceIte, r_bad0, r_A1, r_A2, r_B1, r_B2, r_B3, r_C1, fR_span, f_X11_span, m1, f_X11_span_b56, f_X11_span_b61]
  · rcases pz_decade C.v15 x3 x4 with ⟨h1, h2⟩ | ⟨a, days, ha, hd1, hdays, rfl, rfl, h1, h2, h3⟩
    · refine .inr (hno rfl ?_ ?_)
      · simp -implicitDefEqProofs only [Option.bind_some, pz10, if_true, if_false, eq_self, ↓reduceIte, r_bad0, r_A1, r_A2, r_B1, r_B2, r_B3, r_C1, fC_span, f_X10_span, m2, m3, f_X10_span_b17, p_need1, h1]; rfl
      · rcases h2 with h2 | ⟨h2, h3⟩
        · simp -implicitDefEqProofs only [Option.bind_some, pz10, if_true, if_false, eq_self, ↓reduceIte, r_bad0, r_A1, r_A2, r_B1, r_B2, r_B3, r_C1, fR_span, f_X11_span, m1, h2, f_X11_span_b56, f_X11_span_b61]
        · simp -implicitDefEqProofs only [Option.bind_some, pz10, if_true, if_false, eq_self, ↓reduceIte, r_bad0, r_A1, r_A2, r_B1, r_B2, r_B3, r_C1, fR_span, f_X11_span, m1, h2, h3, f_X11_span_b56, f_X11_span_b61]
    · rcases pz_what C.v15 x5 2 (by omega) with ⟨h4, h6⟩ | ⟨w, hw, rfl, h4, h6⟩
      · rw [← pl2] at h4 h6
        refine .inr (hno rfl ?_ ?_)
        · simp -implicitDefEqProofs only [Option.bind_some, pz10, if_true, if_false, eq_self, ↓reduceIte, r_bad0, r_A1, r_A2, r_B1, r_B2, r_B3, r_C1, fC_span, f_X10_span, m2, m3, f_X10_span_b17, p_need1, h1, h4]; rfl
        · simp -implicitDefEqProofs only [Option.bind_some, pz10, if_true, if_false, eq_self, ↓reduceIte, r_bad0, r_A1, r_A2, r_B1, r_B2, r_B3, r_C1, fR_span, f_X11_span, m1, h2, h3, h6, f_X11_span_b56, f_X11_span_b61]
      · rw [← pl2] at h4 h6
        rcases pz_ix x6 (n := np) (by omega) with hb | ⟨p, hp, rfl⟩
        · have hq := r_isPaneNo htp h5 hb
          refine .inr (hno rfl ?_ ?_)
          · by_cases e0 : x6 < 0
            · simp -implicitDefEqProofs only [Option.bind_some, pz10, if_true, if_false, eq_self, ↓reduceIte, r_bad0, r_A1, r_A2, r_B1, r_B2, r_B3, r_C1, fC_span, f_X10_span, m2, m3, f_X10_span_b17, p_need1, h1, h4, e0, f_X10_span_b56, f_X10_span_b57, p_need0]; rfl
            · have e1 : C.s1.1 ≤ x6 := by
                rw [hnp]
                rcases hb with hb | hb
                · exact absurd hb e0
                · exact hb
              simp -implicitDefEqProofs only [Option.bind_some, pz10, if_true, if_false, eq_self, ↓reduceIte, r_bad0, r_A1, r_A2, r_B1, r_B2, r_B3, r_C1, fC_span, f_X10_span, m2, m3, f_X10_span_b17, p_need1, h1, h4, e0, e1, f_X10_span_b56, f_X10_span_b57, p_need0]; rfl
          · simp -implicitDefEqProofs only [Option.bind_some, pz10, if_true, if_false, eq_self, ↓reduceIte, r_bad0, r_A1, r_A2, r_B1, r_B2, r_B3, r_C1, fR_span, f_X11_span, m1, h2, h3, h6, hq, f_X11_span_b56, f_X11_span_b61]
        · left
          have hq := r_isPaneOk htp hp h5
          have e0 : ¬ nI p < 0 := nI_pos (by omega)
          have e1 : ¬ C.s1.1 ≤ nI p := by
            rw [hnp]
            exact nI_ge hp (by omega)
          obtain ⟨lv, l1, l2, l3⟩ := hL.val2
          obtain ⟨b, hb32, hb1, hb2, hb0⟩ := hG.2.2.2.2.2.2.2
          obtain ⟨nr, rn, hnr, htr, hrn⟩ := hS.rn
          obtain ⟨X, D, U, hX⟩ := hS.fc
          obtain ⟨A, F, hF⟩ := hS.fn
          obtain ⟨nm', wb', st', fi', de', rg', c1, c2, c3, c4⟩ := p_foresee hS hG hb32 hb1 l1 l3 (fun d hd => ⟨(hrn d hd).1, (hrn d hd).2.1⟩) hdays C.h.2.2.2.1 C.h.2.2.2.2 C.l1.2.2 C.q.1 C.q.2.1 C.q.2.2.1 C.q.2.2.2.1 C.q.2.2.2.2.1 C.q.2.2.2.2.2.1 C.q.2.2.2.2.2.2.1 C.q.2.2.2.2.2.2.2
          have z4 : ∀ p, p < 5 → wb' (61 * p) = 0 := fun p hp => by rw [c4 p hp, hwb p hp]
          obtain ⟨r, z, l, y, k1, k2, k3⟩ := spanL hS hG hb32 hb2 hb0 (m19 := R.i19) (la := R.g21) (lv := lv) (fl := C.s1.2.2.2.2.2.2.2.2.2.1) (fun p hp => by rw [(hF p hp).2.2.2.2.2, (hF p hp).2.2.2.2.1]) l2 l3 (fun o ho => ⟨(hX o ho).1, (hX o ho).2.1, (hX o ho).2.2.1, (hX o ho).2.2.2.2.1, (hX o ho).2.2.2.2.2.2.1, (hX o ho).2.2.2.2.2.2.2.2⟩) hnr htr (fun d hd => ⟨(hrn d hd).1, (hrn d hd).2.2⟩) hdays (wb := wb') c3 z4 (de := de') (fun c hc => (c2 c hc).1) (x := nI a) (seed := x1) (x5 := nI w) hp hm2 hm1 (i12 := C.s1.2.2.2.2.2.1) (a3 := C.n.1) (a4 := C.n.2.1) (a5 := C.n.2.2.1) (a7 := C.n.2.2.2.2.1) (f4 := C.s1.2.2.2.2.2.2.2.2.2.1) (f5 := C.s1.2.2.2.2.2.2.2.2.2.2.1) (f7 := C.s1.2.2.2.2.2.2.2.2.2.2.2.1) (u0 := C.n.2.2.2.2.2.1) (u1 := C.n.2.2.2.2.2.2.1) (u2 := C.n.2.2.2.2.2.2.2) (m2 := C.l1.1) (cd := C.l1.2.1) (v15 := C.v15) (nm := nm') (j3 := C.n.1) (j4 := nI (itS np hd W H lv C.s1.2.2.2.2.2.2.2.2.2.1 b rn (dp, fd, dy) days).2.2) (j5 := C.n.2.2.1) (j6 := nI b) (j7 := C.n.2.2.2.2.1) (fi := fi') (rg := rg') (st := st') (v10 := R.v10) many 0 4000 4000 C.h.1 C.h.2.1 C.h.2.2.1 2400 (-1) 0 R.i43 R.v25 R.v26 R.v30 0 (by omega) (by omega) (by omega) (.inl ⟨rfl, rfl, rfl⟩) (by omega)
          rw [← pl0] at k1 k3
          refine ⟨r, z, l, y, ?_, k2, ?_⟩
          · rw [← k1, ← hb1, ← hnp]
            rw [← hb1] at c1
            simp -implicitDefEqProofs only [Option.bind_some, pz10, if_true, if_false, eq_self, ↓reduceIte, r_bad0, r_A1, r_A2, r_B1, r_B2, r_B3, r_C1, fC_span, f_X10_span, m2, m3, f_X10_span_b17, p_need1, h1, h4, e0, e1, f_X10_span_b57, c1]
          · rw [← k3]
            simp -implicitDefEqProofs only [Option.bind_some, pz10, if_true, if_false, eq_self, ↓reduceIte, r_bad0, r_A1, r_A2, r_B1, r_B2, r_B3, r_C1, fR_span, f_X11_span, m1, h2, h3, h6, hq, f_X11_span_b61]
theorem q_span {L i : Nat} {C : CS} {R : RS} {cells slots : Nat} (h : PzInv L i C R cells slots) (hi : i + 7 ≤ L) (x1 x2 x3 x4 x5 x6 : Int32) : pS_span (PzInv L (i + 7)) C R x1 x2 x3 x4 x5 x6 cells slots := by
  rcases a_span h.2.1 x1 x2 x3 x4 x5 x6 with ⟨r, z, l, y, h1, hz, h2⟩ | ⟨z, l, y, h1, hz, h2⟩
  · have hk := h.keep (a := 4) (b := 24) hi (by omega) (by omega) h.1
    obtain ⟨np, no, hd, W, H, hS, hG, hL, hB, hT, hP, hI, hr, hj, hp, -⟩ := h.2.1
    exact ⟨(0, r, C.v15, z), (r, 0, l, R.v10, y), h1, h2, .inl rfl, rfl, fun _ => rfl, pz_fit h (by omega) (by omega), hk.1, ⟨np, no, hd, W, H, hS, hG, hL, hB, hT, hP, hI, hr, hj, hp, hz⟩, hk.2.2⟩
  · have hk := h.keep (a := 4) (b := 24) hi (by omega) (by omega) (h.1.up (k := 2))
    obtain ⟨np, no, hd, W, H, hS, hG, hL, hB, hT, hP, hI, hr, hj, hp, -⟩ := h.2.1
    exact ⟨(1, 0, upd C.v15 2 (C.v15 2 + 1), z), (0, 1, l, upd R.v10 2 (R.v10 2 + 1), y), h1, h2, .inr rfl, rfl, fun _ => rfl, pz_fit h (by omega) (by omega), hk.1, ⟨np, no, hd, W, H, hS, hG, hL, hB, hT, hP, hI, hr, hj, hp, hz⟩, hk.2.2⟩

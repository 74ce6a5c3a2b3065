/-! a day ends: the reference -/
/-- orders' cells, days, untils as functions -/
theorem PzS.fc {np no hd : Nat} {W H : Nat → Nat} {s : CX6} {to : Nat → Int32} {pa ra od : Nat → Nat → Int32} (hS : PzS np no hd W H s to pa ra od) : ∃ X D U : Nat → Nat, ∀ o, o < no → X o < 80 ∧ D o ≤ 200 ∧ U o ≤ 200 ∧ f_X6_cellOf s.2.2.2.2.2.2.2.2.2.2.2.2 (nI o) = some (nI (X o)) ∧ f_X11_cellOfOrder 5 (od o) = some (nI (X o)) ∧ s.2.2.2.2.2.2.2.2.2.2.2.2 (5 * o + 3) = nI (D o) ∧ od o 3 = nI (D o) ∧ s.2.2.2.2.2.2.2.2.2.2.2.2 (5 * o + 4) = nI (U o) ∧ od o 4 = nI (U o) := by
  have h1 : ∀ o, ∃ x d u, o < no → x < 80 ∧ d ≤ 200 ∧ u ≤ 200 ∧ f_X6_cellOf s.2.2.2.2.2.2.2.2.2.2.2.2 (nI o) = some (nI x) ∧ f_X11_cellOfOrder 5 (od o) = some (nI x) ∧ s.2.2.2.2.2.2.2.2.2.2.2.2 (5 * o + 3) = nI d ∧ od o 3 = nI d ∧ s.2.2.2.2.2.2.2.2.2.2.2.2 (5 * o + 4) = nI u ∧ od o 4 = nI u := by
    intro o
    by_cases ho : o < no
    · obtain ⟨p, x, y, d, u, hp, hx, hy, hd1, hdu, hu, ⟨a0, b0⟩, ⟨a1, b1⟩, ⟨a2, b2⟩, ⟨a3, b3⟩, ⟨a4, b4⟩⟩ := hS.2.2.2.2.2.2.2.2.2.2 o ho
      obtain ⟨⟨-, w4⟩, ⟨-, h4⟩, -⟩ := hS.2.2.2.2.2.2.2.2.2.1 p hp
      have h5 := hS.1
      have h12 := hS.2.1
      exact ⟨16 * p + 4 * y + x, d, u, fun _ => ⟨by omega, by omega, hu, p_orderCell (np := np) (W := W) (H := H) (od := od) (by omega) a0 a1 a2, r_orderCell b0 b1 b2, a3, b3, a4, b4⟩⟩
    · exact ⟨0, 0, 0, fun h => absurd h ho⟩
  exact ⟨fun o => (h1 o).choose, fun o => (h1 o).choose_spec.choose, fun o => (h1 o).choose_spec.choose_spec.choose, fun o ho => (h1 o).choose_spec.choose_spec.choose_spec ho⟩
def mtF (me : Nat → Bool) : Nat → Nat → Int32 → Int32
  | 0, _, a => a
  | m + 1, o, a => mtF me m (o + 1) (if me o = true then a ||| ((1 : Int32) <<< (nI o &&& 31)) else a)
/-- order o is met on day dy -/
def meB (dp fd X D U : Nat → Nat) (dy o : Nat) : Bool := U o == dy && bhn dp fd (X o) 0 == D o
theorem r_judge {m19 : Int32} {to : Nat → Int32} {pa ra od la : Nat → Nat → Int32} {dp fd X D U : Nat → Nat} {no dy : Nat} {v25 v26 : Nat → Int32} (hn : no ≤ 12) (ht : to 1 = nI no) (hdy : dy ≤ 200) (hb : ∀ c, c < 80 → bhn dp fd c 0 ≤ 200) (hX : ∀ o, o < no → X o < 80 ∧ D o ≤ 200 ∧ U o ≤ 200 ∧ f_X11_cellOfOrder 5 (od o) = some (nI (X o)) ∧ od o 3 = nI (D o) ∧ od o 4 = nI (U o)) : ∀ (m i q : Nat) (row : Nat → Int32), i + m = no → m < q → row 2684 = nI dy → (∀ c, c < 80 → f_X11_filmOf 2685 row (nI c) 0 = some (nI (bhn dp fd c 0)) ∧ ∀ a, f_X11_filmOf 2685 (upd row 2682 a) (nI c) 0 = some (nI (bhn dp fd c 0))) → ∃ row', f_X11_dayEnds_b15 m19 to pa ra od la 2685 q v25 v26 row (nI i) = (f_X11_rainOn to ra (nI (dy + 1))).bind (fun q86 => f_X11_dayEnds_b92 m19 to pa ra od la 2685 4000 v25 v26 row' q86 0) ∧ ∀ j, row' j = if j = 2684 then nI (dy + 1) else if j = 2682 then mtF (meB dp fd X D U dy) m i (row 2682) else row j := by
  have e1 : to ((1 : Int32).toNatClampNeg) = nI no := ht
  have c84 : ((2684 : Int32).toNatClampNeg) = 2684 := rfl
  have c82 : ((2682 : Int32).toNatClampNeg) = 2682 := rfl
  have c3 : ((3 : Int32).toNatClampNeg) = 3 := rfl
  have c4 : ((4 : Int32).toNatClampNeg) = 4 := rfl
  have hk84 : ∀ {R : Type} (z : Option R), ck 2684 2685 z = z := fun z => by rw [pl2684]; exact pu_ck (by omega) (by omega)
  have hk82 : ∀ {R : Type} (z : Option R), ck 2682 2685 z = z := fun z => by rw [pl2682]; exact pu_ck (by omega) (by omega)
  intro m
  induction m with
  | zero =>
    intro i q row hi hq hrd hsh
    obtain ⟨q, rfl⟩ : ∃ r, q = r + 1 := ⟨q - 1, by omega⟩
    refine ⟨upd row 2684 (nI (dy + 1)), ?_, fun j => ?_⟩
    · rw [f_X11_dayEnds_b15, e1, if_pos (nI_le (by omega) (by omega)), hk84, hk84, hk84, c84, hrd, nI_1, show upd row 2684 (nI (dy + 1)) 2684 = nI (dy + 1) by rw [upd, if_pos rfl]]
    · rw [upd]
      by_cases e : j = 2684
      · rw [if_pos e, if_pos e]
      · rw [if_neg e, if_neg e]
        by_cases e2 : j = 2682
        · rw [if_pos e2, e2, mtF]
        · rw [if_neg e2]
  | succ m ih =>
    intro i q row hi hq hrd hsh
    obtain ⟨q, rfl⟩ : ∃ r, q = r + 1 := ⟨q - 1, by omega⟩
    obtain ⟨x1, x2, x3, x4, x5, x6⟩ := hX i (by omega)
    have hb1 := hb (X i) x1
    have hcki : ∀ {R : Type} (z : Option R), ck (nI i) 12 z = z := fun z => pu_ck (by omega) (by omega)
    have hcli : (nI i).toNatClampNeg = i := nI_clamp (by omega)
    have hstep : ∀ a : Int32, a = (if meB dp fd X D U dy i = true then row 2682 ||| ((1 : Int32) <<< (nI i &&& 31)) else row 2682) → ∃ row', f_X11_dayEnds_b15 m19 to pa ra od la 2685 q v25 v26 (upd row 2682 a) (nI (i + 1)) = (f_X11_rainOn to ra (nI (dy + 1))).bind (fun q86 => f_X11_dayEnds_b92 m19 to pa ra od la 2685 4000 v25 v26 row' q86 0) ∧ ∀ j, row' j = if j = 2684 then nI (dy + 1) else if j = 2682 then mtF (meB dp fd X D U dy) (m + 1) i (row 2682) else row j := by
      intro a ha
      have hup2 : ∀ b : Int32, upd (upd row 2682 a) 2682 b = upd row 2682 b := by
        intro b
        funext j
        show (if j = 2682 then b else (if j = 2682 then a else row j)) = (if j = 2682 then b else row j)
        by_cases e : j = 2682
        · rw [if_pos e, if_pos e]
        · rw [if_neg e, if_neg e, if_neg e]
      obtain ⟨row', a1, a2⟩ := ih (i + 1) q (upd row 2682 a) (by omega) (by omega) (by rw [upd, if_neg (by omega)]; exact hrd) (fun c hc => ⟨(hsh c hc).2 a, fun b => by rw [hup2]; exact (hsh c hc).2 b⟩)
      refine ⟨row', a1, fun j => ?_⟩
      rw [a2 j, show upd row 2682 a 2682 = a by rw [upd, if_pos rfl], mtF, ← ha]
      by_cases e : j = 2684
      · rw [if_pos e, if_pos e]
      · rw [if_neg e, if_neg e]
        by_cases e2 : j = 2682
        · rw [if_pos e2, if_pos e2]
        · rw [if_neg e2, if_neg e2, upd, if_neg e2]
    have hskip : meB dp fd X D U dy i = false → ∃ row', f_X11_dayEnds_b15 m19 to pa ra od la 2685 q v25 v26 row (nI (i + 1)) = (f_X11_rainOn to ra (nI (dy + 1))).bind (fun q86 => f_X11_dayEnds_b92 m19 to pa ra od la 2685 4000 v25 v26 row' q86 0) ∧ ∀ j, row' j = if j = 2684 then nI (dy + 1) else if j = 2682 then mtF (meB dp fd X D U dy) (m + 1) i (row 2682) else row j := by
      intro hf
      have e := hstep (row 2682) (by rw [hf, if_neg (by decide)])
      have e2 : upd row 2682 (row 2682) = row := by
        funext j
        rw [upd]
        by_cases e : j = 2682
        · rw [if_pos e, e]
        · rw [if_neg e]
      rw [e2] at e
      exact e
    rw [f_X11_dayEnds_b15, e1, if_neg (nI_ge (by omega) (by omega)), hcki, hk84, hcli, c4, c84, x6, hrd, f_X11_dayEnds_b65, nI_1]
    by_cases hU : U i = dy
    · have hshown : f_X11_isShown od 2685 row (nI i) = some (if bhn dp fd (X i) 0 = D i then 1 else 0) := by
        rw [f_X11_isShown, hcki, hcli, x4, Option.bind_some, (hsh (X i) x1).1, Option.bind_some, hcki, c3, x5]
        by_cases e : bhn dp fd (X i) 0 = D i
        · rw [if_pos (by rw [e]), if_pos e]
        · rw [if_neg (by rw [nI_eq (by omega) (by omega)]; exact e), if_neg e]
      rw [if_pos (by rw [hU]), hk82, hshown, Option.bind_some, f_X11_dayEnds_b63, f_X11_dayEnds_b63, hk82, hk82, f_X11_dayEnds_b65, f_X11_dayEnds_b65, c82, nI_1]
      by_cases e : bhn dp fd (X i) 0 = D i
      · rw [if_pos e, if_neg (show ¬ ((1 : Int32) = 0) by decide)]
        exact hstep _ (by rw [meB, beq_iff_eq.mpr hU, beq_iff_eq.mpr e, if_pos (by rfl)])
      · rw [if_neg e, if_pos (show (0 : Int32) = 0 from rfl), show row 2682 ||| (0 : Int32) = row 2682 from Int32.or_zero]
        exact hstep _ (by rw [meB, beq_eq_false_iff_ne.mpr e, Bool.and_false, if_neg (by decide)])
    · rw [if_neg (by rw [nI_eq (by omega) (by omega)]; exact hU)]
      exact hskip (by rw [meB, beq_eq_false_iff_ne.mpr hU, Bool.false_and])
/-- after the rain -/
def dp1 (dp : Nat → Nat) (r c : Nat) : Nat := dp c - r
def acN (np : Nat) (W H : Nat → Nat) (lv : (Nat → Int32) → Int32) (dp fd : Nat → Nat) (fl : Nat → Int32) (b : Nat) (D wt : Int32) (c : Nat) : Bool := decide (c / 16 < np) && actB W H lv dp fd fl b D wt c
/-- what a row tells of films -/
def rRep (hd : Nat) (row : Nat → Int32) (dp fd : Nat → Nat) : Prop := ∀ c, c < 80 → row (2400 + c) = nI (dp c) ∧ dp c ≤ hd ∧ ∀ j, j < dp c → row (30 * c + j) = nI (fd (30 * c + j))
theorem r_dayEnds {np no hd : Nat} {W H : Nat → Nat} {s : CX6} {to : Nat → Int32} {pa ra od : Nat → Nat → Int32} (hS : PzS np no hd W H s to pa ra od) {m19 : Int32} {la : Nat → Nat → Int32} {lv : (Nat → Int32) → Int32} {fl : Nat → Int32} (hfl : ∀ p, p < np → pa p 3 = fl p) (l2 : ∀ kn st, ∃ st', f_X11_byLaw m19 st kn la = some (lv kn, st')) (l3 : ∀ kn kn', (∀ k, k < 8 → kn k = kn' k) → lv kn = lv kn') {X D U : Nat → Nat} (hX : ∀ o, o < no → X o < 80 ∧ D o ≤ 200 ∧ U o ≤ 200 ∧ f_X11_cellOfOrder 5 (od o) = some (nI (X o)) ∧ od o 3 = nI (D o) ∧ od o 4 = nI (U o)) {rn : Nat → Nat} {nr : Nat} (hnr : nr ≤ 12) (htr : to 2 = nI nr) (hrn : ∀ d, d ≤ 200 → rn d ≤ 108 ∧ pzRain ra (nI d) nr = nI (rn d)) {row : Nat → Int32} {dp fd : Nat → Nat} {dy b : Nat} (hR : rRep hd row dp fd) (hout : ∀ c, c < 80 → 16 * np ≤ c → dp c = 0) (hb : row 2681 = nI b) (hb32 : b < 32) (hdy : row 2684 = nI dy) (hdy2 : dy < 200) (hbh : ∀ c, c < 80 → bhn dp fd c 0 ≤ 200) (v25 v26 : Nat → Int32) :
    ∃ v25' v26' row', f_X11_dayEnds m19 to v25 v26 pa ra od la 2685 row = some (1, v25', v26', row') ∧ row' 2684 = nI (dy + 1) ∧ row' 2683 = row 2683 + nI (sF (fun c => min (rn (dy + 1)) (dp c)) (16 * np) 0) ∧ row' 2682 = mtF (meB dp fd X D U dy) no 0 (row 2682) ∧ row' 2681 = row 2681 ∧ (∀ d, d ≤ 200 → row' (2480 + d) = row (2480 + d)) ∧ rRep hd row' (dpN (acN np W H lv (dp1 dp (rn (dy + 1))) fd fl b (nI (dy + 1)) (nI (rn (dy + 1)))) (dp1 dp (rn (dy + 1))) hd) (fdN (acN np W H lv (dp1 dp (rn (dy + 1))) fd fl b (nI (dy + 1)) (nI (rn (dy + 1)))) (dp1 dp (rn (dy + 1))) fd hd (dy + 1)) := by
  obtain ⟨h5, h12, ⟨h1, h30⟩, ⟨-, t0⟩, ⟨-, t1⟩, -, -, -, ⟨-, t5⟩, hN, -⟩ := hS
  obtain ⟨hr1, hr2⟩ := hrn (dy + 1) (by omega)
  have hfo : ∀ (r2 : Nat → Int32), rRep hd r2 dp fd → ∀ c, c < 80 → f_X11_filmOf 2685 r2 (nI c) 0 = some (nI (bhn dp fd c 0)) := by
    intro r2 h2 c hc
    obtain ⟨a1, a2, a3⟩ := h2 c hc
    exact r_film1 hc a1 (by omega) a3
  have hupd : ∀ a, rRep hd (upd row 2682 a) dp fd := by
    intro a c hc
    obtain ⟨a1, a2, a3⟩ := hR c hc
    refine ⟨by rw [upd, if_neg (by omega)]; exact a1, a2, fun j hj => ?_⟩
    rw [upd, if_neg (by omega)]
    exact a3 j hj
  obtain ⟨row1, j1, j2⟩ := r_judge (m19 := m19) (pa := pa) (ra := ra) (la := la) (dp := dp) (fd := fd) (v25 := v25) (v26 := v26) h12 t1 (by omega) hbh hX no 0 4000 row (by omega) (by omega) hdy (fun c hc => ⟨hfo row hR c hc, fun a => hfo _ (hupd a) c hc⟩)
  have j3 : ∀ j, j ≠ 2684 → j ≠ 2682 → row1 j = row j := by
    intro j h2 h3
    rw [j2, if_neg h2, if_neg h3]
  obtain ⟨row2, w1, w2, w3, w4⟩ := r_washAll (m19 := m19) (v25 := v25) (v26 := v26) (pa := pa) (ra := ra) (od := od) (la := la) (dp := dp) (r := rn (dy + 1)) h5 t0 (by omega) (16 * np) 0 4000 row1 (by omega) (by omega) (fun c _ hc => by
    obtain ⟨a1, a2, a3⟩ := hR c (by omega)
    exact ⟨by rw [j3 _ (by omega) (by omega)]; exact a1, by omega⟩)
  obtain ⟨v25', v26', row3, s1, s2, s3⟩ := r_setAll (m19 := m19) (W := W) (H := H) (s := s) (pa := pa) (ra := ra) (od := od) (la := la) (lv := lv) (fl := fl) (dp := dp1 dp (rn (dy + 1))) (fd := fd) (b := b) (dn := dy + 1) (act := acN np W H lv (dp1 dp (rn (dy + 1))) fd fl b (nI (dy + 1)) (nI (rn (dy + 1)))) (D := nI (dy + 1)) (wt := nI (rn (dy + 1))) h5 t0 t5 h1 h30 rfl hb32 hN hfl (fun c hc => by
    have : c / 16 < np := by omega
    rw [acN, decide_eq_true this, Bool.true_and]) l2 l3 (16 * np) 0 4000 v25 v26 row2 (by omega) (by omega) (by rw [w4 _ (by omega) (by omega), j3 _ (by omega) (by omega)]; exact hb) (by rw [w4 _ (by omega) (by omega), j2, if_pos rfl]) (fun c _ hc => by
    obtain ⟨a1, a2, a3⟩ := hR c (by omega)
    refine ⟨w2 c (by omega) hc, by rw [dp1]; omega, fun j hj => ?_⟩
    rw [dp1] at hj
    rw [w4 _ (by omega) (by omega), j3 _ (by omega) (by omega)]
    exact a3 j (by omega))
  have c84 : ((2684 : Int32).toNatClampNeg) = 2684 := rfl
  refine ⟨v25', v26', row3, ?_, ?_, ?_, ?_, ?_, fun d hd2 => ?_, fun c hc => ?_⟩
  · rw [f_X11_dayEnds, pl2684, pu_ck (by omega) (by omega), ← pl2684, c84, hdy, if_neg (by rw [pl200, nI_eq (by omega) (by omega)]; omega), pl0, j1, r_rain hnr htr, Option.bind_some, hr2, pl0, w1, pl0, s1]
  · rw [s3 _ (by omega) (by omega), w4 _ (by omega) (by omega), j2, if_pos rfl]
  · rw [s3 _ (by omega) (by omega), w3, j3 _ (by omega) (by omega)]
  · rw [s3 _ (by omega) (by omega), w4 _ (by omega) (by omega), j2, if_neg (by omega), if_pos rfl]
  · rw [s3 _ (by omega) (by omega), w4 _ (by omega) (by omega), j3 _ (by omega) (by omega)]
  · rw [s3 _ (by omega) (by omega), w4 _ (by omega) (by omega), j3 _ (by omega) (by omega)]
  · by_cases hcn : c < 16 * np
    · obtain ⟨b1, b2⟩ := s2 c (by omega) hcn
      refine ⟨b1, ?_, b2⟩
      have hle : dp1 dp (rn (dy + 1)) c ≤ hd := by
        have := (hR c hc).2.1
        rw [dp1]
        omega
      rw [dpN]
      by_cases ha : acN np W H lv (dp1 dp (rn (dy + 1))) fd fl b (nI (dy + 1)) (nI (rn (dy + 1))) c = true
      · rw [if_pos ha]
        exact dpS_le hle
      · rw [if_neg ha]
        exact hle
    · have h0 := hout c hc (by omega)
      obtain ⟨a1, a2, a3⟩ := hR c hc
      have hna : acN np W H lv (dp1 dp (rn (dy + 1))) fd fl b (nI (dy + 1)) (nI (rn (dy + 1))) c = false := by
        have : ¬ c / 16 < np := by omega
        rw [acN, decide_eq_false this, Bool.false_and]
      have h00 : dpN (acN np W H lv (dp1 dp (rn (dy + 1))) fd fl b (nI (dy + 1)) (nI (rn (dy + 1)))) (dp1 dp (rn (dy + 1))) hd c = 0 := by
        rw [dpN, hna, if_neg (show ¬ (false = true) by decide), dp1, h0, Nat.zero_sub]
      rw [h00]
      refine ⟨?_, by omega, fun j hj => absurd hj (by omega)⟩
      rw [s3 _ (by omega) (by omega), w4 _ (by omega) (by omega), j3 _ (by omega) (by omega), a1, h0]

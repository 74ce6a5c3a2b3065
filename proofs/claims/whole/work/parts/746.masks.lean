/-! broken panes and days: the reference -/
theorem sF_panes (f : Nat → Nat) : ∀ m i, sF f (16 * m) (16 * i) = sF (fun p => sF (fun j => f (16 * p + j)) 16 0) m i := by
  intro m
  induction m with
  | zero => intro i; rfl
  | succ m ih =>
    intro i
    rw [show 16 * (m + 1) = 16 + 16 * m by omega, sF_split, show 16 * i + 16 = 16 * (i + 1) by omega, ih (i + 1)]
    have e := sF_shift f (16 * i) 16 0
    rw [Nat.add_zero] at e
    rw [← e]
    rfl
def msk (b : Nat) (dp : Nat → Nat) (c : Nat) : Nat := if b.testBit (c / 16) = true then 0 else dp c
theorem actB_cong {W H : Nat → Nat} {lv : (Nat → Int32) → Int32} {dp dp' fd fd' : Nat → Nat} {fl : Nat → Int32} {b b' : Nat} {D wt : Int32} {c : Nat} (hd : dp c = dp' c) (hf : ∀ j, j < dp c → fd (30 * c + j) = fd' (30 * c + j)) (hb : b.testBit (c / 16) = b'.testBit (c / 16)) : actB W H lv dp fd fl b D wt c = actB W H lv dp' fd' fl b' D wt c := by
  have e : bhn dp fd c 0 = bhn dp' fd' c 0 := by
    rw [bhn, bhn, ← hd]
    by_cases h : 0 < dp c
    · rw [if_pos h, if_pos h, show 30 * c + dp c - 1 - 0 = 30 * c + (dp c - 1) by omega]
      exact hf _ (by omega)
    · rw [if_neg h, if_neg h]
  rw [actB, actB, hb, lwB, lwB, e, hd]
theorem act_brk {np : Nat} {W H : Nat → Nat} {lv : (Nat → Int32) → Int32} {dp fd : Nat → Nat} {fl : Nat → Int32} {b : Nat} {D wt : Int32} {c : Nat} (hb : b.testBit (c / 16) = true) : acN np W H lv dp fd fl b D wt c = false := by
  rw [acN, actB, hb, Bool.not_true, Bool.false_and, Bool.and_false, Bool.and_false]
theorem brk_dayS {np hd : Nat} {W H : Nat → Nat} {lv : (Nat → Int32) → Int32} {fl : Nat → Int32} {b : Nat} {rn : Nat → Nat} {s : DS} {c : Nat} (hb : b.testBit (c / 16) = true) (h : s.1 c = 0) : (dayS np hd W H lv fl b rn s).1 c = 0 := by
  rw [dayS]
  by_cases h2 : s.2.2 < 200
  · rw [if_pos h2]
    show dpN _ _ _ _ = 0
    rw [dpN, act_brk hb, if_neg (show ¬ (false = true) by decide), dp1, h, Nat.zero_sub]
  · rw [if_neg h2]
    exact h
theorem brk_itS {np hd : Nat} {W H : Nat → Nat} {lv : (Nat → Int32) → Int32} {fl : Nat → Int32} {b : Nat} {rn : Nat → Nat} {s : DS} {c : Nat} (hb : b.testBit (c / 16) = true) (h : s.1 c = 0) : ∀ k, (itS np hd W H lv fl b rn s k).1 c = 0 := by
  intro k
  induction k with
  | zero => exact h
  | succ k ih => exact brk_dayS hb ih
/-- what is washed off the whole panes -/
def wsM (np b : Nat) (rn : Nat → Nat) (s : DS) : Nat := sF (fun p => if b.testBit p = true then 0 else wsD rn s p) np 0
theorem r_dayM {np no hd : Nat} {W H : Nat → Nat} {s6 : CX6} {to : Nat → Int32} {pa ra od : Nat → Nat → Int32} (hS : PzS np no hd W H s6 to pa ra od) {m19 : Int32} {la : Nat → Nat → Int32} {lv : (Nat → Int32) → Int32} {fl : Nat → Int32} (hfl : ∀ p, p < np → pa p 3 = fl p) (l2 : ∀ kn st, ∃ st', f_X11_byLaw m19 st kn la = some (lv kn, st')) (l3 : ∀ kn kn', (∀ k, k < 8 → kn k = kn' k) → lv kn = lv kn') {X D U : Nat → Nat} (hX : ∀ o, o < no → X o < 80 ∧ D o ≤ 200 ∧ U o ≤ 200 ∧ f_X11_cellOfOrder 5 (od o) = some (nI (X o)) ∧ od o 3 = nI (D o) ∧ od o 4 = nI (U o)) {rn : Nat → Nat} {nr : Nat} (hnr : nr ≤ 12) (htr : to 2 = nI nr) (hrn : ∀ d, d ≤ 200 → rn d ≤ 108 ∧ pzRain ra (nI d) nr = nI (rn d)) {row : Nat → Int32} {s : DS} {b0 b : Nat} (hw : wf np hd W H s.1 s.2.1 s.2.2) (hsub : ∀ p, b0.testBit p = true → b.testBit p = true) (hR : rRep hd row (msk b s.1) s.2.1) (hb : row 2681 = nI b) (hb32 : b < 32) (hdy : row 2684 = nI s.2.2) (v25 v26 : Nat → Int32) :
    ∃ t v25' v26' row', f_X11_dayEnds m19 to v25 v26 pa ra od la 2685 row = some (t, v25', v26', row') ∧ row' 2684 = nI (dayS np hd W H lv fl b0 rn s).2.2 ∧ row' 2681 = nI b ∧ row' 2683 = row 2683 + nI (wsM np b rn s) ∧ rRep hd row' (msk b (dayS np hd W H lv fl b0 rn s).1) (dayS np hd W H lv fl b0 rn s).2.1 := by
  have hs200 := hw.2.2
  by_cases h2 : s.2.2 < 200
  · obtain ⟨v25', v26', row', e1, e2, e3, -, e4, -, e5⟩ := r_dayEnds hS (lv := lv) hfl l2 l3 hX hnr htr hrn hR (fun c h8 hc => by
      rw [msk]
      by_cases h : b.testBit (c / 16) = true
      · rw [if_pos h]
      · rw [if_neg h]
        exact wf_out hw h8 hc) hb hb32 hdy h2 (fun c hc => by
      rw [bhn, msk]
      by_cases h : b.testBit (c / 16) = true
      · rw [if_pos h, if_neg (by omega)]
        omega
      · rw [if_neg h]
        by_cases h0 : 0 < s.1 c
        · rw [if_pos h0, show 30 * c + s.1 c - 1 - 0 = 30 * c + (s.1 c - 1) by omega]
          have := (hw.2.1 c hc (s.1 c - 1) (by omega)).2.1
          omega
        · rw [if_neg h0]
          omega) v25 v26
    have edS : dayS np hd W H lv fl b0 rn s = (dpN (acN np W H lv (dp1 s.1 (rn (s.2.2 + 1))) s.2.1 fl b0 (nI (s.2.2 + 1)) (nI (rn (s.2.2 + 1)))) (dp1 s.1 (rn (s.2.2 + 1))) hd, fdN (acN np W H lv (dp1 s.1 (rn (s.2.2 + 1))) s.2.1 fl b0 (nI (s.2.2 + 1)) (nI (rn (s.2.2 + 1)))) (dp1 s.1 (rn (s.2.2 + 1))) s.2.1 hd (s.2.2 + 1), s.2.2 + 1) := by
      rw [dayS, if_pos h2]
    refine ⟨1, v25', v26', row', e1, ?_, by rw [e4, hb], ?_, fun c hc => ?_⟩
    · rw [edS]
      exact e2
    · rw [e3]
      congr 2
      have e := sF_panes (fun c => min (rn (s.2.2 + 1)) (msk b s.1 c)) np 0
      rw [Nat.mul_zero] at e
      rw [e, wsM]
      refine sF_ext _ _ np 0 (fun p _ hp => ?_)
      show sF (fun j => min (rn (s.2.2 + 1)) (msk b s.1 (16 * p + j))) 16 0 = if b.testBit p = true then 0 else wsD rn s p
      by_cases h : b.testBit p = true
      · rw [if_pos h]
        refine sF_zero _ 16 0 (fun j _ hj => ?_)
        show min (rn (s.2.2 + 1)) (msk b s.1 (16 * p + j)) = 0
        rw [msk, show (16 * p + j) / 16 = p by omega, if_pos h, Nat.min_zero]
      · rw [if_neg h, wsD, if_pos h2, wsP]
        refine sF_ext _ _ 16 0 (fun j _ hj => ?_)
        show min (rn (s.2.2 + 1)) (msk b s.1 (16 * p + j)) = min (rn (s.2.2 + 1)) (s.1 (16 * p + j))
        rw [msk, show (16 * p + j) / 16 = p by omega, if_neg h]
    · have e6 := e5 c hc
      rw [edS]
      show row' (2400 + c) = nI (msk b (dpN _ _ _) c) ∧ msk b (dpN _ _ _) c ≤ hd ∧ ∀ j, j < msk b (dpN _ _ _) c → row' (30 * c + j) = nI (fdN _ _ _ _ _ (30 * c + j))
      by_cases h : b.testBit (c / 16) = true
      · have e7 : ∀ g, msk b g c = 0 := fun g => by rw [msk, if_pos h]
        rw [e7, dpN, act_brk h, if_neg (show ¬ (false = true) by decide), dp1, e7, Nat.zero_sub] at *
        exact ⟨e6.1, by omega, fun j hj => absurd hj (by omega)⟩
      · have e7 : ∀ g, msk b g c = g c := fun g => by rw [msk, if_neg h]
        have h0 : b0.testBit (c / 16) = b.testBit (c / 16) := by
          cases h3 : b0.testBit (c / 16) with
          | true => exact absurd (hsub _ h3) h
          | false =>
            cases h4 : b.testBit (c / 16) with
            | true => exact absurd h4 h
            | false => rfl
        have e8 : dp1 (msk b s.1) (rn (s.2.2 + 1)) c = dp1 s.1 (rn (s.2.2 + 1)) c := by rw [dp1, dp1, e7]
        have ea : acN np W H lv (dp1 (msk b s.1) (rn (s.2.2 + 1))) s.2.1 fl b (nI (s.2.2 + 1)) (nI (rn (s.2.2 + 1))) c = acN np W H lv (dp1 s.1 (rn (s.2.2 + 1))) s.2.1 fl b0 (nI (s.2.2 + 1)) (nI (rn (s.2.2 + 1))) c := by
          rw [acN, acN, actB_cong e8 (fun j _ => rfl) h0.symm]
        have ed : dpN (acN np W H lv (dp1 (msk b s.1) (rn (s.2.2 + 1))) s.2.1 fl b (nI (s.2.2 + 1)) (nI (rn (s.2.2 + 1)))) (dp1 (msk b s.1) (rn (s.2.2 + 1))) hd c = dpN (acN np W H lv (dp1 s.1 (rn (s.2.2 + 1))) s.2.1 fl b0 (nI (s.2.2 + 1)) (nI (rn (s.2.2 + 1)))) (dp1 s.1 (rn (s.2.2 + 1))) hd c := by
          rw [dpN, dpN, ea, e8]
        rw [e7]
        rw [ed] at e6
        refine ⟨e6.1, e6.2.1, fun j hj => ?_⟩
        have h30 := hS.2.2.1.2
        have hle := e6.2.1
        rw [e6.2.2 j hj, fdN_at _ _ _ _ _ _ _ (by omega), fdN_at _ _ _ _ _ _ _ (by omega), ea, e8]
  · have edS : dayS np hd W H lv fl b0 rn s = s := by rw [dayS, if_neg h2]
    have h200 : s.2.2 = 200 := by omega
    have ew : wsM np b rn s = 0 := by
      rw [wsM]
      refine sF_zero _ np 0 (fun p _ _ => ?_)
      show (if b.testBit p = true then 0 else wsD rn s p) = 0
      rw [wsD, if_neg h2]
      by_cases h : b.testBit p = true
      · rw [if_pos h]
      · rw [if_neg h]
    have c84 : ((2684 : Int32).toNatClampNeg) = 2684 := rfl
    refine ⟨0, v25, v26, row, ?_, ?_, hb, ?_, ?_⟩
    · rw [f_X11_dayEnds, pl2684, pu_ck (by omega) (by omega), ← pl2684, c84, hdy, if_pos (by rw [pl200, h200])]
    · rw [edS]
      exact hdy
    · rw [ew, ← pl0, Int32.add_zero]
    · rw [edS]
      exact hR

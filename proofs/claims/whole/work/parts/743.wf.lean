/-! films as they may lie -/
def wf (np hd : Nat) (W H : Nat → Nat) (dp fd : Nat → Nat) (dy : Nat) : Prop :=
  (∀ c, c < 80 → dp c ≤ hd ∧ (0 < dp c → pzIn np W H c)) ∧ (∀ c, c < 80 → ∀ j, j < dp c → 1 ≤ fd (30 * c + j) ∧ fd (30 * c + j) ≤ dy ∧ (j + 1 < dp c → fd (30 * c + j) < fd (30 * c + j + 1))) ∧ dy ≤ 200
theorem PzG.wf {np hd : Nat} {W H : Nat → Nat} {G : GC} {row : Nat → Int32} {dp fd : Nat → Nat} {dy : Nat} (h : PzG np hd W H G row dp fd dy) : wf np hd W H dp fd dy :=
  ⟨fun c hc => ⟨(h.1 c hc).1, (h.1 c hc).2.2.2⟩, fun c hc j hj => (h.2.1 c hc j hj).2.2, h.2.2.1.1⟩
/-- films of one glass and of one row, alike -/
theorem pz_mkG {np hd : Nat} {W H : Nat → Nat} {fi de row : Nat → Int32} {dp fd : Nat → Nat} {dy b : Nat} (hw : wf np hd W H dp fd dy) (hc : ∀ c, c < 80 → de c = nI (dp c) ∧ ∀ j, j < dp c → fi (30 * c + j) = nI (fd (30 * c + j))) (hr : rRep hd row dp fd) (hdy : row 2684 = nI dy) (hb : b < 32) (hrb : row 2681 = nI b) (hb0 : ∀ c, c < 80 → b.testBit (c / 16) = true → dp c = 0) : PzG np hd W H (pzRag row 201, nI dy, row 2683, nI b, row 2682, fi, de, fun d => row (2480 + d)) row dp fd dy :=
  ⟨fun c h => ⟨(hw.1 c h).1, (hc c h).1, (hr c h).1, (hw.1 c h).2⟩, fun c h j hj => ⟨(hc c h).2 j hj, (hr c h).2.2 j hj, hw.2.1 c h j hj⟩, ⟨hw.2.2, rfl, hdy⟩, fun d _ => rfl, rfl, rfl, rfl, b, hb, rfl, hrb, hb0⟩
theorem wf_step {np hd : Nat} {W H : Nat → Nat} {lv : (Nat → Int32) → Int32} {fl : Nat → Int32} {dp fd : Nat → Nat} {dy b r : Nat} {D wt : Int32} (h1 : 1 ≤ hd) (h30 : hd ≤ 30) (h : wf np hd W H dp fd dy) (hdy : dy < 200) : wf np hd W H (dpN (acN np W H lv (dp1 dp r) fd fl b D wt) (dp1 dp r) hd) (fdN (acN np W H lv (dp1 dp r) fd fl b D wt) (dp1 dp r) fd hd (dy + 1)) (dy + 1) := by
  obtain ⟨a1, a2, a3⟩ := h
  generalize hact : acN np W H lv (dp1 dp r) fd fl b D wt = act
  have hin : ∀ c, c < 80 → act c = true → pzIn np W H c := by
    intro c hc ha
    rw [← hact, acN, actB, Bool.and_eq_true, Bool.and_eq_true, inC, Bool.and_eq_true, decide_eq_true_iff, decide_eq_true_iff, decide_eq_true_iff] at ha
    refine ⟨ha.1, ?_, ha.2.1.2⟩
    have := ha.2.1.1
    rwa [show c % 16 % 4 = c % 4 by omega] at this
  have hle : ∀ c, c < 80 → dpN act (dp1 dp r) hd c ≤ hd := by
    intro c hc
    have := (a1 c hc).1
    rw [dpN]
    by_cases ha : act c = true
    · rw [if_pos ha]
      exact dpS_le (by rw [dp1]; omega)
    · rw [if_neg ha, dp1]
      omega
  refine ⟨fun c hc => ⟨hle c hc, fun h0 => ?_⟩, fun c hc j hj => ?_, by omega⟩
  · by_cases ha : act c = true
    · exact hin c hc ha
    · rw [dpN, if_neg ha, dp1] at h0
      exact (a1 c hc).2 (by omega)
  · have hl := hle c hc
    have hd0 := (a1 c hc).1
    rw [fdN_at _ _ _ _ _ _ _ (by omega)]
    by_cases ha : act c = true
    · rw [dpN, if_pos ha, dpS] at hj
      rw [dpN, if_pos ha, dpS, if_pos ha, Nat.add_assoc (30 * c)]
      by_cases hlt : dp1 dp r c < hd
      · rw [if_pos hlt] at hj ⊢
        rw [fdS, if_pos hlt]
        by_cases e : j < dp1 dp r c
        · rw [if_pos e]
          rw [dp1] at e
          obtain ⟨b1, b2, b3⟩ := a2 c hc j (by omega)
          refine ⟨b1, by omega, fun h5 => ?_⟩
          rw [fdN_at _ _ _ _ _ _ _ (by omega), if_pos ha, fdS, if_pos hlt]
          by_cases e2 : j + 1 < dp1 dp r c
          · rw [if_pos e2]
            rw [dp1] at e2
            exact b3 (by omega)
          · rw [if_neg e2]
            omega
        · rw [if_neg e]
          exact ⟨by omega, by omega, fun h5 => absurd h5 (by omega)⟩
      · rw [if_neg hlt] at hj ⊢
        rw [fdS, if_neg hlt]
        rw [dp1] at hlt
        by_cases e : j + 1 < hd
        · rw [if_pos e]
          obtain ⟨b1, b2, b3⟩ := a2 c hc (j + 1) (by omega)
          have e30 : 30 * c + (j + 1) = 30 * c + j + 1 := by omega
          rw [e30] at b1 b2 b3
          refine ⟨b1, by omega, fun h5 => ?_⟩
          rw [fdN_at _ _ _ _ _ _ _ (by omega), if_pos ha, fdS, if_neg (by rw [dp1]; exact hlt), e30]
          by_cases e2 : j + 1 + 1 < hd
          · rw [if_pos e2]
            exact b3 (by omega)
          · rw [if_neg e2]
            omega
        · rw [if_neg e]
          exact ⟨by omega, by omega, fun h5 => absurd h5 (by omega)⟩
    · rw [dpN, if_neg ha, dp1] at hj
      rw [dpN, if_neg ha, dp1, if_neg ha]
      obtain ⟨b1, b2, b3⟩ := a2 c hc j (by omega)
      refine ⟨b1, by omega, fun h5 => ?_⟩
      rw [Nat.add_assoc, fdN_at _ _ _ _ _ _ _ (by omega), if_neg ha]
      exact b3 (by omega)
theorem p_setOn {np : Nat} {W H : Nat → Nat} {l : CX3} {lv : (Nat → Int32) → Int32} {fl ce ra : Nat → Int32} {dp fd : Nat → Nat} {b p hd dn wn : Nat} {i6 : Int32} (hp : p < 5) (hpn : p < np) (hW : W p ≤ 4) (hH : H p ≤ 4) (h1 : 1 ≤ hd) (h30 : hd ≤ 30) (hce : ce p = nI (pzcb (W p) (H p))) (hdn : dn ≤ 200) (hra : ra dn = nI wn) (hi6 : i6 = nI b) (hb32 : b < 32) (l1 : ∀ kn st, ∃ st', f_X3_valueFor l.1 l.2.1 st 8 kn = some (lv kn, st')) (l3 : ∀ kn kn', (∀ k, k < 8 → kn k = kn' k) → lv kn = lv kn') (nm st fi de : Nat → Int32) (hR : ∀ c, 16 * p ≤ c → c < 16 * p + 16 → de c = nI (dp c) ∧ dp c ≤ hd ∧ ∀ j, j < dp c → fi (30 * c + j) = nI (fd (30 * c + j))) : ∃ nm' fi' de' st', f_X8_settleOn nm (nI dn) i6 fi de (nI hd) fl ce ra l.1 l.2.1 st (nI p) = some (nm', fi', de', st') ∧ (∀ c, 16 * p ≤ c → c < 16 * p + 16 → de' c = nI (dpN (acN np W H lv dp fd fl b (nI dn) (nI wn)) dp hd c) ∧ ∀ j, j < dpN (acN np W H lv dp fd fl b (nI dn) (nI wn)) dp hd c → fi' (30 * c + j) = nI (fdN (acN np W H lv dp fd fl b (nI dn) (nI wn)) dp fd hd dn (30 * c + j))) ∧ (∀ c, ¬ (16 * p ≤ c ∧ c < 16 * p + 16) → de' c = de c) ∧ (∀ t, ¬ (30 * (16 * p) ≤ t ∧ t < 30 * (16 * p + 16)) → fi' t = fi t) := by
  have hbr : f_X2_isBroken i6 (nI p) = some (if b.testBit p = true then 1 else 0) := by
    rw [f_X2_isBroken, hi6]
    by_cases h6 : b.testBit p = true
    · rw [if_pos (by rw [bit_if (by omega) (by omega)]; exact h6), if_pos h6]
    · rw [if_neg (by rw [bit_if (by omega) (by omega)]; exact h6), if_neg h6]
  cases hbp : b.testBit p with
  | true =>
    rw [hbp, if_pos rfl] at hbr
    have hna : ∀ c, 16 * p ≤ c → c < 16 * p + 16 → acN np W H lv dp fd fl b (nI dn) (nI wn) c = false := by
      intro c h2 h3
      rw [acN, actB, show c / 16 = p by omega, hbp, Bool.not_true, Bool.false_and, Bool.and_false, Bool.and_false]
    refine ⟨nm, fi, de, st, ?_, fun c h2 h3 => ?_, fun c _ => rfl, fun t _ => rfl⟩
    · rw [f_X8_settleOn, hbr, Option.bind_some, if_neg (show ¬ ((1 : Int32) = 0) by decide)]
    · obtain ⟨r1, r2, r3⟩ := hR c h2 h3
      rw [dpN, hna c h2 h3, if_neg (show ¬ (false = true) by decide)]
      refine ⟨r1, fun j hj => ?_⟩
      rw [r3 j hj, fdN_at _ _ _ _ _ _ _ (by omega), hna c h2 h3, if_neg (show ¬ (false = true) by decide)]
  | false =>
    rw [hbp, if_neg (show ¬ (false = true) by decide)] at hbr
    obtain ⟨nm', fi', de', st', b1, b2, b3, b4⟩ := p_setOn_b (W := W) (H := H) (l := l) (lv := lv) (fl := fl) (ce := ce) (ra := ra) (dp := dp) (fd := fd) (b := b) (hd := hd) (dn := dn) (i6 := i6) (act := acN np W H lv dp fd fl b (nI dn) (nI wn)) (D := nI dn) (wt := nI wn) hp hW hH h1 h30 hce rfl hbp (fun c hc => by rw [acN, hc, decide_eq_true hpn, Bool.true_and]) l1 l3 16 0 4000 (upd (upd nm 0 (nI dn)) 7 (nI wn)) st fi de (by omega) (by omega) rfl rfl (fun c h2 h3 => hR c (by omega) h3)
    refine ⟨nm', fi', de', st', ?_, b2, b3, b4⟩
    rw [← pl0] at b1
    rw [f_X8_settleOn, hbr, Option.bind_some, if_pos (show (0 : Int32) = 0 from rfl), pu_ck (by omega) (by omega), nI_clamp (by omega), hra]
    exact b1
theorem p_judge {od fi de : Nat → Int32} {dp fd X D U : Nat → Nat} {no dy : Nat} {i8 : Int32} (hn : no ≤ 12) (hi8 : i8 = nI no) (hdy : dy ≤ 200) (hb : ∀ c, c < 80 → bhn dp fd c 0 ≤ 200) (hsh : ∀ c, c < 80 → f_X2_shown fi de (nI c) = some (nI (bhn dp fd c 0))) (hX : ∀ o, o < no → X o < 80 ∧ D o ≤ 200 ∧ U o ≤ 200 ∧ f_X6_cellOf od (nI o) = some (nI (X o)) ∧ od (5 * o + 3) = nI (D o) ∧ od (5 * o + 4) = nI (U o)) : ∀ (m i q : Nat) (a : Int32), i + m = no → m < q → f_X8_judgeOrders_b2 i8 od (nI dy) fi de q a (nI i) = some (mtF (meB dp fd X D U dy) m i a) := by
  intro m
  induction m with
  | zero =>
    intro i q a hi hq
    obtain ⟨q, rfl⟩ : ∃ r, q = r + 1 := ⟨q - 1, by omega⟩
    rw [f_X8_judgeOrders_b2, if_pos (by rw [hi8]; exact nI_le (by omega) (by omega)), mtF]
  | succ m ih =>
    intro i q a hi hq
    obtain ⟨q, rfl⟩ : ∃ r, q = r + 1 := ⟨q - 1, by omega⟩
    obtain ⟨x1, x2, x3, x4, x5, x6⟩ := hX i (by omega)
    have hb1 := hb (X i) x1
    have e4 : f_X6_part od (nI i) 4 = some (nI (U i)) := by rw [pl4, p_part (by omega) (by omega), x6]
    have e3 : f_X6_part od (nI i) 3 = some (nI (D i)) := by rw [pl3, p_part (by omega) (by omega), x5]
    rw [f_X8_judgeOrders_b2, if_neg (by rw [hi8]; exact nI_ge (by omega) (by omega)), e4, Option.bind_some, f_X8_judgeOrders_b28, f_X8_judgeOrders_b28, if_pos (show (0 : Int32) = 0 from rfl), if_neg (show ¬ ((1 : Int32) = 0) by decide), x4, Option.bind_some, hsh _ x1, Option.bind_some, e3, Option.bind_some, f_X8_judgeOrders_b63, f_X8_judgeOrders_b63, nI_1, mtF, meB]
    by_cases hU : U i = dy
    · rw [if_pos (by rw [hU]), beq_iff_eq.mpr hU, Bool.true_and]
      by_cases e : bhn dp fd (X i) 0 = D i
      · rw [if_pos (by rw [e]), beq_iff_eq.mpr e, if_pos (show true = true from rfl)]
        exact ih (i + 1) q _ (by omega) (by omega)
      · rw [if_neg (by rw [nI_eq (by omega) (by omega)]; exact e), beq_eq_false_iff_ne.mpr e, if_neg (show ¬ (false = true) by decide)]
        exact ih (i + 1) q _ (by omega) (by omega)
    · rw [if_neg (by rw [nI_eq (by omega) (by omega)]; exact hU), beq_eq_false_iff_ne.mpr hU, Bool.false_and, if_neg (show ¬ (false = true) by decide)]
      exact ih (i + 1) q _ (by omega) (by omega)

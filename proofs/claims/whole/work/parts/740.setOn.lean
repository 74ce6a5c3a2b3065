/-! films settle on a pane -/
theorem p_shown1 {fi de : Nat → Int32} {dp fd : Nat → Nat} {c : Nat} (hc : c < 80) (hd : de c = nI (dp c)) (h30 : dp c ≤ 30) (hf : ∀ j, j < dp c → fi (30 * c + j) = nI (fd (30 * c + j))) : f_X2_shown fi de (nI c) = some (nI (bhn dp fd c 0)) := by
  rw [f_X2_shown, bhn]
  by_cases h0 : dp c = 0
  · simp -implicitDefEqProofs (disch := omega) only [pl0, pl1, pl2, pl3, pl4, pl5, pl6, pl7, pl8, pl9, pl10, pl11, pl12, pl13, pl14, pl15, pl16, pl17, pl18, pl19, pl20, pl21, pl22, pl23, pl24, pl25, pl26, pl27, pl28, pl29, pl30, pl31, pl32, pl48, pl57, pl60, pl61, pl80, pl97, pl99, pl100, pl122, pl150, pl160, pl199, pl200, pl201, pl255, pl305, pl600, pl999, pl1000, pl2400, pl2480, pl2681, pl2682, pl2683, pl2684, pl2685, pl9999, pl100000, pl1000000, pk_mul, nI_add, pk_sub, nI_clamp, nI_eq, nI_leI, nI_ltI, pk_div, pn_rem, pu_ck, Option.bind_some, if_pos, if_neg, and_true, true_and, if_true, if_false, hd, h0]
  · have h2 := hf (dp c - 1) (by omega)
    rw [show 30 * c + (dp c - 1) = 30 * c + dp c - 1 by omega] at h2
    rw [Nat.sub_zero, if_pos (show 0 < dp c by omega), pu_ck hc (by omega), nI_clamp (by omega), hd, if_neg (nI_ne0 (by omega) (by omega)), pu_ck hc (by omega), pl30, pk_mul, nI_add, pl1, pk_sub (by omega), pu_ck (by omega) (by omega), nI_clamp (by omega), h2]
theorem r_film1 {row : Nat → Int32} {dp fd : Nat → Nat} {c : Nat} (hc : c < 80) (hd : row (2400 + c) = nI (dp c)) (h30 : dp c ≤ 30) (hf : ∀ j, j < dp c → row (30 * c + j) = nI (fd (30 * c + j))) : f_X11_filmOf 2685 row (nI c) 0 = some (nI (bhn dp fd c 0)) := by
  rw [bhn]
  by_cases h0 : 0 < dp c
  · have h2 := hf (dp c - 1) (by omega)
    rw [show 30 * c + (dp c - 1) = 30 * c + dp c - 1 - 0 by omega] at h2
    rw [if_pos h0, pl0, r_filmOf hc hd h30 h0, h2]
  · rw [if_neg h0, f_X11_filmOf, pl2400, nI_add, pu_ck (by omega) (by omega), if_neg (by decide), nI_clamp (by omega), hd, show dp c = 0 by omega, if_neg (by decide)]
    rfl
/-- whether a film settles on cell c on day D -/
def actB (W H : Nat → Nat) (lv : (Nat → Int32) → Int32) (dp fd : Nat → Nat) (fl : Nat → Int32) (b : Nat) (D wt : Int32) (c : Nat) : Bool := inC (W (c / 16)) (H (c / 16)) (c % 16) && (!(b.testBit (c / 16)) && lwB lv dp fd fl D wt c)
def dpN (act : Nat → Bool) (dp : Nat → Nat) (hd c : Nat) : Nat := if act c = true then dpS (dp c) hd else dp c
def fdN (act : Nat → Bool) (dp fd : Nat → Nat) (hd dn t : Nat) : Nat := if act (t / 30) = true then fdS fd (t / 30) (dp (t / 30)) hd dn (t % 30) else fd t
theorem fdN_at (act : Nat → Bool) (dp fd : Nat → Nat) (hd dn c j : Nat) (hj : j < 30) : fdN act dp fd hd dn (30 * c + j) = if act c = true then fdS fd c (dp c) hd dn j else fd (30 * c + j) := by
  rw [fdN, show (30 * c + j) / 30 = c by omega, show (30 * c + j) % 30 = j by omega]
theorem dpS_le {k hd : Nat} (h : k ≤ hd) : dpS k hd ≤ hd := by
  rw [dpS]
  by_cases h1 : k < hd
  · rw [if_pos h1]
    omega
  · rw [if_neg h1]
    omega
theorem p_setOn_b {W H : Nat → Nat} {l : CX3} {lv : (Nat → Int32) → Int32} {fl ce ra : Nat → Int32} {dp fd : Nat → Nat} {b p hd dn : Nat} {i6 : Int32} {act : Nat → Bool} {D wt : Int32} (hp : p < 5) (hW : W p ≤ 4) (hH : H p ≤ 4) (h1 : 1 ≤ hd) (h30 : hd ≤ 30) (hce : ce p = nI (pzcb (W p) (H p))) (hD : D = nI dn) (hbp : b.testBit p = false) (hact : ∀ c, c / 16 = p → act c = actB W H lv dp fd fl b D wt c) (l1 : ∀ kn st, ∃ st', f_X3_valueFor l.1 l.2.1 st 8 kn = some (lv kn, st')) (l3 : ∀ kn kn', (∀ k, k < 8 → kn k = kn' k) → lv kn = lv kn') : ∀ (m i q : Nat) (nm st fi de : Nat → Int32), i + m = 16 → m < q → nm 0 = D → nm 7 = wt → (∀ c, 16 * p + i ≤ c → c < 16 * p + 16 → de c = nI (dp c) ∧ dp c ≤ hd ∧ ∀ j, j < dp c → fi (30 * c + j) = nI (fd (30 * c + j))) → ∃ nm' fi' de' st', f_X8_settleOn_b39 D i6 (nI hd) fl ce ra l.1 l.2.1 q nm fi de st (nI p) (nI i) = some (nm', fi', de', st') ∧ (∀ c, 16 * p + i ≤ c → c < 16 * p + 16 → de' c = nI (dpN act dp hd c) ∧ ∀ j, j < dpN act dp hd c → fi' (30 * c + j) = nI (fdN act dp fd hd dn (30 * c + j))) ∧ (∀ c, ¬ (16 * p + i ≤ c ∧ c < 16 * p + 16) → de' c = de c) ∧ (∀ t, ¬ (30 * (16 * p + i) ≤ t ∧ t < 30 * (16 * p + 16)) → fi' t = fi t) := by
  have hcb := pzcb_lt (W p) hW (H p) hH
  intro m
  induction m with
  | zero =>
    intro i q nm st fi de hi hq hn0 hn7 hR
    obtain ⟨q, rfl⟩ : ∃ r, q = r + 1 := ⟨q - 1, by omega⟩
    refine ⟨nm, fi, de, st, ?_, fun c h2 h3 => absurd h2 (by omega), fun c _ => rfl, fun t _ => rfl⟩
    rw [f_X8_settleOn_b39, pl16, if_pos (nI_le (by omega) (by omega))]
  | succ m ih =>
    intro i q nm st fi de hi hq hn0 hn7 hR
    obtain ⟨q, rfl⟩ : ∃ r, q = r + 1 := ⟨q - 1, by omega⟩
    obtain ⟨r1, r2, r3⟩ := hR (16 * p + i) (by omega) (by omega)
    have ha := hact (16 * p + i) (by omega)
    rw [actB, show (16 * p + i) / 16 = p by omega, show (16 * p + i) % 16 = i by omega, hbp, Bool.not_false, Bool.true_and] at ha
    rw [f_X8_settleOn_b39, pl16, if_neg (nI_ge (by omega) (by omega)), pu_ck hp (by omega), nI_clamp (by omega), hce, f_X8_settleOn_b94, nI_1]
    have hskip : ∀ (nm2 st2 : Nat → Int32), nm2 0 = D → nm2 7 = wt → act (16 * p + i) = false → ∃ nm' fi' de' st', f_X8_settleOn_b39 D i6 (nI hd) fl ce ra l.1 l.2.1 q nm2 fi de st2 (nI p) (nI (i + 1)) = some (nm', fi', de', st') ∧ (∀ c, 16 * p + i ≤ c → c < 16 * p + 16 → de' c = nI (dpN act dp hd c) ∧ ∀ j, j < dpN act dp hd c → fi' (30 * c + j) = nI (fdN act dp fd hd dn (30 * c + j))) ∧ (∀ c, ¬ (16 * p + i ≤ c ∧ c < 16 * p + 16) → de' c = de c) ∧ (∀ t, ¬ (30 * (16 * p + i) ≤ t ∧ t < 30 * (16 * p + 16)) → fi' t = fi t) := by
      intro nm2 st2 e0 e7 hna
      obtain ⟨nm', fi', de', st', b1, b2, b3, b4⟩ := ih (i + 1) q nm2 st2 fi de (by omega) (by omega) e0 e7 (fun c hc1 hc2 => hR c (by omega) hc2)
      refine ⟨nm', fi', de', st', b1, fun c hc1 hc2 => ?_, fun c hc1 => b3 c (by omega), fun t ht => b4 t (by omega)⟩
      by_cases e : c = 16 * p + i
      · subst e
        rw [dpN, hna, if_neg (show ¬ (false = true) by decide)]
        refine ⟨by rw [b3 _ (by omega)]; exact r1, fun j hj => ?_⟩
        rw [b4 _ (by omega), r3 j hj, fdN_at _ _ _ _ _ _ _ (by omega), hna, if_neg (show ¬ (false = true) by decide)]
      · exact b2 c (by omega) hc2
    cases hA : inC (W p) (H p) i with
    | false =>
      rw [hA, Bool.false_and] at ha
      rw [if_neg (by rw [bit_if hcb (by omega), inC_cb hW hH (by omega), hA]; decide)]
      exact hskip nm st hn0 hn7 ha
    | true =>
      rw [hA, Bool.true_and] at ha
      obtain ⟨nm2, st2, c1, c2, c3⟩ := p_lawHolds (np := 0) (hd := 0) (W := W) (H := H) (fl := fl) (show 16 * p + i < 80 by omega) r1 (p_shown1 (by omega) r1 (by omega) r3) l1 l3 nm st
      rw [hn0, hn7] at c1
      rw [if_pos (by rw [bit_if hcb (by omega), inC_cb hW hH (by omega), hA]), pk_mul, nI_add, c1, Option.bind_some, ← ha]
      cases hac : act (16 * p + i) with
      | false =>
        rw [if_pos (by rfl), f_X8_settleOn_b94, nI_1]
        exact hskip nm2 st2 (by rw [c2, hn0]) (by rw [c3, hn7]) hac
      | true =>
        rw [if_neg (by show ¬ ((1 : Int32) = 0); decide)]
        obtain ⟨fi1, de1, d1, d2, d3, d4⟩ := p_settle (dn := dn) (show 16 * p + i < 80 by omega) r2 h1 h30 r1 r3
        rw [hD, d1, Option.bind_some, f_X8_settleOn_b94, nI_1]
        obtain ⟨nm', fi', de', st', b1, b2, b3, b4⟩ := ih (i + 1) q nm2 st2 fi1 de1 (by omega) (by omega) (by rw [c2, hn0]) (by rw [c3, hn7]) (fun c hc1 hc2 => by
          obtain ⟨s1, s2, s3⟩ := hR c (by omega) hc2
          refine ⟨by rw [d2, if_neg (by omega)]; exact s1, s2, fun j hj => ?_⟩
          rw [d4 _ (by omega)]
          exact s3 j hj)
        rw [hD] at b1
        refine ⟨nm', fi', de', st', b1, fun c hc1 hc2 => ?_, fun c hc1 => ?_, fun t ht => ?_⟩
        · by_cases e : c = 16 * p + i
          · subst e
            have hle := dpS_le r2
            rw [dpN, hac, if_pos rfl]
            refine ⟨by rw [b3 _ (by omega), d2, if_pos rfl], fun j hj => ?_⟩
            rw [b4 _ (by omega), d3 j hj, fdN_at _ _ _ _ _ _ _ (by omega), hac, if_pos rfl]
          · exact b2 c (by omega) hc2
        · rw [b3 c (by omega), d2, if_neg (by omega)]
        · rw [b4 t (by omega), d4 t (by omega)]

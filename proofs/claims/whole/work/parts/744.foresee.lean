/-! days ahead, the glass -/
theorem pl61' : (61 : Int32) = nI 61 := rfl
theorem p_fore1 {np hd : Nat} {W H : Nat → Nat} {l : CX3} {lv : (Nat → Int32) → Int32} {fl ce ra : Nat → Int32} {dp fd : Nat → Nat} {b dn r d : Nat} {a3 a4 a5 a6 a7 i3 i5 i7 : Int32} {u0 u1 u2 rg : Nat → Int32} {x4 : Int32} {k11 : (Nat → Int32) → (Nat → Int32) → (Nat → Int32) → Int32 → Int32 → Int32 → Int32 → Int32 → (Nat → Int32) → (Nat → Int32) → (Nat → Int32) → Int32 → Int32 → Option ((Nat → Int32) × (Nat → Int32) × (Nat → Int32) × Int32 × Int32 × Int32 × Int32 × Int32 × (Nat → Int32) × (Nat → Int32) × (Nat → Int32))} (hn : np ≤ 5) (hWH : ∀ p, p < np → W p ≤ 4 ∧ H p ≤ 4 ∧ ce p = nI (pzcb (W p) (H p))) (h1 : 1 ≤ hd) (h30 : hd ≤ 30) (hdn : dn ≤ 200) (hr : r ≤ 108) (hra : ra dn = nI r) (hb32 : b < 32) (hd1 : 1 ≤ d) (hd2 : d ≤ 60) (l1 : ∀ kn st, ∃ st', f_X3_valueFor l.1 l.2.1 st 8 kn = some (lv kn, st')) (l3 : ∀ kn kn', (∀ k, k < 8 → kn k = kn' k) → lv kn = lv kn') : ∀ (m i q : Nat) (nm wb st fi de : Nat → Int32), i + m = np → m < q → (∀ c, 16 * i ≤ c → c < 16 * np → de c = nI (dp c) ∧ dp c ≤ hd ∧ ∀ j, j < dp c → fi (30 * c + j) = nI (fd (30 * c + j))) → ∃ nm' wb' st' fi' de', f_X8_foresee_b63 a3 a4 a5 a6 a7 u0 u1 u2 (nI np) (nI hd) fl ce ra l.1 l.2.1 k11 q nm wb st i3 (nI dn) i5 (nI b) i7 fi de rg x4 (nI d) 1 (nI i) = k11 nm' wb' st' i3 (nI dn) i5 (nI b) i7 fi' de' rg x4 (nI (d + 1)) ∧ (∀ c, 16 * i ≤ c → c < 16 * np → de' c = nI (dpN (acN np W H lv (dp1 dp r) fd fl b (nI dn) (nI r)) (dp1 dp r) hd c) ∧ ∀ j, j < dpN (acN np W H lv (dp1 dp r) fd fl b (nI dn) (nI r)) (dp1 dp r) hd c → fi' (30 * c + j) = nI (fdN (acN np W H lv (dp1 dp r) fd fl b (nI dn) (nI r)) (dp1 dp r) fd hd dn (30 * c + j))) ∧ (∀ c, ¬ (16 * i ≤ c ∧ c < 16 * np) → de' c = de c) ∧ (∀ t, ¬ (30 * (16 * i) ≤ t ∧ t < 30 * (16 * np)) → fi' t = fi t) ∧ (∀ p, i ≤ p → p < np → wb' (61 * p + d) = wb (61 * p + d - 1) + nI (wsP dp r p)) ∧ (∀ t, (∀ p, i ≤ p → p < np → t ≠ 61 * p + d) → wb' t = wb t) := by
  intro m
  induction m with
  | zero =>
    intro i q nm wb st fi de hi hq hR
    obtain ⟨q, rfl⟩ : ∃ r, q = r + 1 := ⟨q - 1, by omega⟩
    refine ⟨nm, wb, st, fi, de, ?_, fun c h2 h3 => absurd h2 (by omega), fun c _ => rfl, fun t _ => rfl, fun p h2 h3 => absurd h2 (by omega), fun t _ => rfl⟩
    rw [f_X8_foresee_b63, if_pos (nI_le (by omega) (by omega)), nI_1]
  | succ m ih =>
    intro i q nm wb st fi de hi hq hR
    obtain ⟨q, rfl⟩ : ∃ r, q = r + 1 := ⟨q - 1, by omega⟩
    obtain ⟨w4, h4, hce⟩ := hWH i (by omega)
    obtain ⟨de1, w1, w2⟩ := p_wash (dp := dp) (de := de) (p := i) (r := r) (by omega) (by omega) (fun c h2 h3 => by
      obtain ⟨s1, s2, s3⟩ := hR c (by omega) (by omega)
      exact ⟨s1, by omega⟩)
    obtain ⟨nm1, fi1, de2, st1, e1, e2, e3, e4⟩ := p_setOn (np := np) (W := W) (H := H) (l := l) (lv := lv) (fl := fl) (ce := ce) (ra := ra) (dp := dp1 dp r) (fd := fd) (b := b) (p := i) (hd := hd) (dn := dn) (wn := r) (i6 := nI b) (by omega) (by omega) w4 h4 h1 h30 hce hdn hra rfl hb32 l1 l3 nm st fi de1 (fun c h2 h3 => by
      obtain ⟨s1, s2, s3⟩ := hR c (by omega) (by omega)
      refine ⟨by rw [w2, if_pos (by omega), dp1], by rw [dp1]; omega, fun j hj => s3 j (by rw [dp1] at hj; omega)⟩)
    obtain ⟨nm', wb', st', fi', de', b1, b2, b3, b4, b5, b6⟩ := ih (i + 1) q nm1 (upd wb (61 * i + d) (wb (61 * i + d - 1) + nI (wsP dp r i))) st1 fi1 de2 (by omega) (by omega) (fun c h2 h3 => by
      obtain ⟨s1, s2, s3⟩ := hR c (by omega) h3
      refine ⟨by rw [e3 _ (by omega), w2, if_neg (by omega)]; exact s1, s2, fun j hj => ?_⟩
      rw [e4 _ (by omega)]
      exact s3 j hj)
    refine ⟨nm', wb', st', fi', de', ?_, fun c h2 h3 => ?_, fun c h2 => ?_, fun t h2 => ?_, fun p h2 h3 => ?_, fun t h2 => ?_⟩
    · rw [f_X8_foresee_b63, if_neg (nI_ge (by omega) (by omega)), if_neg (show ¬ ((1 : Int32) = 0) by decide), pu_ck (by omega) (by omega), nI_clamp (by omega), hra, w1, Option.bind_some]
      simp -implicitDefEqProofs only [e1, Option.bind_some]
      rw [f_X8_foresee_b115, pl61, pk_mul, nI_add, pl1, pk_sub (by omega), pu_ck (by omega) (by omega), pu_ck (by omega) (by omega), nI_clamp (by omega), nI_clamp (by omega), ← pl1, nI_1]
      exact b1
    · by_cases e : c < 16 * i + 16
      · obtain ⟨g1, g2⟩ := e2 c h2 e
        refine ⟨by rw [b3 _ (by omega)]; exact g1, fun j hj => ?_⟩
        have hle : dpN (acN np W H lv (dp1 dp r) fd fl b (nI dn) (nI r)) (dp1 dp r) hd c ≤ hd := by
          have := (hR c h2 h3).2.1
          rw [dpN]
          by_cases ha : acN np W H lv (dp1 dp r) fd fl b (nI dn) (nI r) c = true
          · rw [if_pos ha]
            exact dpS_le (by rw [dp1]; omega)
          · rw [if_neg ha, dp1]
            omega
        rw [b4 _ (by omega)]
        exact g2 j hj
      · exact b2 c (by omega) h3
    · rw [b3 _ (by omega), e3 _ (by omega), w2, if_neg (by omega)]
    · rw [b4 _ (by omega), e4 _ (by omega)]
    · by_cases e : p = i
      · subst e
        rw [b6 _ (fun p2 h5 h6 => by omega), upd, if_pos rfl]
      · rw [b5 p (by omega) h3, upd, if_neg (by omega)]
    · rw [b6 t (fun p h5 h6 => h2 p (by omega) h6), upd, if_neg (h2 i (by omega) (by omega))]

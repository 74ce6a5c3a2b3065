/-! films settle: the reference -/
theorem r_setAll {m19 : Int32} {W H : Nat → Nat} {s : CX6} {to : Nat → Int32} {pa ra od la : Nat → Nat → Int32} {lv : (Nat → Int32) → Int32} {fl : Nat → Int32} {dp fd : Nat → Nat} {b np hd dn : Nat} {act : Nat → Bool} {D wt : Int32} (hn : np ≤ 5) (ht : to 0 = nI np) (ht5 : to 5 = nI hd) (h1 : 1 ≤ hd) (h30 : hd ≤ 30) (hD : D = nI dn) (hb32 : b < 32) (hN : ∀ p, p < np → PzN W H s pa p) (hfl : ∀ p, p < np → pa p 3 = fl p) (hact : ∀ c, c < 16 * np → act c = actB W H lv dp fd fl b D wt c) (l2 : ∀ kn st, ∃ st', f_X11_byLaw m19 st kn la = some (lv kn, st')) (l3 : ∀ kn kn', (∀ k, k < 8 → kn k = kn' k) → lv kn = lv kn') : ∀ (m i q : Nat) (v25 v26 row : Nat → Int32), i + m = 16 * np → m < q → row 2681 = nI b → row 2684 = D → (∀ c, i ≤ c → c < 16 * np → row (2400 + c) = nI (dp c) ∧ dp c ≤ hd ∧ ∀ j, j < dp c → row (30 * c + j) = nI (fd (30 * c + j))) → ∃ v25' v26' row', f_X11_dayEnds_b128 m19 to pa ra od la 2685 q v25 v26 row wt (nI i) = some (1, v25', v26', row') ∧ (∀ c, i ≤ c → c < 16 * np → row' (2400 + c) = nI (dpN act dp hd c) ∧ ∀ j, j < dpN act dp hd c → row' (30 * c + j) = nI (fdN act dp fd hd dn (30 * c + j))) ∧ (∀ t, ¬ (2400 + i ≤ t ∧ t < 2400 + 16 * np) → ¬ (30 * i ≤ t ∧ t < 30 * (16 * np)) → row' t = row t) := by
  have e0 : to ((0 : Int32).toNatClampNeg) = nI np := ht
  have c84 : ((2684 : Int32).toNatClampNeg) = 2684 := rfl
  intro m
  induction m with
  | zero =>
    intro i q v25 v26 row hi hq hrb hrd hR
    obtain ⟨q, rfl⟩ : ∃ r, q = r + 1 := ⟨q - 1, by omega⟩
    refine ⟨v25, v26, row, ?_, fun c h2 h3 => absurd h2 (by omega), fun t _ _ => rfl⟩
    rw [f_X11_dayEnds_b128, e0, pl16, pk_mul, if_pos (nI_le (by omega) (by omega))]
  | succ m ih =>
    intro i q v25 v26 row hi hq hrb hrd hR
    obtain ⟨q, rfl⟩ : ∃ r, q = r + 1 := ⟨q - 1, by omega⟩
    obtain ⟨r1, r2, r3⟩ := hR i (by omega) (by omega)
    have hci : 16 * (i / 16) + i % 16 = i := by omega
    have ha := hact i (by omega)
    rw [actB] at ha
    have edv : nI i / 16 = nI (i / 16) := by rw [pl16, pk_div (by omega) (by omega) (by omega)]
    have erm : nI i - nI i / 16 * 16 = nI (i % 16) := by rw [pl16, pk_rem (by omega) (by omega) (by omega)]
    rw [f_X11_dayEnds_b128, e0, show (16 : Int32) * nI np = nI (16 * np) by rw [pl16, pk_mul], if_neg (nI_ge (by omega) (by omega)), erm, edv, r_isOf (hN (i / 16) (by omega)) (by omega) (by omega), Option.bind_some, f_X11_dayEnds_b189, nI_1]
    have hskip : ∀ (v25a v26a : Nat → Int32), act i = false → ∃ v25' v26' row', f_X11_dayEnds_b128 m19 to pa ra od la 2685 q v25a v26a row wt (nI (i + 1)) = some (1, v25', v26', row') ∧ (∀ c, i ≤ c → c < 16 * np → row' (2400 + c) = nI (dpN act dp hd c) ∧ ∀ j, j < dpN act dp hd c → row' (30 * c + j) = nI (fdN act dp fd hd dn (30 * c + j))) ∧ (∀ t, ¬ (2400 + i ≤ t ∧ t < 2400 + 16 * np) → ¬ (30 * i ≤ t ∧ t < 30 * (16 * np)) → row' t = row t) := by
      intro v25a v26a hna
      obtain ⟨v25', v26', row', b1, b2, b3⟩ := ih (i + 1) q v25a v26a row (by omega) (by omega) hrb hrd (fun c hc1 hc2 => hR c (by omega) hc2)
      refine ⟨v25', v26', row', b1, fun c hc1 hc2 => ?_, fun t h2 h3 => b3 t (by omega) (by omega)⟩
      by_cases e : c = i
      · subst e
        rw [dpN, hna, if_neg (show ¬ (false = true) by decide)]
        refine ⟨by rw [b3 _ (by omega) (by omega)]; exact r1, fun j hj => ?_⟩
        rw [b3 _ (by omega) (by omega), r3 j hj, fdN_at _ _ _ _ _ _ _ (by omega), hna, if_neg (show ¬ (false = true) by decide)]
      · exact b2 c (by omega) hc2
    cases hA : inC (W (i / 16)) (H (i / 16)) (i % 16) with
    | false =>
      rw [hA, Bool.false_and] at ha
      rw [if_pos (by decide)]
      exact hskip v25 v26 ha
    | true =>
      rw [hA, Bool.true_and] at ha
      have hshow := r_film1 (dp := dp) (fd := fd) (c := i) (by omega) r1 (by omega) r3
      obtain ⟨st', kn', es⟩ := r_isSet (m := m19) (la := la) (pa := pa) (lv := lv) (dp := dp) (fd := fd) (fl := fl) (p := i / 16) (i := i % 16) (by omega) (by omega) hrb hb32 (by rw [hci]; exact r1) (by rw [hci]; exact hshow) (hfl (i / 16) (by omega)) l2 l3 D wt v25 v26
      rw [hci, ← ha] at es
      rw [if_neg (by decide), pl2684, pu_ck (by omega) (by omega), ← pl2684, c84, hrd, es, Option.bind_some]
      cases hac : act i with
      | false =>
        rw [if_pos (by rfl), f_X11_dayEnds_b189, nI_1]
        exact hskip st' kn' hac
      | true =>
        obtain ⟨row1, d1, d2, d3, d4⟩ := r_settle (to := to) (dn := dn) (c := i) (by omega) r2 h1 h30 ht5 r1 r3
        have hle := dpS_le r2
        rw [if_neg (by show ¬ ((1 : Int32) = 0); decide), pl2684, pu_ck (by omega) (by omega), hD, d1, Option.bind_some, f_X11_dayEnds_b189, nI_1]
        obtain ⟨v25', v26', row', b1, b2, b3⟩ := ih (i + 1) q st' kn' row1 (by omega) (by omega) (by rw [d4 _ (by omega) (by omega)]; exact hrb) (by rw [d4 _ (by omega) (by omega)]; exact hrd) (fun c hc1 hc2 => by
          obtain ⟨s1, s2, s3⟩ := hR c (by omega) hc2
          refine ⟨by rw [d4 _ (by omega) (by omega)]; exact s1, s2, fun j hj => ?_⟩
          rw [d4 _ (by omega) (by omega)]
          exact s3 j hj)
        refine ⟨v25', v26', row', b1, fun c hc1 hc2 => ?_, fun t h2 h3 => ?_⟩
        · by_cases e : c = i
          · subst e
            rw [dpN, hac, if_pos rfl]
            refine ⟨by rw [b3 _ (by omega) (by omega)]; exact d2, fun j hj => ?_⟩
            rw [b3 _ (by omega) (by omega), d3 j hj, fdN_at _ _ _ _ _ _ _ (by omega), hac, if_pos rfl]
          · exact b2 c (by omega) hc2
        · rw [b3 t (by omega) (by omega), d4 t (by omega) (by omega)]
theorem r_rain_b {to : Nat → Int32} {ra : Nat → Nat → Int32} {nr : Nat} {D : Int32} (hn : nr ≤ 12) (ht : to 2 = nI nr) : ∀ (m i q : Nat), i + m = nr → m < q → f_X11_rainOn_b4 to ra q D (pzRain ra D i) (nI i) = some (pzRain ra D nr) := by
  have e2 : to ((2 : Int32).toNatClampNeg) = nI nr := ht
  have c0 : ((0 : Int32).toNatClampNeg) = 0 := rfl
  have c1 : ((1 : Int32).toNatClampNeg) = 1 := rfl
  intro m
  induction m with
  | zero =>
    intro i q hi hq
    obtain ⟨q, rfl⟩ : ∃ r, q = r + 1 := ⟨q - 1, by omega⟩
    rw [f_X11_rainOn_b4, e2, if_pos (nI_le (by omega) (by omega)), show i = nr by omega]
  | succ m ih =>
    intro i q hi hq
    obtain ⟨q, rfl⟩ : ∃ r, q = r + 1 := ⟨q - 1, by omega⟩
    have e := ih (i + 1) q (by omega) (by omega)
    rw [f_X11_rainOn_b4, e2, if_neg (nI_ge (by omega) (by omega)), pu_ck (by omega) (by omega), pu_ck (by omega) (by omega), nI_clamp (by omega), c0, c1, f_X11_rainOn_b39, f_X11_rainOn_b39, nI_1]
    rw [pzRain] at e
    by_cases h : ra i 0 = D
    · rw [if_pos h] at e ⊢
      exact e
    · rw [if_neg h] at e ⊢
      rw [← pl0] at e
      exact e
theorem r_rain {to : Nat → Int32} {ra : Nat → Nat → Int32} {nr : Nat} {D : Int32} (hn : nr ≤ 12) (ht : to 2 = nI nr) : f_X11_rainOn to ra D = some (pzRain ra D nr) := by
  have e := r_rain_b (D := D) (ra := ra) hn ht nr 0 4000 (by omega) (by omega)
  rw [← pl0] at e
  exact e

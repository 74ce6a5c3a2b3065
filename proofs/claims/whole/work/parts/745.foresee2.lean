/-! days ahead, the glass: all of them -/
theorem p_fore0 {np hd : Nat} {i32 : Int32} {code : Nat → Int32} {fl ce ra : Nat → Int32} {d : Nat} {a3 a4 a5 a6 a7 i3 i4 i5 i6 i7 : Int32} {u0 u1 u2 rg fi de nm st : Nat → Int32} {x4 : Int32} {k11 : (Nat → Int32) → (Nat → Int32) → (Nat → Int32) → Int32 → Int32 → Int32 → Int32 → Int32 → (Nat → Int32) → (Nat → Int32) → (Nat → Int32) → Int32 → Int32 → Option ((Nat → Int32) × (Nat → Int32) × (Nat → Int32) × Int32 × Int32 × Int32 × Int32 × Int32 × (Nat → Int32) × (Nat → Int32) × (Nat → Int32))} (hn : np ≤ 5) (hd1 : 1 ≤ d) (hd2 : d ≤ 60) : ∀ (m i q : Nat) (wb : Nat → Int32), i + m = np → m < q → ∃ wb', f_X8_foresee_b63 a3 a4 a5 a6 a7 u0 u1 u2 (nI np) (nI hd) fl ce ra i32 code k11 q nm wb st i3 i4 i5 i6 i7 fi de rg x4 (nI d) 0 (nI i) = k11 nm wb' st i3 i4 i5 i6 i7 fi de rg x4 (nI (d + 1)) ∧ (∀ p, i ≤ p → p < np → wb' (61 * p + d) = wb (61 * p + d - 1)) ∧ (∀ t, (∀ p, i ≤ p → p < np → t ≠ 61 * p + d) → wb' t = wb t) := by
  intro m
  induction m with
  | zero =>
    intro i q wb hi hq
    obtain ⟨q, rfl⟩ : ∃ r, q = r + 1 := ⟨q - 1, by omega⟩
    refine ⟨wb, ?_, fun p h2 h3 => absurd h2 (by omega), fun t _ => rfl⟩
    rw [f_X8_foresee_b63, if_pos (nI_le (by omega) (by omega)), nI_1]
  | succ m ih =>
    intro i q wb hi hq
    obtain ⟨q, rfl⟩ : ∃ r, q = r + 1 := ⟨q - 1, by omega⟩
    obtain ⟨wb', b1, b5, b6⟩ := ih (i + 1) q (upd wb (61 * i + d) (wb (61 * i + d - 1))) (by omega) (by omega)
    refine ⟨wb', ?_, fun p h2 h3 => ?_, fun t h2 => ?_⟩
    · rw [f_X8_foresee_b63, if_neg (nI_ge (by omega) (by omega)), if_pos (show (0 : Int32) = 0 from rfl), f_X8_foresee_b115, pl61, pk_mul, nI_add, pl1, pk_sub (by omega), pu_ck (by omega) (by omega), pu_ck (by omega) (by omega), nI_clamp (by omega), nI_clamp (by omega), ← pl1, nI_1, show wb (61 * i + d - 1) + (0 : Int32) = wb (61 * i + d - 1) from Int32.add_zero _]
      exact b1
    · by_cases e : p = i
      · subst e
        rw [b6 _ (fun p2 h5 h6 => by omega), upd, if_pos rfl]
      · rw [b5 p (by omega) h3, upd, if_neg (by omega)]
    · rw [b6 t (fun p h5 h6 => h2 p (by omega) h6), upd, if_neg (h2 i (by omega) (by omega))]
abbrev DS : Type := (Nat → Nat) × (Nat → Nat) × Nat
/-- one day on -/
def dayS (np hd : Nat) (W H : Nat → Nat) (lv : (Nat → Int32) → Int32) (fl : Nat → Int32) (b : Nat) (rn : Nat → Nat) (s : DS) : DS :=
  if s.2.2 < 200 then (dpN (acN np W H lv (dp1 s.1 (rn (s.2.2 + 1))) s.2.1 fl b (nI (s.2.2 + 1)) (nI (rn (s.2.2 + 1)))) (dp1 s.1 (rn (s.2.2 + 1))) hd, fdN (acN np W H lv (dp1 s.1 (rn (s.2.2 + 1))) s.2.1 fl b (nI (s.2.2 + 1)) (nI (rn (s.2.2 + 1)))) (dp1 s.1 (rn (s.2.2 + 1))) s.2.1 hd (s.2.2 + 1), s.2.2 + 1) else s
def itS (np hd : Nat) (W H : Nat → Nat) (lv : (Nat → Int32) → Int32) (fl : Nat → Int32) (b : Nat) (rn : Nat → Nat) (s : DS) : Nat → DS
  | 0 => s
  | k + 1 => dayS np hd W H lv fl b rn (itS np hd W H lv fl b rn s k)
/-- washed on the day behind s, of pane p -/
def wsD (rn : Nat → Nat) (s : DS) (p : Nat) : Nat := if s.2.2 < 200 then wsP s.1 (rn (s.2.2 + 1)) p else 0
theorem wf_dayS {np hd : Nat} {W H : Nat → Nat} {lv : (Nat → Int32) → Int32} {fl : Nat → Int32} {b : Nat} {rn : Nat → Nat} {s : DS} (h1 : 1 ≤ hd) (h30 : hd ≤ 30) (h : wf np hd W H s.1 s.2.1 s.2.2) : wf np hd W H (dayS np hd W H lv fl b rn s).1 (dayS np hd W H lv fl b rn s).2.1 (dayS np hd W H lv fl b rn s).2.2 := by
  rw [dayS]
  by_cases h2 : s.2.2 < 200
  · rw [if_pos h2]
    exact wf_step h1 h30 h h2
  · rw [if_neg h2]
    exact h
theorem wf_itS {np hd : Nat} {W H : Nat → Nat} {lv : (Nat → Int32) → Int32} {fl : Nat → Int32} {b : Nat} {rn : Nat → Nat} {s : DS} (h1 : 1 ≤ hd) (h30 : hd ≤ 30) (h : wf np hd W H s.1 s.2.1 s.2.2) : ∀ k, wf np hd W H (itS np hd W H lv fl b rn s k).1 (itS np hd W H lv fl b rn s k).2.1 (itS np hd W H lv fl b rn s k).2.2 := by
  intro k
  induction k with
  | zero => exact h
  | succ k ih => exact wf_dayS h1 h30 ih
theorem wf_out {np hd : Nat} {W H : Nat → Nat} {dp fd : Nat → Nat} {dy : Nat} (h : wf np hd W H dp fd dy) {c : Nat} (hc : c < 80) (hn : 16 * np ≤ c) : dp c = 0 := by
  by_cases h0 : dp c = 0
  · exact h0
  · have := ((h.1 c hc).2 (by omega)).1
    omega
theorem p_foreAll {np hd : Nat} {W H : Nat → Nat} {l : CX3} {lv : (Nat → Int32) → Int32} {fl ce ra : Nat → Int32} {b days : Nat} {rn : Nat → Nat} {s0 : DS} {a3 a4 a5 a6 a7 i3 i5 i7 : Int32} {u0 u1 u2 rg : Nat → Int32} (hn : np ≤ 5) (hWH : ∀ p, p < np → W p ≤ 4 ∧ H p ≤ 4 ∧ ce p = nI (pzcb (W p) (H p))) (h1 : 1 ≤ hd) (h30 : hd ≤ 30) (hra : ∀ d, d ≤ 200 → rn d ≤ 108 ∧ ra d = nI (rn d)) (hb32 : b < 32) (hdays : days ≤ 60) (l1 : ∀ kn st, ∃ st', f_X3_valueFor l.1 l.2.1 st 8 kn = some (lv kn, st')) (l3 : ∀ kn kn', (∀ k, k < 8 → kn k = kn' k) → lv kn = lv kn') (hw0 : wf np hd W H s0.1 s0.2.1 s0.2.2) : ∀ (m d q : Nat) (nm wb st fi de : Nat → Int32), d + m = days + 1 → 1 ≤ d → m < q → (∀ c, c < 80 → de c = nI ((itS np hd W H lv fl b rn s0 (d - 1)).1 c) ∧ ∀ j, j < (itS np hd W H lv fl b rn s0 (d - 1)).1 c → fi (30 * c + j) = nI ((itS np hd W H lv fl b rn s0 (d - 1)).2.1 (30 * c + j))) → ∃ nm' wb' st' fi' de', f_X8_foresee_b11 a3 a4 a5 a6 a7 u0 u1 u2 (nI np) (nI hd) fl ce ra l.1 l.2.1 q nm wb st i3 (nI (itS np hd W H lv fl b rn s0 (d - 1)).2.2) i5 (nI b) i7 fi de rg (nI days) (nI d) = some (nm', wb', st', i3, nI (itS np hd W H lv fl b rn s0 days).2.2, i5, nI b, i7, fi', de', rg) ∧ (∀ c, c < 80 → de' c = nI ((itS np hd W H lv fl b rn s0 days).1 c) ∧ ∀ j, j < (itS np hd W H lv fl b rn s0 days).1 c → fi' (30 * c + j) = nI ((itS np hd W H lv fl b rn s0 days).2.1 (30 * c + j))) ∧ (∀ p k, p < np → d ≤ k → k ≤ days → wb' (61 * p + k) = wb' (61 * p + k - 1) + nI (wsD rn (itS np hd W H lv fl b rn s0 (k - 1)) p)) ∧ (∀ p k, p < 5 → k < d → wb' (61 * p + k) = wb (61 * p + k)) := by
  intro m
  induction m with
  | zero =>
    intro d q nm wb st fi de hi h2 hq hR
    obtain ⟨q, rfl⟩ : ∃ r, q = r + 1 := ⟨q - 1, by omega⟩
    rw [show d - 1 = days by omega] at hR ⊢
    refine ⟨nm, wb, st, fi, de, ?_, hR, fun p k h3 h4 h5 => absurd h4 (by omega), fun p k _ _ => rfl⟩
    rw [f_X8_foresee_b11, if_pos (nI_lt (by omega) (by omega))]
  | succ m ih =>
    intro d q nm wb st fi de hi h2 hq hR
    obtain ⟨q, rfl⟩ : ∃ r, q = r + 1 := ⟨q - 1, by omega⟩
    have hwd := wf_itS (lv := lv) (fl := fl) (b := b) (rn := rn) h1 h30 hw0 (d - 1)
    have hwd1 := wf_itS (lv := lv) (fl := fl) (b := b) (rn := rn) h1 h30 hw0 d
    have hsd : itS np hd W H lv fl b rn s0 d = dayS np hd W H lv fl b rn (itS np hd W H lv fl b rn s0 (d - 1)) := by
      obtain ⟨e, rfl⟩ : ∃ e, d = e + 1 := ⟨d - 1, by omega⟩
      rfl
    generalize hs : itS np hd W H lv fl b rn s0 (d - 1) = s at hR hwd hsd ⊢
    rw [f_X8_foresee_b11, if_neg (nI_nlt (by omega) (by omega)), f_X8_foresee_b36, f_X8_foresee_b36, f_X8_foresee_b56, f_X8_foresee_b56, f_X8_foresee_b56, f_X8_foresee_b56, if_pos (show (0 : Int32) = 0 from rfl), if_neg (show ¬ ((1 : Int32) = 0) by decide)]
    by_cases hps : s.2.2 < 200
    · obtain ⟨rr1, rr2⟩ := hra (s.2.2 + 1) (by omega)
      have edS : dayS np hd W H lv fl b rn s = (dpN (acN np W H lv (dp1 s.1 (rn (s.2.2 + 1))) s.2.1 fl b (nI (s.2.2 + 1)) (nI (rn (s.2.2 + 1)))) (dp1 s.1 (rn (s.2.2 + 1))) hd, fdN (acN np W H lv (dp1 s.1 (rn (s.2.2 + 1))) s.2.1 fl b (nI (s.2.2 + 1)) (nI (rn (s.2.2 + 1)))) (dp1 s.1 (rn (s.2.2 + 1))) s.2.1 hd (s.2.2 + 1), s.2.2 + 1) := by
        rw [dayS, if_pos hps]
      obtain ⟨nm1, wb1, st1, fi1, de1, b1, b2, b3, b4, b5, b6⟩ := p_fore1 (np := np) (hd := hd) (W := W) (H := H) (l := l) (lv := lv) (fl := fl) (ce := ce) (ra := ra) (dp := s.1) (fd := s.2.1) (b := b) (dn := s.2.2 + 1) (r := rn (s.2.2 + 1)) (d := d) (a3 := a3) (a4 := a4) (a5 := a5) (a6 := a6) (a7 := a7) (i3 := i3) (i5 := i5) (i7 := i7) (u0 := u0) (u1 := u1) (u2 := u2) (rg := rg) (x4 := nI days) (k11 := f_X8_foresee_b11 a3 a4 a5 a6 a7 u0 u1 u2 (nI np) (nI hd) fl ce ra l.1 l.2.1 q) hn hWH h1 h30 (by omega) rr1 rr2 hb32 h2 (by omega) l1 l3 np 0 4000 nm wb st fi de (by omega) (by omega) (fun c _ hc => ⟨(hR c (by omega)).1, (hwd.1 c (by omega)).1, (hR c (by omega)).2⟩)
      rw [← pl0] at b1
      rw [pl200, if_neg (nI_ge hps (by omega)), nI_1, b1, show nI (s.2.2 + 1) = nI (itS np hd W H lv fl b rn s0 d).2.2 by rw [hsd, edS]]
      have hR1 : ∀ c, c < 80 → de1 c = nI ((itS np hd W H lv fl b rn s0 d).1 c) ∧ ∀ j, j < (itS np hd W H lv fl b rn s0 d).1 c → fi1 (30 * c + j) = nI ((itS np hd W H lv fl b rn s0 d).2.1 (30 * c + j)) := by
        intro c hc
        by_cases hcn : c < 16 * np
        · have := b2 c (by omega) hcn
          rw [hsd, edS]
          exact this
        · have h00 := wf_out hwd1 hc (by omega)
          have h01 := wf_out hwd hc (by omega)
          rw [h00]
          refine ⟨?_, fun j hj => absurd hj (by omega)⟩
          rw [b3 c (by omega), (hR c hc).1, h01]
      obtain ⟨nm', wb', st', fi', de', c1, c2, c3, c4⟩ := ih (d + 1) q nm1 wb1 st1 fi1 de1 (by omega) (by omega) (by omega) hR1
      refine ⟨nm', wb', st', fi', de', c1, c2, fun p k h3 h4 h5 => ?_, fun p k h3 h4 => ?_⟩
      · by_cases e : k = d
        · subst e
          rw [c4 p k (by omega) (by omega), b5 p (by omega) h3, hs, wsD, if_pos hps]
          obtain ⟨e, rfl⟩ : ∃ e, k = e + 1 := ⟨k - 1, by omega⟩
          rw [show 61 * p + (e + 1) - 1 = 61 * p + e by omega, c4 p e (by omega) (by omega), b6 _ (fun p2 h6 h7 => by omega)]
        · exact c3 p k h3 (by omega) h5
      · rw [c4 p k h3 (by omega), b6 _ (fun p2 h6 h7 => by omega)]
    · have edS : dayS np hd W H lv fl b rn s = s := by rw [dayS, if_neg hps]
      obtain ⟨wb1, b1, b5, b6⟩ := p_fore0 (np := np) (hd := hd) (i32 := l.1) (code := l.2.1) (fl := fl) (ce := ce) (ra := ra) (d := d) (a3 := a3) (a4 := a4) (a5 := a5) (a6 := a6) (a7 := a7) (i3 := i3) (i4 := nI s.2.2) (i5 := i5) (i6 := nI b) (i7 := i7) (u0 := u0) (u1 := u1) (u2 := u2) (rg := rg) (fi := fi) (de := de) (nm := nm) (st := st) (x4 := nI days) (k11 := f_X8_foresee_b11 a3 a4 a5 a6 a7 u0 u1 u2 (nI np) (nI hd) fl ce ra l.1 l.2.1 q) hn h2 (by omega) np 0 4000 wb (by omega) (by omega)
      rw [← pl0] at b1
      have hs200 : s.2.2 ≤ 200 := hwd.2.2
      rw [pl200, if_pos (nI_le (by omega) (by omega)), show nI s.2.2 + (0 : Int32) = nI s.2.2 from Int32.add_zero _, b1, show nI s.2.2 = nI (itS np hd W H lv fl b rn s0 d).2.2 by rw [hsd, edS]]
      obtain ⟨nm', wb', st', fi', de', c1, c2, c3, c4⟩ := ih (d + 1) q nm wb1 st fi de (by omega) (by omega) (by omega) (by rw [show d + 1 - 1 = d by omega, hsd, edS]; exact hR)
      refine ⟨nm', wb', st', fi', de', c1, c2, fun p k h3 h4 h5 => ?_, fun p k h3 h4 => ?_⟩
      · by_cases e : k = d
        · subst e
          rw [c4 p k (by omega) (by omega), b5 p (by omega) h3, hs, wsD, if_neg hps, ← pl0, Int32.add_zero]
          obtain ⟨e, rfl⟩ : ∃ e, k = e + 1 := ⟨k - 1, by omega⟩
          rw [show 61 * p + (e + 1) - 1 = 61 * p + e by omega, c4 p e (by omega) (by omega), b6 _ (fun p2 h6 h7 => by omega)]
        · exact c3 p k h3 (by omega) h5
      · rw [c4 p k h3 (by omega), b6 _ (fun p2 h6 h7 => by omega)]

/-! work: reading its steps -/
abbrev AS : Type := (Nat → Int32) × (Nat → Int32) × (Nat → Int32) × (Nat → Int32) × (Nat → Int32) × (Nat → Int32) × (Nat → Int32)
abbrev WCF : Type := Int32 → (Nat → Int32) → (Nat → Int32) → (Nat → Int32) → (Nat → Int32) → (Nat → Int32) → (Nat → Int32) → (Nat → Int32) → Int32 → Int32 → Int32 → Int32 → Int32 → Int32 → Int32 → (Nat → Int32) → Int32 → (Nat → Int32) → (Nat → Int32) → Int32 → Option (Int32 × (Nat → Int32) × (Nat → Int32) × (Nat → Int32) × (Nat → Int32) × (Nat → Int32) × (Nat → Int32) × (Nat → Int32) × Int32 × Int32 × Int32 × Int32 × Int32 × Int32)
theorem WKd.cg {np : Nat} {W H : Nat → Nat} {v0 v1 v2 v3 v4 v5 w0 w1 w2 w3 w4 w5 : Nat → Int32} {g g' : Nat → Nat → Int32} {i : Nat} (h : WKd np W H v0 v1 v2 v3 v4 v5 g i) (e0 : w0 i = v0 i) (e1 : w1 i = v1 i) (e2 : w2 i = v2 i) (e3 : w3 i = v3 i) (e4 : w4 i = v4 i) (e5 : w5 i = v5 i) (eg : ∀ j, j < 6 → g' i j = g i j) : WKd np W H w0 w1 w2 w3 w4 w5 g' i := by
  rw [WKd, e0, e1, e2, e3, e4, e5, eg 0 (by omega), eg 1 (by omega), eg 2 (by omega), eg 3 (by omega), eg 4 (by omega), eg 5 (by omega)]
  exact h
theorem WFo.rf {v0 v6 : Nat → Int32} (m d a : Nat) : WFo v0 v6 m d a a := by
  cases m with
  | zero => rfl
  | succ m => exact .inl rfl
def WrY (n : Nat) (B : Nat → Nat) (np : Nat) (W H : Nat → Nat) (d f k : Nat) (A : AS) (g : Nat → Nat → Int32) (kk f' : Nat) (A' : AS) (s' : TS) (r' : TQ) (g' : Nat → Nat → Int32) : Prop :=
  TR0 n B f' s' r' ∧ f ≤ f' ∧ 4 * kk + f ≤ 4 * k + f' ∧ k ≤ kk ∧ (∀ i, i < k → (A'.1 i = A.1 i ∧ A'.2.1 i = A.2.1 i ∧ A'.2.2.1 i = A.2.2.1 i ∧ A'.2.2.2.1 i = A.2.2.2.1 i ∧ A'.2.2.2.2.1 i = A.2.2.2.2.1 i ∧ A'.2.2.2.2.2.1 i = A.2.2.2.2.2.1 i ∧ A'.2.2.2.2.2.2 i = A.2.2.2.2.2.2 i) ∧ ∀ j, g' i j = g i j) ∧ (∃ m, WFo A'.1 A'.2.2.2.2.2.2 m d k kk) ∧ (∀ i, k ≤ i → i < kk → WKd np W H A'.1 A'.2.1 A'.2.2.1 A'.2.2.2.1 A'.2.2.2.2.1 A'.2.2.2.2.2.1 g' i ∧ A'.2.2.2.2.2.2 i = g' i 6)
theorem WrY.comp {n : Nat} {B : Nat → Nat} {np : Nat} {W H : Nat → Nat} {d f k k1 f1 kk f' : Nat} {A A1 A' : AS} {g g1 g' : Nat → Nat → Int32} {s1 s' : TS} {r1 r' : TQ} (h1 : WrY n B np W H d f k A g k1 f1 A1 s1 r1 g1) (h2 : WrY n B np W H d f1 k1 A1 g1 kk f' A' s' r' g') : WrY n B np W H d f k A g kk f' A' s' r' g' := by
  obtain ⟨a1, a2, a3, a4, a5, ⟨m1, a6⟩, a7⟩ := h1
  obtain ⟨b1, b2, b3, b4, b5, ⟨m2, b6⟩, b7⟩ := h2
  refine ⟨b1, by omega, by omega, by omega, fun i hi => ?_, ⟨m1 + m2, WFo.app b6 m1 k (WFo.cg m1 d k k1 (fun i i1 i2 => ⟨(b5 i i2).1.1, (b5 i i2).1.2.2.2.2.2.2⟩) a6)⟩, fun i i1 i2 => ?_⟩
  · obtain ⟨⟨c0, c1, c2, c3, c4, c5, c6⟩, cg⟩ := a5 i hi
    obtain ⟨⟨d0, d1, d2, d3, d4, d5, d6⟩, dg⟩ := b5 i (by omega)
    exact ⟨⟨d0.trans c0, d1.trans c1, d2.trans c2, d3.trans c3, d4.trans c4, d5.trans c5, d6.trans c6⟩, fun j => (dg j).trans (cg j)⟩
  · by_cases e : i < k1
    · obtain ⟨c1, c2⟩ := a7 i i1 e
      obtain ⟨⟨d0, d1, d2, d3, d4, d5, d6⟩, dg⟩ := b5 i e
      exact ⟨c1.cg d0 d1 d2 d3 d4 d5 (fun j _ => dg j), by rw [d6, c2, dg 6]⟩
    · exact b7 i (by omega) i2
def WrOK (n : Nat) (B : Nat → Nat) (v fe : Nat → Int32) (np : Nat) (W H : Nat → Nat) (w hh to : Nat → Int32) (pa : Nat → Nat → Int32) (F : WCF) (F' : WRF) (d : Nat) : Prop :=
  (∀ (f k : Nat) (A : AS) (s : TS) (r : TQ) (g : Nat → Nat → Int32), TR0 n B f s r → f < tW n B f → 4 * k ≤ f → ∃ k' A' s1 s' r' op' cnt' g', F (nI k) A.1 A.2.1 A.2.2.1 A.2.2.2.1 A.2.2.2.2.1 A.2.2.2.2.2.1 A.2.2.2.2.2.2 (nI n) s.1 s.2.1 s.2.2.1 s.2.2.2.1 s.2.2.2.2.1 s.2.2.2.2.2 v (nI np) w hh (nI d) = some (k', A'.1, A'.2.1, A'.2.2.1, A'.2.2.2.1, A'.2.2.2.2.1, A'.2.2.2.2.2.1, A'.2.2.2.2.2.2, s1) ∧ f_X7_takeSign (nI n) s1.1 s1.2.1 s1.2.2.1 s1.2.2.2.1 s1.2.2.2.2.1 s1.2.2.2.2.2 v 59 = some s' ∧ F' (nI n) r.1 r.2.1 r.2.2 (nI d) (nI k) fe to pa g = some (r'.1, r'.2.1, r'.2.2, op', cnt', g') ∧ ((∃ kk f', k' = nI kk ∧ cnt' = nI kk ∧ op' = nI d ∧ f + 4 ≤ f' ∧ WrY n B np W H d f k A g kk f' A' s' r' g') ∨ TRf n s' r')) ∧
  (∀ (f : Nat) (s : TS) (r : TQ) (op cnt : Int32) (g : Nat → Nat → Int32), TR0 n B f s r → ¬ f < tW n B f → F' (nI n) r.1 r.2.1 r.2.2 op cnt fe to pa g = some (nI f, 1, nI f, op, cnt, g))
theorem ch59 : (59 : Int32) = nI 59 := rfl
theorem t_signN {n : Nat} {B : Nat → Nat} {v fe : Nat → Int32} (hT : Tp n B v fe) {f : Nat} {s : TS} {r : TQ} (h : TR0 n B f s r) {c : Nat} {c' : Int32} (hc' : c' = nI c) (hc : sgC c) (e : ¬ (f < n ∧ B f = c)) : f_X7_takeSign (nI n) s.1 s.2.1 s.2.2.1 s.2.2.2.1 s.2.2.2.2.1 s.2.2.2.2.2 v c' = some (4, nI f, s.2.2.1, s.2.2.2.1, 1, nI f) := by
  have e2 : s.2.1 = nI f := by rw [h.2.1]
  rw [f_X7_takeSign, t_isSign0 hT h hc' hc e, Option.bind_some, if_pos rfl, f_X7_wrong, if_pos h.ft.1, Option.bind_some, e2]
theorem wrf_b3 {n np : Nat} {v w hh : Nat → Int32} {F : WCF} {q : Nat} {s : TS} {r : TQ} (hF : TRf n s r) (k' : Int32) (A : AS) (d i : Int32) : f_X9_readSteps_b3 F (nI n) v (nI np) w hh (q + 1) k' A.1 A.2.1 A.2.2.1 A.2.2.2.1 A.2.2.2.2.1 A.2.2.2.2.2.1 A.2.2.2.2.2.2 s.1 s.2.1 s.2.2.1 s.2.2.2.1 s.2.2.2.2.1 s.2.2.2.2.2 d i = some (k', A.1, A.2.1, A.2.2.1, A.2.2.2.1, A.2.2.2.2.1, A.2.2.2.2.2.1, A.2.2.2.2.2.2, s) := by
  obtain ⟨x1, x2, x3, y, pl, a, hy, ha, rfl, rfl⟩ := hF
  rw [f_X9_readSteps_b3, if_neg (show ¬ (4 : Int32) = 2 by decide)]
  by_cases e : 50 ≤ i
  · rw [if_pos e]
  · rw [if_neg e]
theorem wrn_b3 {n np : Nat} {B : Nat → Nat} {v w hh : Nat → Int32} {F : WCF} {q f : Nat} {s : TS} {r : TQ} (h : TR0 n B f s r) (e : ¬ f < tW n B f) (k' : Int32) (A : AS) (d i : Int32) : f_X9_readSteps_b3 F (nI n) v (nI np) w hh (q + 1) k' A.1 A.2.1 A.2.2.1 A.2.2.2.1 A.2.2.2.2.1 A.2.2.2.2.2.1 A.2.2.2.2.2.2 s.1 s.2.1 s.2.2.1 s.2.2.2.1 s.2.2.2.2.1 s.2.2.2.2.2 d i = some (k', A.1, A.2.1, A.2.2.1, A.2.2.2.1, A.2.2.2.2.1, A.2.2.2.2.2.1, A.2.2.2.2.2.2, s) := by
  have hs1 : s.1 = nI (tK n B f) := by rw [h.2.1]
  have hkl := tK_lt n B f
  rw [f_X9_readSteps_b3, if_neg (show ¬ s.1 = 2 by rw [hs1, pl2, nI_eq (by omega) (by omega), tK_2 h.1]; exact e)]
  by_cases e : 50 ≤ i
  · rw [if_pos e]
  · rw [if_neg e]
theorem wrf_208 {n : Nat} {v fe to : Nat → Int32} {pa : Nat → Nat → Int32} {F : WRF} {q : Nat} {s : TS} {r : TQ} (hF : TRf n s r) (op cnt y2 : Int32) (g : Nat → Nat → Int32) : f_X11_readsStep_b208 F (nI n) fe to pa (q + 1) r.1 r.2.1 r.2.2 op cnt g y2 = f_X11_readsStep_b255 F (nI n) fe to pa r.1 r.2.1 r.2.2 (op - 1) cnt g y2 := by
  have hne := hF.ne
  rw [f_X11_readsStep_b208, if_neg hne, f_X11_readsStep_b239, tf_rsign hne, Option.bind_some]
theorem TRf.bl {n : Nat} {B : Nat → Nat} {v fe : Nat → Int32} (hT : Tp n B v fe) {s : TS} {r : TQ} (hF : TRf n s r) : ∃ a, f_X11_blanks (nI n) r.1 fe = some a ∧ TRf n s (a, r.2.1, r.2.2) := by
  obtain ⟨x1, x2, x3, y, pl, a, hy, ha, rfl, rfl⟩ := hF
  exact ⟨nI (tF n B a), r_blanks hT ha, x1, x2, x3, y, pl, tF n B a, hy, tF_le B ha, rfl, rfl⟩
/-- the steps within an again -/
theorem wr_in {n : Nat} {B : Nat → Nat} {v fe : Nat → Int32} (hT : Tp n B v fe) (hn : n ≤ 200) {np : Nat} {W H : Nat → Nat} {w hh to : Nat → Int32} {pa : Nat → Nat → Int32} {F : WCF} {F' : WRF} {d : Nat} (hW : WrOK n B v fe np W H w hh to pa F F' d) (y2 : Int32) : ∀ (m i q1 q2 f k : Nat) (A : AS) (s : TS) (g : Nat → Nat → Int32), n ≤ f + m → m + 1 < q1 → m + 1 < q2 → 4 * i ≤ f → 4 * k ≤ f → TR0 n B f s (nI f, 0, -1) →
    ∃ k' A' s1 s' r' op' cnt' g', f_X9_readSteps_b3 F (nI n) v (nI np) w hh q1 (nI k) A.1 A.2.1 A.2.2.1 A.2.2.2.1 A.2.2.2.2.1 A.2.2.2.2.2.1 A.2.2.2.2.2.2 s.1 s.2.1 s.2.2.1 s.2.2.2.1 s.2.2.2.2.1 s.2.2.2.2.2 (nI d) (nI i) = some (k', A'.1, A'.2.1, A'.2.2.1, A'.2.2.2.1, A'.2.2.2.2.1, A'.2.2.2.2.2.1, A'.2.2.2.2.2.2, s1) ∧ f_X7_takeSign (nI n) s1.1 s1.2.1 s1.2.2.1 s1.2.2.2.1 s1.2.2.2.2.1 s1.2.2.2.2.2 v 93 = some s' ∧ f_X11_readsStep_b208 F' (nI n) fe to pa q2 (nI f) 0 (-1) (nI d) (nI k) g y2 = f_X11_readsStep_b255 F' (nI n) fe to pa r'.1 r'.2.1 r'.2.2 (op' - 1) cnt' g' y2 ∧ ((∃ kk f', k' = nI kk ∧ cnt' = nI kk ∧ op' = nI d ∧ WrY n B np W H d f k A g kk f' A' s' r' g') ∨ TRf n s' r') := by
  have hn6 := hT.1
  have hno : ∀ (i q1 q2 f k : Nat) (A : AS) (s : TS) (g : Nat → Nat → Int32), TR0 n B f s (nI f, 0, -1) → ¬ f < tW n B f → ∃ k' A' s1 s' r' op' cnt' g', f_X9_readSteps_b3 F (nI n) v (nI np) w hh (q1 + 2) (nI k) A.1 A.2.1 A.2.2.1 A.2.2.2.1 A.2.2.2.2.1 A.2.2.2.2.2.1 A.2.2.2.2.2.2 s.1 s.2.1 s.2.2.1 s.2.2.2.1 s.2.2.2.2.1 s.2.2.2.2.2 (nI d) (nI i) = some (k', A'.1, A'.2.1, A'.2.2.1, A'.2.2.2.1, A'.2.2.2.2.1, A'.2.2.2.2.2.1, A'.2.2.2.2.2.2, s1) ∧ f_X7_takeSign (nI n) s1.1 s1.2.1 s1.2.2.1 s1.2.2.2.1 s1.2.2.2.2.1 s1.2.2.2.2.2 v 93 = some s' ∧ f_X11_readsStep_b208 F' (nI n) fe to pa (q2 + 2) (nI f) 0 (-1) (nI d) (nI k) g y2 = f_X11_readsStep_b255 F' (nI n) fe to pa r'.1 r'.2.1 r'.2.2 (op' - 1) cnt' g' y2 ∧ ((∃ kk f', k' = nI kk ∧ cnt' = nI kk ∧ op' = nI d ∧ WrY n B np W H d f k A g kk f' A' s' r' g') ∨ TRf n s' r') := by
    intro i q1 q2 f k A s g h e
    have hf := h.1
    by_cases e93 : f < n ∧ B f = 93
    · obtain ⟨s', r', a1, a2, a3⟩ := t_sign hT h ch93 sg93
      rcases a3 with ⟨-, -, a3⟩ | ⟨a3, -⟩
      · have hge := tF_ge n B (f + 1)
        refine ⟨nI k, A, s, s', r', nI d, nI k, g, wrn_b3 h e (nI k) A (nI d) (nI i), a1, ?_, .inl ⟨k, _, rfl, rfl, rfl, a3, by omega, by omega, Nat.le_refl k, fun i hi => ⟨⟨rfl, rfl, rfl, rfl, rfl, rfl, rfl⟩, fun j => rfl⟩, ⟨0, rfl⟩, fun i i1 i2 => by omega⟩⟩
        rw [f_X11_readsStep_b208, if_pos rfl, r_by hT (show f < 2 ^ 31 by omega), Option.bind_some, if_pos (show byI n B f = 93 by rw [ch93, byI_eq hT (by omega)]; exact e93), f_X11_readsStep_b239]
        rw [show f_X11_sign (nI n) (nI f) 0 (-1) fe 93 = some r' from a2, Option.bind_some]
      · exact absurd e93 a3
    · refine ⟨nI k, A, s, _, (nI f, 1, nI f), nI d, nI k, g, wrn_b3 h e (nI k) A (nI d) (nI i), t_signN hT h ch93 sg93 e93, ?_, .inr ⟨nI f, s.2.2.1, s.2.2.2.1, 1, nI f, f, by decide, hf, rfl, rfl⟩⟩
      rw [f_X11_readsStep_b208, if_pos rfl, r_by hT (show f < 2 ^ 31 by omega), Option.bind_some, if_neg (show ¬ byI n B f = 93 by rw [ch93, byI_eq hT (by omega)]; exact e93)]
      rw [show F' (nI n) (nI f) 0 (-1) (nI d) (nI k) fe to pa g = _ from hW.2 f s (nI f, 0, -1) (nI d) (nI k) g h e, Option.bind_some]
      have hbl := TR0.bl hT h
      rw [show f_X11_blanks (nI n) (nI f) fe = some (nI f) from hbl, Option.bind_some]
      exact wrf_208 (v := v) (s := (4, nI f, s.2.2.1, s.2.2.2.1, 1, nI f)) (r := (nI f, 1, nI f)) ⟨nI f, s.2.2.1, s.2.2.2.1, 1, nI f, f, by decide, hf, rfl, rfl⟩ (nI d) (nI k) y2 g
  intro m
  induction m with
  | zero =>
    intro i q1 q2 f k A s g hm h1 h2 hi hk h
    obtain ⟨q1, rfl⟩ : ∃ r, q1 = r + 2 := ⟨q1 - 2, by omega⟩
    obtain ⟨q2, rfl⟩ : ∃ r, q2 = r + 2 := ⟨q2 - 2, by omega⟩
    have hf := h.1
    have := tW_le B hf
    exact hno i q1 q2 f k A s g h (by omega)
  | succ m ih =>
    intro i q1 q2 f k A s g hm h1 h2 hi hk h
    obtain ⟨q1, rfl⟩ : ∃ r, q1 = r + 2 := ⟨q1 - 2, by omega⟩
    obtain ⟨q2, rfl⟩ : ∃ r, q2 = r + 2 := ⟨q2 - 2, by omega⟩
    have hf := h.1
    have hwn := tW_le B hf
    by_cases e : f < tW n B f
    · have hs1 : s.1 = 2 := by
        rw [h.2.1]
        show nI (tK n B f) = 2
        rw [(tK_2 hf).2 e]
        rfl
      have hB := tW_in (n := n) (B := B) (Nat.le_refl f) e
      have hb : ¬ byI n B f = 93 := by
        rw [ch93, byI_eq hT (by omega)]
        omega
      obtain ⟨k', A', s1, s', r', op', cnt', g', a1, a2, a3, a4⟩ := hW.1 f k A s (nI f, 0, -1) g h e hk
      have hC : f_X9_readSteps_b3 F (nI n) v (nI np) w hh (q1 + 2) (nI k) A.1 A.2.1 A.2.2.1 A.2.2.2.1 A.2.2.2.2.1 A.2.2.2.2.2.1 A.2.2.2.2.2.2 s.1 s.2.1 s.2.2.1 s.2.2.2.1 s.2.2.2.2.1 s.2.2.2.2.2 (nI d) (nI i) = f_X9_readSteps_b3 F (nI n) v (nI np) w hh (q1 + 1) k' A'.1 A'.2.1 A'.2.2.1 A'.2.2.2.1 A'.2.2.2.2.1 A'.2.2.2.2.2.1 A'.2.2.2.2.2.2 s'.1 s'.2.1 s'.2.2.1 s'.2.2.2.1 s'.2.2.2.2.1 s'.2.2.2.2.2 (nI d) (nI (i + 1)) := by
        rw [f_X9_readSteps_b3, if_neg (show ¬ 50 ≤ nI i from nI_ge (b := 50) (by omega) (by omega)), if_pos hs1, a1, Option.bind_some, a2, Option.bind_some, nI_1]
      have hR : f_X11_readsStep_b208 F' (nI n) fe to pa (q2 + 2) (nI f) 0 (-1) (nI d) (nI k) g y2 = (f_X11_blanks (nI n) r'.1 fe).bind fun q233 => f_X11_readsStep_b208 F' (nI n) fe to pa (q2 + 1) q233 r'.2.1 r'.2.2 op' cnt' g' y2 := by
        rw [f_X11_readsStep_b208, if_pos rfl, r_by hT (show f < 2 ^ 31 by omega), Option.bind_some, if_neg hb]
        rw [show F' (nI n) (nI f) 0 (-1) (nI d) (nI k) fe to pa g = _ from a3, Option.bind_some]
      rcases a4 with ⟨kk, f', rfl, rfl, rfl, h4, hy⟩ | hF
      · have hy3 := hy.2.2.1
        obtain ⟨k2, A2, s2, s3, r3, op3, cnt3, g3, b1, b2, b3, b4⟩ := ih (i + 1) (q1 + 1) (q2 + 1) f' kk A' s' g' (by omega) (by omega) (by omega) (by omega) (by omega) hy.1.at
        refine ⟨k2, A2, s2, s3, r3, op3, cnt3, g3, hC.trans b1, b2, ?_, ?_⟩
        · rw [hR, TR0.bl hT hy.1, Option.bind_some, hy.1.ft.2.2.1, hy.1.ft.2.2.2]
          exact b3
        · rcases b4 with ⟨kk2, f2, rfl, rfl, rfl, hy2⟩ | b4
          · exact .inl ⟨kk2, f2, rfl, rfl, rfl, WrY.comp hy hy2⟩
          · exact .inr b4
      · obtain ⟨a, c1, c2⟩ := hF.bl hT
        refine ⟨k', A', s', s', (a, r'.2.1, r'.2.2), op', cnt', g', hC.trans (wrf_b3 hF k' A' (nI d) (nI (i + 1))), ?_, ?_, .inr c2⟩
        · obtain ⟨x1, x2, x3, y, pl, a, hy, ha, rfl, rfl⟩ := hF
          exact tf_sign hy
        · rw [hR, c1, Option.bind_some]
          exact wrf_208 (v := v) c2 op' cnt' y2 g'
    · exact hno i q1 q2 f k A s g h e
theorem six15 : f_X11_six 23 9 16 5 0 0 = some (nI (hvw (wCh 15) (wL 15))) := by decide +kernel
theorem six16 : f_X11_six 3 5 12 12 0 0 = some (nI (hvw (wCh 16) (wL 16))) := by decide +kernel
theorem six17 : f_X11_six 3 9 18 3 12 5 = some (nI (hvw (wCh 17) (wL 17))) := by decide +kernel
theorem six18 : f_X11_six 4 1 25 0 0 0 = some (nI (hvw (wCh 18) (wL 18))) := by decide +kernel
theorem six19 : f_X11_six 18 9 14 19 5 0 = some (nI (hvw (wCh 19) (wL 19))) := by decide +kernel
theorem six20 : f_X11_six 2 18 5 1 11 0 = some (nI (hvw (wCh 20) (wL 20))) := by decide +kernel
theorem six21 : f_X11_six 1 7 1 9 14 0 = some (nI (hvw (wCh 21) (wL 21))) := by decide +kernel
theorem t_stepK {n : Nat} {B : Nat → Nat} {v fe : Nat → Int32} (hT : Tp n B v fe) {f : Nat} {s : TS} {r : TQ} (h : TR0 n B f s r) :
    ∃ c : Int32, f_X9_kindOf s.1 s.2.1 s.2.2.1 v = some c ∧ f_X11_stepHere (nI n) r.1 r.2.1 fe = some (c, nI f) ∧ ((∃ j, j < 7 ∧ c = nI j ∧ IsW n B f (15 + j)) ∨ c = -1) := by
  have z : r.2.1 = 0 := h.ft.2.2.1
  rw [f_X9_kindOf, f_X11_stepHere]
  rcases t_word hT h (s := 15) (by omega) six15 with ⟨i0, c0, k0⟩ | ⟨i0, c0, k0⟩
  · rw [c0, k0, Option.bind_some, Option.bind_some, if_neg n1z, if_neg n1z]
    exact ⟨0, rfl, rfl, .inl ⟨0, by omega, rfl, i0⟩⟩
  · rw [c0, k0, Option.bind_some, Option.bind_some, if_pos rfl, if_pos rfl, z]
    rcases t_word hT h.at (s := 16) (by omega) six16 with ⟨i1, c1, k1⟩ | ⟨i1, c1, k1⟩
    · rw [c1, show f_X11_isWord (nI n) (nI f) 0 fe 3 5 12 12 0 0 = _ from k1, Option.bind_some, Option.bind_some, if_neg n1z, if_neg n1z]
      exact ⟨1, rfl, rfl, .inl ⟨1, by omega, rfl, i1⟩⟩
    · rw [c1, show f_X11_isWord (nI n) (nI f) 0 fe 3 5 12 12 0 0 = _ from k1, Option.bind_some, Option.bind_some, if_pos rfl, if_pos rfl]
      rcases t_word hT h.at (s := 17) (by omega) six17 with ⟨i2, c2, k2⟩ | ⟨i2, c2, k2⟩
      · rw [c2, show f_X11_isWord (nI n) (nI f) 0 fe 3 9 18 3 12 5 = _ from k2, Option.bind_some, Option.bind_some, if_neg n1z, if_neg n1z]
        exact ⟨2, rfl, rfl, .inl ⟨2, by omega, rfl, i2⟩⟩
      · rw [c2, show f_X11_isWord (nI n) (nI f) 0 fe 3 9 18 3 12 5 = _ from k2, Option.bind_some, Option.bind_some, if_pos rfl, if_pos rfl]
        rcases t_word hT h.at (s := 18) (by omega) six18 with ⟨i3, c3, k3⟩ | ⟨i3, c3, k3⟩
        · rw [c3, show f_X11_isWord (nI n) (nI f) 0 fe 4 1 25 0 0 0 = _ from k3, Option.bind_some, Option.bind_some, if_neg n1z, if_neg n1z]
          exact ⟨3, rfl, rfl, .inl ⟨3, by omega, rfl, i3⟩⟩
        · rw [c3, show f_X11_isWord (nI n) (nI f) 0 fe 4 1 25 0 0 0 = _ from k3, Option.bind_some, Option.bind_some, if_pos rfl, if_pos rfl]
          rcases t_word hT h.at (s := 19) (by omega) six19 with ⟨i4, c4, k4⟩ | ⟨i4, c4, k4⟩
          · rw [c4, show f_X11_isWord (nI n) (nI f) 0 fe 18 9 14 19 5 0 = _ from k4, Option.bind_some, Option.bind_some, if_neg n1z, if_neg n1z]
            exact ⟨4, rfl, rfl, .inl ⟨4, by omega, rfl, i4⟩⟩
          · rw [c4, show f_X11_isWord (nI n) (nI f) 0 fe 18 9 14 19 5 0 = _ from k4, Option.bind_some, Option.bind_some, if_pos rfl, if_pos rfl]
            rcases t_word hT h.at (s := 20) (by omega) six20 with ⟨i5, c5, k5⟩ | ⟨i5, c5, k5⟩
            · rw [c5, show f_X11_isWord (nI n) (nI f) 0 fe 2 18 5 1 11 0 = _ from k5, Option.bind_some, Option.bind_some, if_neg n1z, if_neg n1z]
              exact ⟨5, rfl, rfl, .inl ⟨5, by omega, rfl, i5⟩⟩
            · rw [c5, show f_X11_isWord (nI n) (nI f) 0 fe 2 18 5 1 11 0 = _ from k5, Option.bind_some, Option.bind_some, if_pos rfl, if_pos rfl]
              rcases t_word hT h.at (s := 21) (by omega) six21 with ⟨i6, c6, k6⟩ | ⟨i6, c6, k6⟩
              · rw [c6, show f_X11_isWord (nI n) (nI f) 0 fe 1 7 1 9 14 0 = _ from k6, Option.bind_some, Option.bind_some, if_neg n1z, if_neg n1z]
                exact ⟨6, rfl, rfl, .inl ⟨6, by omega, rfl, i6⟩⟩
              · rw [c6, show f_X11_isWord (nI n) (nI f) 0 fe 1 7 1 9 14 0 = _ from k6, Option.bind_some, Option.bind_some, if_pos rfl, if_pos rfl]
                exact ⟨-1, rfl, rfl, .inr rfl⟩

/-! work: doing the steps -/
def WFo (v0 v6 : Nat → Int32) : Nat → Nat → Nat → Nat → Prop
  | 0, _, a, b => a = b
  | m + 1, d, a, b => a = b ∨ ∃ c, a < c ∧ c ≤ b ∧ v6 a = nI c ∧ ((¬ v0 a = nI 6 ∧ c = a + 1) ∨ (v0 a = nI 6 ∧ d < 6 ∧ WFo v0 v6 m (d + 1) (a + 1) c)) ∧ WFo v0 v6 m d c b
theorem WFo.le {v0 v6 : Nat → Int32} : ∀ m d a b, WFo v0 v6 m d a b → a ≤ b := by
  intro m
  induction m with
  | zero =>
    intro d a b h
    rw [WFo] at h
    omega
  | succ m ih =>
    intro d a b h
    rw [WFo] at h
    rcases h with h | ⟨c, h1, h2, -, -, h5⟩
    · omega
    · omega
theorem WFo.cg {v0 v6 w0 w6 : Nat → Int32} : ∀ m d a b, (∀ i, a ≤ i → i < b → w0 i = v0 i ∧ w6 i = v6 i) → WFo v0 v6 m d a b → WFo w0 w6 m d a b := by
  intro m
  induction m with
  | zero =>
    intro d a b _ h
    exact h
  | succ m ih =>
    intro d a b hc h
    rw [WFo] at h ⊢
    rcases h with h | ⟨c, h1, h2, h3, h4, h5⟩
    · exact .inl h
    · obtain ⟨e0, e6⟩ := hc a (Nat.le_refl a) (by omega)
      refine .inr ⟨c, h1, h2, e6.trans h3, ?_, ih d c b (fun i i1 i2 => hc i (by omega) i2) h5⟩
      rw [e0]
      rcases h4 with h4 | ⟨h4, h6, h7⟩
      · exact .inl h4
      · exact .inr ⟨h4, h6, ih (d + 1) (a + 1) c (fun i i1 i2 => hc i (by omega) (by omega)) h7⟩
theorem WFo.up {v0 v6 : Nat → Int32} : ∀ m d a b, WFo v0 v6 m d a b → WFo v0 v6 (m + 1) d a b := by
  intro m
  induction m with
  | zero =>
    intro d a b h
    exact Or.inl h
  | succ m ih =>
    intro d a b h
    rw [WFo] at h
    rw [WFo]
    rcases h with h | ⟨c, h1, h2, h3, h4, h5⟩
    · exact .inl h
    · refine .inr ⟨c, h1, h2, h3, ?_, ih d c b h5⟩
      rcases h4 with h4 | ⟨h4, h6, h7⟩
      · exact .inl h4
      · exact .inr ⟨h4, h6, ih (d + 1) (a + 1) c h7⟩
theorem WFo.ups {v0 v6 : Nat → Int32} {m d a b : Nat} (h : WFo v0 v6 m d a b) : ∀ k, WFo v0 v6 (m + k) d a b := by
  intro k
  induction k with
  | zero => exact h
  | succ k ih => exact WFo.up (m + k) d a b ih
theorem WFo.app {v0 v6 : Nat → Int32} {m' d b c : Nat} (h2 : WFo v0 v6 m' d b c) : ∀ m a, WFo v0 v6 m d a b → WFo v0 v6 (m + m') d a c := by
  have hbc := WFo.le m' d b c h2
  intro m
  induction m with
  | zero =>
    intro a h
    rw [WFo] at h
    subst h
    rw [Nat.zero_add]
    exact h2
  | succ m ih =>
    intro a h
    rw [WFo] at h
    rcases h with h | ⟨e, h3, h4, h5, h6, h7⟩
    · subst h
      rw [Nat.add_comm]
      exact h2.ups (m + 1)
    · rw [show m + 1 + m' = m + m' + 1 by omega, WFo]
      refine .inr ⟨e, h3, by omega, h5, ?_, ih e h7⟩
      rcases h6 with h6 | ⟨h6, h8, h9⟩
      · exact .inl h6
      · exact .inr ⟨h6, h8, h9.ups m'⟩
abbrev XC : Type := Int32 × Int32 × Int32 × (Nat → Int32) × Int32 × Int32 × Int32 × Int32 × Int32 × (Nat → Int32) × (Nat → Int32) × (Nat → Int32) × (Nat → Int32)
abbrev XR : Type := Int32 × Int32 × Int32 × (Nat → Int32) × (Nat → Int32) × (Nat → Int32)
def XRel (np hd : Nat) (W H : Nat → Nat) (c : XC) (r : XR) : Prop := ∃ bg, bg ≤ 200 ∧ c.1 = nI bg ∧ r.2.1 = nI bg ∧ c.2.1 = r.2.2.1 ∧ c.2.2.1 = r.1 ∧ PzGX np hd W H (c.2.2.2.2.1, c.2.2.2.2.2.1, c.2.2.2.2.2.2.1, c.2.2.2.2.2.2.2.1, c.2.2.2.2.2.2.2.2.1, c.2.2.2.2.2.2.2.2.2.1, c.2.2.2.2.2.2.2.2.2.2.1, c.2.2.2.2.2.2.2.2.2.2.2.1) r.2.2.2.2.2
def XOK (np hd : Nat) (W H : Nat → Nat) (s : CX6) (to : Nat → Int32) (pa ra od la : Nat → Nat → Int32) (l : CX3) (m19 : Int32) (v0 v1 v2 v3 v4 v5 v6 : Nat → Int32) (g : Nat → Nat → Int32) (q d a b : Nat) : Prop := ∀ (c : XC) (r : XR), XRel np hd W H c r → ∃ c' r', f_X9_doSteps q c.1 c.2.1 c.2.2.1 v0 v1 v2 v3 v4 v5 v6 s.1 s.2.2.1 s.2.2.2.2.2.1 s.2.2.2.2.2.2.2.2.2.1 s.2.2.2.2.2.2.2.2.2.2.1 s.2.2.2.2.2.2.2.2.2.2.2.1 s.2.2.2.2.2.2.2.2.2.2.2.2 l.1 l.2.1 c.2.2.2.1 c.2.2.2.2.1 c.2.2.2.2.2.1 c.2.2.2.2.2.2.1 c.2.2.2.2.2.2.2.1 c.2.2.2.2.2.2.2.2.1 c.2.2.2.2.2.2.2.2.2.1 c.2.2.2.2.2.2.2.2.2.2.1 c.2.2.2.2.2.2.2.2.2.2.2.1 c.2.2.2.2.2.2.2.2.2.2.2.2 (nI a) (nI b) (nI d) = some c' ∧ f_X11_goes q m19 r.1 r.2.1 r.2.2.1 to r.2.2.2.1 r.2.2.2.2.1 r.2.2.2.2.2 pa ra od la g (nI a) (nI b) = some r' ∧ XRel np hd W H c' r'
theorem x_again {np hd : Nat} {W H : Nat → Nat} {s : CX6} {to : Nat → Int32} {pa ra od la : Nat → Nat → Int32} {l : CX3} {m19 : Int32} {v0 v1 v2 v3 v4 v5 v6 : Nat → Int32} {g : Nat → Nat → Int32} {q d a c1 N : Nat} (hx : XOK np hd W H s to pa ra od la l m19 v0 v1 v2 v3 v4 v5 v6 g q (d + 1) (a + 1) c1) (ha : a < 50) (hN : N ≤ 20) (e5 : v5 a = nI N) (g1 : g a 1 = nI N) (e6 : v6 a = nI c1) (g6 : g a 6 = nI c1) (k2 : Int32 → Int32 → Int32 → (Nat → Int32) → (Nat → Int32) → (Nat → Int32) → Int32 → Int32 → Option XR) (x2 : Int32) :
    ∀ (n j q1 q2 : Nat) (c : XC) (r : XR), N ≤ j + n → j ≤ N → n < q1 → n < q2 → XRel np hd W H c r → ∃ c' r', f_X9_doAgain_b11 (f_X9_doSteps q) v0 v1 v2 v3 v4 v5 v6 s.1 s.2.2.1 s.2.2.2.2.2.1 s.2.2.2.2.2.2.2.2.2.1 s.2.2.2.2.2.2.2.2.2.2.1 s.2.2.2.2.2.2.2.2.2.2.2.1 s.2.2.2.2.2.2.2.2.2.2.2.2 l.1 l.2.1 q1 c.1 c.2.1 c.2.2.1 c.2.2.2.1 c.2.2.2.2.1 c.2.2.2.2.2.1 c.2.2.2.2.2.2.1 c.2.2.2.2.2.2.2.1 c.2.2.2.2.2.2.2.2.1 c.2.2.2.2.2.2.2.2.2.1 c.2.2.2.2.2.2.2.2.2.2.1 c.2.2.2.2.2.2.2.2.2.2.2.1 c.2.2.2.2.2.2.2.2.2.2.2.2 (nI a) (nI d) (nI j) = some c' ∧ f_X11_goes_b43 (f_X11_goes q) m19 to pa ra od la g k2 q2 r.1 r.2.1 r.2.2.1 r.2.2.2.1 r.2.2.2.2.1 r.2.2.2.2.2 x2 (nI a) (nI j) = k2 r'.1 r'.2.1 r'.2.2.1 r'.2.2.2.1 r'.2.2.2.2.1 r'.2.2.2.2.2 x2 (nI c1) ∧ XRel np hd W H c' r' := by
  have hend : ∀ r : XR, f_X11_goes_b88 (f_X11_goes q) m19 to pa ra od la g k2 r.1 r.2.1 r.2.2.1 r.2.2.2.1 r.2.2.2.2.1 r.2.2.2.2.2 x2 (nI a) = k2 r.1 r.2.1 r.2.2.1 r.2.2.2.1 r.2.2.2.2.1 r.2.2.2.2.2 x2 (nI c1) := by
    intro r
    rw [f_X11_goes_b88, f_X11_goes_b145, pu_ck (by omega) (by omega), nI_clamp (by omega), cl6, g6]
  intro n
  induction n with
  | zero =>
    intro j q1 q2 c r hj hj2 h1 h2 h
    obtain ⟨q1, rfl⟩ : ∃ r, q1 = r + 1 := ⟨q1 - 1, by omega⟩
    obtain ⟨q2, rfl⟩ : ∃ r, q2 = r + 1 := ⟨q2 - 1, by omega⟩
    refine ⟨c, r, ?_, ?_, h⟩
    · rw [f_X9_doAgain_b11, pu_ck ha (by omega), nI_clamp (by omega), e5, if_pos (nI_le (by omega) (by omega))]
    · rw [f_X11_goes_b43, pu_ck (by omega) (by omega), nI_clamp (by omega), cl1, g1, if_pos (nI_le (by omega) (by omega))]
      exact hend r
  | succ n ih =>
    intro j q1 q2 c r hj hj2 h1 h2 h
    obtain ⟨q1, rfl⟩ : ∃ r, q1 = r + 1 := ⟨q1 - 1, by omega⟩
    obtain ⟨q2, rfl⟩ : ∃ r, q2 = r + 1 := ⟨q2 - 1, by omega⟩
    by_cases e : N ≤ j
    · refine ⟨c, r, ?_, ?_, h⟩
      · rw [f_X9_doAgain_b11, pu_ck ha (by omega), nI_clamp (by omega), e5, if_pos (nI_le (by omega) (by omega))]
      · rw [f_X11_goes_b43, pu_ck (by omega) (by omega), nI_clamp (by omega), cl1, g1, if_pos (nI_le (by omega) (by omega))]
        exact hend r
    · have h0 := h
      obtain ⟨bg, hb, b1, b2, -⟩ := h0
      by_cases eb : bg = 200
      · refine ⟨c, r, ?_, ?_, h⟩
        · rw [f_X9_doAgain_b11, pu_ck ha (by omega), nI_clamp (by omega), e5, if_neg (nI_ge (by omega) (by omega)), if_pos (show 200 ≤ c.1 by rw [b1, eb]; decide)]
        · rw [f_X11_goes_b43, pu_ck (by omega) (by omega), nI_clamp (by omega), cl1, g1, if_neg (nI_ge (by omega) (by omega)), if_pos (show 200 ≤ r.2.1 by rw [b2, eb]; decide)]
          exact hend r
      · obtain ⟨c', r', a1, a2, a3⟩ := hx c r h
        obtain ⟨c2, r2, d1, d2, d3⟩ := ih (j + 1) q1 q2 c' r' (by omega) (by omega) (by omega) (by omega) a3
        refine ⟨c2, r2, ?_, ?_, d3⟩
        · rw [f_X9_doAgain_b11, pu_ck ha (by omega), pu_ck ha (by omega), nI_clamp (by omega), e5, if_neg (nI_ge (by omega) (by omega)), if_neg (show ¬ 200 ≤ c.1 by rw [b1]; exact nI_ge (b := 200) (by omega) (by omega)), e6, nI_1, nI_1, nI_1, a1, Option.bind_some]
          exact d1
        · rw [f_X11_goes_b43, pu_ck (show a < 80 by omega) (by omega), pu_ck (show a < 80 by omega) (by omega), nI_clamp (by omega), cl1, cl6, g1, g6, if_neg (nI_ge (by omega) (by omega)), if_neg (show ¬ 200 ≤ r.2.1 by rw [b2]; exact nI_ge (b := 200) (by omega) (by omega)), nI_1, nI_1, a2, Option.bind_some]
          exact d2
theorem x_loop {np no hd : Nat} {W H : Nat → Nat} {s : CX6} {to : Nat → Int32} {pa ra od : Nat → Nat → Int32} (hS : PzS np no hd W H s to pa ra od) {l : CX3} {m19 : Int32} {la : Nat → Nat → Int32} (hL : ∃ lv : (Nat → Int32) → Int32, (∀ kn st, ∃ st', f_X3_valueFor l.1 l.2.1 st 8 kn = some (lv kn, st')) ∧ (∀ kn st, ∃ st', f_X11_byLaw m19 st kn la = some (lv kn, st')) ∧ (∀ kn kn', (∀ k, k < 8 → kn k = kn' k) → lv kn = lv kn')) {v0 v1 v2 v3 v4 v5 v6 : Nat → Int32} {g : Nat → Nat → Int32} {q d a0 b : Nat} (hd6 : d ≤ 6) (hb : b ≤ 50) (hst : ∀ i, a0 ≤ i → i < b → WKd np W H v0 v1 v2 v3 v4 v5 g i ∧ v6 i = g i 6) (hrec : ∀ m a c1, d < 6 → a0 ≤ a → c1 ≤ b → WFo v0 v6 m (d + 1) a c1 → XOK np hd W H s to pa ra od la l m19 v0 v1 v2 v3 v4 v5 v6 g q (d + 1) a c1) :
    ∀ (n m a i q1 q2 : Nat) (c : XC) (r : XR), b ≤ a + n → a0 ≤ a → i ≤ a → n < q1 → n < q2 → WFo v0 v6 m d a b → XRel np hd W H c r → ∃ c' r', f_X9_doSteps_b6 (f_X9_doSteps q) v0 v1 v2 v3 v4 v5 v6 s.1 s.2.2.1 s.2.2.2.2.2.1 s.2.2.2.2.2.2.2.2.2.1 s.2.2.2.2.2.2.2.2.2.2.1 s.2.2.2.2.2.2.2.2.2.2.2.1 s.2.2.2.2.2.2.2.2.2.2.2.2 l.1 l.2.1 q1 c.1 c.2.1 c.2.2.1 c.2.2.2.1 c.2.2.2.2.1 c.2.2.2.2.2.1 c.2.2.2.2.2.2.1 c.2.2.2.2.2.2.2.1 c.2.2.2.2.2.2.2.2.1 c.2.2.2.2.2.2.2.2.2.1 c.2.2.2.2.2.2.2.2.2.2.1 c.2.2.2.2.2.2.2.2.2.2.2.1 c.2.2.2.2.2.2.2.2.2.2.2.2 (nI b) (nI d) (nI a) (nI i) = some c' ∧ f_X11_goes_b2 (f_X11_goes q) m19 to pa ra od la g q2 r.1 r.2.1 r.2.2.1 r.2.2.2.1 r.2.2.2.2.1 r.2.2.2.2.2 (nI b) (nI a) = some r' ∧ XRel np hd W H c' r' := by
  intro n
  induction n with
  | zero =>
    intro m a i q1 q2 c r hn ha hi h1 h2 hw h
    obtain ⟨q1, rfl⟩ : ∃ r, q1 = r + 1 := ⟨q1 - 1, by omega⟩
    obtain ⟨q2, rfl⟩ : ∃ r, q2 = r + 1 := ⟨q2 - 1, by omega⟩
    have hle := WFo.le m d a b hw
    refine ⟨c, r, ?_, ?_, h⟩
    · rw [f_X9_doSteps_b6, if_pos (nI_le (show b ≤ a by omega) (by omega))]
      by_cases e : 50 ≤ nI i
      · rw [if_pos e]
      · rw [if_neg e]
    · rw [f_X11_goes_b2, if_pos (nI_le (show b ≤ a by omega) (by omega))]
  | succ n ih =>
    intro m a i q1 q2 c r hn ha hi h1 h2 hw h
    obtain ⟨q1, rfl⟩ : ∃ r, q1 = r + 1 := ⟨q1 - 1, by omega⟩
    obtain ⟨q2, rfl⟩ : ∃ r, q2 = r + 1 := ⟨q2 - 1, by omega⟩
    have hle := WFo.le m d a b hw
    by_cases e : a = b
    · refine ⟨c, r, ?_, ?_, h⟩
      · rw [f_X9_doSteps_b6, if_pos (nI_le (show b ≤ a by omega) (by omega))]
        by_cases e : 50 ≤ nI i
        · rw [if_pos e]
        · rw [if_neg e]
      · rw [f_X11_goes_b2, if_pos (nI_le (show b ≤ a by omega) (by omega))]
    · have hi50 : ¬ 50 ≤ nI i := nI_ge (b := 50) (by omega) (by omega)
      have h0 := h
      obtain ⟨bg, hbg, b1, b2, b3, b4, b5⟩ := h0
      by_cases eb : bg = 200
      · refine ⟨c, r, ?_, ?_, h⟩
        · rw [f_X9_doSteps_b6, if_neg hi50, if_neg (nI_ge (show a < b by omega) (by omega)), if_pos (show 200 ≤ c.1 by rw [b1, eb]; decide)]
        · rw [f_X11_goes_b2, if_neg (nI_ge (show a < b by omega) (by omega)), if_pos (show 200 ≤ r.2.1 by rw [b2, eb]; decide)]
      · obtain ⟨hkd, hg6⟩ := hst a ha (by omega)
        obtain ⟨c1, w1, w2, w3, w4, m', w5⟩ : ∃ c1, a < c1 ∧ c1 ≤ b ∧ v6 a = nI c1 ∧ ((¬ v0 a = nI 6 ∧ c1 = a + 1) ∨ (v0 a = nI 6 ∧ d < 6 ∧ ∃ m', WFo v0 v6 m' (d + 1) (a + 1) c1)) ∧ ∃ m', WFo v0 v6 m' d c1 b := by
          cases m with
          | zero =>
            rw [WFo] at hw
            exact absurd hw e
          | succ m =>
            rw [WFo] at hw
            rcases hw with hw | ⟨c1, w1, w2, w3, w4, w5⟩
            · exact absurd hw e
            · refine ⟨c1, w1, w2, w3, ?_, m, w5⟩
              rcases w4 with w4 | ⟨w4, w6, w7⟩
              · exact .inl w4
              · exact .inr ⟨w4, w6, m, w7⟩
        have g6 : g a 6 = nI c1 := by rw [← hg6, w3]
        have hbg1 : ¬ 200 ≤ c.1 := by
          rw [b1]
          exact nI_ge (b := 200) (by omega) (by omega)
        have hbg2 : ¬ 200 ≤ r.2.1 := by
          rw [b2]
          exact nI_ge (b := 200) (by omega) (by omega)
        rcases w4 with ⟨w4, rfl⟩ | ⟨w4, w6, m2, w7⟩
        · obtain ⟨z, st', i3', i4', i5', i6', i7', fi', de', rg', nm', v25', v26', row', a1, a2, a3, a4⟩ := wk_do hS hL (show a < 50 by omega) hkd w4 b5 c.2.2.2.1 c.2.2.2.2.2.2.2.2.2.2.2.2 r.2.2.2.1 r.2.2.2.2.1
          have g0 : ¬ g a 0 = 6 := by
            rcases hkd with ⟨p, N, -, -, -, e0, g0, -⟩ | ⟨p, x, y, R, N, -, -, -, -, -, -, hk, -⟩ | ⟨e0, g0⟩ | ⟨e0, g0⟩ | ⟨p, -, e0, g0, -⟩ | ⟨N, -, e0, -⟩
            · rw [g0]
              decide
            · rcases hk with ⟨-, g0, -⟩ | ⟨-, g0, -⟩
              · rw [g0]
                decide
              · rw [g0]
                decide
            · rw [g0]
              decide
            · rw [g0]
              decide
            · rw [g0]
              decide
            · exact absurd e0 w4
          rcases a2 with rfl | rfl
          · obtain ⟨c2, r2, d1, d2, d3⟩ := ih m' (a + 1) (i + 1) q1 q2 (nI (bg + 1), c.2.1, c.2.2.1 + 1, st', i3', i4', i5', i6', i7', fi', de', rg', nm') (r.1 + 1, nI (bg + 1), r.2.2.1, v25', v26', row') (by omega) (by omega) (by omega) (by omega) (by omega) w5 ⟨bg + 1, by omega, rfl, rfl, b3, by rw [b4], a4⟩
            refine ⟨c2, r2, ?_, ?_, d3⟩
            · rw [f_X9_doSteps_b6, if_neg hi50, if_neg (nI_ge (show a < b by omega) (by omega)), if_neg hbg1, pu_ck (show a < 50 by omega) (by omega), nI_clamp (by omega), if_neg (show ¬ v0 a = 6 from w4), a1, Option.bind_some, if_pos rfl, f_X9_doSteps_b99, pu_ck (show a < 50 by omega) (by omega), nI_clamp (by omega), w3, b1, nI_1, nI_1]
              exact d1
            · rw [f_X11_goes_b2, if_neg (nI_ge (show a < b by omega) (by omega)), if_neg hbg2, pu_ck (show a < 80 by omega) (by omega), nI_clamp (by omega), cl0, if_neg g0, pu_ck (show a < 80 by omega) (by omega), a3, Option.bind_some, if_pos rfl, f_X11_goes_b122, if_pos rfl, f_X11_goes_b141, f_X11_goes_b145, pu_ck (show a < 80 by omega) (by omega), nI_clamp (by omega), cl6, g6, b2, nI_1, Int32.add_zero]
              exact d2
          · obtain ⟨c2, r2, d1, d2, d3⟩ := ih m' (a + 1) (i + 1) q1 q2 (nI (bg + 1), c.2.1 + 1, c.2.2.1, st', i3', i4', i5', i6', i7', fi', de', rg', nm') (r.1, nI (bg + 1), r.2.2.1 + 1, v25', v26', row') (by omega) (by omega) (by omega) (by omega) (by omega) w5 ⟨bg + 1, by omega, rfl, rfl, by rw [b3], b4, a4⟩
            refine ⟨c2, r2, ?_, ?_, d3⟩
            · rw [f_X9_doSteps_b6, if_neg hi50, if_neg (nI_ge (show a < b by omega) (by omega)), if_neg hbg1, pu_ck (show a < 50 by omega) (by omega), nI_clamp (by omega), if_neg (show ¬ v0 a = 6 from w4), a1, Option.bind_some, if_neg n1z, f_X9_doSteps_b99, pu_ck (show a < 50 by omega) (by omega), nI_clamp (by omega), w3, b1, nI_1, nI_1]
              exact d1
            · rw [f_X11_goes_b2, if_neg (nI_ge (show a < b by omega) (by omega)), if_neg hbg2, pu_ck (show a < 80 by omega) (by omega), nI_clamp (by omega), cl0, if_neg g0, pu_ck (show a < 80 by omega) (by omega), a3, Option.bind_some, if_neg n1z, f_X11_goes_b122, if_neg n1z, f_X11_goes_b141, f_X11_goes_b145, pu_ck (show a < 80 by omega) (by omega), nI_clamp (by omega), cl6, g6, b2, nI_1, Int32.add_zero]
              exact d2
        · obtain ⟨N, hN, g0, e5, g1⟩ : ∃ N, N ≤ 20 ∧ g a 0 = nI 6 ∧ v5 a = nI N ∧ g a 1 = nI N := by
            rcases hkd with ⟨p, N, -, -, -, e0, -⟩ | ⟨p, x, y, R, N, -, -, -, -, -, -, hk, -⟩ | ⟨e0, -⟩ | ⟨e0, -⟩ | ⟨p, -, e0, -⟩ | ⟨N, hN, e0, g0, e5, g1⟩
            · rw [e0] at w4
              exact absurd w4 (by decide)
            · rcases hk with ⟨e0, -⟩ | ⟨e0, -⟩
              · rw [e0] at w4
                exact absurd w4 (by decide)
              · rw [e0] at w4
                exact absurd w4 (by decide)
            · rw [e0] at w4
              exact absurd w4 (by decide)
            · rw [e0] at w4
              exact absurd w4 (by decide)
            · rw [e0] at w4
              exact absurd w4 (by decide)
            · exact ⟨N, hN, g0, e5, g1⟩
          obtain ⟨c2, r2, a1, a2, a3⟩ := x_again (hrec m2 (a + 1) c1 w6 (by omega) w2 w7) (show a < 50 by omega) hN e5 g1 w3 g6 (f_X11_goes_b2 (f_X11_goes q) m19 to pa ra od la g q2) (nI b) N 0 4000 4000 (nI (bg + 1), c.2) (r.1, nI (bg + 1), r.2.2) (by omega) (by omega) (by omega) (by omega) ⟨bg + 1, by omega, rfl, rfl, b3, b4, b5⟩
          obtain ⟨c3, r3, d1, d2, d3⟩ := ih m' c1 (i + 1) q1 q2 c2 r2 (by omega) (by omega) (by omega) (by omega) (by omega) w5 a3
          refine ⟨c3, r3, ?_, ?_, d3⟩
          · rw [f_X9_doSteps_b6, if_neg hi50, if_neg (nI_ge (show a < b by omega) (by omega)), if_neg hbg1, pu_ck (show a < 50 by omega) (by omega), nI_clamp (by omega), if_pos (show v0 a = 6 from w4), f_X9_doAgain, if_pos (show nI d < 6 from nI_lt (b := 6) w6 (by omega)), b1, nI_1]
            rw [show f_X9_doAgain_b11 (f_X9_doSteps q) v0 v1 v2 v3 v4 v5 v6 s.1 s.2.2.1 s.2.2.2.2.2.1 s.2.2.2.2.2.2.2.2.2.1 s.2.2.2.2.2.2.2.2.2.2.1 s.2.2.2.2.2.2.2.2.2.2.2.1 s.2.2.2.2.2.2.2.2.2.2.2.2 l.1 l.2.1 4000 (nI (bg + 1)) c.2.1 c.2.2.1 c.2.2.2.1 c.2.2.2.2.1 c.2.2.2.2.2.1 c.2.2.2.2.2.2.1 c.2.2.2.2.2.2.2.1 c.2.2.2.2.2.2.2.2.1 c.2.2.2.2.2.2.2.2.2.1 c.2.2.2.2.2.2.2.2.2.2.1 c.2.2.2.2.2.2.2.2.2.2.2.1 c.2.2.2.2.2.2.2.2.2.2.2.2 (nI a) (nI d) 0 = some c2 from a1, Option.bind_some, f_X9_doSteps_b99, pu_ck (show a < 50 by omega) (by omega), nI_clamp (by omega), w3, nI_1]
            exact d1
          · rw [f_X11_goes_b2, if_neg (nI_ge (show a < b by omega) (by omega)), if_neg hbg2, pu_ck (show a < 80 by omega) (by omega), nI_clamp (by omega), cl0, if_pos (show g a 0 = 6 from g0), b2, nI_1]
            exact a2.trans d2
theorem x_steps {np no hd : Nat} {W H : Nat → Nat} {s : CX6} {to : Nat → Int32} {pa ra od : Nat → Nat → Int32} (hS : PzS np no hd W H s to pa ra od) {l : CX3} {m19 : Int32} {la : Nat → Nat → Int32} (hL : ∃ lv : (Nat → Int32) → Int32, (∀ kn st, ∃ st', f_X3_valueFor l.1 l.2.1 st 8 kn = some (lv kn, st')) ∧ (∀ kn st, ∃ st', f_X11_byLaw m19 st kn la = some (lv kn, st')) ∧ (∀ kn kn', (∀ k, k < 8 → kn k = kn' k) → lv kn = lv kn')) {v0 v1 v2 v3 v4 v5 v6 : Nat → Int32} {g : Nat → Nat → Int32} : ∀ (q d : Nat), d ≤ 6 → 6 < d + q → ∀ (m a b : Nat), b ≤ 50 → (∀ i, a ≤ i → i < b → WKd np W H v0 v1 v2 v3 v4 v5 g i ∧ v6 i = g i 6) → WFo v0 v6 m d a b → XOK np hd W H s to pa ra od la l m19 v0 v1 v2 v3 v4 v5 v6 g q d a b := by
  intro q
  induction q with
  | zero =>
    intro d h1 h2
    omega
  | succ q ih =>
    intro d h1 h2 m a b hb hst hw c r h
    obtain ⟨c', r', a1, a2, a3⟩ := x_loop hS hL (v0 := v0) (v1 := v1) (v2 := v2) (v3 := v3) (v4 := v4) (v5 := v5) (v6 := v6) (g := g) (q := q) (d := d) (a0 := a) (b := b) h1 hb hst (fun m2 a2 c2 hd2 ha2 hc2 hw2 => ih (d + 1) (by omega) (by omega) m2 a2 c2 (by omega) (fun i i1 i2 => hst i (by omega) (by omega)) hw2) b m a 0 4000 4000 c r (by omega) (by omega) (by omega) (by omega) (by omega) hw h
    refine ⟨c', r', ?_, ?_, a3⟩
    · rw [f_X9_doSteps, fb_X9_doSteps]
      exact a1
    · rw [f_X11_goes, fb_X11_goes]
      exact a2

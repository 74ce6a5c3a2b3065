/-! a text begins -/
theorem n1z : ¬ (1 : Int32) = 0 := by decide
theorem N1z : ¬ (1 : Nat) = 0 := by decide
theorem t_nm {n : Nat} {B : Nat → Nat} {v fe : Nat → Int32} (hT : Tp n B v fe) {f : Nat} {s : TS} {r : TQ} (h : TR0 n B f s r) {lo' hi : Int32} (lo : Nat) (h0 : lo' = nI lo) (hl : lo < 100000) (hh : hi < nI 100000) :
    ∃ c s' b r', f_X7_takeNumber (nI n) s.1 s.2.1 s.2.2.1 s.2.2.2.1 s.2.2.2.2.1 s.2.2.2.2.2 v lo' hi = some (c, s') ∧ f_X11_number (nI n) r.1 r.2.1 r.2.2 fe lo' hi = some (b, r') ∧ ((∃ x f', c = nI x ∧ b = nI x ∧ lo ≤ x ∧ nI x ≤ hi ∧ x < 100000 ∧ f < f' ∧ f < n ∧ x = tV n B f ∧ tK n B f = 1 ∧ TR0 n B f' s' r') ∨ (c = lo' ∧ b = 0 ∧ TRf n s' r' ∧ ¬ (tK n B f = 1 ∧ lo ≤ tV n B f ∧ nI (tV n B f) ≤ hi))) := by
  subst h0
  exact t_num hT h hl hh
theorem bt_ok {N n M : Nat} {B : Nat → Nat} {v fe v15 : Nat → Int32} (hT : Tp n B v fe) (h1 : n ≤ N) (h2 : n ≤ M) (hN : N < 2 ^ 31) (hM : M < 2 ^ 31) {mo : Int32} (hm : mo = nI M) (i2 i3 i4 i5 i6 i7 i8 : Int32) : f_X10_beginText v15 (nI N) i2 i3 i4 i5 i6 i7 i8 v (nI n) mo = some (0, v15, nI n, tk n B (tF n B 0)) := by
  rw [f_X10_beginText, if_neg (nI_pos (by omega)), if_neg (nI_nlt h1 (by omega)), hm, if_neg (nI_nlt h2 (by omega)), f_X10_beginText_b26, p_need1, Option.bind_some, if_pos rfl, t_begin hT, Option.bind_some]
theorem bt_bad {N : Nat} {v v15 : Nat → Int32} {x mo : Int32} (h : x < 0 ∨ nI N < x ∨ mo < x) (i2 i3 i4 i5 i6 i7 i8 : Int32) : f_X10_beginText v15 (nI N) i2 i3 i4 i5 i6 i7 i8 v x mo = some (1, upd v15 2 (v15 2 + 1), i2, i3, i4, i5, i6, i7, i8) := by
  have e : f_X10_beginText_b25 (nI N) v v15 i2 i3 i4 i5 i6 i7 i8 x = some (1, upd v15 2 (v15 2 + 1), i2, i3, i4, i5, i6, i7, i8) := by
    rw [f_X10_beginText_b25, f_X10_beginText_b26, p_need0, Option.bind_some, if_neg N1z]
  rw [f_X10_beginText, e]
  by_cases h1 : x < 0
  · rw [if_pos h1]
  · rw [if_neg h1]
    by_cases h2 : nI N < x
    · rw [if_pos h2]
    · rw [if_neg h2]
      rcases h with h | h | h
      · exact absurd h h1
      · exact absurd h h2
      · rw [if_pos h]
/-- a text's length: told well, or refused -/
theorem bt_cases (x : Int32) {N M : Nat} (hN : N < 2 ^ 30) (hM : M < 2 ^ 30) : (x < 0 ∨ nI N < x ∨ nI M < x) ∨ ∃ n, n ≤ N ∧ n ≤ M ∧ x = nI n := by
  rcases pz_ix2 x hN with (h | h) | ⟨j, hj, rfl⟩
  · exact .inl (.inl h)
  · exact .inl (.inr (.inl h))
  · by_cases e : j ≤ M
    · exact .inr ⟨j, hj, e, rfl⟩
    · exact .inl (.inr (.inr (nI_lt (by omega) (by omega))))
theorem PzT.tp {t : CX7} {m pl : Int32} {fe : Nat → Int32} (h : PzT t m pl fe) : ∃ N B, N ≤ 600 ∧ t.1 = nI N ∧ m = nI N ∧ t.2.2.2.2.2.2.2.1 = pl ∧ ∀ n, n ≤ N → Tp n B t.2.2.2.2.2.2.2.2 fe := by
  obtain ⟨N, hN, h1, h2, h3, h4⟩ := h
  have h5 : ∀ i, ∃ b, i < N → b < 256 ∧ fe i = nI b ∧ t.2.2.2.2.2.2.2.2 i = (nI b).toInt8.toInt32 := by
    intro i
    by_cases e : i < N
    · obtain ⟨b, hb⟩ := h4 i e
      exact ⟨b, fun _ => hb⟩
    · exact ⟨0, fun h => absurd h e⟩
  exact ⟨N, fun i => (h5 i).choose, hN, h1, h2, h3, fun n hn => ⟨by omega, fun i hi => (h5 i).choose_spec (by omega)⟩⟩
theorem PzT.none {pl x1 x2 x3 x4 x5 x6 : Int32} {w : Nat → Int32} (fe : Nat → Int32) : PzT (0, x1, x2, x3, x4, x5, x6, pl, w) 0 pl fe := ⟨0, by omega, rfl, rfl, rfl, fun i hi => by omega⟩
/-- rows laid -/
theorem r_lays_b {n0 m0 n1 m1 : Nat} {g0 : Nat → Nat → Int32} (h0 : n1 ≤ n0) (h1 : m1 ≤ m0) (hn : n0 < 1000) (hm : m0 < 1000) {k : Nat} (hk : k < n1) (x2 : Int32) (K : (Nat → Nat → Int32) → Int32 → Int32 → Option (Nat → Nat → Int32)) : ∀ (m i q : Nat) (g : Nat → Nat → Int32), i + m = m1 → m < q → ∃ g', f_X11_lays_b10 n0 m0 g0 n1 m1 K q g x2 (nI k) (nI i) = K g' x2 (nI (k + 1)) ∧ (∀ a, a ≠ k → g' a = g a) ∧ ∀ j, g' k j = if i ≤ j ∧ j < m1 then g0 k j else g k j := by
  intro m
  induction m with
  | zero =>
    intro i q g hi hq
    obtain ⟨q, rfl⟩ : ∃ r, q = r + 1 := ⟨q - 1, by omega⟩
    refine ⟨g, ?_, fun _ _ => rfl, fun j => by rw [if_neg (by omega)]⟩
    rw [f_X11_lays_b10, pu_ck hk (by omega), if_pos (nI_le (by omega) (by omega)), nI_1]
  | succ m ih =>
    intro i q g hi hq
    obtain ⟨q, rfl⟩ : ∃ r, q = r + 1 := ⟨q - 1, by omega⟩
    obtain ⟨g', e1, e2, e3⟩ := ih (i + 1) q (va_up g k (upd (g k) i (g0 k i))) (by omega) (by omega)
    refine ⟨g', ?_, fun a ha => ?_, fun j => ?_⟩
    · rw [f_X11_lays_b10, pu_ck hk (by omega), if_neg (nI_ge (by omega) (by omega)), pu_ck hk (by omega), pu_ck (by omega) (by omega), pu_ck (by omega) (by omega), pu_ck (by omega) (by omega), nI_clamp (by omega), nI_clamp (by omega), nI_1]
      exact e1
    · rw [e2 a ha, va_up, if_neg ha]
    · rw [e3 j, va_up, if_pos rfl, upd]
      by_cases c1 : i + 1 ≤ j ∧ j < m1
      · rw [if_pos c1, if_pos (by omega)]
      · rw [if_neg c1]
        by_cases c2 : j = i
        · rw [if_pos c2, if_pos (by omega), c2]
        · rw [if_neg c2, if_neg (by omega)]
theorem r_lays_c {n0 m0 n1 m1 : Nat} {g0 : Nat → Nat → Int32} (h0 : n1 ≤ n0) (h1 : m1 ≤ m0) (hn : n0 < 1000) (hm : m0 < 1000) {M : Nat} (hM : M ≤ n1) : ∀ (m k q : Nat) (g : Nat → Nat → Int32), k + m = M → m < q → ∃ g', f_X11_lays_b2 n0 m0 g0 n1 m1 q g (nI M) (nI k) = some g' ∧ (∀ a, a < k → g' a = g a) ∧ ∀ a, k ≤ a → a < M → ∀ j, j < m1 → g' a j = g0 a j := by
  intro m
  induction m with
  | zero =>
    intro k q g hi hq
    obtain ⟨q, rfl⟩ : ∃ r, q = r + 1 := ⟨q - 1, by omega⟩
    refine ⟨g, ?_, fun a _ => rfl, fun a h1 h2 => by omega⟩
    rw [f_X11_lays_b2, if_pos (nI_le (by omega) (by omega))]
  | succ m ih =>
    intro k q g hi hq
    obtain ⟨q, rfl⟩ : ∃ r, q = r + 1 := ⟨q - 1, by omega⟩
    obtain ⟨g1, a1, a2, a3⟩ := r_lays_b (g0 := g0) h0 h1 hn hm (k := k) (by omega) (nI M) (f_X11_lays_b2 n0 m0 g0 n1 m1 q) m1 0 4000 g (by omega) (by omega)
    obtain ⟨g', b1, b2, b3⟩ := ih (k + 1) q g1 (by omega) (by omega)
    refine ⟨g', ?_, fun a ha => ?_, fun a c1 c2 j hj => ?_⟩
    · rw [f_X11_lays_b2, if_neg (nI_ge (by omega) (by omega))]
      exact (show f_X11_lays_b10 n0 m0 g0 n1 m1 (f_X11_lays_b2 n0 m0 g0 n1 m1 q) 4000 g (nI M) (nI k) 0 = _ from a1).trans b1
    · rw [b2 a (by omega), a2 a (by omega)]
    · by_cases e : a = k
      · rw [e, b2 k (by omega), a3 j, if_pos (by omega)]
      · exact b3 a (by omega) c2 j hj
theorem r_lays {n0 m0 n1 m1 : Nat} {g0 : Nat → Nat → Int32} (h0 : n1 ≤ n0) (h1 : m1 ≤ m0) (hn : n0 < 1000) (hm : m0 < 1000) {M : Nat} (hM : M ≤ n1) (g : Nat → Nat → Int32) : ∃ g', f_X11_lays n0 m0 g0 n1 m1 g (nI M) = some g' ∧ ∀ a, a < M → ∀ j, j < m1 → g' a j = g0 a j := by
  obtain ⟨g', a1, -, a3⟩ := r_lays_c (g0 := g0) h0 h1 hn hm hM M 0 4000 g (by omega) (by omega)
  exact ⟨g', a1, fun a ha j hj => a3 a (by omega) ha j hj⟩

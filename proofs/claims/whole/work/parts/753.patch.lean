/-! patch -/
theorem p_spread_b {W : Nat} (hW : W < 65536) : ∀ (m i q x : Nat), i + m = 16 → m < q → x < 65536 → f_X1_spread_b4 q (nI W) (nI x) (nI i) = some (nI (itN (stC W) m x)) := by
  intro m
  induction m with
  | zero =>
    intro i q x hi hq
    obtain ⟨q, rfl⟩ : ∃ r, q = r + 1 := ⟨q - 1, by omega⟩
    intro hx
    rw [f_X1_spread_b4, pl16, if_pos (nI_le (by omega) (by omega)), itN]
  | succ m ih =>
    intro i q x hi hq
    obtain ⟨q, rfl⟩ : ∃ r, q = r + 1 := ⟨q - 1, by omega⟩
    intro hx
    have b1 : x &&& 4294932343 < 65536 := Nat.lt_of_le_of_lt Nat.and_le_left hx
    have b2 : x &&& 4294962926 < 65536 := Nat.lt_of_le_of_lt Nat.and_le_left hx
    have hst : stC W x < 65536 := Nat.lt_of_le_of_lt Nat.and_le_right hW
    have e : (nI x ||| (((((nI x &&& (-34953)) <<< ((1 : Int32) &&& 31)) ||| ((nI x &&& (-4370)) >>> ((1 : Int32) &&& 31))) ||| (nI x <<< ((4 : Int32) &&& 31))) ||| (nI x >>> ((4 : Int32) &&& 31)))) &&& nI W = nI (stC W x) := by
      rw [show (-34953 : Int32) = nI 4294932343 from rfl, show (-4370 : Int32) = nI 4294962926 from rfl, pz_and, pz_and, pk_shlN ((1 : Int32) &&& 31) 1 rfl (by omega), pk_shlN ((4 : Int32) &&& 31) 4 rfl (by omega), pk_shrN (by omega) ((1 : Int32) &&& 31) 1 rfl, pk_shrN (by omega) ((4 : Int32) &&& 31) 4 rfl, pz_or, pz_or, pz_or, pz_or, pz_and, stC]
    rw [f_X1_spread_b4, pl16, if_neg (nI_ge (by omega) (by omega)), e, nI_1, itN]
    exact ih (i + 1) q _ (by omega) (by omega) hst
theorem p_spread {W x : Nat} (hW : W < 65536) (hx : x < 65536) : f_X1_spread (nI x) (nI W) = some (nI (itN (stC W) 16 x)) := by
  have e := p_spread_b hW 16 0 4000 x (by omega) (by omega) hx
  rw [← pl0] at e
  exact e
theorem p_count16 {x : Nat} (hx : x < 65536) : f_J6_bitCount_0f7a4 (nI x) = some (nI (pop x)) := by
  rw [p_bitCount (by omega), pc4_eq (by omega), show 32 = 16 + 16 from rfl, sF_split, sF_zero (fun i => (x.testBit i).toNat) 16 (0 + 16) (fun j h1 h2 => by
    show (x.testBit j).toNat = 0
    rw [tb_16 hx (by omega)]
    rfl), Nat.add_zero, pop]
/-- cells of pane p that show day d -/
def wS (W H : Nat → Nat) (dp fd : Nat → Nat) (p d : Nat) : Nat := bF (fun i => inC (W p) (H p) i && bhn dp fd (16 * p + i) 0 == d) 16 0 0
theorem wS_tb {W H : Nat → Nat} {dp fd : Nat → Nat} {p d i : Nat} : (wS W H dp fd p d).testBit i = (decide (i < 16) && (inC (W p) (H p) i && bhn dp fd (16 * p + i) 0 == d)) := by
  rw [wS, bF_tb, Nat.zero_testBit, Bool.false_or, decide_eq_true (Nat.zero_le i), Bool.true_and, Nat.zero_add]
theorem wS_lt {W H : Nat → Nat} {dp fd : Nat → Nat} {p d : Nat} : wS W H dp fd p d < 65536 := by
  apply Nat.lt_pow_two_of_testBit (n := 16)
  intro i hi
  rw [wS_tb, decide_eq_false (by omega), Bool.false_and]
/-- how many cells hang together with cell i -/
def ptN (W H : Nat → Nat) (dp fd : Nat → Nat) (p i : Nat) : Nat := pop (itN (stC (wS W H dp fd p (bhn dp fd (16 * p + i) 0))) 16 (2 ^ i))
def ptS (W H : Nat → Nat) (dp fd : Nat → Nat) (p i : Nat) (s : Nat × Nat) : Nat × Nat :=
  if bhn dp fd (16 * p + i) 0 = 0 then s else if s.1 < ptN W H dp fd p i then (ptN W H dp fd p i, bhn dp fd (16 * p + i) 0) else if ptN W H dp fd p i = s.1 then (if bhn dp fd (16 * p + i) 0 ≤ s.2 then s else (ptN W H dp fd p i, bhn dp fd (16 * p + i) 0)) else s
def ptL (W H : Nat → Nat) (dp fd : Nat → Nat) (p : Nat) : Nat → Nat → Nat × Nat → Nat × Nat
  | 0, _, s => s
  | m + 1, i, s => ptL W H dp fd p m (i + 1) (ptS W H dp fd p i s)
theorem ptN_le (W H : Nat → Nat) (dp fd : Nat → Nat) (p i : Nat) : ptN W H dp fd p i ≤ 16 := pop_le _
theorem ptS_le {W H : Nat → Nat} {dp fd : Nat → Nat} {p i : Nat} {s : Nat × Nat} (hb : bhn dp fd (16 * p + i) 0 ≤ 200) (hs : s.1 ≤ 16 ∧ s.2 ≤ 200) : (ptS W H dp fd p i s).1 ≤ 16 ∧ (ptS W H dp fd p i s).2 ≤ 200 := by
  have h16 := ptN_le W H dp fd p i
  rw [ptS]
  by_cases h0 : bhn dp fd (16 * p + i) 0 = 0
  · rw [if_pos h0]; exact hs
  · rw [if_neg h0]
    by_cases h1 : s.1 < ptN W H dp fd p i
    · rw [if_pos h1]; exact ⟨h16, hb⟩
    · rw [if_neg h1]
      by_cases h2 : ptN W H dp fd p i = s.1
      · rw [if_pos h2]
        by_cases h3 : bhn dp fd (16 * p + i) 0 ≤ s.2
        · rw [if_pos h3]; exact hs
        · rw [if_neg h3]; exact ⟨h16, hb⟩
      · rw [if_neg h2]; exact hs
theorem p_find_b {np hd : Nat} {W H : Nat → Nat} {G : GC} {row : Nat → Int32} {dp fd : Nat → Nat} {dy : Nat} (h : PzG np hd W H G row dp fd dy) (h30 : hd ≤ 30) {p : Nat} (hp : p < 5) (hw : W p ≤ 4) (hh : H p ≤ 4) : ∀ (m i q : Nat) (s : Nat × Nat), i + m = 16 → m < q → s.1 ≤ 16 ∧ s.2 ≤ 200 → f_X1_findPatch_b13 G.2.2.2.2.2.1 G.2.2.2.2.2.2.1 q (nI s.1) (nI s.2) (nI p) (nI (pzcb (W p) (H p))) (nI i) = some (nI (ptL W H dp fd p m i s).1, nI (ptL W H dp fd p m i s).2) := by
  intro m
  induction m with
  | zero =>
    intro i q s hi hq
    obtain ⟨q, rfl⟩ : ∃ r, q = r + 1 := ⟨q - 1, by omega⟩
    intro hs
    rw [f_X1_findPatch_b13, pl16, if_pos (nI_le (by omega) (by omega)), ptL]
  | succ m ih =>
    intro i q s hi hq
    obtain ⟨q, rfl⟩ : ∃ r, q = r + 1 := ⟨q - 1, by omega⟩
    intro hs
    have hb := bhn_le h (c := 16 * p + i) (by omega) 0
    have hn := ih (i + 1) q (ptS W H dp fd p i s) (by omega) (by omega) (ptS_le hb hs)
    rw [f_X1_findPatch_b13, pl16, if_neg (nI_ge (by omega) (by omega)), pk_mul, nI_add, p_shownG h h30 (by omega), Option.bind_some, f_X1_findPatch_b98, nI_1, ptL]
    rw [ptS] at hn ⊢
    by_cases h0 : bhn dp fd (16 * p + i) 0 = 0
    · rw [if_pos h0] at hn ⊢
      rw [if_pos (by rw [h0]; decide)]
      exact hn
    · rw [if_neg h0] at hn ⊢
      have hpos : ¬ nI (bhn dp fd (16 * p + i) 0) ≤ 0 := nI_ge (a := 0) (by omega) (by omega)
      have e1 : f_X1_cellsShowing G.2.2.2.2.2.1 G.2.2.2.2.2.2.1 (nI p) (nI (pzcb (W p) (H p))) (nI (bhn dp fd (16 * p + i) 0)) = some (nI (wS W H dp fd p (bhn dp fd (16 * p + i) 0))) := by
        have e := p_showing_b h h30 (p := p) (d := bhn dp fd (16 * p + i) 0) (ce := pzcb (W p) (H p)) hp hb 16 0 4000 0 (by omega) (by omega)
        rw [bF_and hw hh (g := fun j => inC (W p) (H p) j && bhn dp fd (16 * p + j) 0 == bhn dp fd (16 * p + i) 0) (fun j _ => rfl), ← pl0] at e
        exact e
      have e2 : (1 : Int32) <<< (nI i &&& 31) = nI (2 ^ i) := by rw [pl1, pl31, pn_shl (by omega)]
      have h2i : (2 : Nat) ^ i < 2 ^ 16 := Nat.pow_lt_pow_right (by omega) (by omega)
      have hit : itN (stC (wS W H dp fd p (bhn dp fd (16 * p + i) 0))) 16 (2 ^ i) < 65536 := by
        rw [itN_R]
        exact Nat.lt_of_le_of_lt Nat.and_le_right wS_lt
      have h16 := ptN_le W H dp fd p i
      have e3 : f_J6_bitCount_0f7a4 (nI (itN (stC (wS W H dp fd p (bhn dp fd (16 * p + i) 0))) 16 (2 ^ i))) = some (nI (ptN W H dp fd p i)) := p_count16 hit
      rw [if_neg hpos, e1, Option.bind_some, e2, p_spread wS_lt h2i, Option.bind_some, e3, Option.bind_some, f_X1_findPatch_b86, f_X1_findPatch_b98, nI_1]
      generalize ptN W H dp fd p i = N at hn h16 ⊢
      generalize bhn dp fd (16 * p + i) 0 = d at hn hb ⊢
      by_cases h1 : s.1 < N
      · rw [if_pos h1] at hn ⊢
        rw [if_pos (nI_lt h1 (by omega))]
        exact hn
      · rw [if_neg h1] at hn ⊢
        rw [if_neg (nI_nlt (by omega) (by omega))]
        by_cases h2 : N = s.1
        · rw [if_pos h2] at hn ⊢
          rw [if_pos (by rw [h2])]
          by_cases h3 : d ≤ s.2
          · rw [if_pos h3] at hn ⊢
            rw [if_pos (nI_le h3 (by omega))]
            exact hn
          · rw [if_neg h3] at hn ⊢
            rw [if_neg (nI_ge (by omega) (by omega))]
            exact hn
        · rw [if_neg h2] at hn ⊢
          rw [if_neg (by rw [nI_eq (by omega) (by omega)]; exact h2)]
          exact hn
theorem p_find {np hd : Nat} {W H : Nat → Nat} {G : GC} {row : Nat → Int32} {dp fd : Nat → Nat} {dy : Nat} (h : PzG np hd W H G row dp fd dy) (h30 : hd ≤ 30) {p : Nat} (hp : p < 5) (hw : W p ≤ 4) (hh : H p ≤ 4) (a b : Int32) : f_X1_findPatch a b G.2.2.2.2.2.1 G.2.2.2.2.2.2.1 (nI p) (nI (pzcb (W p) (H p))) = some (nI (ptL W H dp fd p 16 0 (0, 0)).1, nI (ptL W H dp fd p 16 0 (0, 0)).2) := by
  have e := p_find_b h h30 hp hw hh 16 0 4000 (0, 0) (by omega) (by omega) ⟨by omega, by omega⟩
  exact e
theorem r_inL {row : Nat → Int32} {pa : Nat → Nat → Int32} {c : Nat} (hc : c < 16) {x1 x4 x5 : Int32} {k23 : Int32 → Int32 → Int32 → Int32 → Option Int32} {k33 : Int32 → Int32 → Int32 → Int32 → Int32 → Option Int32} : ∀ (m i q x : Nat), i + m = 16 → m < q → x < 65536 → f_X11_patchOf_b76 row pa k23 k33 q x1 (nI x) x4 x5 (nI c) (nI i) = k33 x1 (nI (inL c m i x)) x4 x5 (nI (c + 1)) := by
  intro m
  induction m with
  | zero =>
    intro i q x hi hq
    obtain ⟨q, rfl⟩ : ∃ r, q = r + 1 := ⟨q - 1, by omega⟩
    intro hx
    rw [f_X11_patchOf_b76, pl16, if_pos (nI_le (by omega) (by omega)), f_X11_patchOf_b132, nI_1, inL]
  | succ m ih =>
    intro i q x hi hq
    obtain ⟨q, rfl⟩ : ∃ r, q = r + 1 := ⟨q - 1, by omega⟩
    intro hx
    have hx2 : x ||| 2 ^ c < 65536 := by
      have : (2 : Nat) ^ c < 2 ^ 16 := Nat.pow_lt_pow_right (by omega) hc
      exact Nat.or_lt_two_pow (n := 16) hx this
    have hf : fr (c % 4) (i % 4) + fr (c / 4) (i / 4) < 100 := by
      rw [fr, fr]
      omega
    rw [f_X11_patchOf_b76, pl16, if_neg (nI_ge (by omega) (by omega)), r_has hx (by omega), Option.bind_some, f_X11_patchOf_b126, f_X11_patchOf_b126, nI_1, inL]
    by_cases h1 : x.testBit i = true
    · rw [if_pos h1, if_pos h1, if_neg (show ¬ ((1 : Int32) = 0) by decide), pl4, pk_div (by omega) (by omega) (by omega), pk_div (by omega) (by omega) (by omega), pn_rem (by omega) (by omega) (by omega), pn_rem (by omega) (by omega) (by omega), r_far (by omega) (by omega), Option.bind_some, r_far (by omega) (by omega), Option.bind_some, nI_add]
      by_cases h2 : aj c i = true
      · rw [if_pos h2, if_pos (by rw [aj, beq_iff_eq] at h2; rw [h2]; rfl), pl1, pl31, pn_shl (by omega), pz_or]
        exact ih (i + 1) q _ (by omega) (by omega) hx2
      · rw [if_neg h2, if_neg (by
          rw [pl1, nI_eq (by omega) (by omega)]
          intro e
          exact h2 (by rw [aj, beq_iff_eq]; exact e))]
        exact ih (i + 1) q _ (by omega) (by omega) hx
    · rw [if_neg h1, if_neg h1, if_pos (show (0 : Int32) = 0 from rfl)]
      exact ih (i + 1) q _ (by omega) (by omega) hx
theorem r_swp {np hd : Nat} {W H : Nat → Nat} {G : GC} {s : CX6} {row : Nat → Int32} {pa : Nat → Nat → Int32} {dp fd : Nat → Nat} {dy : Nat} (h : PzG np hd W H G row dp fd dy) (h30 : hd ≤ 30) {p d : Nat} (hN : PzN W H s pa p) (hp : p < 5) (hd2 : d ≤ 200) {x5 : Int32} {k23 : Int32 → Int32 → Int32 → Int32 → Option Int32} : ∀ (m c q x : Nat), c + m = 16 → m < q → x < 65536 → sb x (wS W H dp fd p d) → f_X11_patchOf_b33 row pa k23 q (nI p) (nI x) (nI d) x5 (nI c) = k23 (nI p) (nI (swp (wS W H dp fd p d) m c x)) (nI d) (x5 + 1) := by
  intro m
  induction m with
  | zero =>
    intro c q x hi hq hx hs
    obtain ⟨q, rfl⟩ : ∃ r, q = r + 1 := ⟨q - 1, by omega⟩
    rw [f_X11_patchOf_b33, pl16, if_pos (nI_le (by omega) (by omega)), swp]
  | succ m ih =>
    intro c q x hi hq hx hs
    obtain ⟨q, rfl⟩ : ∃ r, q = r + 1 := ⟨q - 1, by omega⟩
    have hb := bhn_le h (c := 16 * p + c) (by omega) 0
    rw [f_X11_patchOf_b33, pl16, if_neg (nI_ge (by omega) (by omega)), r_isOf hN hp (by omega), Option.bind_some, f_X11_patchOf_b132, nI_1, swp]
    have htb : (wS W H dp fd p d).testBit c = (inC (W p) (H p) c && bhn dp fd (16 * p + c) 0 == d) := by
      rw [wS_tb, decide_eq_true (show c < 16 by omega), Bool.true_and]
    cases h2 : inC (W p) (H p) c with
    | false =>
      rw [h2, Bool.false_and] at htb
      rw [htb, if_neg (show ¬ (false = true) by decide), if_neg (show ¬ (false = true) by decide), if_pos (show (0 : Int32) = 0 from rfl)]
      exact ih (c + 1) q x (by omega) (by omega) hx hs
    | true =>
      rw [h2, Bool.true_and] at htb
      rw [if_pos (show true = true from rfl), if_neg (show ¬ ((1 : Int32) = 0) by decide), pk_mul, nI_add, show (0 : Int32) = nI 0 from rfl, r_filmG h h30 (by omega) (by omega), Option.bind_some]
      by_cases h3 : bhn dp fd (16 * p + c) 0 = d
      · rw [beq_iff_eq.mpr h3] at htb
        obtain ⟨b1, b2, -⟩ := inL_p (by omega) htb 16 0 x (by omega) hx hs
        have e := r_inL (row := row) (pa := pa) (c := c) (by omega) (x1 := nI p) (x4 := nI d) (x5 := x5) (k23 := k23) (k33 := f_X11_patchOf_b33 row pa k23 q) 16 0 4000 x (by omega) (by omega) hx
        rw [htb, if_pos (show true = true from rfl), if_pos (by rw [h3]), e]
        exact ih (c + 1) q _ (by omega) (by omega) b1 b2
      · rw [beq_eq_false_iff_ne.mpr h3] at htb
        rw [htb, if_neg (show ¬ (false = true) by decide), if_neg (by rw [nI_eq (by omega) (by omega)]; exact h3)]
        exact ih (c + 1) q x (by omega) (by omega) hx hs
theorem r_patchOf_b {np hd : Nat} {W H : Nat → Nat} {G : GC} {s : CX6} {row : Nat → Int32} {pa : Nat → Nat → Int32} {dp fd : Nat → Nat} {dy : Nat} (h : PzG np hd W H G row dp fd dy) (h30 : hd ≤ 30) {p d : Nat} (hN : PzN W H s pa p) (hp : p < 5) (hd2 : d ≤ 200) : ∀ (m i q x : Nat), i + m = 16 → m < q → x < 65536 → sb x (wS W H dp fd p d) → f_X11_patchOf_b23 row pa q (nI p) (nI x) (nI d) (nI i) = some (nI (itN (swp (wS W H dp fd p d) 16 0) m x)) := by
  intro m
  induction m with
  | zero =>
    intro i q x hi hq
    obtain ⟨q, rfl⟩ : ∃ r, q = r + 1 := ⟨q - 1, by omega⟩
    intro hx hs
    rw [f_X11_patchOf_b23, pl16, if_pos (nI_le (by omega) (by omega)), itN]
  | succ m ih =>
    intro i q x hi hq
    obtain ⟨q, rfl⟩ : ∃ r, q = r + 1 := ⟨q - 1, by omega⟩
    intro hx hs
    obtain ⟨b1, b2, -⟩ := gd_R (wS W H dp fd p d) x hx hs
    have e := r_swp h h30 hN hp hd2 (x5 := nI i) (k23 := f_X11_patchOf_b23 row pa q) 16 0 4000 x (by omega) (by omega) hx hs
    rw [← pl0] at e
    rw [f_X11_patchOf_b23, pl16, if_neg (nI_ge (by omega) (by omega)), e, nI_1, itN]
    exact ih (i + 1) q _ (by omega) (by omega) b1 b2
theorem r_patchOf {np hd : Nat} {W H : Nat → Nat} {G : GC} {s : CX6} {row : Nat → Int32} {pa : Nat → Nat → Int32} {dp fd : Nat → Nat} {dy : Nat} (h : PzG np hd W H G row dp fd dy) (h30 : hd ≤ 30) {p i : Nat} (hN : PzN W H s pa p) (hp : p < 5) (hi : i < 16) (h0 : bhn dp fd (16 * p + i) 0 ≠ 0) : ∃ x, x < 65536 ∧ f_X11_patchOf row pa (nI p) (nI i) = some (nI x) ∧ pop x = ptN W H dp fd p i := by
  have hb := bhn_le h (c := 16 * p + i) (by omega) 0
  have h2i : (2 : Nat) ^ i < 2 ^ 16 := Nat.pow_lt_pow_right (by omega) (by omega)
  have hin : inC (W p) (H p) i = true := by
    have h1 : 0 < dp (16 * p + i) := by
      by_cases e : 0 < dp (16 * p + i)
      · exact e
      · exact absurd (by rw [bhn, if_neg e]) h0
    have h2 := (h.1 (16 * p + i) (by omega)).2.2.2 h1
    rw [inC, Bool.and_eq_true, decide_eq_true_iff, decide_eq_true_iff]
    obtain ⟨-, h3, h4⟩ := h2
    rw [show (16 * p + i) / 16 = p by omega] at h3 h4
    rw [show (16 * p + i) % 4 = i % 4 by omega] at h3
    rw [show (16 * p + i) % 16 = i by omega] at h4
    exact ⟨h3, h4⟩
  have hsb : sb (2 ^ i) (wS W H dp fd p (bhn dp fd (16 * p + i) 0)) := by
    intro j hj
    rw [Nat.testBit_two_pow, decide_eq_true_iff] at hj
    subst hj
    rw [wS_tb, decide_eq_true hi, hin, beq_iff_eq.mpr rfl]
    rfl
  have e := r_patchOf_b h h30 hN hp hb 16 0 4000 (2 ^ i) (by omega) (by omega) h2i hsb
  have ebit : (2 ^ i).testBit i = true := by rw [Nat.testBit_two_pow, decide_eq_true rfl]
  rw [← fl_eq (gd_C wS_lt) (gd_R _) h2i hsb hi ebit, ← pl0] at e
  obtain ⟨a1, -⟩ := fl_all (gd_C wS_lt) h2i hsb hi ebit
  refine ⟨_, a1, ?_, rfl⟩
  rw [f_X11_patchOf, pl16, pk_mul, nI_add, show (0 : Int32) = nI 0 from rfl, r_filmG h h30 (c := 16 * p + i) (j := 0) (by omega) (by omega), Option.bind_some, pl1, pl31, pn_shl (by omega)]
  exact e
theorem r_cnt {to row v : Nat → Int32} {pa : Nat → Nat → Int32} {k60 : (Int32) → (Nat → Int32) → Int32 → Int32 → Int32 → Int32 → Int32 → Option (Int32 × Int32 × (Nat → Int32))} {x1 x2 : Int32} {mo da c d x : Nat} (hx : x < 65536) (hmo : mo ≤ 16) (hda : da ≤ 200) (hd2 : d ≤ 200) : ∀ (m i q n : Nat), i + m = 16 → m < q → n ≤ i → f_X11_patch_b108 to row pa k60 q 0 v x1 x2 (nI mo) (nI da) (nI c) (nI d) (nI n) (nI x) (nI i) = (if n + sF (fun i => (x.testBit i).toNat) m i < mo then k60 0 v x1 x2 (nI mo) (nI da) (nI (c + 1)) else if n + sF (fun i => (x.testBit i).toNat) m i = mo then (if da < d then k60 0 v x1 x2 (nI (n + sF (fun i => (x.testBit i).toNat) m i)) (nI d) (nI (c + 1)) else k60 0 v x1 x2 (nI mo) (nI da) (nI (c + 1))) else k60 0 v x1 x2 (nI (n + sF (fun i => (x.testBit i).toNat) m i)) (nI d) (nI (c + 1))) := by
  intro m
  induction m with
  | zero =>
    intro i q n hi hq
    obtain ⟨q, rfl⟩ : ∃ r, q = r + 1 := ⟨q - 1, by omega⟩
    intro hn
    rw [f_X11_patch_b108, pl16, if_pos (nI_le (by omega) (by omega)), f_X11_patch_b162, f_X11_patch_b155, f_X11_patch_b162, nI_1, sF, Nat.add_zero n]
    by_cases h1 : n < mo
    · rw [if_pos h1, if_pos (nI_lt h1 (by omega))]
    · rw [if_neg h1, if_neg (nI_nlt (by omega) (by omega))]
      by_cases h2 : n = mo
      · rw [if_pos h2, if_pos (by rw [h2])]
        by_cases h3 : da < d
        · rw [if_pos h3, if_pos (nI_lt h3 (by omega))]
        · rw [if_neg h3, if_neg (nI_nlt (by omega) (by omega))]
      · rw [if_neg h2, if_neg (by rw [nI_eq (by omega) (by omega)]; exact h2)]
  | succ m ih =>
    intro i q n hi hq
    obtain ⟨q, rfl⟩ : ∃ r, q = r + 1 := ⟨q - 1, by omega⟩
    intro hn
    have hb1 : x / 2 ^ i % 2 < 2 := Nat.mod_lt _ (by omega)
    rw [f_X11_patch_b108, pl16, if_neg (nI_ge (by omega) (by omega)), pl31, pl1, pn_bit (by omega) (by omega), nI_add, nI_add, ih (i + 1) q _ (by omega) (by omega) (by omega), sF, tb_nat, Nat.add_assoc]
theorem r_patch_b {np hd : Nat} {W H : Nat → Nat} {G : GC} {s : CX6} {to row v : Nat → Int32} {pa : Nat → Nat → Int32} {dp fd : Nat → Nat} {dy : Nat} (h : PzG np hd W H G row dp fd dy) (h30 : hd ≤ 30) {p : Nat} (hN : PzN W H s pa p) (hp : p < 5) {x2 : Int32} : ∀ (m i q : Nat) (t : Nat × Nat), i + m = 16 → m < q → t.1 ≤ 16 ∧ t.2 ≤ 200 → f_X11_patch_b60 to row pa q 0 v (nI p) x2 (nI t.1) (nI t.2) (nI i) = some (if x2 = 0 then nI (ptL W H dp fd p m i t).1 else nI (ptL W H dp fd p m i t).2, 0, v) := by
  intro m
  induction m with
  | zero =>
    intro i q t hi hq
    obtain ⟨q, rfl⟩ : ∃ r, q = r + 1 := ⟨q - 1, by omega⟩
    intro ht
    rw [f_X11_patch_b60, pl16, if_pos (nI_le (by omega) (by omega)), ptL]
    by_cases e : x2 = 0
    · rw [if_pos e, if_pos e]
    · rw [if_neg e, if_neg e]
  | succ m ih =>
    intro i q t hi hq
    obtain ⟨q, rfl⟩ : ∃ r, q = r + 1 := ⟨q - 1, by omega⟩
    intro ht
    have hb := bhn_le h (c := 16 * p + i) (by omega) 0
    have hn := ih (i + 1) q (ptS W H dp fd p i t) (by omega) (by omega) (ptS_le hb ht)
    have h16 := ptN_le W H dp fd p i
    have hpt := fun h0 => r_patchOf h h30 hN hp (i := i) (by omega) h0
    rw [f_X11_patch_b60, pl16, if_neg (nI_ge (by omega) (by omega)), pk_mul, nI_add, show (0 : Int32) = nI 0 from rfl, r_filmG h h30 (by omega) (by omega), Option.bind_some, f_X11_patch_b103, ptL]
    rw [ptS] at hn ⊢
    by_cases h0 : bhn dp fd (16 * p + i) 0 = 0
    · rw [if_pos h0] at hn ⊢
      rw [h0, if_pos rfl]
      have e := r_cnt (to := to) (row := row) (v := v) (pa := pa) (k60 := f_X11_patch_b60 to row pa q) (x1 := nI p) (x2 := x2) (mo := t.1) (da := t.2) (c := i) (d := 0) (x := 0) (by omega) ht.1 ht.2 (by omega) 16 0 4000 0 (by omega) (by omega) (by omega)
      have z : sF (fun i => ((0 : Nat).testBit i).toNat) 16 0 = 0 := rfl
      rw [z, Nat.add_zero] at e
      rw [← pl0] at e ⊢
      rw [e]
      by_cases h1 : 0 < t.1
      · rw [if_pos h1]
        exact hn
      · rw [if_neg h1, if_pos (by omega), if_neg (by omega)]
        exact hn
    · rw [if_neg h0] at hn ⊢
      obtain ⟨x, hx, hxe, hxp⟩ := hpt h0
      have e := r_cnt (to := to) (row := row) (v := v) (pa := pa) (k60 := f_X11_patch_b60 to row pa q) (x1 := nI p) (x2 := x2) (mo := t.1) (da := t.2) (c := i) (d := bhn dp fd (16 * p + i) 0) (x := x) hx ht.1 ht.2 hb 16 0 4000 0 (by omega) (by omega) (by omega)
      rw [Nat.zero_add, show sF (fun i => (x.testBit i).toNat) 16 0 = ptN W H dp fd p i from hxp] at e
      rw [if_neg (by rw [nI_eq (by omega) (by omega)]; exact h0), hxe, Option.bind_some, f_X11_patch_b103]
      rw [← pl0] at e ⊢
      rw [e]
      generalize ptN W H dp fd p i = N at hn h16 ⊢
      generalize bhn dp fd (16 * p + i) 0 = d at hn hb ⊢
      by_cases h1 : t.1 < N
      · rw [if_pos h1] at hn ⊢
        rw [if_neg (by omega), if_neg (by omega)]
        exact hn
      · rw [if_neg h1] at hn ⊢
        by_cases h2 : N = t.1
        · rw [if_pos h2] at hn ⊢
          rw [if_neg (by omega), if_pos h2]
          by_cases h3 : d ≤ t.2
          · rw [if_pos h3] at hn ⊢
            rw [if_neg (by omega)]
            exact hn
          · rw [if_neg h3] at hn ⊢
            rw [if_pos (by omega)]
            exact hn
        · rw [if_neg h2] at hn
          rw [if_pos (show N < t.1 by omega), if_neg h2]
          exact hn
theorem a_patch {C : CS} {R : RS} (hc : PzC C R) (x1 x2 : Int32) :
    (∃ r z0 z1, fC_patch C x1 x2 = some (0, r, C.v15, z0, z1) ∧ fR_patch R x1 x2 = some (r, 0, R.v10)) ∨
    (∃ z0 z1, fC_patch C x1 x2 = some (2, 0, upd C.v15 1 (C.v15 1 + 1), z0, z1) ∧ fR_patch R x1 x2 = some (0, 1, upd R.v10 1 (R.v10 1 + 1))) ∨
    (∃ z0 z1, fC_patch C x1 x2 = some (1, 0, upd C.v15 2 (C.v15 2 + 1), z0, z1) ∧ fR_patch R x1 x2 = some (0, 2, upd R.v10 2 (R.v10 2 + 1))) := by
  obtain ⟨np, no, hd, W, H, hS, ⟨dp, fd, dy, hG⟩, -⟩ := hc
  have h30 := hS.2.2.1.2
  rcases pz_pane hS C.v15 x1 with ⟨h1, h2⟩ | ⟨p, hp, hp5, rfl, h1, h2⟩
  · exact .inr (.inl ⟨C.g.1, C.g.2.1, by simp -implicitDefEqProofs only [Option.bind_some, pz10, if_true, if_false, eq_self, ↓reduceIte, r_bad0, r_A1, r_A2, r_B1, r_B2, r_B3, r_C1, fC_patch, f_X10_patch, h1]; rfl, by simp -implicitDefEqProofs only [Option.bind_some, pz10, if_true, if_false, eq_self, ↓reduceIte, r_bad0, r_A1, r_A2, r_B1, r_B2, r_B3, r_C1, fR_patch, f_X11_patch, h2, f_X11_patch_b19]⟩)
  · rcases pz_what C.v15 x2 1 (by omega) with ⟨h3, h4⟩ | ⟨a, ha, rfl, h3, h4⟩
    · rw [← pl1] at h3 h4
      exact .inr (.inr ⟨C.g.1, C.g.2.1, by simp -implicitDefEqProofs only [Option.bind_some, pz10, if_true, if_false, eq_self, ↓reduceIte, r_bad0, r_A1, r_A2, r_B1, r_B2, r_B3, r_C1, fC_patch, f_X10_patch, h1, h3]; rfl, by simp -implicitDefEqProofs only [Option.bind_some, pz10, if_true, if_false, eq_self, ↓reduceIte, r_bad0, r_A1, r_A2, r_B1, r_B2, r_B3, r_C1, fR_patch, f_X11_patch, h2, f_X11_patch_b19, h4, f_X11_patch_b42]⟩)
    · rw [← pl1] at h3 h4
      have hN := hS.2.2.2.2.2.2.2.2.2.1 p hp
      have e1 := p_find hG h30 hp5 hN.1.2 hN.2.1.2 C.g.1 C.g.2.1
      have e2 := r_patch_b (to := R.v12) (v := R.v10) hG h30 hN hp5 (x2 := nI a) 16 0 4000 (0, 0) (by omega) (by omega) ⟨by omega, by omega⟩
      have e2' : f_X11_patch_b60 R.v12 R.v29 R.g14 4000 0 R.v10 (nI p) (nI a) 0 0 0 = some (if nI a = 0 then nI (ptL W H dp fd p 16 0 (0, 0)).1 else nI (ptL W H dp fd p 16 0 (0, 0)).2, 0, R.v10) := e2
      generalize ptL W H dp fd p 16 0 (0, 0) = t at e1 e2'
      refine .inl ⟨if nI a = 0 then nI t.1 else nI t.2, nI t.1, nI t.2, ?_, ?_⟩
      · simp -implicitDefEqProofs only [Option.bind_some, pz10, if_true, if_false, eq_self, ↓reduceIte, r_bad0, r_A1, r_A2, r_B1, r_B2, r_B3, r_C1, fC_patch, f_X10_patch, h1, h3]
        rw [pu_ck hp5 (by omega), nI_clamp (by omega), hN.2.2.2.2.2.2.2.2, e1, Option.bind_some]
        by_cases e : nI a = 0
        · rw [if_pos e, if_pos e]
        · rw [if_neg e, if_neg e]
      · simp -implicitDefEqProofs only [Option.bind_some, pz10, if_true, if_false, eq_self, ↓reduceIte, r_bad0, r_A1, r_A2, r_B1, r_B2, r_B3, r_C1, fR_patch, f_X11_patch, h2, f_X11_patch_b19, h4, f_X11_patch_b42, e2']
theorem q_patch {L i : Nat} {C : CS} {R : RS} {cells slots : Nat} (h : PzInv L i C R cells slots) (hi : i + 7 ≤ L) (x1 x2 : Int32) : pS_patch (PzInv L (i + 7)) C R x1 x2 cells slots := by
  rcases a_patch h.2.1 x1 x2 with ⟨r, z0, z1, h1, h2⟩ | ⟨z0, z1, h1, h2⟩ | ⟨z0, z1, h1, h2⟩
  · exact ⟨(0, r, C.v15, z0, z1), (r, 0, R.v10), h1, h2, .inl rfl, rfl, fun _ => rfl, pz_fit h (by omega) (by omega), h.keep hi (by omega) (by omega) h.1⟩
  · exact ⟨(2, 0, upd C.v15 1 (C.v15 1 + 1), z0, z1), (0, 1, upd R.v10 1 (R.v10 1 + 1)), h1, h2, .inr (.inl rfl), rfl, fun _ => rfl, pz_fit h (by omega) (by omega), h.keep hi (by omega) (by omega) h.1.up⟩
  · exact ⟨(1, 0, upd C.v15 2 (C.v15 2 + 1), z0, z1), (0, 2, upd R.v10 2 (R.v10 2 + 1)), h1, h2, .inr (.inr rfl), rfl, fun _ => rfl, pz_fit h (by omega) (by omega), h.keep hi (by omega) (by omega) h.1.up⟩

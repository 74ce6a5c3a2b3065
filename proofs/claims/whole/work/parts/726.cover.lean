/-! cover -/
def fr (a b : Nat) : Nat := (a - b) + (b - a)
theorem p_abs {a b : Nat} (ha : a < 1000) (hb : b < 1000) : (if 0 ≤ nI a - nI b then nI a - nI b else 0 - (nI a - nI b)) = nI (fr a b) := by
  by_cases h : b ≤ a
  · rw [pk_sub h, if_pos (nI_pos' (by omega)), fr]
    congr 1
    omega
  · have h1 := pk_sneg (a := a) (b := b) (by omega) (by omega)
    rw [if_neg (by rw [Int32.not_le]; exact h1), fr]
    have e : (0 : Int32) - (nI a - nI b) = nI b - nI a := by
      simp only [Int32.sub_eq_add_neg, Int32.neg_add, Int32.neg_neg, Int32.zero_add]
      rw [Int32.add_comm]
    rw [e, pk_sub (by omega)]
    congr 1
    omega
theorem r_far {a b : Nat} (ha : a < 2 ^ 30) (hb : b < 2 ^ 30) : f_X11_far (nI a) (nI b) = some (nI (fr a b)) := by
  rw [f_X11_far]
  by_cases h : a ≤ b
  · rw [if_pos (nI_le h (by omega)), pk_sub h, fr]
    congr 2
    omega
  · rw [if_neg (nI_ge (by omega) (by omega)), pk_sub (by omega), fr]
    congr 2
    omega
def cirB (x y r i : Nat) : Bool := decide (fr (i % 4) x + fr (i / 4) y ≤ r)
theorem p_circle_b {x y r : Nat} (hx : x < 100) (hy : y < 100) (hr : r < 100) : ∀ (m i q acc : Nat), i + m = 16 → m < q → f_X1_circleAt_b5 q (nI x) (nI y) (nI r) (nI acc) (nI i) = some (nI (bF (cirB x y r) m i acc)) := by
  intro m
  induction m with
  | zero =>
    intro i q acc hi hq
    obtain ⟨q, rfl⟩ : ∃ r, q = r + 1 := ⟨q - 1, by omega⟩
    rw [f_X1_circleAt_b5, pl16, if_pos (nI_le (by omega) (by omega)), bF]
  | succ m ih =>
    intro i q acc hi hq
    obtain ⟨q, rfl⟩ : ∃ r, q = r + 1 := ⟨q - 1, by omega⟩
    have e3 : nI i &&& 3 = nI (i % 4) := pk_andN (by omega) 2 (by rfl)
    have e2 : nI i >>> ((2 : Int32) &&& 31) = nI (i / 4) := pk_shrN (by omega) _ 2 (by rfl)
    have hf1 : fr (i % 4) x < 200 := by rw [fr]; omega
    have hf2 : fr (i / 4) y < 200 := by rw [fr]; omega
    rw [f_X1_circleAt_b5, pl16, if_neg (nI_ge (by omega) (by omega)), e3, e2, p_abs (by omega) (by omega), p_abs (by omega) (by omega), nI_add, f_X1_circleAt_b42, f_X1_circleAt_b42, nI_1, bF]
    by_cases h : fr (i % 4) x + fr (i / 4) y ≤ r
    · rw [if_neg (nI_nlt h (by omega)), if_pos (by rw [cirB, decide_eq_true_iff]; exact h), pl1, pl31, pn_shl (by omega), pz_or]
      exact ih (i + 1) q _ (by omega) (by omega)
    · rw [if_pos (nI_lt (by omega) (by omega)), if_neg (by rw [cirB, decide_eq_true_iff]; exact h)]
      exact ih (i + 1) q _ (by omega) (by omega)
def cirN (x y r : Nat) : Nat := bF (cirB x y r) 16 0 0
theorem p_circle {x y r : Nat} (hx : x < 100) (hy : y < 100) (hr : r < 100) : f_X1_circleAt (nI x) (nI y) (nI r) = some (nI (cirN x y r)) := by
  have e := p_circle_b hx hy hr 16 0 4000 0 (by omega) (by omega)
  rw [← pl0] at e
  exact e
theorem cirN_lt (x y r : Nat) : cirN x y r < 65536 := bF_lt _ 16 16 0 0 (by omega) (by omega)
theorem r_circle_b {W H : Nat → Nat} {s : CX6} {pa : Nat → Nat → Int32} {p c r : Nat} (hN : PzN W H s pa p) (hp : p < 5) (hc : c < 16) (hr : r < 100) : ∀ (m i q acc : Nat), i + m = 16 → m < q → f_X11_circleOf_b6 pa q (nI p) (nI c) (nI r) (nI acc) (nI i) = some (nI (bF (fun i => inC (W p) (H p) i && cirB (c % 4) (c / 4) r i) m i acc)) := by
  intro m
  induction m with
  | zero =>
    intro i q acc hi hq
    obtain ⟨q, rfl⟩ : ∃ r, q = r + 1 := ⟨q - 1, by omega⟩
    rw [f_X11_circleOf_b6, pl16, if_pos (nI_le (by omega) (by omega)), bF]
  | succ m ih =>
    intro i q acc hi hq
    obtain ⟨q, rfl⟩ : ∃ r, q = r + 1 := ⟨q - 1, by omega⟩
    have h0 : nI acc ||| (0 : Int32) = nI acc := by rw [pl0, pz_or, Nat.or_zero]
    have hf1 : fr (i % 4) (c % 4) < 200 := by rw [fr]; omega
    have hf2 : fr (i / 4) (c / 4) < 200 := by rw [fr]; omega
    rw [f_X11_circleOf_b6, pl16, if_neg (nI_ge (by omega) (by omega)), r_isOf hN hp (by omega), Option.bind_some, pl4, pk_rem (by omega) (by omega) (by omega), pk_rem (by omega) (by omega) (by omega), pk_div (by omega) (by omega) (by omega), pk_div (by omega) (by omega) (by omega), r_far (by omega) (by omega), Option.bind_some, r_far (by omega) (by omega), Option.bind_some, nI_add, f_X11_circleOf_b57, f_X11_circleOf_b58, f_X11_circleOf_b58, h0, nI_1, bF]
    cases hA : inC (W p) (H p) i with
    | false =>
      rw [if_pos (by decide), Bool.false_and, if_neg (by decide)]
      exact ih (i + 1) q _ (by omega) (by omega)
    | true =>
      rw [if_neg (show ¬ (if true = true then (1 : Int32) else 0) = 0 by decide), Bool.true_and]
      by_cases h : fr (i % 4) (c % 4) + fr (i / 4) (c / 4) ≤ r
      · rw [if_neg (nI_nlt h (by omega)), if_pos (by rw [cirB, decide_eq_true_iff]; exact h), pl1, pl31, pn_shl (by omega), pz_or]
        exact ih (i + 1) q _ (by omega) (by omega)
      · rw [if_pos (nI_lt (by omega) (by omega)), if_neg (by rw [cirB, decide_eq_true_iff]; exact h)]
        exact ih (i + 1) q _ (by omega) (by omega)
theorem r_circle {W H : Nat → Nat} {s : CX6} {pa : Nat → Nat → Int32} {p c r : Nat} (hN : PzN W H s pa p) (hp : p < 5) (hc : c < 16) (hr : r < 100) : f_X11_circleOf pa (nI p) (nI c) (nI r) = some (nI (cirN (c % 4) (c / 4) r &&& pzcb (W p) (H p))) := by
  have e := r_circle_b hN hp hc hr 16 0 4000 0 (by omega) (by omega)
  rw [← bF_and (f := cirB (c % 4) (c / 4) r) hN.1.2 hN.2.1.2 (fun i _ => rfl), ← pl0] at e
  exact e
def pzPkL (rec : Nat → Nat → Nat → Option Nat) (ci : Nat → Nat) (cb op dg : Nat) : Nat → Nat → Option Nat
  | 0, _ => none
  | m + 1, i => if cb.testBit i = true then (match rec (i + 1) (op &&& (ci i ^^^ (2 ^ 32 - 1))) (16 * dg + i) with
    | some r => some r
    | none => pzPkL rec ci cb op dg m (i + 1)) else pzPkL rec ci cb op dg m (i + 1)
def pzPk (ci : Nat → Nat) (cb : Nat) : Nat → Nat → Nat → Nat → Option Nat
  | 0, _, op, dg => if op = 0 then some dg else none
  | n + 1, first, op, dg => pzPkL (pzPk ci cb n) ci cb op dg (16 - first) first
def pzOI (o : Option Nat) : Int32 := match o with
  | none => -1
  | some r => nI r
theorem p16 {n : Nat} (h : n + 1 ≤ 4) {dg i : Nat} (h1 : dg < 16 ^ (4 - (n + 1))) (hi : i < 16) : 16 * dg + i < 16 ^ (4 - n) := by
  rw [show 4 - n = (4 - (n + 1)) + 1 by omega, Nat.pow_succ]
  omega
theorem p16b {n : Nat} (h : n ≤ 4) : 16 ^ (4 - n) ≤ 65536 := Nat.pow_le_pow_right (n := 16) (j := 4) (by omega) (by omega)
theorem pzPk_lt (ci : Nat → Nat) (cb : Nat) : ∀ (n first op dg r : Nat), n ≤ 4 → dg < 16 ^ (4 - n) → pzPk ci cb n first op dg = some r → r < 65536 := by
  intro n
  induction n with
  | zero =>
    intro first op dg r h1 h2 h3
    rw [pzPk] at h3
    by_cases h0 : op = 0
    · rw [if_pos h0] at h3
      have h4 : dg = r := by injection h3
      rw [show 16 ^ (4 - 0) = 65536 from rfl] at h2
      omega
    · rw [if_neg h0] at h3
      cases h3
  | succ n ih =>
    intro first op dg r h1 h2 h3
    rw [pzPk] at h3
    have hL : ∀ m i, i + m ≤ 16 → pzPkL (pzPk ci cb n) ci cb op dg m i = some r → r < 65536 := by
      intro m
      induction m with
      | zero =>
        intro i hi h4
        cases h4
      | succ m ihm =>
        intro i hi h4
        rw [pzPkL] at h4
        by_cases hb : cb.testBit i = true
        · rw [if_pos hb] at h4
          cases h5 : pzPk ci cb n (i + 1) (op &&& (ci i ^^^ (2 ^ 32 - 1))) (16 * dg + i) with
          | some r2 =>
            rw [h5] at h4
            have h6 : r2 = r := by injection h4
            rw [← h6]
            exact ih _ _ _ _ (by omega) (p16 h1 h2 (by omega)) h5
          | none =>
            rw [h5] at h4
            exact ihm (i + 1) (by omega) h4
        · rw [if_neg hb] at h4
          exact ihm (i + 1) (by omega) h4
    by_cases hf : first ≤ 16
    · exact hL (16 - first) first (by omega) h3
    · rw [show 16 - first = 0 by omega] at h3
      cases h3
theorem and_xlt {a b : Nat} (ha : a < 65536) : a &&& b < 65536 := Nat.lt_of_le_of_lt Nat.and_le_left ha
theorem p_pick {v : Nat → Int32} {ci : Nat → Nat} {cb : Nat} (hcb : cb < 65536) (hv1 : ∀ i, i < 16 → v i = nI (ci i)) : ∀ (n fu first op dg : Nat), n < fu → n ≤ 4 → first ≤ 16 → op < 65536 → dg < 16 ^ (4 - n) → f_X1_pickCircles fu v (nI cb) (nI first) (nI n) (nI op) (nI dg) = some (pzOI (pzPk ci cb n first op dg)) := by
  intro n
  induction n with
  | zero =>
    intro fu first op dg h1 h2 h3 h4 h5
    obtain ⟨fu, rfl⟩ : ∃ r, fu = r + 1 := ⟨fu - 1, by omega⟩
    rw [f_X1_pickCircles, fb_X1_pickCircles, if_neg (by decide), pzPk]
    by_cases h0 : op = 0
    · rw [if_pos (by rw [h0]; rfl), if_pos h0]
      rfl
    · rw [if_neg (nI_ne0 (by omega) (by omega)), if_neg h0]
      rfl
  | succ n ih =>
    intro fu first op dg h1 h2 h3 h4 h5
    obtain ⟨fu, rfl⟩ : ∃ r, fu = r + 1 := ⟨fu - 1, by omega⟩
    rw [f_X1_pickCircles, fb_X1_pickCircles, pl0, if_pos (nI_lt (by omega) (by omega)), pzPk]
    have hL : ∀ m i q, i + m = 16 → m < q → f_X1_pickCircles_b19 (f_X1_pickCircles fu) v q (nI cb) (nI (n + 1)) (nI op) (nI dg) (nI i) = some (pzOI (pzPkL (pzPk ci cb n) ci cb op dg m i)) := by
      intro m
      induction m with
      | zero =>
        intro i q hi hq
        obtain ⟨q, rfl⟩ : ∃ r, q = r + 1 := ⟨q - 1, by omega⟩
        rw [f_X1_pickCircles_b19, pl16, if_pos (nI_le (by omega) (by omega)), pzPkL]
        rfl
      | succ m ihm =>
        intro i q hi hq
        obtain ⟨q, rfl⟩ : ∃ r, q = r + 1 := ⟨q - 1, by omega⟩
        have hp := p16 h2 h5 (show i < 16 by omega)
        rw [f_X1_pickCircles_b19, pl16, if_neg (nI_ge (by omega) (by omega)), f_X1_pickCircles_b79, nI_1, pzPkL]
        by_cases hb : cb.testBit i = true
        · rw [if_pos (by rw [bit_if hcb (by omega)]; exact hb), if_pos hb, pu_ck (by omega) (by omega), nI_clamp (by omega), hv1 i (by omega), nI_pred, show (-1 : Int32) = nI (2 ^ 32 - 1) by decide, pz_xor, pz_and, pk_mul, nI_add, ih fu (i + 1) _ _ (by omega) (by omega) (by omega) (and_xlt h4) hp, Option.bind_some, ← show (-1 : Int32) = nI (2 ^ 32 - 1) by decide]
          cases h6 : pzPk ci cb n (i + 1) (op &&& (ci i ^^^ (2 ^ 32 - 1))) (16 * dg + i) with
          | some r =>
            have h7 := pzPk_lt ci cb n _ _ _ r (by omega) hp h6
            have h8 : ¬ pzOI (some r) = -1 := neg1_ne (by omega)
            rw [if_neg h8]
          | none =>
            have h8 : pzOI none = -1 := rfl
            rw [if_pos h8]
            exact ihm (i + 1) q (by omega) (by omega)
        · rw [if_neg (by rw [bit_if hcb (by omega)]; exact hb), if_neg hb]
          exact ihm (i + 1) q (by omega) (by omega)
    exact hL (16 - first) first 4000 (by omega) (by omega)
theorem sub_and {op c cb : Nat} (h : op &&& cb = op) : op &&& ((c &&& cb) ^^^ (2 ^ 32 - 1)) = op &&& (c ^^^ (2 ^ 32 - 1)) ∧ (op &&& (c ^^^ (2 ^ 32 - 1))) &&& cb = op &&& (c ^^^ (2 ^ 32 - 1)) := by
  have h1 : ∀ k, (op.testBit k && cb.testBit k) = op.testBit k := by
    intro k
    rw [← Nat.testBit_and, h]
  constructor
  · apply Nat.eq_of_testBit_eq
    intro k
    have := h1 k
    rw [Nat.testBit_and, Nat.testBit_and, Nat.testBit_xor, Nat.testBit_xor, Nat.testBit_and]
    cases h2 : op.testBit k
    · rfl
    · rw [h2, Bool.true_and] at this
      rw [this, Bool.and_true]
  · apply Nat.eq_of_testBit_eq
    intro k
    have := h1 k
    rw [Nat.testBit_and, Nat.testBit_and]
    cases h2 : op.testBit k
    · rfl
    · rw [h2, Bool.true_and] at this
      rw [this, Bool.and_true]
theorem r_pick {W H : Nat → Nat} {s : CX6} {pa : Nat → Nat → Int32} {p r : Nat} (hN : PzN W H s pa p) (hp : p < 5) (hr : r < 100) : ∀ (n fu first op dg : Nat) (z : Int32), n < fu → n ≤ 4 → first ≤ 16 → op < 65536 → op &&& pzcb (W p) (H p) = op → dg < 16 ^ (4 - n) → f_X11_covers fu z pa (nI p) (nI first) (nI n) (nI op) (nI r) (nI dg) = some (match pzPk (fun i => cirN (i % 4) (i / 4) r) (pzcb (W p) (H p)) n first op dg with
    | some t => (1, nI t)
    | none => (0, z)) := by
  have hcb := pzcb_lt (W p) hN.1.2 (H p) hN.2.1.2
  intro n
  induction n with
  | zero =>
    intro fu first op dg z h1 h2 h3 h4 h4b h5
    obtain ⟨fu, rfl⟩ : ∃ r, fu = r + 1 := ⟨fu - 1, by omega⟩
    rw [f_X11_covers, fb_X11_covers, if_pos (show nI 0 = 0 from rfl), pzPk, f_X11_covers_b19, f_X11_covers_b19]
    by_cases h0 : op = 0
    · rw [if_pos (by rw [h0]; rfl), if_pos (by rw [h0]; rfl), if_pos h0]
    · rw [if_neg (nI_ne0 (by omega) (by omega)), if_neg (nI_ne0 (by omega) (by omega)), if_neg h0]
  | succ n ih =>
    intro fu first op dg z h1 h2 h3 h4 h4b h5
    obtain ⟨fu, rfl⟩ : ∃ r, fu = r + 1 := ⟨fu - 1, by omega⟩
    rw [f_X11_covers, fb_X11_covers, if_neg (nI_ne0 (by omega) (by omega)), pzPk]
    have hL : ∀ m i q, i + m = 16 → m < q → f_X11_covers_b36 (f_X11_covers fu) pa q z (nI p) (nI (n + 1)) (nI op) (nI r) (nI dg) (nI i) = some (match pzPkL (pzPk (fun i => cirN (i % 4) (i / 4) r) (pzcb (W p) (H p)) n) (fun i => cirN (i % 4) (i / 4) r) (pzcb (W p) (H p)) op dg m i with
        | some t => (1, nI t)
        | none => (0, z)) := by
      intro m
      induction m with
      | zero =>
        intro i q hi hq
        obtain ⟨q, rfl⟩ : ∃ r, q = r + 1 := ⟨q - 1, by omega⟩
        rw [f_X11_covers_b36, pl16, if_pos (nI_le (by omega) (by omega)), pzPkL]
      | succ m ihm =>
        intro i q hi hq
        obtain ⟨q, rfl⟩ : ∃ r, q = r + 1 := ⟨q - 1, by omega⟩
        have hp16 := p16 h2 h5 (show i < 16 by omega)
        obtain ⟨s1, s2⟩ := sub_and (c := cirN (i % 4) (i / 4) r) h4b
        rw [f_X11_covers_b36, pl16, if_neg (nI_ge (by omega) (by omega)), r_isOf hN hp (by omega), Option.bind_some, r_circle hN hp (by omega) hr, Option.bind_some, nI_1, nI_pred, show (-1 : Int32) = nI (2 ^ 32 - 1) by decide, pz_xor, pz_and, s1, pk_mul, nI_add, ih fu (i + 1) _ _ z (by omega) (by omega) (by omega) (and_xlt h4) s2 hp16, Option.bind_some, pzPkL, inC_cb hN.1.2 hN.2.1.2 (by omega), f_X11_covers_b94, f_X11_covers_b94, nI_1]
        by_cases hb : inC (W p) (H p) i = true
        · rw [if_pos hb, if_pos hb, if_neg (by decide)]
          cases h6 : pzPk (fun i => cirN (i % 4) (i / 4) r) (pzcb (W p) (H p)) n (i + 1) (op &&& (cirN (i % 4) (i / 4) r ^^^ (2 ^ 32 - 1))) (16 * dg + i) with
          | some t =>
            rw [if_neg (show ¬ ((1 : Int32) = 0) by decide)]
          | none =>
            rw [if_pos (show (0 : Int32) = 0 from rfl)]
            exact ihm (i + 1) q (by omega) (by omega)
        · rw [if_neg hb, if_neg hb, if_pos rfl]
          exact ihm (i + 1) q (by omega) (by omega)
    exact hL (16 - first) first 4000 (by omega) (by omega)

/-! cells that hang together -/
def aj (c e : Nat) : Bool := fr (c % 4) (e % 4) + fr (c / 4) (e / 4) == 1
theorem aj_to0 : ∀ c, c < 16 → ∀ e, e < 16 → (!(aj c e) || ((e + 1 == c && !(e % 4 == 3)) || ((e == c + 1 && !(e % 4 == 0)) || (e + 4 == c || e == c + 4)))) = true := by decide +kernel
theorem aj_to (c : Nat) (hc : c < 16) (e : Nat) (he : e < 16) (h : aj c e = true) : (e + 1 = c ∧ e % 4 ≠ 3) ∨ (e = c + 1 ∧ e % 4 ≠ 0) ∨ e + 4 = c ∨ e = c + 4 := by
  have h1 := aj_to0 c hc e he
  rw [h, Bool.not_true, Bool.false_or, Bool.or_eq_true, Bool.or_eq_true, Bool.or_eq_true, Bool.and_eq_true, Bool.and_eq_true, Bool.not_eq_true', Bool.not_eq_true', beq_iff_eq, beq_iff_eq, beq_iff_eq, beq_iff_eq, beq_eq_false_iff_ne, beq_eq_false_iff_ne] at h1
  exact h1
theorem aj_l : ∀ c, c < 15 → c % 4 ≠ 3 → aj (c + 1) c = true := by decide +kernel
theorem aj_r : ∀ c, c < 16 → 1 ≤ c → c % 4 ≠ 0 → aj (c - 1) c = true := by decide +kernel
theorem aj_u : ∀ c, c < 12 → aj (c + 4) c = true ∧ aj c (c + 4) = true := by decide +kernel
theorem aj_self : ∀ c, c < 16 → aj c c = false := by decide +kernel
def sb (x y : Nat) : Prop := ∀ i, x.testBit i = true → y.testBit i = true
def cl (W K : Nat) : Prop := ∀ c e, c < 16 → e < 16 → W.testBit c = true → K.testBit e = true → aj c e = true → K.testBit c = true
def gd (W : Nat) (f : Nat → Nat) : Prop := ∀ x, x < 65536 → sb x W → f x < 65536 ∧ sb (f x) W ∧ sb x (f x) ∧ (∀ K, cl W K → sb x K → sb (f x) K) ∧ (∀ c e, c < 16 → e < 16 → W.testBit c = true → x.testBit e = true → aj c e = true → (f x).testBit c = true)
def itN (f : Nat → Nat) : Nat → Nat → Nat
  | 0, x => x
  | k + 1, x => itN f k (f x)
def itR (f : Nat → Nat) : Nat → Nat → Nat
  | 0, x => x
  | k + 1, x => f (itR f k x)
theorem itR_c (f : Nat → Nat) : ∀ k x, itR f k (f x) = f (itR f k x) := by
  intro k
  induction k with
  | zero => intro x; rfl
  | succ k ih =>
    intro x
    rw [itR, itR, ih x]
theorem itN_R (f : Nat → Nat) : ∀ k x, itN f k x = itR f k x := by
  intro k
  induction k with
  | zero => intro x; rfl
  | succ k ih =>
    intro x
    rw [itN, itR, ih, itR_c]
def pop (x : Nat) : Nat := sF (fun i => (x.testBit i).toNat) 16 0
theorem toNat_le1 (b : Bool) : b.toNat ≤ 1 := by cases b <;> decide
theorem pop_le (x : Nat) : pop x ≤ 16 := by
  have := sF_le (fun i => (x.testBit i).toNat) 1 16 0 (fun j _ _ => toNat_le1 _)
  exact this
theorem sF_eq (f g : Nat → Nat) : ∀ m i, (∀ j, i ≤ j → j < i + m → f j ≤ g j) → sF f m i = sF g m i → ∀ j, i ≤ j → j < i + m → f j = g j := by
  intro m
  induction m with
  | zero => intro i _ _ j h1 h2; omega
  | succ m ih =>
    intro i h e j h1 h2
    rw [sF, sF] at e
    have a1 := h i (by omega) (by omega)
    have a2 := sF_mono f g m (i + 1) (fun j h3 h4 => h j (by omega) (by omega))
    by_cases e1 : j = i
    · subst e1
      omega
    · exact ih (i + 1) (fun j h3 h4 => h j (by omega) (by omega)) (by omega) j (by omega) (by omega)
theorem tb_16 {x i : Nat} (hx : x < 65536) (hi : 16 ≤ i) : x.testBit i = false := by
  apply Nat.testBit_lt_two_pow
  exact Nat.lt_of_lt_of_le (show x < 2 ^ 16 from hx) (Nat.pow_le_pow_right (by omega) hi)
theorem sb_toNat {x y : Nat} (h : sb x y) (i : Nat) : (x.testBit i).toNat ≤ (y.testBit i).toNat := by
  cases e : x.testBit i with
  | false => exact Nat.zero_le _
  | true => rw [h i e]; exact Nat.le_refl _
theorem pop_lt {x y : Nat} (hx : x < 65536) (hy : y < 65536) (h : sb x y) (hne : x ≠ y) : pop x < pop y := by
  have h1 : pop x ≤ pop y := sF_mono _ _ 16 0 (fun j _ _ => sb_toNat h j)
  by_cases h2 : pop x = pop y
  · exfalso
    apply hne
    apply Nat.eq_of_testBit_eq
    intro i
    by_cases hi : i < 16
    · have e := sF_eq _ _ 16 0 (fun j _ _ => sb_toNat h j) h2 i (by omega) (by omega)
      have e2 : (x.testBit i).toNat = (y.testBit i).toNat := e
      cases e3 : x.testBit i with
      | true => rw [h i e3]
      | false =>
        cases e4 : y.testBit i with
        | false => rfl
        | true => rw [e3, e4] at e2; exact absurd e2 (by decide)
    · rw [tb_16 hx (by omega), tb_16 hy (by omega)]
  · omega
theorem sb_refl (x : Nat) : sb x x := fun _ h => h
theorem pop_pos {x e : Nat} (he : e < 16) (h : x.testBit e = true) : 1 ≤ pop x := by
  have e1 := sF_split (fun i => (x.testBit i).toNat) e (16 - e) 0
  have e2 := sF_split (fun i => (x.testBit i).toNat) 1 (15 - e) (0 + e)
  rw [show e + (16 - e) = 16 by omega] at e1
  rw [show 1 + (15 - e) = 16 - e by omega] at e2
  rw [pop, e1, e2, sF, Nat.zero_add, h]
  show 1 ≤ sF _ e 0 + (1 + 0 + _)
  omega
theorem fl_all {W : Nat} {f : Nat → Nat} (hf : gd W f) {x : Nat} (hx : x < 65536) (hs : sb x W) {e0 : Nat} (he : e0 < 16) (h0 : x.testBit e0 = true) : itN f 16 x < 65536 ∧ sb (itN f 16 x) W ∧ sb x (itN f 16 x) ∧ cl W (itN f 16 x) ∧ ∀ K, cl W K → sb x K → sb (itN f 16 x) K := by
  have hI : ∀ k, itR f k x < 65536 ∧ sb (itR f k x) W ∧ sb x (itR f k x) ∧ ∀ K, cl W K → sb x K → sb (itR f k x) K := by
    intro k
    induction k with
    | zero => exact ⟨hx, hs, sb_refl x, fun K _ h => h⟩
    | succ k ih =>
      obtain ⟨a1, a2, a3, a4⟩ := ih
      obtain ⟨b1, b2, b3, b4, b5⟩ := hf _ a1 a2
      exact ⟨b1, b2, fun i h => b3 i (a3 i h), fun K h1 h2 => b4 K h1 (a4 K h1 h2)⟩
  have hP : ∀ k, f (itR f k x) = itR f k x ∨ k + 1 ≤ pop (itR f k x) := by
    intro k
    induction k with
    | zero => exact .inr (pop_pos he h0)
    | succ k ih =>
      by_cases e : f (itR f k x) = itR f k x
      · left
        show f (f (itR f k x)) = f (itR f k x)
        rw [e, e]
      · right
        rcases ih with ih | ih
        · exact absurd ih e
        · obtain ⟨a1, a2, a3, a4⟩ := hI k
          obtain ⟨b1, b2, b3, b4, b5⟩ := hf _ a1 a2
          have := pop_lt a1 b1 b3 (fun h => e h.symm)
          show k + 1 + 1 ≤ pop (f (itR f k x))
          omega
  have hfix : f (itR f 16 x) = itR f 16 x := by
    rcases hP 16 with h | h
    · exact h
    · have := pop_le (itR f 16 x)
      omega
  rw [itN_R]
  obtain ⟨a1, a2, a3, a4⟩ := hI 16
  refine ⟨a1, a2, a3, fun c e hc he2 h1 h2 h3 => ?_, a4⟩
  have := (hf _ a1 a2).2.2.2.2 c e hc he2 h1 h2 h3
  rw [hfix] at this
  exact this
theorem fl_eq {W : Nat} {f g : Nat → Nat} (hf : gd W f) (hg : gd W g) {x : Nat} (hx : x < 65536) (hs : sb x W) {e0 : Nat} (he : e0 < 16) (h0 : x.testBit e0 = true) : itN f 16 x = itN g 16 x := by
  obtain ⟨-, -, a3, a4, a5⟩ := fl_all hf hx hs he h0
  obtain ⟨-, -, b3, b4, b5⟩ := fl_all hg hx hs he h0
  apply Nat.eq_of_testBit_eq
  intro i
  rw [Bool.eq_iff_iff]
  exact ⟨a5 _ b4 b3 i, b5 _ a4 a3 i⟩
/-- the class's step -/
def stC (W x : Nat) : Nat := (x ||| (((((x &&& 4294932343) * 2 ^ 1) ||| ((x &&& 4294962926) / 2 ^ 1)) ||| (x * 2 ^ 4)) ||| (x / 2 ^ 4))) &&& W
theorem m1_tb : ∀ i, i < 16 → (4294932343 : Nat).testBit i = !(i % 4 == 3) := by decide +kernel
theorem m2_tb : ∀ i, i < 16 → (4294962926 : Nat).testBit i = !(i % 4 == 0) := by decide +kernel
theorem tb_mul (x n j : Nat) : (x * 2 ^ n).testBit j = (decide (n ≤ j) && x.testBit (j - n)) := by
  rw [← Nat.shiftLeft_eq, Nat.testBit_shiftLeft]
theorem stC_tb (W x i : Nat) : (stC W x).testBit i = ((x.testBit i || ((((decide (1 ≤ i) && (x &&& 4294932343).testBit (i - 1)) || (x &&& 4294962926).testBit (i + 1)) || (decide (4 ≤ i) && x.testBit (i - 4))) || x.testBit (i + 4))) && W.testBit i) := by
  rw [stC, Nat.testBit_and, Nat.testBit_or, Nat.testBit_or, Nat.testBit_or, Nat.testBit_or, tb_mul, tb_mul, Nat.testBit_div_two_pow, Nat.testBit_div_two_pow]
theorem gd_C {W : Nat} (hW : W < 65536) : gd W (stC W) := by
  intro x hx hs
  have hlt : ∀ i, x.testBit i = true → i < 16 := by
    intro i h
    by_cases hi : i < 16
    · exact hi
    · rw [tb_16 hx (by omega)] at h
      exact absurd h (by decide)
  refine ⟨Nat.lt_of_le_of_lt Nat.and_le_right hW, fun i h => ?_, fun i h => ?_, fun K hK hxK i h => ?_, fun c e hc he h1 h2 h3 => ?_⟩
  · rw [stC_tb, Bool.and_eq_true] at h
    exact h.2
  · rw [stC_tb, h, Bool.true_or, Bool.true_and]
    exact hs i h
  · rw [stC_tb, Bool.and_eq_true] at h
    obtain ⟨h, hw⟩ := h
    have hi : i < 16 := by
      by_cases hi : i < 16
      · exact hi
      · rw [tb_16 hW (by omega)] at hw
        exact absurd hw (by decide)
    rw [Bool.or_eq_true, Bool.or_eq_true, Bool.or_eq_true, Bool.or_eq_true, Bool.and_eq_true, Bool.and_eq_true, decide_eq_true_iff, decide_eq_true_iff, Nat.testBit_and, Nat.testBit_and, Bool.and_eq_true, Bool.and_eq_true] at h
    rcases h with h | ((⟨h1, h2, h3⟩ | ⟨h2, h3⟩) | ⟨h1, h2⟩) | h2
    · exact hxK i h
    · rw [m1_tb _ (by omega), Bool.not_eq_true', beq_eq_false_iff_ne] at h3
      have e := aj_l (i - 1) (by omega) h3
      rw [show i - 1 + 1 = i by omega] at e
      exact hK i (i - 1) hi (by omega) hw (hxK _ h2) e
    · have h4 := hlt _ h2
      rw [m2_tb _ h4, Bool.not_eq_true', beq_eq_false_iff_ne] at h3
      have e := aj_r (i + 1) h4 (by omega) h3
      exact hK i (i + 1) hi h4 hw (hxK _ h2) e
    · have e := (aj_u (i - 4) (by omega)).1
      rw [show i - 4 + 4 = i by omega] at e
      exact hK i (i - 4) hi (by omega) hw (hxK _ h2) e
    · have h4 := hlt _ h2
      exact hK i (i + 4) hi h4 hw (hxK _ h2) (aj_u i (by omega)).2
  · rw [stC_tb, h1, Bool.and_true]
    rcases aj_to c hc e he h3 with ⟨h4, h5⟩ | ⟨h4, h5⟩ | h4 | h4
    · have e1 : (x &&& 4294932343).testBit (c - 1) = true := by
        rw [show c - 1 = e by omega, Nat.testBit_and, h2, m1_tb e he, beq_eq_false_iff_ne.mpr h5]
        rfl
      rw [e1, decide_eq_true (show 1 ≤ c by omega)]
      simp
    · have e1 : (x &&& 4294962926).testBit (c + 1) = true := by
        rw [← h4, Nat.testBit_and, h2, m2_tb e he, beq_eq_false_iff_ne.mpr h5]
        rfl
      rw [e1]
      simp
    · rw [show c - 4 = e by omega, h2, decide_eq_true (show 4 ≤ c by omega)]
      simp
    · rw [← h4, h2]
      simp
/-- the reference's step -/
def inL (c : Nat) : Nat → Nat → Nat → Nat
  | 0, _, x => x
  | m + 1, i, x => inL c m (i + 1) (if x.testBit i = true then (if aj c i = true then x ||| 2 ^ c else x) else x)
def swp (W : Nat) : Nat → Nat → Nat → Nat
  | 0, _, x => x
  | m + 1, c, x => swp W m (c + 1) (if W.testBit c = true then inL c 16 0 x else x)
theorem inL_p {W c : Nat} (hc : c < 16) (hw : W.testBit c = true) : ∀ m i x, i + m ≤ 16 → x < 65536 → sb x W → inL c m i x < 65536 ∧ sb (inL c m i x) W ∧ sb x (inL c m i x) ∧ (∀ K, cl W K → sb x K → sb (inL c m i x) K) ∧ (∀ e, i ≤ e → e < i + m → x.testBit e = true → aj c e = true → (inL c m i x).testBit c = true) := by
  intro m
  induction m with
  | zero =>
    intro i x hi hx hs
    exact ⟨hx, hs, sb_refl x, fun K _ h => h, fun e h1 h2 => absurd h1 (by omega)⟩
  | succ m ih =>
    intro i x hi hx hs
    rw [inL]
    by_cases h1 : x.testBit i = true
    · rw [if_pos h1]
      by_cases h2 : aj c i = true
      · rw [if_pos h2]
        have hx2 : x ||| 2 ^ c < 65536 := by
          have : (2 : Nat) ^ c < 2 ^ 16 := Nat.pow_lt_pow_right (by omega) hc
          exact Nat.or_lt_two_pow (n := 16) hx this
        have hsx : sb x (x ||| 2 ^ c) := fun j h => by rw [tb_or, h, Bool.true_or]
        obtain ⟨a1, a2, a3, a4, a5⟩ := ih (i + 1) (x ||| 2 ^ c) (by omega) hx2 (fun j h => by
          rw [tb_or, Bool.or_eq_true, decide_eq_true_iff] at h
          rcases h with h | h
          · exact hs j h
          · rw [← h]; exact hw)
        refine ⟨a1, a2, fun j h => a3 j (hsx j h), fun K hK hxK => a4 K hK (fun j h => ?_), fun e _ _ _ _ => a3 c (by rw [tb_or, decide_eq_true rfl, Bool.or_true])⟩
        rw [tb_or, Bool.or_eq_true, decide_eq_true_iff] at h
        rcases h with h | h
        · exact hxK j h
        · rw [← h]
          exact hK c i hc (by omega) hw (hxK i h1) h2
      · rw [if_neg h2]
        obtain ⟨a1, a2, a3, a4, a5⟩ := ih (i + 1) x (by omega) hx hs
        refine ⟨a1, a2, a3, a4, fun e h3 h4 h5 h6 => ?_⟩
        by_cases e1 : e = i
        · rw [e1] at h6
          exact absurd h6 h2
        · exact a5 e (by omega) (by omega) h5 h6
    · rw [if_neg h1]
      obtain ⟨a1, a2, a3, a4, a5⟩ := ih (i + 1) x (by omega) hx hs
      refine ⟨a1, a2, a3, a4, fun e h3 h4 h5 h6 => ?_⟩
      by_cases e1 : e = i
      · rw [e1] at h5
        exact absurd h5 h1
      · exact a5 e (by omega) (by omega) h5 h6
theorem swp_p {W : Nat} : ∀ m c x, c + m ≤ 16 → x < 65536 → sb x W → swp W m c x < 65536 ∧ sb (swp W m c x) W ∧ sb x (swp W m c x) ∧ (∀ K, cl W K → sb x K → sb (swp W m c x) K) ∧ (∀ c' e, c ≤ c' → c' < c + m → e < 16 → W.testBit c' = true → x.testBit e = true → aj c' e = true → (swp W m c x).testBit c' = true) := by
  intro m
  induction m with
  | zero =>
    intro c x hi hx hs
    exact ⟨hx, hs, sb_refl x, fun K _ h => h, fun c' e h1 h2 => absurd h1 (by omega)⟩
  | succ m ih =>
    intro c x hi hx hs
    rw [swp]
    by_cases hw : W.testBit c = true
    · rw [if_pos hw]
      obtain ⟨b1, b2, b3, b4, b5⟩ := inL_p (by omega) hw 16 0 x (by omega) hx hs
      obtain ⟨a1, a2, a3, a4, a5⟩ := ih (c + 1) (inL c 16 0 x) (by omega) b1 b2
      refine ⟨a1, a2, fun j h => a3 j (b3 j h), fun K hK h => a4 K hK (b4 K hK h), fun c' e h1 h2 h3 h4 h5 h6 => ?_⟩
      by_cases e1 : c' = c
      · subst e1
        exact a3 _ (b5 e (by omega) (by omega) h5 h6)
      · exact a5 c' e (by omega) (by omega) h3 h4 (b3 e h5) h6
    · rw [if_neg hw]
      obtain ⟨a1, a2, a3, a4, a5⟩ := ih (c + 1) x (by omega) hx hs
      refine ⟨a1, a2, a3, a4, fun c' e h1 h2 h3 h4 h5 h6 => ?_⟩
      by_cases e1 : c' = c
      · rw [e1] at h4
        exact absurd h4 hw
      · exact a5 c' e (by omega) (by omega) h3 h4 h5 h6
theorem gd_R (W : Nat) : gd W (swp W 16 0) := by
  intro x hx hs
  obtain ⟨a1, a2, a3, a4, a5⟩ := swp_p (W := W) 16 0 x (by omega) hx hs
  exact ⟨a1, a2, a3, a4, fun c e hc he h1 h2 h3 => a5 c e (by omega) (by omega) he h1 h2 h3⟩

/-! sights, oldest -/
def hvU (dp fd : Nat → Nat) (p d : Nat) : Nat → Bool
  | 0 => false
  | i + 1 => hvU dp fd p d i || hv dp fd (16 * p + i) d
def shU (dp fd : Nat → Nat) (p d : Nat) : Nat → Bool
  | 0 => false
  | i + 1 => shU dp fd p d i || bhn dp fd (16 * p + i) 0 == d
def mkv (s a : Bool) : Nat := if s = true then 3 else if a = true then 1 else 0
theorem anyN_snoc (f : Nat → Nat) (d : Nat) : ∀ m i, anyN f d (m + 1) i = (anyN f d m i || f (i + m) == d) := by
  intro m
  induction m with
  | zero =>
    intro i
    simp [anyN]
  | succ m ih =>
    intro i
    rw [anyN, ih (i + 1), anyN, Bool.or_assoc, show i + 1 + m = i + (m + 1) by omega]
theorem p_mark2 {np hd : Nat} {W H : Nat → Nat} {G : GC} {row : Nat → Int32} {dp fd : Nat → Nat} {dy : Nat} (h : PzG np hd W H G row dp fd dy) (h30 : hd ≤ 30) {p i : Nat} {k13 : (Nat → Int32) → Int32 → Int32 → Option (Nat → Int32)} (hp : p < 5) (hi : i < 16) : ∀ (m k q : Nat) (v : Nat → Int32), k + m = dp (16 * p + i) → m < q → (∀ d, 1 ≤ d → d ≤ 200 → v d = nI (mkv (shU dp fd p d i || (decide (0 < k) && bhn dp fd (16 * p + i) 0 == d)) (hvU dp fd p d i || anyN (bhn dp fd (16 * p + i)) d k 0))) → ∃ v', (∀ d, 1 ≤ d → d ≤ 200 → v' d = nI (mkv (shU dp fd p d (i + 1)) (hvU dp fd p d (i + 1)))) ∧ f_X1_markFilms_b27 G.2.2.2.2.2.1 G.2.2.2.2.2.2.1 k13 q v (nI p) (nI (16 * p + i)) (nI k) = k13 v' (nI p) (nI (16 * p + (i + 1))) := by
  have hle := h.le (c := 16 * p + i) (by omega)
  intro m
  induction m with
  | zero =>
    intro k q v hk hq hv1
    obtain ⟨q, rfl⟩ : ∃ r, q = r + 1 := ⟨q - 1, by omega⟩
    refine ⟨v, fun d h1 h2 => ?_, ?_⟩
    · rw [hv1 d h1 h2, shU, hvU, show k = dp (16 * p + i) by omega]
      have e : (decide (0 < dp (16 * p + i)) && bhn dp fd (16 * p + i) 0 == d) = (bhn dp fd (16 * p + i) 0 == d) := by
        by_cases h0 : 0 < dp (16 * p + i)
        · simp [h0]
        · have : bhn dp fd (16 * p + i) 0 = 0 := by rw [bhn, if_neg h0]
          rw [this]
          have : (0 == d) = false := beq_eq_false_iff_ne.mpr (by omega)
          simp [h0, this]
      rw [e]
      rfl
    · rw [f_X1_markFilms_b27, pu_ck (by omega) (by omega), nI_clamp (by omega), h.dep (by omega), if_pos (nI_le (by omega) (by omega)), nI_1, Nat.add_assoc]
  | succ m ih =>
    intro k q v hk hq hv1
    obtain ⟨q, rfl⟩ : ∃ r, q = r + 1 := ⟨q - 1, by omega⟩
    have hb := bhn_le h (c := 16 * p + i) (by omega) k
    have hb1 := (bhn_pos h (c := 16 * p + i) (j := k) (by omega) (by omega)).1
    rw [f_X1_markFilms_b27, pu_ck (by omega) (by omega), nI_clamp (by omega), h.dep (by omega), if_neg (nI_ge (by omega) (by omega)), p_behindG h h30 (by omega) (by omega), Option.bind_some, pu_ck (by omega) (by omega), nI_clamp (by omega), f_X1_markFilms_b61, f_X1_markFilms_b61, pu_ck (by omega) (by omega), pu_ck (by omega) (by omega), nI_clamp (by omega), nI_1]
    have hstep : ∀ z : Nat, (z = if k = 0 then 3 else 1) → ∃ v', (∀ d, 1 ≤ d → d ≤ 200 → v' d = nI (mkv (shU dp fd p d (i + 1)) (hvU dp fd p d (i + 1)))) ∧ f_X1_markFilms_b27 G.2.2.2.2.2.1 G.2.2.2.2.2.2.1 k13 q (upd v (bhn dp fd (16 * p + i) k) (v (bhn dp fd (16 * p + i) k) ||| nI z)) (nI p) (nI (16 * p + i)) (nI (k + 1)) = k13 v' (nI p) (nI (16 * p + (i + 1))) := by
      intro z hz
      refine ih (k + 1) q _ (by omega) (by omega) (fun d h1 h2 => ?_)
      rw [anyN_snoc, Nat.zero_add, upd]
      by_cases e : d = bhn dp fd (16 * p + i) k
      · rw [if_pos e, hv1 _ hb1 hb, pz_or, ← e]
        rw [show (d == d) = true from beq_self_eq_true d, Bool.or_true, Bool.or_true]
        by_cases h0 : k = 0
        · subst h0
          rw [if_pos rfl] at hz
          rw [hz, show (bhn dp fd (16 * p + i) 0 == d) = true from beq_iff_eq.mpr e.symm]
          cases shU dp fd p d i <;> cases hvU dp fd p d i <;> cases anyN (bhn dp fd (16 * p + i)) d 0 0 <;> rfl
        · rw [if_neg h0] at hz
          rw [hz]
          have h3 : (decide (0 < k + 1) && bhn dp fd (16 * p + i) 0 == d) = (decide (0 < k) && bhn dp fd (16 * p + i) 0 == d) := by
            have : 0 < k := by omega
            simp [this]
          rw [h3]
          cases (shU dp fd p d i || (decide (0 < k) && bhn dp fd (16 * p + i) 0 == d)) <;> cases (hvU dp fd p d i || anyN (bhn dp fd (16 * p + i)) d k 0) <;> rfl
      · rw [if_neg e, hv1 d h1 h2]
        have e1 : (bhn dp fd (16 * p + i) k == d) = false := beq_eq_false_iff_ne.mpr (fun e2 => e e2.symm)
        rw [e1, Bool.or_false]
        have h3 : (decide (0 < k + 1) && bhn dp fd (16 * p + i) 0 == d) = (decide (0 < k) && bhn dp fd (16 * p + i) 0 == d) := by
          by_cases h0 : k = 0
          · subst h0
            rw [e1]
            rfl
          · have : 0 < k := by omega
            simp [this]
        rw [h3]
    by_cases h0 : k = 0
    · rw [if_pos (by rw [h0]; rfl)]
      exact hstep 3 (by rw [if_pos h0])
    · rw [if_neg (nI_ne0 (by omega) (by omega))]
      exact hstep 1 (by rw [if_neg h0])
theorem p_mark1 {np hd : Nat} {W H : Nat → Nat} {G : GC} {row : Nat → Int32} {dp fd : Nat → Nat} {dy : Nat} (h : PzG np hd W H G row dp fd dy) (h30 : hd ≤ 30) {p : Nat} (hp : p < 5) : ∀ (m i q : Nat) (v : Nat → Int32), i + m = 16 → m < q → (∀ d, 1 ≤ d → d ≤ 200 → v d = nI (mkv (shU dp fd p d i) (hvU dp fd p d i))) → ∃ v', (∀ d, 1 ≤ d → d ≤ 200 → v' d = nI (mkv (shU dp fd p d 16) (hvU dp fd p d 16))) ∧ f_X1_markFilms_b13 G.2.2.2.2.2.1 G.2.2.2.2.2.2.1 q v (nI p) (nI (16 * p + i)) = some v' := by
  intro m
  induction m with
  | zero =>
    intro i q v hi hq hv1
    obtain ⟨q, rfl⟩ : ∃ r, q = r + 1 := ⟨q - 1, by omega⟩
    refine ⟨v, fun d h1 h2 => ?_, ?_⟩
    · rw [hv1 d h1 h2, show i = 16 by omega]
    · rw [f_X1_markFilms_b13, pl16, pk_mul, nI_add, if_pos (nI_le (by omega) (by omega))]
  | succ m ih =>
    intro i q v hi hq hv1
    obtain ⟨q, rfl⟩ : ∃ r, q = r + 1 := ⟨q - 1, by omega⟩
    have hle := h.le (c := 16 * p + i) (by omega)
    rw [f_X1_markFilms_b13, pl16, pk_mul, nI_add, if_neg (nI_ge (by omega) (by omega)), pl0]
    obtain ⟨v', h1, h2⟩ := p_mark2 h h30 (k13 := f_X1_markFilms_b13 G.2.2.2.2.2.1 G.2.2.2.2.2.2.1 q) hp (show i < 16 by omega) (dp (16 * p + i)) 0 4000 v (by omega) (by omega) (fun d h1 h2 => by
      rw [hv1 d h1 h2]
      simp [anyN])
    rw [h2]
    exact ih (i + 1) q v' (by omega) (by omega) h1
theorem p_marks {np hd : Nat} {W H : Nat → Nat} {G : GC} {row : Nat → Int32} {dp fd : Nat → Nat} {dy : Nat} (h : PzG np hd W H G row dp fd dy) (h30 : hd ≤ 30) {p : Nat} (hp : p < 5) (v : Nat → Int32) : ∃ v', (∀ d, 1 ≤ d → d ≤ 200 → v' d = nI (mkv (shU dp fd p d 16) (hvU dp fd p d 16))) ∧ f_X1_markFilms v G.2.2.2.2.2.1 G.2.2.2.2.2.2.1 (nI p) = some v' := by
  obtain ⟨v', h1, h2⟩ := p_mark1 h h30 hp 16 0 4000 (fillF v 0 0 201) (by omega) (by omega) (fun d h1 h2 => by
    rw [fillF, if_pos (by omega)]
    rfl)
  refine ⟨v', h1, ?_⟩
  rw [f_X1_markFilms, p_fill (by omega), Option.bind_some, pl16, pk_mul]
  exact h2
theorem p_days_b {de fi : Nat → Int32} {g : Nat → Bool × Bool} {v : Nat → Int32} (hv1 : ∀ d, 1 ≤ d → d ≤ 200 → v d = nI (mkv (g d).1 (g d).2)) : ∀ (m i q acc : Nat), i + m = 201 → 1 ≤ i → m < q → f_X1_countDaysShown_b11 fi de q v (nI acc) (nI i) = some (nI (acc + sF (fun d => (g d).1.toNat) m i), v) := by
  intro m
  induction m with
  | zero =>
    intro i q acc hi h1 hq
    obtain ⟨q, rfl⟩ : ∃ r, q = r + 1 := ⟨q - 1, by omega⟩
    rw [f_X1_countDaysShown_b11, pl200, if_pos (nI_lt (by omega) (by omega)), sF, Nat.add_zero]
  | succ m ih =>
    intro i q acc hi h1 hq
    obtain ⟨q, rfl⟩ : ∃ r, q = r + 1 := ⟨q - 1, by omega⟩
    have e : nI (mkv (g i).1 (g i).2) >>> ((1 : Int32) &&& 31) = nI (g i).1.toNat := by
      cases (g i).1 <;> cases (g i).2 <;> rfl
    rw [f_X1_countDaysShown_b11, pl200, if_neg (nI_nlt (by omega) (by omega)), pu_ck (by omega) (by omega), nI_clamp (by omega), hv1 i h1 (by omega), e, nI_add, nI_1, ih (i + 1) q _ (by omega) (by omega) (by omega), sF, Nat.add_assoc]
/-- a day that no cell ahead of c shows -/
def newS (dp fd : Nat → Nat) (p c : Nat) : Bool := decide (0 < bhn dp fd (16 * p + c) 0) && !(shU dp fd p (bhn dp fd (16 * p + c) 0) c)
theorem sF_add (f g : Nat → Nat) : ∀ m i, sF (fun d => f d + g d) m i = sF f m i + sF g m i := by
  intro m
  induction m with
  | zero =>
    intro i
    rfl
  | succ m ih =>
    intro i
    rw [sF, sF, sF, ih]
    omega
theorem sF_one (e x : Nat) : ∀ m i, sF (fun d => if d = e then x else 0) m i = if i ≤ e ∧ e < i + m then x else 0 := by
  intro m
  induction m with
  | zero =>
    intro i
    rw [sF, if_neg (by omega)]
  | succ m ih =>
    intro i
    rw [sF, ih]
    by_cases h : i = e
    · subst h
      rw [if_pos rfl, if_neg (by omega), if_pos (by omega)]
      rfl
    · rw [if_neg h, Nat.zero_add]
      by_cases h2 : i + 1 ≤ e ∧ e < i + 1 + m
      · rw [if_pos h2, if_pos (by omega)]
      · rw [if_neg h2, if_neg (by omega)]
theorem sF_ext (f g : Nat → Nat) : ∀ m i, (∀ j, i ≤ j → j < i + m → f j = g j) → sF f m i = sF g m i := by
  intro m
  induction m with
  | zero =>
    intro i h
    rfl
  | succ m ih =>
    intro i h
    rw [sF, sF, h i (by omega) (by omega), ih (i + 1) (fun j h1 h2 => h j (by omega) (by omega))]
theorem sights_eq {dp fd : Nat → Nat} {p : Nat} (hb : ∀ c, c < 16 → bhn dp fd (16 * p + c) 0 ≤ 200) : ∀ n, n ≤ 16 → sF (fun d => (shU dp fd p d n).toNat) 200 1 = sF (fun c => (newS dp fd p c).toNat) n 0 := by
  intro n
  induction n with
  | zero =>
    intro _
    exact sF_zero _ 200 1 (fun j _ _ => rfl)
  | succ n ih =>
    intro hn
    have e1 : sF (fun d => (shU dp fd p d (n + 1)).toNat) 200 1 = sF (fun d => (shU dp fd p d n).toNat + (if d = bhn dp fd (16 * p + n) 0 then (!(shU dp fd p (bhn dp fd (16 * p + n) 0) n)).toNat else 0)) 200 1 := by
      apply sF_ext
      intro d h1 h2
      show (shU dp fd p d (n + 1)).toNat = _
      rw [shU]
      by_cases e : d = bhn dp fd (16 * p + n) 0
      · rw [if_pos e, ← e, beq_iff_eq.mpr rfl]
        cases shU dp fd p d n <;> rfl
      · rw [if_neg e, beq_eq_false_iff_ne.mpr (fun e2 => e e2.symm), Bool.or_false, Nat.add_zero]
    have hbn := hb n (by omega)
    have e2 : (if 1 ≤ bhn dp fd (16 * p + n) 0 ∧ bhn dp fd (16 * p + n) 0 < 1 + 200 then (!(shU dp fd p (bhn dp fd (16 * p + n) 0) n)).toNat else 0) = sF (fun c => (newS dp fd p c).toNat) 1 (0 + n) := by
      rw [sF, sF, Nat.zero_add, Nat.add_zero, newS]
      by_cases h0 : 0 < bhn dp fd (16 * p + n) 0
      · rw [if_pos (by omega)]
        simp [h0]
      · rw [if_neg (by omega)]
        simp [h0]
    rw [e1, sF_add, ih (by omega), sF_one, sF_split (fun c => (newS dp fd p c).toNat) n 1 0, e2]
theorem r_sights2 {np hd : Nat} {W H : Nat → Nat} {G : GC} {row : Nat → Int32} {dp fd : Nat → Nat} {dy : Nat} (h : PzG np hd W H G row dp fd dy) (h30 : hd ≤ 30) {p c own : Nat} {k4 : Int32 → Int32 → Int32 → Option Int32} {acc : Nat} (hp : p < 5) (hc : c < 16) (ho : own ≤ 200) (b : Bool) : ∀ (m i q : Nat) (t : Bool), i + m = c → m < q → t = (b && !(shU dp fd p own i)) → f_X11_sightsOf_b38 2685 row k4 q (nI p) (nI acc) (nI c) (nI own) (if t = true then 1 else 0) (nI i) = k4 (nI p) (nI (acc + (b && !(shU dp fd p own c)).toNat)) (nI (c + 1)) := by
  intro m
  induction m with
  | zero =>
    intro i q t hi hq ht
    obtain ⟨q, rfl⟩ : ∃ r, q = r + 1 := ⟨q - 1, by omega⟩
    rw [f_X11_sightsOf_b38, if_pos (nI_le (by omega) (by omega)), f_X11_sightsOf_b90, f_X11_sightsOf_b90, nI_1, pl0, nI_add, pl1, nI_add, show i = c by omega] at *
    rw [← ht]
    cases t
    · rfl
    · rfl
  | succ m ih =>
    intro i q t hi hq ht
    obtain ⟨q, rfl⟩ : ∃ r, q = r + 1 := ⟨q - 1, by omega⟩
    have hle := bhn_le h (c := 16 * p + i) (by omega) 0
    rw [f_X11_sightsOf_b38, if_neg (nI_ge (by omega) (by omega)), f_X11_sightsOf_b70, f_X11_sightsOf_b71, f_X11_sightsOf_b71, nI_1]
    cases t with
    | false =>
      rw [if_neg (show ¬ (false = true) by decide), if_pos rfl]
      exact ih (i + 1) q false (by omega) (by omega) (by
        rw [shU]
        cases b
        · rfl
        · cases e : shU dp fd p own i
          · rw [e] at ht
            cases ht
          · rfl)
    | true =>
      rw [if_pos rfl, if_neg (by decide), pl16, pk_mul, nI_add, pl0, r_filmG h h30 (by omega) (by omega), Option.bind_some]
      have hb : b = true := by
        cases b
        · cases ht
        · rfl
      have hs : shU dp fd p own i = false := by
        rw [hb] at ht
        cases e : shU dp fd p own i
        · rfl
        · rw [e] at ht
          cases ht
      by_cases e : bhn dp fd (16 * p + i) 0 = own
      · rw [if_pos (by rw [e])]
        exact ih (i + 1) q false (by omega) (by omega) (by
          rw [shU, beq_iff_eq.mpr e, Bool.or_true]
          cases b <;> rfl)
      · rw [if_neg (by rw [nI_eq (by omega) (by omega)]; exact e)]
        exact ih (i + 1) q true (by omega) (by omega) (by
          rw [shU, beq_eq_false_iff_ne.mpr e, hs, hb]
          rfl)
theorem r_sights1 {np hd : Nat} {W H : Nat → Nat} {G : GC} {row : Nat → Int32} {dp fd : Nat → Nat} {dy : Nat} (h : PzG np hd W H G row dp fd dy) (h30 : hd ≤ 30) {p : Nat} (hp : p < 5) : ∀ (m i q acc : Nat), i + m = 16 → m < q → f_X11_sightsOf_b4 2685 row q (nI p) (nI acc) (nI i) = some (nI (acc + sF (fun c => (newS dp fd p c).toNat) m i)) := by
  intro m
  induction m with
  | zero =>
    intro i q acc hi hq
    obtain ⟨q, rfl⟩ : ∃ r, q = r + 1 := ⟨q - 1, by omega⟩
    rw [f_X11_sightsOf_b4, pl16, if_pos (nI_le (by omega) (by omega)), sF, Nat.add_zero]
  | succ m ih =>
    intro i q acc hi hq
    obtain ⟨q, rfl⟩ : ∃ r, q = r + 1 := ⟨q - 1, by omega⟩
    have hle := bhn_le h (c := 16 * p + i) (by omega) 0
    have e := r_sights2 h h30 (k4 := f_X11_sightsOf_b4 2685 row q) (acc := acc) (c := i) hp (by omega) hle (decide (0 < bhn dp fd (16 * p + i) 0)) i 0 4000 (decide (0 < bhn dp fd (16 * p + i) 0)) (by omega) (by omega) (by rw [shU]; cases decide (0 < bhn dp fd (16 * p + i) 0) <;> rfl)
    have e2 : f_X11_sightsOf_b4 2685 row (q + 1) (nI p) (nI acc) (nI i) = f_X11_sightsOf_b38 2685 row (f_X11_sightsOf_b4 2685 row q) 4000 (nI p) (nI acc) (nI i) (nI (bhn dp fd (16 * p + i) 0)) (if decide (0 < bhn dp fd (16 * p + i) 0) = true then 1 else 0) (nI 0) := by
      rw [f_X11_sightsOf_b4, pl16, if_neg (nI_ge (by omega) (by omega)), pk_mul, nI_add, pl0, r_filmG h h30 (by omega) (by omega), Option.bind_some, f_X11_sightsOf_b33, f_X11_sightsOf_b33]
      by_cases h0 : 0 < bhn dp fd (16 * p + i) 0
      · rw [if_neg (nI_ge h0 (by omega)), if_pos (by simp [h0])]
        rfl
      · rw [if_pos (nI_le (by omega) (by omega)), if_neg (by simp [h0])]
        rfl
    rw [e2, e, ih (i + 1) q _ (by omega) (by omega), sF, Nat.add_assoc]
    rfl
theorem r_sightsV {np hd : Nat} {W H : Nat → Nat} {G : GC} {row : Nat → Int32} {dp fd : Nat → Nat} {dy : Nat} (h : PzG np hd W H G row dp fd dy) (h30 : hd ≤ 30) {p : Nat} (hp : p < 5) : f_X11_sightsOf 2685 row (nI p) = some (nI (sF (fun c => (newS dp fd p c).toNat) 16 0)) := by
  have e := r_sights1 h h30 hp 16 0 4000 0 (by omega) (by omega)
  rw [Nat.zero_add, ← pl0] at e
  exact e
theorem p_sightsV {np hd : Nat} {W H : Nat → Nat} {G : GC} {row : Nat → Int32} {dp fd : Nat → Nat} {dy : Nat} (h : PzG np hd W H G row dp fd dy) (h30 : hd ≤ 30) {p : Nat} (hp : p < 5) (v : Nat → Int32) : ∃ v', f_X1_countDaysShown v G.2.2.2.2.2.1 G.2.2.2.2.2.2.1 (nI p) = some (nI (sF (fun c => (newS dp fd p c).toNat) 16 0), v') := by
  obtain ⟨v', h1, h2⟩ := p_marks h h30 hp v
  refine ⟨v', ?_⟩
  rw [f_X1_countDaysShown, h2, Option.bind_some]
  have e := p_days_b (de := G.2.2.2.2.2.2.1) (fi := G.2.2.2.2.2.1) (g := fun d => (shU dp fd p d 16, hvU dp fd p d 16)) h1 200 1 4000 0 (by omega) (by omega) (by omega)
  rw [Nat.zero_add, ← pl0, ← pl1] at e
  rw [e]
  have e2 := sights_eq (dp := dp) (fd := fd) (p := p) (fun c hc => bhn_le h (by omega) 0) 16 (by omega)
  show some (nI (sF (fun d => (shU dp fd p d 16).toNat) 200 1), v') = _
  rw [e2]
theorem q_sights {L i : Nat} {C : CS} {R : RS} {cells slots : Nat} (h : PzInv L i C R cells slots) (hi : i + 7 ≤ L) (x1 : Int32) : pS_sights (PzInv L (i + 7)) C R x1 cells slots := by
  have hc := h.2.1
  obtain ⟨np, no, hd, W, H, hS, ⟨dp, fd, dy, hG⟩, -⟩ := hc
  have h30 := hS.2.2.1.2
  rcases pz_pane hS C.v15 x1 with ⟨h1, h2⟩ | ⟨p, hp, hp5, rfl, h1, h2⟩
  · exact ⟨(2, 0, upd C.v15 1 (C.v15 1 + 1), C.g.2.2.1), (0, 1, upd R.v10 1 (R.v10 1 + 1)), by simp -implicitDefEqProofs only [Option.bind_some, pz10, if_true, if_false, eq_self, ↓reduceIte, r_bad0, r_A1, r_A2, r_B1, r_B2, r_B3, r_C1, fC_sights, f_X10_sights, h1]; rfl, by simp -implicitDefEqProofs only [Option.bind_some, pz10, if_true, if_false, eq_self, ↓reduceIte, r_bad0, r_A1, r_A2, r_B1, r_B2, r_B3, r_C1, fR_sights, f_X11_sights, h2, f_X11_sights_b19], .inr rfl, rfl, fun _ => rfl, pz_fit h (by omega) (by omega), h.keep hi (by omega) (by omega) h.1.up⟩
  · obtain ⟨v', e⟩ := p_sightsV hG h30 hp5 C.g.2.2.1
    have e2 := r_sightsV hG h30 hp5
    generalize nI (sF (fun c => (newS dp fd p c).toNat) 16 0) = r at e e2
    exact ⟨(0, r, C.v15, v'), (r, 0, R.v10), by simp -implicitDefEqProofs only [Option.bind_some, pz10, if_true, if_false, eq_self, ↓reduceIte, r_bad0, r_A1, r_A2, r_B1, r_B2, r_B3, r_C1, fC_sights, f_X10_sights, h1, e], by simp -implicitDefEqProofs only [Option.bind_some, pz10, if_true, if_false, eq_self, ↓reduceIte, r_bad0, r_A1, r_A2, r_B1, r_B2, r_B3, r_C1, fR_sights, f_X11_sights, h2, f_X11_sights_b19, e2], .inl rfl, rfl, fun _ => rfl, pz_fit h (by omega) (by omega), h.keep hi (by omega) (by omega) h.1⟩

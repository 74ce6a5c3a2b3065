/-! texts: bytes and tokens -/
/-- where the run of p from i on ends, at most m long -/
def txR (p : Nat → Bool) : Nat → Nat → Nat
  | 0, i => i
  | m + 1, i => if p i = true then txR p m (i + 1) else i
theorem txR_ge (p : Nat → Bool) : ∀ m i, i ≤ txR p m i := by
  intro m
  induction m with
  | zero => exact fun i => Nat.le_refl i
  | succ m ih =>
    intro i
    rw [txR]
    by_cases h : p i = true
    · rw [if_pos h]
      have := ih (i + 1)
      omega
    · rw [if_neg h]
      exact Nat.le_refl i
theorem txR_le (p : Nat → Bool) : ∀ m i, txR p m i ≤ i + m := by
  intro m
  induction m with
  | zero => exact fun i => Nat.le_refl i
  | succ m ih =>
    intro i
    rw [txR]
    by_cases h : p i = true
    · rw [if_pos h]
      have := ih (i + 1)
      omega
    · rw [if_neg h]
      omega
theorem txR_in (p : Nat → Bool) : ∀ m i j, i ≤ j → j < txR p m i → p j = true := by
  intro m
  induction m with
  | zero =>
    intro i j h1 h2
    rw [txR] at h2
    omega
  | succ m ih =>
    intro i j h1 h2
    rw [txR] at h2
    by_cases h : p i = true
    · rw [if_pos h] at h2
      by_cases e : j = i
      · rw [e]
        exact h
      · exact ih (i + 1) j (by omega) h2
    · rw [if_neg h] at h2
      omega
theorem txR_end (p : Nat → Bool) : ∀ m i, txR p m i < i + m → ¬ p (txR p m i) = true := by
  intro m
  induction m with
  | zero =>
    intro i h
    rw [txR] at h
    omega
  | succ m ih =>
    intro i h
    rw [txR] at h ⊢
    by_cases e : p i = true
    · rw [if_pos e] at h ⊢
      exact ih (i + 1) (by omega)
    · rw [if_neg e] at h ⊢
      exact e
def pB (B : Nat → Nat) : Nat → Bool := fun j => decide (B j = 32)
def pD (B : Nat → Nat) : Nat → Bool := fun j => decide (48 ≤ B j ∧ B j ≤ 57)
def pL (B : Nat → Nat) : Nat → Bool := fun j => decide (97 ≤ B j ∧ B j ≤ 122)
def tF (n : Nat) (B : Nat → Nat) (i : Nat) : Nat := txR (pB B) (n - i) i
def tD (n : Nat) (B : Nat → Nat) (i : Nat) : Nat := txR (pD B) (n - i) i
def tW (n : Nat) (B : Nat → Nat) (i : Nat) : Nat := txR (pL B) (n - i) i
/-- digits read: as the class does, as the reference does -/
def txV (B : Nat → Nat) : Nat → Nat → Nat → Nat
  | 0, _, a => a
  | m + 1, i, a => txV B m (i + 1) (if a < 1000000 then 10 * a + (B i - 48) else 1000000)
def txU (B : Nat → Nat) : Nat → Nat → Nat → Nat
  | 0, _, a => a
  | m + 1, i, a => txU B m (i + 1) (if 10 * a + (B i - 48) ≤ 100000 then 10 * a + (B i - 48) else 100000)
def tK (n : Nat) (B : Nat → Nat) (f : Nat) : Nat := if f < tD n B f then 1 else if n ≤ f then 0 else if f < tW n B f then 2 else 3
def tT (n : Nat) (B : Nat → Nat) (f : Nat) : Nat := if f < tD n B f then tD n B f else if n ≤ f then f else if f < tW n B f then tW n B f else f + 1
def tV (n : Nat) (B : Nat → Nat) (f : Nat) : Nat := txV B (tD n B f - f) f 0
theorem tF_ge (n : Nat) (B : Nat → Nat) (i : Nat) : i ≤ tF n B i := txR_ge _ _ _
theorem tF_le {n i : Nat} (B : Nat → Nat) (h : i ≤ n) : tF n B i ≤ n := by
  have := txR_le (pB B) (n - i) i
  rw [tF]
  omega
theorem tF_end {n i : Nat} (B : Nat → Nat) (h : i ≤ n) (h2 : tF n B i < n) : B (tF n B i) ≠ 32 := by
  have := txR_end (pB B) (n - i) i (by rw [tF] at h2; omega)
  intro h3
  apply this
  rw [pB]
  exact decide_eq_true h3
theorem tF_self {n f : Nat} {B : Nat → Nat} (h : f < n → B f ≠ 32) : tF n B f = f := by
  rw [tF]
  by_cases e : f < n
  · rw [show n - f = (n - f - 1) + 1 by omega, txR, if_neg]
    rw [pB]
    intro h2
    exact h e (of_decide_eq_true h2)
  · rw [show n - f = 0 by omega, txR]
theorem tD_ge (n : Nat) (B : Nat → Nat) (i : Nat) : i ≤ tD n B i := txR_ge _ _ _
theorem tD_le {n i : Nat} (B : Nat → Nat) (h : i ≤ n) : tD n B i ≤ n := by
  have := txR_le (pD B) (n - i) i
  rw [tD]
  omega
theorem tD_in {n i j : Nat} {B : Nat → Nat} (h1 : i ≤ j) (h2 : j < tD n B i) : 48 ≤ B j ∧ B j ≤ 57 := by
  have := txR_in (pD B) _ _ j h1 h2
  rw [pD] at this
  exact of_decide_eq_true this
theorem tD_pos {n f : Nat} {B : Nat → Nat} (h : f < n) (hd : 48 ≤ B f ∧ B f ≤ 57) : f < tD n B f := by
  rw [tD, show n - f = (n - f - 1) + 1 by omega, txR, if_pos (by rw [pD]; exact decide_eq_true hd)]
  have := txR_ge (pD B) (n - f - 1) (f + 1)
  omega
theorem tD_self {n f : Nat} {B : Nat → Nat} (h : f < n → ¬ (48 ≤ B f ∧ B f ≤ 57)) : tD n B f = f := by
  rw [tD]
  by_cases e : f < n
  · rw [show n - f = (n - f - 1) + 1 by omega, txR, if_neg]
    rw [pD]
    intro h2
    exact h e (of_decide_eq_true h2)
  · rw [show n - f = 0 by omega, txR]
theorem tW_ge (n : Nat) (B : Nat → Nat) (i : Nat) : i ≤ tW n B i := txR_ge _ _ _
theorem tW_le {n i : Nat} (B : Nat → Nat) (h : i ≤ n) : tW n B i ≤ n := by
  have := txR_le (pL B) (n - i) i
  rw [tW]
  omega
theorem tW_in {n i j : Nat} {B : Nat → Nat} (h1 : i ≤ j) (h2 : j < tW n B i) : 97 ≤ B j ∧ B j ≤ 122 := by
  have := txR_in (pL B) _ _ j h1 h2
  rw [pL] at this
  exact of_decide_eq_true this
theorem tW_pos {n f : Nat} {B : Nat → Nat} (h : f < n) (hd : 97 ≤ B f ∧ B f ≤ 122) : f < tW n B f := by
  rw [tW, show n - f = (n - f - 1) + 1 by omega, txR, if_pos (by rw [pL]; exact decide_eq_true hd)]
  have := txR_ge (pL B) (n - f - 1) (f + 1)
  omega
theorem tW_self {n f : Nat} {B : Nat → Nat} (h : f < n → ¬ (97 ≤ B f ∧ B f ≤ 122)) : tW n B f = f := by
  rw [tW]
  by_cases e : f < n
  · rw [show n - f = (n - f - 1) + 1 by omega, txR, if_neg]
    rw [pL]
    intro h2
    exact h e (of_decide_eq_true h2)
  · rw [show n - f = 0 by omega, txR]
/-- the bytes of a text, class and reference -/
def Tp (n : Nat) (B : Nat → Nat) (v fe : Nat → Int32) : Prop := n ≤ 600 ∧ ∀ i, i < n → B i < 256 ∧ fe i = nI (B i) ∧ v i = (nI (B i)).toInt8.toInt32
theorem sb_lo : ∀ b, b < 128 → (nI b).toInt8.toInt32 = nI b := by decide +kernel
theorem sb_hi : ∀ b, b < 256 → 128 ≤ b → (nI b).toInt8.toInt32 < 0 := by decide +kernel
theorem lt_of_neg {x : Int32} {k : Nat} (h : x < 0) (hk : k < 2 ^ 31) : x < nI k := by
  rw [Int32.lt_iff_toInt_lt] at h ⊢
  rw [nI_toInt hk]
  have : (0 : Int32).toInt = 0 := rfl
  omega
/-- a byte of the class against a number below 128 -/
theorem sb_eq {b k : Nat} (hb : b < 256) (hk : k < 128) : ((nI b).toInt8.toInt32 = nI k) ↔ b = k := by
  by_cases h : b < 128
  · rw [sb_lo b h, nI_eq (by omega) (by omega)]
  · have h1 := sb_hi b hb (by omega)
    constructor
    · intro h2
      rw [h2] at h1
      exact absurd h1 (nI_pos (by omega))
    · intro h2
      omega
theorem sb_in {b lo hi : Nat} (hb : b < 256) (h0 : lo < 128) (h1 : hi < 128) : (¬ (nI b).toInt8.toInt32 < nI lo ∧ ¬ nI hi < (nI b).toInt8.toInt32) ↔ lo ≤ b ∧ b ≤ hi := by
  by_cases h : b < 128
  · rw [sb_lo b h, nI_ltI (by omega) (by omega), nI_ltI (by omega) (by omega)]
    omega
  · have h2 := sb_hi b hb (by omega)
    constructor
    · intro h3
      exact absurd (lt_of_neg h2 (by omega)) h3.1
    · intro h3
      omega
theorem p_blk {n : Nat} {B : Nat → Nat} {v fe : Nat → Int32} (hT : Tp n B v fe) (k t x : Int32) : ∀ (m i q : Nat), i + m = n → m < q → f_X7_step_b16 (nI n) 0 v q k (nI i) t x = f_X7_step_b54 (nI n) 0 v k (nI (txR (pB B) m i)) t x := by
  have hn := hT.1
  intro m
  induction m with
  | zero =>
    intro i q hi hq
    obtain ⟨q, rfl⟩ : ∃ r, q = r + 1 := ⟨q - 1, by omega⟩
    rw [f_X7_step_b16, if_pos (nI_le (by omega) (by omega)), txR]
  | succ m ih =>
    intro i q hi hq
    obtain ⟨q, rfl⟩ : ∃ r, q = r + 1 := ⟨q - 1, by omega⟩
    obtain ⟨b1, b2, b3⟩ := hT.2 i (by omega)
    rw [f_X7_step_b16, if_neg (nI_ge (by omega) (by omega)), pu_ck (by omega) (by omega), nI_clamp (by omega), b3, txR, pl32]
    by_cases e : B i = 32
    · rw [if_pos ((sb_eq b1 (by omega)).2 e), if_pos (show pB B i = true by rw [pB]; exact decide_eq_true e), nI_1]
      exact ih (i + 1) q (by omega) (by omega)
    · rw [if_neg (fun h => e ((sb_eq b1 (by omega)).1 h)), if_neg (by rw [pB]; exact fun h => e (of_decide_eq_true h))]
theorem txV_lt (B : Nat → Nat) : ∀ m i a, a < 10000100 → (∀ j, i ≤ j → j < i + m → B j ≤ 57) → txV B m i a < 10000100 := by
  intro m
  induction m with
  | zero => exact fun i a h _ => h
  | succ m ih =>
    intro i a h hj
    rw [txV]
    apply ih
    · have := hj i (by omega) (by omega)
      by_cases e : a < 1000000
      · rw [if_pos e]
        omega
      · rw [if_neg e]
        omega
    · exact fun j h1 h2 => hj j (by omega) (by omega)
theorem p_dgt {n : Nat} {B : Nat → Nat} {v fe : Nat → Int32} (hT : Tp n B v fe) (k f : Int32) : ∀ (m i q a : Nat), i + m = n → m < q → a < 10000100 → f_X7_step_b67 (nI n) 0 v q k f (nI i) (nI a) = f_X7_step_b157 (nI n) 0 v k f (nI (txR (pD B) m i)) (nI (txV B (txR (pD B) m i - i) i a)) := by
  have hn := hT.1
  intro m
  induction m with
  | zero =>
    intro i q a hi hq ha
    obtain ⟨q, rfl⟩ : ∃ r, q = r + 1 := ⟨q - 1, by omega⟩
    rw [f_X7_step_b67, if_pos (nI_le (by omega) (by omega)), txR, Nat.sub_self, txV]
  | succ m ih =>
    intro i q a hi hq ha
    obtain ⟨q, rfl⟩ : ∃ r, q = r + 1 := ⟨q - 1, by omega⟩
    obtain ⟨b1, b2, b3⟩ := hT.2 i (by omega)
    have hck : ∀ {R : Type} (z : Option R), ck (nI i) 600 z = z := fun z => pu_ck (by omega) (by omega)
    rw [f_X7_step_b67, if_neg (nI_ge (by omega) (by omega)), hck, nI_clamp (by omega), b3, txR]
    have hin := sb_in (b := B i) (lo := 48) (hi := 57) b1 (by omega) (by omega)
    by_cases e : 48 ≤ B i ∧ B i ≤ 57
    · obtain ⟨e1, e2⟩ := hin.2 e
      rw [pl48, pl57, if_neg e1, hck, if_neg e2, if_pos (show pD B i = true by rw [pD]; exact decide_eq_true e)]
      have hg := txR_ge (pD B) m (i + 1)
      rw [show txR (pD B) m (i + 1) - i = (txR (pD B) m (i + 1) - (i + 1)) + 1 by omega, txV, sb_lo _ (by omega), pl1000000]
      by_cases e3 : a < 1000000
      · rw [if_pos (nI_lt e3 (by omega)), hck, if_pos e3, f_X7_step_b141, pl10, pk_mul, nI_add, pk_sub (by omega), nI_1, show 10 * a + B i - 48 = 10 * a + (B i - 48) by omega]
        exact ih (i + 1) q _ (by omega) (by omega) (by omega)
      · rw [if_neg (nI_nlt (by omega) (by omega)), if_neg e3, f_X7_step_b141, nI_1]
        exact ih (i + 1) q _ (by omega) (by omega) (by omega)
    · rw [if_neg (show ¬ pD B i = true by rw [pD]; exact fun h => e (of_decide_eq_true h)), Nat.sub_self, txV, pl48, pl57]
      by_cases e1 : (nI (B i)).toInt8.toInt32 < nI 48
      · rw [if_pos e1]
      · rw [if_neg e1, hck, if_pos]
        by_cases e2 : nI 57 < (nI (B i)).toInt8.toInt32
        · exact e2
        · exact absurd (hin.1 ⟨e1, e2⟩) e
theorem p_ltr {n : Nat} {B : Nat → Nat} {v fe : Nat → Int32} (hT : Tp n B v fe) (k f x : Int32) : ∀ (m i q : Nat), i + m = n → m < q → f_X7_step_b200 (nI n) 0 v q k f (nI i) x = f_X7_step_b252 (nI n) 0 v k f (nI (txR (pL B) m i)) x := by
  have hn := hT.1
  intro m
  induction m with
  | zero =>
    intro i q hi hq
    obtain ⟨q, rfl⟩ : ∃ r, q = r + 1 := ⟨q - 1, by omega⟩
    rw [f_X7_step_b200, if_pos (nI_le (by omega) (by omega)), txR]
  | succ m ih =>
    intro i q hi hq
    obtain ⟨q, rfl⟩ : ∃ r, q = r + 1 := ⟨q - 1, by omega⟩
    obtain ⟨b1, b2, b3⟩ := hT.2 i (by omega)
    have hck : ∀ {R : Type} (z : Option R), ck (nI i) 600 z = z := fun z => pu_ck (by omega) (by omega)
    rw [f_X7_step_b200, if_neg (nI_ge (by omega) (by omega)), hck, nI_clamp (by omega), b3, txR, pl97, pl122]
    have hin := sb_in (b := B i) (lo := 97) (hi := 122) b1 (by omega) (by omega)
    by_cases e : 97 ≤ B i ∧ B i ≤ 122
    · obtain ⟨e1, e2⟩ := hin.2 e
      rw [if_neg e1, hck, if_neg e2, if_pos (show pL B i = true by rw [pL]; exact decide_eq_true e), nI_1]
      exact ih (i + 1) q (by omega) (by omega)
    · rw [if_neg (show ¬ pL B i = true by rw [pL]; exact fun h => e (of_decide_eq_true h))]
      by_cases e1 : (nI (B i)).toInt8.toInt32 < nI 97
      · rw [if_pos e1]
      · rw [if_neg e1, hck, if_pos]
        by_cases e2 : nI 122 < (nI (B i)).toInt8.toInt32
        · exact e2
        · exact absurd (hin.1 ⟨e1, e2⟩) e
/-- the class's next token -/
theorem p_step {n : Nat} {B : Nat → Nat} {v fe : Nat → Int32} (hT : Tp n B v fe) {t : Nat} (ht : t ≤ n) (k f x : Int32) : f_X7_step (nI n) k f (nI t) x 0 v = some (nI (tK n B (tF n B t)), nI (tF n B t), nI (tT n B (tF n B t)), nI (tV n B (tF n B t))) := by
  have hn := hT.1
  have hf := tF_le B ht
  rw [f_X7_step, if_pos rfl, p_blk hT k (nI t) x (n - t) t 4000 (by omega) (by omega)]
  show f_X7_step_b54 (nI n) 0 v k (nI (tF n B t)) (nI t) x = _
  generalize tF n B t = f at hf
  rw [f_X7_step_b54]
  refine (p_dgt hT k (nI f) (n - f) f 4000 0 (by omega) (by omega) (by omega)).trans ?_
  show f_X7_step_b157 (nI n) 0 v k (nI f) (nI (tD n B f)) (nI (tV n B f)) = _
  have hd := tD_ge n B f
  have hd2 := tD_le B hf
  rw [f_X7_step_b157, tK, tT]
  by_cases e : f < tD n B f
  · rw [if_pos (nI_lt e (by omega)), f_X7_step_b179, if_neg (nI_ge e (by omega)), f_X7_step_b196, if_pos e, if_pos e]
    rfl
  · rw [if_neg (nI_nlt (by omega) (by omega)), if_neg e, if_neg e]
    have e2 : tD n B f = f := by omega
    by_cases e3 : n ≤ f
    · rw [if_neg (nI_nlt e3 (by omega)), f_X7_step_b179, if_pos (nI_le (by omega) (by omega)), f_X7_step_b196, if_pos e3, if_pos e3, e2]
      rfl
    · rw [if_pos (nI_lt (by omega) (by omega)), if_neg e3, if_neg e3, e2, p_ltr hT k (nI f) _ (n - f) f 4000 (by omega) (by omega)]
      show f_X7_step_b252 (nI n) 0 v k (nI f) (nI (tW n B f)) (nI (tV n B f)) = _
      have hw := tW_ge n B f
      have hw2 := tW_le B hf
      rw [f_X7_step_b252]
      by_cases e4 : f < tW n B f
      · rw [if_neg (nI_ge e4 (by omega)), if_pos e4, if_pos e4, f_X7_step_b269, nI_1, if_neg (nI_nlt (by omega) (by omega))]
        rfl
      · rw [if_pos (nI_le (by omega) (by omega)), if_neg e4, if_neg e4, f_X7_step_b269, nI_1, if_pos (nI_lt (by omega) (by omega))]
        rfl
